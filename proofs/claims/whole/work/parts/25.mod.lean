theorem gv_in_X6_height_X6 : ∀ w ∈ wsX60, w ∈ wsX6_height := by decide +kernel
theorem gv_in_X6_doubtOf_X6 : ∀ w ∈ wsX60, w ∈ wsX6_doubtOf := by decide +kernel
theorem gv_in_X6_conflicts_X6 : ∀ w ∈ wsX60, w ∈ wsX6_conflicts := by decide +kernel
theorem gv_in_X6_isInConflict_X6 : ∀ w ∈ wsX60, w ∈ wsX6_isInConflict := by decide +kernel
theorem gv_in_X6_release_X6 : ∀ w ∈ wsX60, w ∈ wsX6_release := by decide +kernel
theorem gv_in_X6_trend_X6 : ∀ w ∈ wsX60, w ∈ wsX6_trend := by decide +kernel
set_option maxHeartbeats 4000000 in
set_option maxRecDepth 100000 in
theorem ct_X6_height (l : Launch) (D : va_G) (cI cJ : ClassId) (sz : Nat) (h0 r2 r5 r6 r7 r10 r11 r12 r13 r15 r16 r17 r18 : Nat) (th st pe : Int32) (mo nc bn ln ac : Nat) (sa sb su : Nat → Nat) (sr dd hh : Nat → Int32) (p0 : Int32) (hsa : ∀ j, sa j < 10) (hsb : ∀ j, sb j < 10) (hsu : ∀ j, su j ≤ 1000) (hlb : ∀ k, k < ln → sa k < bn ∧ sb k < bn) (hln : ln ≤ 24) (hbn : bn ≤ 10) : Met l yX6_height wsX6_height ({ frames := 4, cells := 0, slots := 0, locals := 90 }) (va_Pc [.ref h0, .int p0] (gv_B D cI cJ [(h0, .inr (6, [.int th, .int (nI mo), .ref r2, .int st, .int pe, .ref r5, .ref r6, .ref r7, .int (nI nc), .int (nI bn), .ref r10, .ref r11, .ref r12, .ref r13, .int (nI ln), .ref r15, .ref r16, .ref r17, .ref r18, .int (nI ac)])), (r10, .inl (cI, 24, .inl (fun j => nI (sa j)))), (r11, .inl (cI, 24, .inl (fun j => nI (sb j)))), (r12, .inl (cI, 24, .inl sr)), (r13, .inl (cI, 24, .inl (fun j => nI (su j)))), (r15, .inl (cI, 10, .inl dd)), (r16, .inl (cI, 10, .inl hh))] sz)) (va_Qi (fun (r9 : Int32) (u9 : Unit) => ∀ i, i < bn → p0 = nI i → ¬ (gv_itr sa sb su sr ln (bn - 1) (gv_ko dd, gv_hz hh)).1 i = -1 → r9 = (gv_itr sa sb su sr ln (bn - 1) (gv_ko dd, gv_hz hh)).2 i) (fun (u9 : Unit) t9 => gv_W D (va_A [(h0, .inr (6, [.int th, .int (nI mo), .ref r2, .int st, .int pe, .ref r5, .ref r6, .ref r7, .int (nI nc), .int (nI bn), .ref r10, .ref r11, .ref r12, .ref r13, .int (nI ln), .ref r15, .ref r16, .ref r17, .ref r18, .int (nI ac)])), (r10, .inl (cI, 24, .inl (fun j => nI (sa j)))), (r11, .inl (cI, 24, .inl (fun j => nI (sb j)))), (r12, .inl (cI, 24, .inl sr)), (r13, .inl (cI, 24, .inl (fun j => nI (su j)))), (r15, .inl (cI, 10, .inl dd)), (r16, .inl (cI, 10, .inl hh))] sz) [(h0, .inr (6, [.int (gv_02 (vp_in p0 bn) (¬ (gv_itr sa sb su sr ln (bn - 1) (gv_ko dd, gv_hz hh)).1 p0.toNatClampNeg = -1)), .int (nI mo), .ref r2, .int st, .int pe, .ref r5, .ref r6, .ref r7, .int (nI nc), .int (nI bn), .ref r10, .ref r11, .ref r12, .ref r13, .int (nI ln), .ref r15, .ref r16, .ref r17, .ref r18, .int (nI ac)])), (r10, .inl (cI, 24, .inl (fun j => nI (sa j)))), (r11, .inl (cI, 24, .inl (fun j => nI (sb j)))), (r12, .inl (cI, 24, .inl sr)), (r13, .inl (cI, 24, .inl (fun j => nI (su j)))), (r15, .inl (cI, 10, .inl ((gv_itr sa sb su sr ln (bn - 1) (gv_ko dd, gv_hz hh)).1))), (r16, .inl (cI, 10, .inl ((gv_itr sa sb su sr ln (bn - 1) (gv_ko dd, gv_hz hh)).2)))] t9) (va_A [(h0, .inr (6, [.int th, .int (nI mo), .ref r2, .int st, .int pe, .ref r5, .ref r6, .ref r7, .int (nI nc), .int (nI bn), .ref r10, .ref r11, .ref r12, .ref r13, .int (nI ln), .ref r15, .ref r16, .ref r17, .ref r18, .int (nI ac)])), (r10, .inl (cI, 24, .inl (fun j => nI (sa j)))), (r11, .inl (cI, 24, .inl (fun j => nI (sb j)))), (r12, .inl (cI, 24, .inl sr)), (r13, .inl (cI, 24, .inl (fun j => nI (su j)))), (r15, .inl (cI, 10, .inl dd)), (r16, .inl (cI, 10, .inl hh))] sz)) 0 0 (va_A [(h0, .inr (6, [.int th, .int (nI mo), .ref r2, .int st, .int pe, .ref r5, .ref r6, .ref r7, .int (nI nc), .int (nI bn), .ref r10, .ref r11, .ref r12, .ref r13, .int (nI ln), .ref r15, .ref r16, .ref r17, .ref r18, .int (nI ac)])), (r10, .inl (cI, 24, .inl (fun j => nI (sa j)))), (r11, .inl (cI, 24, .inl (fun j => nI (sb j)))), (r12, .inl (cI, 24, .inl sr)), (r13, .inl (cI, 24, .inl (fun j => nI (su j)))), (r15, .inl (cI, 10, .inl dd)), (r16, .inl (cI, 10, .inl hh))] sz) := by
  refine Met.ofW (cc := cX6_height) (maxL := 3) (ret := (some .int)) (by decide) rfl ?_
  intro p e s m args below meth c s₁ B hml hv
  obtain ⟨rfl, hsz, hP, hK, hD0, hG⟩ := hv
  have hx := B.exec
  have hb := B.bytes
  have hr := B.returns
  have hts := atoms_spec (ws := wsX6_height) B.pre
  have hown : s.vm.findClass RX6 = some m.cls := findClass_of_methodNamed B.named
  have hlocks := B.notSynchronized
  subst hsz
  have hD := hD0.self (sz := s.heap.size)
  generalize hAe : va_A [(h0, .inr (6, [.int th, .int (nI mo), .ref r2, .int st, .int pe, .ref r5, .ref r6, .ref r7, .int (nI nc), .int (nI bn), .ref r10, .ref r11, .ref r12, .ref r13, .int (nI ln), .ref r15, .ref r16, .ref r17, .ref r18, .int (nI ac)])), (r10, .inl (cI, 24, .inl (fun j => nI (sa j)))), (r11, .inl (cI, 24, .inl (fun j => nI (sb j)))), (r12, .inl (cI, 24, .inl sr)), (r13, .inl (cI, 24, .inl (fun j => nI (su j)))), (r15, .inl (cI, 10, .inl dd)), (r16, .inl (cI, 10, .inl hh))] s.heap.size = A at hD ⊢
  have hA : ∀ q : Nat, s.heap.size ≤ q → A q := fun q h => by rw [← hAe]; exact Or.inr h
  have hS : va_S A s.heap s.heap [] := va_S.rf
  have hP : va_P D vwCl [(h0, .inr (6, [.int th, .int (nI mo), .ref r2, .int st, .int pe, .ref r5, .ref r6, .ref r7, .int (nI nc), .int (nI bn), .ref r10, .ref r11, .ref r12, .ref r13, .int (nI ln), .ref r15, .ref r16, .ref r17, .ref r18, .int (nI ac)])), (r10, .inl (cI, 24, .inl (fun j => nI (sa j)))), (r11, .inl (cI, 24, .inl (fun j => nI (sb j)))), (r12, .inl (cI, 24, .inl sr)), (r13, .inl (cI, 24, .inl (fun j => nI (su j)))), (r15, .inl (cI, 10, .inl dd)), (r16, .inl (cI, 10, .inl hh))] s.heap := hP
  have hl := lv_entry ([.ref h0, .int p0]) (n := 3) (Nat.le_of_ble_eq_true rfl)
  rw [lg_entry_eq]
  generalize (lg_sl ([.ref h0, .int p0]) ++ List.replicate (3 - (lg_sl ([.ref h0, .int p0])).length) Slot.unset).toArray = ls at hl ⊢
  have hl : lv_has ls 3 [(0, .ref h0), (1, .int p0)] := hl
  refine lv_aload_n hx hb dX6_height_0 rfl (lv_at hl 0 rfl) ?_
  refine lv_iload_n hx hb dX6_height_1 rfl (lv_at hl 1 rfl) ?_
  refine gv_pi (va_runV (As := [.int p0]) (rest := []) ⟨hx, hb, hml, hown, hts⟩ (ct_X6_isBenchmark l D cI cJ s.heap.size h0 r2 r5 r6 r7 r10 r11 r12 r13 r15 r16 r17 r18 th st pe mo nc bn ln ac p0 (by omega)) (cwV 1 hts gX6_height_X6_isBenchmark rfl rfl rfl (by decide +kernel) ⟨Nat.le_of_ble_eq_true rfl, Nat.le_of_ble_eq_true rfl⟩) (gv_pV (wc := [(h0, .inr (6, [.int th, .int (nI mo), .ref r2, .int st, .int pe, .ref r5, .ref r6, .ref r7, .int (nI nc), .int (nI bn), .ref r10, .ref r11, .ref r12, .ref r13, .int (nI ln), .ref r15, .ref r16, .ref r17, .ref r18, .int (nI ac)]))]) hP hK hD hG [0] rfl (by decide) 0 rfl rfl rfl) rfl rfl hl.1 rfl (lv_room (Nat.le_of_ble_eq_true rfl)) dX6_height_2 ⟨Nat.le_of_ble_eq_true rfl, Nat.le_of_ble_eq_true rfl⟩) (fun q1 h1 => ?_)
  refine lv_istore_n (lv' := [(2, .int q1), (0, .ref h0), (1, .int p0)]) hx hb dX6_height_5 rfl hl (by decide) rfl (fun ls hl => ?_)
  refine lv_aload_n hx hb dX6_height_6 rfl (lv_at hl 1 rfl) ?_
  refine gv_mv (wc := [(h0, .inr (6, [.int th, .int (nI mo), .ref r2, .int st, .int pe, .ref r5, .ref r6, .ref r7, .int (nI nc), .int (nI bn), .ref r10, .ref r11, .ref r12, .ref r13, .int (nI ln), .ref r15, .ref r16, .ref r17, .ref r18, .int (nI ac)])), (r10, .inl (cI, 24, .inl (fun j => nI (sa j)))), (r11, .inl (cI, 24, .inl (fun j => nI (sb j)))), (r12, .inl (cI, 24, .inl sr)), (r13, .inl (cI, 24, .inl (fun j => nI (su j)))), (r15, .inl (cI, 10, .inl dd)), (r16, .inl (cI, 10, .inl hh))]) (wr := []) (w2 := (fun u => [(h0, .inr (6, [.int th, .int (nI mo), .ref r2, .int st, .int pe, .ref r5, .ref r6, .ref r7, .int (nI nc), .int (nI bn), .ref r10, .ref r11, .ref r12, .ref r13, .int (nI ln), .ref r15, .ref r16, .ref r17, .ref r18, .int (nI ac)])), (r10, .inl (cI, 24, .inl (fun j => nI (sa j)))), (r11, .inl (cI, 24, .inl (fun j => nI (sb j)))), (r12, .inl (cI, 24, .inl sr)), (r13, .inl (cI, 24, .inl (fun j => nI (su j)))), (r15, .inl (cI, 10, .inl ((gv_itr sa sb su sr ln (bn - 1) (gv_ko dd, gv_hz hh)).1))), (r16, .inl (cI, 10, .inl ((gv_itr sa sb su sr ln (bn - 1) (gv_ko dd, gv_hz hh)).2)))])) (va_runV (As := []) (rest := []) ⟨hx, hb, hml, hown, hts⟩ (ct_X6_findsAll l D cI cJ s.heap.size h0 r2 r5 r6 r7 r10 r11 r12 r13 r15 r16 r17 r18 th st pe mo nc bn ln ac sa sb su sr dd hh hsa hsb hsu hlb hln hbn) (cwV 0 hts gX6_height_X6_findsAll rfl rfl rfl (by decide +kernel) ⟨Nat.le_of_ble_eq_true rfl, Nat.le_of_ble_eq_true rfl⟩) (gv_pV (wc := [(h0, .inr (6, [.int th, .int (nI mo), .ref r2, .int st, .int pe, .ref r5, .ref r6, .ref r7, .int (nI nc), .int (nI bn), .ref r10, .ref r11, .ref r12, .ref r13, .int (nI ln), .ref r15, .ref r16, .ref r17, .ref r18, .int (nI ac)])), (r10, .inl (cI, 24, .inl (fun j => nI (sa j)))), (r11, .inl (cI, 24, .inl (fun j => nI (sb j)))), (r12, .inl (cI, 24, .inl sr)), (r13, .inl (cI, 24, .inl (fun j => nI (su j)))), (r15, .inl (cI, 10, .inl dd)), (r16, .inl (cI, 10, .inl hh))]) hP hK hD hG [0, 1, 2, 3, 4, 5, 6] rfl (by decide) 0 rfl rfl rfl) rfl rfl hl.1 rfl (lv_room (Nat.le_of_ble_eq_true rfl)) dX6_height_7 ⟨Nat.le_of_ble_eq_true rfl, Nat.le_of_ble_eq_true rfl⟩) hP hD hS hA [0, 1, 2, 3, 4, 5, 6] [] [0, 1, 2, 3, 4, 5, 6] rfl rfl (by decide) (by decide) (fun u => rfl) (by decide) (fun u H locs hr_2 hP hD hS => ?_)
  have hP : va_P D vwCl [(h0, .inr (6, [.int th, .int (nI mo), .ref r2, .int st, .int pe, .ref r5, .ref r6, .ref r7, .int (nI nc), .int (nI bn), .ref r10, .ref r11, .ref r12, .ref r13, .int (nI ln), .ref r15, .ref r16, .ref r17, .ref r18, .int (nI ac)])), (r10, .inl (cI, 24, .inl (fun j => nI (sa j)))), (r11, .inl (cI, 24, .inl (fun j => nI (sb j)))), (r12, .inl (cI, 24, .inl sr)), (r13, .inl (cI, 24, .inl (fun j => nI (su j)))), (r15, .inl (cI, 10, .inl ((gv_itr sa sb su sr ln (bn - 1) (gv_ko dd, gv_hz hh)).1))), (r16, .inl (cI, 10, .inl ((gv_itr sa sb su sr ln (bn - 1) (gv_ko dd, gv_hz hh)).2)))] H := hP
  have hD : va_D A [(h0, .inr (6, [.int th, .int (nI mo), .ref r2, .int st, .int pe, .ref r5, .ref r6, .ref r7, .int (nI nc), .int (nI bn), .ref r10, .ref r11, .ref r12, .ref r13, .int (nI ln), .ref r15, .ref r16, .ref r17, .ref r18, .int (nI ac)])), (r10, .inl (cI, 24, .inl (fun j => nI (sa j)))), (r11, .inl (cI, 24, .inl (fun j => nI (sb j)))), (r12, .inl (cI, 24, .inl sr)), (r13, .inl (cI, 24, .inl (fun j => nI (su j)))), (r15, .inl (cI, 10, .inl ((gv_itr sa sb su sr ln (bn - 1) (gv_ko dd, gv_hz hh)).1))), (r16, .inl (cI, 10, .inl ((gv_itr sa sb su sr ln (bn - 1) (gv_ko dd, gv_hz hh)).2)))] := hD
  refine lv_aload_n hx hb dX6_height_10 rfl (lv_at hl 1 rfl) ?_
  refine gv_mg (fun v : Int32 => v = gv_02 (vp_in p0 bn) (¬ (gv_itr sa sb su sr ln (bn - 1) (gv_ko dd, gv_hz hh)).1 p0.toNatClampNeg = -1)) 32 [.ref h0] (fun tv hv_tv => ?_) (fun K_3 => ?_)
  · skip
    subst hv_tv
    refine gv_mi (wc := [(h0, .inr (6, [.int th, .int (nI mo), .ref r2, .int st, .int pe, .ref r5, .ref r6, .ref r7, .int (nI nc), .int (nI bn), .ref r10, .ref r11, .ref r12, .ref r13, .int (nI ln), .ref r15, .ref r16, .ref r17, .ref r18, .int (nI ac)]))]) (wr := [(r10, .inl (cI, 24, .inl (fun j => nI (sa j)))), (r11, .inl (cI, 24, .inl (fun j => nI (sb j)))), (r12, .inl (cI, 24, .inl sr)), (r13, .inl (cI, 24, .inl (fun j => nI (su j)))), (r15, .inl (cI, 10, .inl ((gv_itr sa sb su sr ln (bn - 1) (gv_ko dd, gv_hz hh)).1))), (r16, .inl (cI, 10, .inl ((gv_itr sa sb su sr ln (bn - 1) (gv_ko dd, gv_hz hh)).2)))]) (w2 := (fun u => [(h0, .inr (6, [.int (gv_02 (vp_in p0 bn) (¬ (gv_itr sa sb su sr ln (bn - 1) (gv_ko dd, gv_hz hh)).1 p0.toNatClampNeg = -1)), .int (nI mo), .ref r2, .int st, .int pe, .ref r5, .ref r6, .ref r7, .int (nI nc), .int (nI bn), .ref r10, .ref r11, .ref r12, .ref r13, .int (nI ln), .ref r15, .ref r16, .ref r17, .ref r18, .int (nI ac)])), (r10, .inl (cI, 24, .inl (fun j => nI (sa j)))), (r11, .inl (cI, 24, .inl (fun j => nI (sb j)))), (r12, .inl (cI, 24, .inl sr)), (r13, .inl (cI, 24, .inl (fun j => nI (su j)))), (r15, .inl (cI, 10, .inl ((gv_itr sa sb su sr ln (bn - 1) (gv_ko dd, gv_hz hh)).1))), (r16, .inl (cI, 10, .inl ((gv_itr sa sb su sr ln (bn - 1) (gv_ko dd, gv_hz hh)).2)))])) (va_runV (As := [.int (gv_02 (vp_in p0 bn) (¬ (gv_itr sa sb su sr ln (bn - 1) (gv_ko dd, gv_hz hh)).1 p0.toNatClampNeg = -1))]) (rest := []) ⟨hx, hb, hml, hown, hts⟩ (ct_X6_holds l D cI cJ H.size h0 r2 r5 r6 r7 r10 r11 r12 r13 r15 r16 r17 r18 th st pe mo nc bn ln ac (gv_02 (vp_in p0 bn) (¬ (gv_itr sa sb su sr ln (bn - 1) (gv_ko dd, gv_hz hh)).1 p0.toNatClampNeg = -1))) (cwV 1 hts gX6_height_X6_holds rfl rfl rfl (by decide +kernel) ⟨Nat.le_of_ble_eq_true rfl, Nat.le_of_ble_eq_true rfl⟩) (gv_pV (wc := [(h0, .inr (6, [.int th, .int (nI mo), .ref r2, .int st, .int pe, .ref r5, .ref r6, .ref r7, .int (nI nc), .int (nI bn), .ref r10, .ref r11, .ref r12, .ref r13, .int (nI ln), .ref r15, .ref r16, .ref r17, .ref r18, .int (nI ac)]))]) hP hK hD hG [0] rfl (by decide) 0 rfl rfl rfl) rfl rfl hl.1 rfl (lv_room (Nat.le_of_ble_eq_true rfl)) dX6_height_32 ⟨Nat.le_of_ble_eq_true rfl, Nat.le_of_ble_eq_true rfl⟩) hP hD hS hA [0] [1, 2, 3, 4, 5, 6] [6, 0, 1, 2, 3, 4, 5] rfl rfl (by decide) (by decide) (fun u => rfl) (by decide) (fun rh u H locs hrh hP hD hS => ?_)
    have hP : va_P D vwCl [(h0, .inr (6, [.int (gv_02 (vp_in p0 bn) (¬ (gv_itr sa sb su sr ln (bn - 1) (gv_ko dd, gv_hz hh)).1 p0.toNatClampNeg = -1)), .int (nI mo), .ref r2, .int st, .int pe, .ref r5, .ref r6, .ref r7, .int (nI nc), .int (nI bn), .ref r10, .ref r11, .ref r12, .ref r13, .int (nI ln), .ref r15, .ref r16, .ref r17, .ref r18, .int (nI ac)])), (r10, .inl (cI, 24, .inl (fun j => nI (sa j)))), (r11, .inl (cI, 24, .inl (fun j => nI (sb j)))), (r12, .inl (cI, 24, .inl sr)), (r13, .inl (cI, 24, .inl (fun j => nI (su j)))), (r15, .inl (cI, 10, .inl ((gv_itr sa sb su sr ln (bn - 1) (gv_ko dd, gv_hz hh)).1))), (r16, .inl (cI, 10, .inl ((gv_itr sa sb su sr ln (bn - 1) (gv_ko dd, gv_hz hh)).2)))] H := hP
    have hD : va_D A [(h0, .inr (6, [.int (gv_02 (vp_in p0 bn) (¬ (gv_itr sa sb su sr ln (bn - 1) (gv_ko dd, gv_hz hh)).1 p0.toNatClampNeg = -1)), .int (nI mo), .ref r2, .int st, .int pe, .ref r5, .ref r6, .ref r7, .int (nI nc), .int (nI bn), .ref r10, .ref r11, .ref r12, .ref r13, .int (nI ln), .ref r15, .ref r16, .ref r17, .ref r18, .int (nI ac)])), (r10, .inl (cI, 24, .inl (fun j => nI (sa j)))), (r11, .inl (cI, 24, .inl (fun j => nI (sb j)))), (r12, .inl (cI, 24, .inl sr)), (r13, .inl (cI, 24, .inl (fun j => nI (su j)))), (r15, .inl (cI, 10, .inl ((gv_itr sa sb su sr ln (bn - 1) (gv_ko dd, gv_hz hh)).1))), (r16, .inl (cI, 10, .inl ((gv_itr sa sb su sr ln (bn - 1) (gv_ko dd, gv_hz hh)).2)))] := hD
    refine lv_if_eq (tgt := 47) hx hb dX6_height_35 (by decide) (fun c_35 => ?_) (fun c_35 => ?_)
    · skip
      have hno := gv_if0 hrh c_35
      refine lv_iconst (v := nI 0) hx hb dX6_height_47 (by decide) ?_
      have hpo : ∀ i, i < bn → p0 = nI i → ¬ (gv_itr sa sb su sr ln (bn - 1) (gv_ko dd, gv_hz hh)).1 i = -1 → (nI 0) = (gv_itr sa sb su sr ln (bn - 1) (gv_ko dd, gv_hz hh)).2 i := by
        exact fun i hi ei hk => absurd (gv_02c (by rw [ei]; exact vp_in_nI hi (by omega)) (by rw [ei, nI_clamp (by omega)]; exact hk)).symm hno
      have hP9 : va_P D vwCl [(h0, .inr (6, [.int (gv_02 (vp_in p0 bn) (¬ (gv_itr sa sb su sr ln (bn - 1) (gv_ko dd, gv_hz hh)).1 p0.toNatClampNeg = -1)), .int (nI mo), .ref r2, .int st, .int pe, .ref r5, .ref r6, .ref r7, .int (nI nc), .int (nI bn), .ref r10, .ref r11, .ref r12, .ref r13, .int (nI ln), .ref r15, .ref r16, .ref r17, .ref r18, .int (nI ac)])), (r10, .inl (cI, 24, .inl (fun j => nI (sa j)))), (r11, .inl (cI, 24, .inl (fun j => nI (sb j)))), (r12, .inl (cI, 24, .inl sr)), (r13, .inl (cI, 24, .inl (fun j => nI (su j)))), (r15, .inl (cI, 10, .inl ((gv_itr sa sb su sr ln (bn - 1) (gv_ko dd, gv_hz hh)).1))), (r16, .inl (cI, 10, .inl ((gv_itr sa sb su sr ln (bn - 1) (gv_ko dd, gv_hz hh)).2)))] H := hP
      have hD9 : va_D A [(h0, .inr (6, [.int (gv_02 (vp_in p0 bn) (¬ (gv_itr sa sb su sr ln (bn - 1) (gv_ko dd, gv_hz hh)).1 p0.toNatClampNeg = -1)), .int (nI mo), .ref r2, .int st, .int pe, .ref r5, .ref r6, .ref r7, .int (nI nc), .int (nI bn), .ref r10, .ref r11, .ref r12, .ref r13, .int (nI ln), .ref r15, .ref r16, .ref r17, .ref r18, .int (nI ac)])), (r10, .inl (cI, 24, .inl (fun j => nI (sa j)))), (r11, .inl (cI, 24, .inl (fun j => nI (sb j)))), (r12, .inl (cI, 24, .inl sr)), (r13, .inl (cI, 24, .inl (fun j => nI (su j)))), (r15, .inl (cI, 10, .inl ((gv_itr sa sb su sr ln (bn - 1) (gv_ko dd, gv_hz hh)).1))), (r16, .inl (cI, 10, .inl ((gv_itr sa sb su sr ln (bn - 1) (gv_ko dd, gv_hz hh)).2)))] := hD
      exact W.iret (v := nI 0) hx hb hr (fun t9 ht9 hW9 => ⟨⟨(nI 0), (), rfl, hpo, by rw [ht9]; exact hP9, hD9⟩, hS.F ht9⟩) hS.2.2 dX6_height_48
    · skip
      have hok := gv_02z (gv_if1 hrh c_35)
      obtain ⟨i9, hi, ei⟩ := vp_in_of hok.1 (by omega)
      rw [ei] at hl
      have hl : lv_has ls 3 [(2, .int q1), (0, .ref h0), (1, .int (nI i9))] := hl
      refine lv_aload_n hx hb dX6_height_38 rfl (lv_at hl 1 rfl) ?_
      refine va_get (D := D) (ci := 6) (v := .ref r16) (C := RX6) (T := TX6) (N := 20) hx hb hts gv_in_X6_height_X6 hown hK hP 0 rfl rfl 16 (by decide) (hts (.fieldLink RX6 42 "GravimereModel" "heights" "[I") (by decide +kernel)) (fun _ h9 => h9) rfl dX6_height_39 ?_
      refine lv_iload_n hx hb dX6_height_42 rfl (lv_at hl 2 rfl) ?_
      refine gv_il hx hb hK hP 6 (k := i9) rfl (by omega) (by decide) dX6_height_43 ?_
      refine lv_goto (tgt := 48) hx hb dX6_height_44 (by decide) ?_
      have hpo : ∀ i, i < bn → p0 = nI i → ¬ (gv_itr sa sb su sr ln (bn - 1) (gv_ko dd, gv_hz hh)).1 i = -1 → (((gv_itr sa sb su sr ln (bn - 1) (gv_ko dd, gv_hz hh)).2) i9) = (gv_itr sa sb su sr ln (bn - 1) (gv_ko dd, gv_hz hh)).2 i := by
        intro i2 hi2 ei2 _
        cases gv_inj (ei2.symm.trans ei) (by omega) (by omega)
        rfl
      have hP9 : va_P D vwCl [(h0, .inr (6, [.int (gv_02 (vp_in p0 bn) (¬ (gv_itr sa sb su sr ln (bn - 1) (gv_ko dd, gv_hz hh)).1 p0.toNatClampNeg = -1)), .int (nI mo), .ref r2, .int st, .int pe, .ref r5, .ref r6, .ref r7, .int (nI nc), .int (nI bn), .ref r10, .ref r11, .ref r12, .ref r13, .int (nI ln), .ref r15, .ref r16, .ref r17, .ref r18, .int (nI ac)])), (r10, .inl (cI, 24, .inl (fun j => nI (sa j)))), (r11, .inl (cI, 24, .inl (fun j => nI (sb j)))), (r12, .inl (cI, 24, .inl sr)), (r13, .inl (cI, 24, .inl (fun j => nI (su j)))), (r15, .inl (cI, 10, .inl ((gv_itr sa sb su sr ln (bn - 1) (gv_ko dd, gv_hz hh)).1))), (r16, .inl (cI, 10, .inl ((gv_itr sa sb su sr ln (bn - 1) (gv_ko dd, gv_hz hh)).2)))] H := hP
      have hD9 : va_D A [(h0, .inr (6, [.int (gv_02 (vp_in p0 bn) (¬ (gv_itr sa sb su sr ln (bn - 1) (gv_ko dd, gv_hz hh)).1 p0.toNatClampNeg = -1)), .int (nI mo), .ref r2, .int st, .int pe, .ref r5, .ref r6, .ref r7, .int (nI nc), .int (nI bn), .ref r10, .ref r11, .ref r12, .ref r13, .int (nI ln), .ref r15, .ref r16, .ref r17, .ref r18, .int (nI ac)])), (r10, .inl (cI, 24, .inl (fun j => nI (sa j)))), (r11, .inl (cI, 24, .inl (fun j => nI (sb j)))), (r12, .inl (cI, 24, .inl sr)), (r13, .inl (cI, 24, .inl (fun j => nI (su j)))), (r15, .inl (cI, 10, .inl ((gv_itr sa sb su sr ln (bn - 1) (gv_ko dd, gv_hz hh)).1))), (r16, .inl (cI, 10, .inl ((gv_itr sa sb su sr ln (bn - 1) (gv_ko dd, gv_hz hh)).2)))] := hD
      exact W.iret (v := ((gv_itr sa sb su sr ln (bn - 1) (gv_ko dd, gv_hz hh)).2) i9) hx hb hr (fun t9 ht9 hW9 => ⟨⟨(((gv_itr sa sb su sr ln (bn - 1) (gv_ko dd, gv_hz hh)).2) i9), (), rfl, hpo, by rw [ht9]; exact hP9, hD9⟩, hS.F ht9⟩) hS.2.2 dX6_height_48
  · skip
    refine lv_iload_n hx hb dX6_height_11 rfl (lv_at hl 0 rfl) ?_
    refine lv_if_ne (tgt := 19) hx hb dX6_height_12 (by decide) (fun c_12 => ?_) (fun c_12 => ?_)
    · skip
      obtain ⟨i9, hi, ei⟩ := vp_in_of (gv_if1 h1 c_12) (by omega)
      rw [ei] at hl
      have hl : lv_has ls 3 [(2, .int q1), (0, .ref h0), (1, .int (nI i9))] := hl
      refine lv_aload_n hx hb dX6_height_19 rfl (lv_at hl 1 rfl) ?_
      refine lv_iload_n hx hb dX6_height_20 rfl (lv_at hl 2 rfl) ?_
      refine gv_pi (va_runV (As := [.int (nI i9)]) (rest := [.ref h0]) ⟨hx, hb, hml, hown, hts⟩ (ct_X6_isFound l D cI cJ H.size h0 r2 r5 r6 r7 r10 r11 r12 r13 r15 r16 r17 r18 th st pe mo nc bn ln ac (gv_itr sa sb su sr ln (bn - 1) (gv_ko dd, gv_hz hh)).1 i9 (by omega)) (cwV 1 hts gX6_height_X6_isFound rfl rfl rfl (by decide +kernel) ⟨Nat.le_of_ble_eq_true rfl, Nat.le_of_ble_eq_true rfl⟩) (gv_pV (wc := [(h0, .inr (6, [.int th, .int (nI mo), .ref r2, .int st, .int pe, .ref r5, .ref r6, .ref r7, .int (nI nc), .int (nI bn), .ref r10, .ref r11, .ref r12, .ref r13, .int (nI ln), .ref r15, .ref r16, .ref r17, .ref r18, .int (nI ac)])), (r15, .inl (cI, 10, .inl ((gv_itr sa sb su sr ln (bn - 1) (gv_ko dd, gv_hz hh)).1)))]) hP hK hD hG [0, 5] rfl (by decide) 0 rfl rfl rfl) rfl rfl hl.1 rfl (lv_room (Nat.le_of_ble_eq_true rfl)) dX6_height_21 ⟨Nat.le_of_ble_eq_true rfl, Nat.le_of_ble_eq_true rfl⟩) (fun q2 h2 => ?_)
      refine lv_if_ne (tgt := 31) hx hb dX6_height_24 (by decide) (fun c_24 => ?_) (fun c_24 => ?_)
      · skip
        refine lv_iconst (v := nI 0) hx hb dX6_height_31 (by decide) ?_
        exact K_3 _ (by first | exact gv_02a (gv_if0 h1 c_12) | exact gv_02b (gv_if1 h1 c_12) (by rw [ei, nI_clamp (by omega)]; exact gv_if0 h2 c_24) | exact gv_02c (gv_if1 h1 c_12) (by rw [ei, nI_clamp (by omega)]; exact gv_if1 h2 c_24))
      · skip
        refine lv_iconst (v := nI 2) hx hb dX6_height_27 (by decide) ?_
        refine lv_goto (tgt := 32) hx hb dX6_height_28 (by decide) ?_
        exact K_3 _ (by first | exact gv_02a (gv_if0 h1 c_12) | exact gv_02b (gv_if1 h1 c_12) (by rw [ei, nI_clamp (by omega)]; exact gv_if0 h2 c_24) | exact gv_02c (gv_if1 h1 c_12) (by rw [ei, nI_clamp (by omega)]; exact gv_if1 h2 c_24))
    · skip
      refine lv_iconst (v := nI 1) hx hb dX6_height_15 (by decide) ?_
      refine lv_goto (tgt := 32) hx hb dX6_height_16 (by decide) ?_
      exact K_3 _ (by first | exact gv_02a (gv_if0 h1 c_12) | exact gv_02b (gv_if1 h1 c_12) (by rw [ei, nI_clamp (by omega)]; exact gv_if0 h2 c_24) | exact gv_02c (gv_if1 h1 c_12) (by rw [ei, nI_clamp (by omega)]; exact gv_if1 h2 c_24))
set_option maxHeartbeats 4000000 in
set_option maxRecDepth 100000 in
theorem ct_X6_doubtOf (l : Launch) (D : va_G) (cI cJ : ClassId) (sz : Nat) (h0 r2 r5 r6 r7 r10 r11 r12 r13 r15 r16 r17 r18 : Nat) (th st pe : Int32) (mo nc bn ln ac : Nat) (sa sb su : Nat → Nat) (sr dd hh : Nat → Int32) (i : Nat) (hsa : ∀ j, sa j < 10) (hsb : ∀ j, sb j < 10) (hsu : ∀ j, su j ≤ 1000) (hlb : ∀ k, k < ln → sa k < bn ∧ sb k < bn) (hln : ln ≤ 24) (hbn : bn ≤ 10) (hi : i < 10) : Met l yX6_doubtOf wsX6_doubtOf ({ frames := 4, cells := 0, slots := 0, locals := 90 }) (va_Pc [.ref h0, .int (nI i)] (gv_B D cI cJ [(h0, .inr (6, [.int th, .int (nI mo), .ref r2, .int st, .int pe, .ref r5, .ref r6, .ref r7, .int (nI nc), .int (nI bn), .ref r10, .ref r11, .ref r12, .ref r13, .int (nI ln), .ref r15, .ref r16, .ref r17, .ref r18, .int (nI ac)])), (r10, .inl (cI, 24, .inl (fun j => nI (sa j)))), (r11, .inl (cI, 24, .inl (fun j => nI (sb j)))), (r12, .inl (cI, 24, .inl sr)), (r13, .inl (cI, 24, .inl (fun j => nI (su j)))), (r15, .inl (cI, 10, .inl dd)), (r16, .inl (cI, 10, .inl hh))] sz)) (va_Qi (fun (r9 : Int32) (u9 : Unit) => r9 = (gv_itr sa sb su sr ln (bn - 1) (gv_ko dd, gv_hz hh)).1 i) (fun (u9 : Unit) t9 => gv_W D (va_A [(h0, .inr (6, [.int th, .int (nI mo), .ref r2, .int st, .int pe, .ref r5, .ref r6, .ref r7, .int (nI nc), .int (nI bn), .ref r10, .ref r11, .ref r12, .ref r13, .int (nI ln), .ref r15, .ref r16, .ref r17, .ref r18, .int (nI ac)])), (r10, .inl (cI, 24, .inl (fun j => nI (sa j)))), (r11, .inl (cI, 24, .inl (fun j => nI (sb j)))), (r12, .inl (cI, 24, .inl sr)), (r13, .inl (cI, 24, .inl (fun j => nI (su j)))), (r15, .inl (cI, 10, .inl dd)), (r16, .inl (cI, 10, .inl hh))] sz) [(h0, .inr (6, [.int th, .int (nI mo), .ref r2, .int st, .int pe, .ref r5, .ref r6, .ref r7, .int (nI nc), .int (nI bn), .ref r10, .ref r11, .ref r12, .ref r13, .int (nI ln), .ref r15, .ref r16, .ref r17, .ref r18, .int (nI ac)])), (r10, .inl (cI, 24, .inl (fun j => nI (sa j)))), (r11, .inl (cI, 24, .inl (fun j => nI (sb j)))), (r12, .inl (cI, 24, .inl sr)), (r13, .inl (cI, 24, .inl (fun j => nI (su j)))), (r15, .inl (cI, 10, .inl ((gv_itr sa sb su sr ln (bn - 1) (gv_ko dd, gv_hz hh)).1))), (r16, .inl (cI, 10, .inl ((gv_itr sa sb su sr ln (bn - 1) (gv_ko dd, gv_hz hh)).2)))] t9) (va_A [(h0, .inr (6, [.int th, .int (nI mo), .ref r2, .int st, .int pe, .ref r5, .ref r6, .ref r7, .int (nI nc), .int (nI bn), .ref r10, .ref r11, .ref r12, .ref r13, .int (nI ln), .ref r15, .ref r16, .ref r17, .ref r18, .int (nI ac)])), (r10, .inl (cI, 24, .inl (fun j => nI (sa j)))), (r11, .inl (cI, 24, .inl (fun j => nI (sb j)))), (r12, .inl (cI, 24, .inl sr)), (r13, .inl (cI, 24, .inl (fun j => nI (su j)))), (r15, .inl (cI, 10, .inl dd)), (r16, .inl (cI, 10, .inl hh))] sz)) 0 0 (va_A [(h0, .inr (6, [.int th, .int (nI mo), .ref r2, .int st, .int pe, .ref r5, .ref r6, .ref r7, .int (nI nc), .int (nI bn), .ref r10, .ref r11, .ref r12, .ref r13, .int (nI ln), .ref r15, .ref r16, .ref r17, .ref r18, .int (nI ac)])), (r10, .inl (cI, 24, .inl (fun j => nI (sa j)))), (r11, .inl (cI, 24, .inl (fun j => nI (sb j)))), (r12, .inl (cI, 24, .inl sr)), (r13, .inl (cI, 24, .inl (fun j => nI (su j)))), (r15, .inl (cI, 10, .inl dd)), (r16, .inl (cI, 10, .inl hh))] sz) := by
  refine Met.ofW (cc := cX6_doubtOf) (maxL := 2) (ret := (some .int)) (by decide) rfl ?_
  intro p e s m args below meth c s₁ B hml hv
  obtain ⟨rfl, hsz, hP, hK, hD0, hG⟩ := hv
  have hx := B.exec
  have hb := B.bytes
  have hr := B.returns
  have hts := atoms_spec (ws := wsX6_doubtOf) B.pre
  have hown : s.vm.findClass RX6 = some m.cls := findClass_of_methodNamed B.named
  have hlocks := B.notSynchronized
  subst hsz
  have hD := hD0.self (sz := s.heap.size)
  generalize hAe : va_A [(h0, .inr (6, [.int th, .int (nI mo), .ref r2, .int st, .int pe, .ref r5, .ref r6, .ref r7, .int (nI nc), .int (nI bn), .ref r10, .ref r11, .ref r12, .ref r13, .int (nI ln), .ref r15, .ref r16, .ref r17, .ref r18, .int (nI ac)])), (r10, .inl (cI, 24, .inl (fun j => nI (sa j)))), (r11, .inl (cI, 24, .inl (fun j => nI (sb j)))), (r12, .inl (cI, 24, .inl sr)), (r13, .inl (cI, 24, .inl (fun j => nI (su j)))), (r15, .inl (cI, 10, .inl dd)), (r16, .inl (cI, 10, .inl hh))] s.heap.size = A at hD ⊢
  have hA : ∀ q : Nat, s.heap.size ≤ q → A q := fun q h => by rw [← hAe]; exact Or.inr h
  have hS : va_S A s.heap s.heap [] := va_S.rf
  have hP : va_P D vwCl [(h0, .inr (6, [.int th, .int (nI mo), .ref r2, .int st, .int pe, .ref r5, .ref r6, .ref r7, .int (nI nc), .int (nI bn), .ref r10, .ref r11, .ref r12, .ref r13, .int (nI ln), .ref r15, .ref r16, .ref r17, .ref r18, .int (nI ac)])), (r10, .inl (cI, 24, .inl (fun j => nI (sa j)))), (r11, .inl (cI, 24, .inl (fun j => nI (sb j)))), (r12, .inl (cI, 24, .inl sr)), (r13, .inl (cI, 24, .inl (fun j => nI (su j)))), (r15, .inl (cI, 10, .inl dd)), (r16, .inl (cI, 10, .inl hh))] s.heap := hP
  have hl := lv_entry ([.ref h0, .int (nI i)]) (n := 2) (Nat.le_of_ble_eq_true rfl)
  rw [lg_entry_eq]
  generalize (lg_sl ([.ref h0, .int (nI i)]) ++ List.replicate (2 - (lg_sl ([.ref h0, .int (nI i)])).length) Slot.unset).toArray = ls at hl ⊢
  have hl : lv_has ls 2 [(0, .ref h0), (1, .int (nI i))] := hl
  refine lv_aload_n hx hb dX6_doubtOf_0 rfl (lv_at hl 0 rfl) ?_
  refine gv_mv (wc := [(h0, .inr (6, [.int th, .int (nI mo), .ref r2, .int st, .int pe, .ref r5, .ref r6, .ref r7, .int (nI nc), .int (nI bn), .ref r10, .ref r11, .ref r12, .ref r13, .int (nI ln), .ref r15, .ref r16, .ref r17, .ref r18, .int (nI ac)])), (r10, .inl (cI, 24, .inl (fun j => nI (sa j)))), (r11, .inl (cI, 24, .inl (fun j => nI (sb j)))), (r12, .inl (cI, 24, .inl sr)), (r13, .inl (cI, 24, .inl (fun j => nI (su j)))), (r15, .inl (cI, 10, .inl dd)), (r16, .inl (cI, 10, .inl hh))]) (wr := []) (w2 := (fun u => [(h0, .inr (6, [.int th, .int (nI mo), .ref r2, .int st, .int pe, .ref r5, .ref r6, .ref r7, .int (nI nc), .int (nI bn), .ref r10, .ref r11, .ref r12, .ref r13, .int (nI ln), .ref r15, .ref r16, .ref r17, .ref r18, .int (nI ac)])), (r10, .inl (cI, 24, .inl (fun j => nI (sa j)))), (r11, .inl (cI, 24, .inl (fun j => nI (sb j)))), (r12, .inl (cI, 24, .inl sr)), (r13, .inl (cI, 24, .inl (fun j => nI (su j)))), (r15, .inl (cI, 10, .inl ((gv_itr sa sb su sr ln (bn - 1) (gv_ko dd, gv_hz hh)).1))), (r16, .inl (cI, 10, .inl ((gv_itr sa sb su sr ln (bn - 1) (gv_ko dd, gv_hz hh)).2)))])) (va_runV (As := []) (rest := []) ⟨hx, hb, hml, hown, hts⟩ (ct_X6_findsAll l D cI cJ s.heap.size h0 r2 r5 r6 r7 r10 r11 r12 r13 r15 r16 r17 r18 th st pe mo nc bn ln ac sa sb su sr dd hh hsa hsb hsu hlb hln hbn) (cwV 0 hts gX6_doubtOf_X6_findsAll rfl rfl rfl (by decide +kernel) ⟨Nat.le_of_ble_eq_true rfl, Nat.le_of_ble_eq_true rfl⟩) (gv_pV (wc := [(h0, .inr (6, [.int th, .int (nI mo), .ref r2, .int st, .int pe, .ref r5, .ref r6, .ref r7, .int (nI nc), .int (nI bn), .ref r10, .ref r11, .ref r12, .ref r13, .int (nI ln), .ref r15, .ref r16, .ref r17, .ref r18, .int (nI ac)])), (r10, .inl (cI, 24, .inl (fun j => nI (sa j)))), (r11, .inl (cI, 24, .inl (fun j => nI (sb j)))), (r12, .inl (cI, 24, .inl sr)), (r13, .inl (cI, 24, .inl (fun j => nI (su j)))), (r15, .inl (cI, 10, .inl dd)), (r16, .inl (cI, 10, .inl hh))]) hP hK hD hG [0, 1, 2, 3, 4, 5, 6] rfl (by decide) 0 rfl rfl rfl) rfl rfl hl.1 rfl (lv_room (Nat.le_of_ble_eq_true rfl)) dX6_doubtOf_1 ⟨Nat.le_of_ble_eq_true rfl, Nat.le_of_ble_eq_true rfl⟩) hP hD hS hA [0, 1, 2, 3, 4, 5, 6] [] [0, 1, 2, 3, 4, 5, 6] rfl rfl (by decide) (by decide) (fun u => rfl) (by decide) (fun u H locs hr_2 hP hD hS => ?_)
  have hP : va_P D vwCl [(h0, .inr (6, [.int th, .int (nI mo), .ref r2, .int st, .int pe, .ref r5, .ref r6, .ref r7, .int (nI nc), .int (nI bn), .ref r10, .ref r11, .ref r12, .ref r13, .int (nI ln), .ref r15, .ref r16, .ref r17, .ref r18, .int (nI ac)])), (r10, .inl (cI, 24, .inl (fun j => nI (sa j)))), (r11, .inl (cI, 24, .inl (fun j => nI (sb j)))), (r12, .inl (cI, 24, .inl sr)), (r13, .inl (cI, 24, .inl (fun j => nI (su j)))), (r15, .inl (cI, 10, .inl ((gv_itr sa sb su sr ln (bn - 1) (gv_ko dd, gv_hz hh)).1))), (r16, .inl (cI, 10, .inl ((gv_itr sa sb su sr ln (bn - 1) (gv_ko dd, gv_hz hh)).2)))] H := hP
  have hD : va_D A [(h0, .inr (6, [.int th, .int (nI mo), .ref r2, .int st, .int pe, .ref r5, .ref r6, .ref r7, .int (nI nc), .int (nI bn), .ref r10, .ref r11, .ref r12, .ref r13, .int (nI ln), .ref r15, .ref r16, .ref r17, .ref r18, .int (nI ac)])), (r10, .inl (cI, 24, .inl (fun j => nI (sa j)))), (r11, .inl (cI, 24, .inl (fun j => nI (sb j)))), (r12, .inl (cI, 24, .inl sr)), (r13, .inl (cI, 24, .inl (fun j => nI (su j)))), (r15, .inl (cI, 10, .inl ((gv_itr sa sb su sr ln (bn - 1) (gv_ko dd, gv_hz hh)).1))), (r16, .inl (cI, 10, .inl ((gv_itr sa sb su sr ln (bn - 1) (gv_ko dd, gv_hz hh)).2)))] := hD
  refine lv_aload_n hx hb dX6_doubtOf_4 rfl (lv_at hl 0 rfl) ?_
  refine va_get (D := D) (ci := 6) (v := .ref r15) (C := RX6) (T := TX6) (N := 20) hx hb hts gv_in_X6_doubtOf_X6 hown hK hP 0 rfl rfl 15 (by decide) (hts (.fieldLink RX6 39 "GravimereModel" "doubts" "[I") (by decide +kernel)) (fun _ h9 => h9) rfl dX6_doubtOf_5 ?_
  refine lv_iload_n hx hb dX6_doubtOf_8 rfl (lv_at hl 1 rfl) ?_
  refine gv_il hx hb hK hP 5 (k := i) rfl (by omega) (by decide) dX6_doubtOf_9 ?_
  have hpo : (((gv_itr sa sb su sr ln (bn - 1) (gv_ko dd, gv_hz hh)).1) i) = (gv_itr sa sb su sr ln (bn - 1) (gv_ko dd, gv_hz hh)).1 i := by
    rfl
  have hP9 : va_P D vwCl [(h0, .inr (6, [.int th, .int (nI mo), .ref r2, .int st, .int pe, .ref r5, .ref r6, .ref r7, .int (nI nc), .int (nI bn), .ref r10, .ref r11, .ref r12, .ref r13, .int (nI ln), .ref r15, .ref r16, .ref r17, .ref r18, .int (nI ac)])), (r10, .inl (cI, 24, .inl (fun j => nI (sa j)))), (r11, .inl (cI, 24, .inl (fun j => nI (sb j)))), (r12, .inl (cI, 24, .inl sr)), (r13, .inl (cI, 24, .inl (fun j => nI (su j)))), (r15, .inl (cI, 10, .inl ((gv_itr sa sb su sr ln (bn - 1) (gv_ko dd, gv_hz hh)).1))), (r16, .inl (cI, 10, .inl ((gv_itr sa sb su sr ln (bn - 1) (gv_ko dd, gv_hz hh)).2)))] H := hP
  have hD9 : va_D A [(h0, .inr (6, [.int th, .int (nI mo), .ref r2, .int st, .int pe, .ref r5, .ref r6, .ref r7, .int (nI nc), .int (nI bn), .ref r10, .ref r11, .ref r12, .ref r13, .int (nI ln), .ref r15, .ref r16, .ref r17, .ref r18, .int (nI ac)])), (r10, .inl (cI, 24, .inl (fun j => nI (sa j)))), (r11, .inl (cI, 24, .inl (fun j => nI (sb j)))), (r12, .inl (cI, 24, .inl sr)), (r13, .inl (cI, 24, .inl (fun j => nI (su j)))), (r15, .inl (cI, 10, .inl ((gv_itr sa sb su sr ln (bn - 1) (gv_ko dd, gv_hz hh)).1))), (r16, .inl (cI, 10, .inl ((gv_itr sa sb su sr ln (bn - 1) (gv_ko dd, gv_hz hh)).2)))] := hD
  exact W.iret (v := ((gv_itr sa sb su sr ln (bn - 1) (gv_ko dd, gv_hz hh)).1) i) hx hb hr (fun t9 ht9 hW9 => ⟨⟨(((gv_itr sa sb su sr ln (bn - 1) (gv_ko dd, gv_hz hh)).1) i), (), rfl, hpo, by rw [ht9]; exact hP9, hD9⟩, hS.F ht9⟩) hS.2.2 dX6_doubtOf_10
set_option maxHeartbeats 4000000 in
set_option maxRecDepth 100000 in
theorem ct_X6_doubt (l : Launch) (D : va_G) (cI cJ : ClassId) (sz : Nat) (h0 r2 r5 r6 r7 r10 r11 r12 r13 r15 r16 r17 r18 : Nat) (th st pe : Int32) (mo nc bn ln ac : Nat) (sa sb su : Nat → Nat) (sr dd hh : Nat → Int32) (p0 : Int32) (hsa : ∀ j, sa j < 10) (hsb : ∀ j, sb j < 10) (hsu : ∀ j, su j ≤ 1000) (hlb : ∀ k, k < ln → sa k < bn ∧ sb k < bn) (hln : ln ≤ 24) (hbn : bn ≤ 10) : Met l yX6_doubt wsX6_doubt ({ frames := 5, cells := 0, slots := 0, locals := 111 }) (va_Pc [.ref h0, .int p0] (gv_B D cI cJ [(h0, .inr (6, [.int th, .int (nI mo), .ref r2, .int st, .int pe, .ref r5, .ref r6, .ref r7, .int (nI nc), .int (nI bn), .ref r10, .ref r11, .ref r12, .ref r13, .int (nI ln), .ref r15, .ref r16, .ref r17, .ref r18, .int (nI ac)])), (r10, .inl (cI, 24, .inl (fun j => nI (sa j)))), (r11, .inl (cI, 24, .inl (fun j => nI (sb j)))), (r12, .inl (cI, 24, .inl sr)), (r13, .inl (cI, 24, .inl (fun j => nI (su j)))), (r15, .inl (cI, 10, .inl dd)), (r16, .inl (cI, 10, .inl hh))] sz)) (va_Qi (fun (r9 : Int32) (u9 : (Nat → Int32) × (Nat → Int32)) => match u9 with | (d9, h9) => ∀ i, i < bn → p0 = nI i → r9 = (gv_itr sa sb su sr ln (bn - 1) (gv_ko dd, gv_hz hh)).1 i) (fun (u9 : (Nat → Int32) × (Nat → Int32)) t9 => gv_W D (va_A [(h0, .inr (6, [.int th, .int (nI mo), .ref r2, .int st, .int pe, .ref r5, .ref r6, .ref r7, .int (nI nc), .int (nI bn), .ref r10, .ref r11, .ref r12, .ref r13, .int (nI ln), .ref r15, .ref r16, .ref r17, .ref r18, .int (nI ac)])), (r10, .inl (cI, 24, .inl (fun j => nI (sa j)))), (r11, .inl (cI, 24, .inl (fun j => nI (sb j)))), (r12, .inl (cI, 24, .inl sr)), (r13, .inl (cI, 24, .inl (fun j => nI (su j)))), (r15, .inl (cI, 10, .inl dd)), (r16, .inl (cI, 10, .inl hh))] sz) (match u9 with | (d9, h9) => [(h0, .inr (6, [.int (gv_01 (vp_in p0 bn)), .int (nI mo), .ref r2, .int st, .int pe, .ref r5, .ref r6, .ref r7, .int (nI nc), .int (nI bn), .ref r10, .ref r11, .ref r12, .ref r13, .int (nI ln), .ref r15, .ref r16, .ref r17, .ref r18, .int (nI ac)])), (r10, .inl (cI, 24, .inl (fun j => nI (sa j)))), (r11, .inl (cI, 24, .inl (fun j => nI (sb j)))), (r12, .inl (cI, 24, .inl sr)), (r13, .inl (cI, 24, .inl (fun j => nI (su j)))), (r15, .inl (cI, 10, .inl d9)), (r16, .inl (cI, 10, .inl h9))]) t9) (va_A [(h0, .inr (6, [.int th, .int (nI mo), .ref r2, .int st, .int pe, .ref r5, .ref r6, .ref r7, .int (nI nc), .int (nI bn), .ref r10, .ref r11, .ref r12, .ref r13, .int (nI ln), .ref r15, .ref r16, .ref r17, .ref r18, .int (nI ac)])), (r10, .inl (cI, 24, .inl (fun j => nI (sa j)))), (r11, .inl (cI, 24, .inl (fun j => nI (sb j)))), (r12, .inl (cI, 24, .inl sr)), (r13, .inl (cI, 24, .inl (fun j => nI (su j)))), (r15, .inl (cI, 10, .inl dd)), (r16, .inl (cI, 10, .inl hh))] sz)) 0 0 (va_A [(h0, .inr (6, [.int th, .int (nI mo), .ref r2, .int st, .int pe, .ref r5, .ref r6, .ref r7, .int (nI nc), .int (nI bn), .ref r10, .ref r11, .ref r12, .ref r13, .int (nI ln), .ref r15, .ref r16, .ref r17, .ref r18, .int (nI ac)])), (r10, .inl (cI, 24, .inl (fun j => nI (sa j)))), (r11, .inl (cI, 24, .inl (fun j => nI (sb j)))), (r12, .inl (cI, 24, .inl sr)), (r13, .inl (cI, 24, .inl (fun j => nI (su j)))), (r15, .inl (cI, 10, .inl dd)), (r16, .inl (cI, 10, .inl hh))] sz) := by
  refine Met.ofW (cc := cX6_doubt) (maxL := 2) (ret := (some .int)) (by decide) rfl ?_
  intro p e s m args below meth c s₁ B hml hv
  obtain ⟨rfl, hsz, hP, hK, hD0, hG⟩ := hv
  have hx := B.exec
  have hb := B.bytes
  have hr := B.returns
  have hts := atoms_spec (ws := wsX6_doubt) B.pre
  have hown : s.vm.findClass RX6 = some m.cls := findClass_of_methodNamed B.named
  have hlocks := B.notSynchronized
  subst hsz
  have hD := hD0.self (sz := s.heap.size)
  generalize hAe : va_A [(h0, .inr (6, [.int th, .int (nI mo), .ref r2, .int st, .int pe, .ref r5, .ref r6, .ref r7, .int (nI nc), .int (nI bn), .ref r10, .ref r11, .ref r12, .ref r13, .int (nI ln), .ref r15, .ref r16, .ref r17, .ref r18, .int (nI ac)])), (r10, .inl (cI, 24, .inl (fun j => nI (sa j)))), (r11, .inl (cI, 24, .inl (fun j => nI (sb j)))), (r12, .inl (cI, 24, .inl sr)), (r13, .inl (cI, 24, .inl (fun j => nI (su j)))), (r15, .inl (cI, 10, .inl dd)), (r16, .inl (cI, 10, .inl hh))] s.heap.size = A at hD ⊢
  have hA : ∀ q : Nat, s.heap.size ≤ q → A q := fun q h => by rw [← hAe]; exact Or.inr h
  have hS : va_S A s.heap s.heap [] := va_S.rf
  have hP : va_P D vwCl [(h0, .inr (6, [.int th, .int (nI mo), .ref r2, .int st, .int pe, .ref r5, .ref r6, .ref r7, .int (nI nc), .int (nI bn), .ref r10, .ref r11, .ref r12, .ref r13, .int (nI ln), .ref r15, .ref r16, .ref r17, .ref r18, .int (nI ac)])), (r10, .inl (cI, 24, .inl (fun j => nI (sa j)))), (r11, .inl (cI, 24, .inl (fun j => nI (sb j)))), (r12, .inl (cI, 24, .inl sr)), (r13, .inl (cI, 24, .inl (fun j => nI (su j)))), (r15, .inl (cI, 10, .inl dd)), (r16, .inl (cI, 10, .inl hh))] s.heap := hP
  have hl := lv_entry ([.ref h0, .int p0]) (n := 2) (Nat.le_of_ble_eq_true rfl)
  rw [lg_entry_eq]
  generalize (lg_sl ([.ref h0, .int p0]) ++ List.replicate (2 - (lg_sl ([.ref h0, .int p0])).length) Slot.unset).toArray = ls at hl ⊢
  have hl : lv_has ls 2 [(0, .ref h0), (1, .int p0)] := hl
  refine lv_aload_n hx hb dX6_doubt_0 rfl (lv_at hl 0 rfl) ?_
  refine lv_aload_n hx hb dX6_doubt_1 rfl (lv_at hl 0 rfl) ?_
  refine lv_iload_n hx hb dX6_doubt_2 rfl (lv_at hl 1 rfl) ?_
  refine gv_pi (va_runV (As := [.int p0]) (rest := [.ref h0]) ⟨hx, hb, hml, hown, hts⟩ (ct_X6_isBenchmark l D cI cJ s.heap.size h0 r2 r5 r6 r7 r10 r11 r12 r13 r15 r16 r17 r18 th st pe mo nc bn ln ac p0 (by omega)) (cwV 1 hts gX6_doubt_X6_isBenchmark rfl rfl rfl (by decide +kernel) ⟨Nat.le_of_ble_eq_true rfl, Nat.le_of_ble_eq_true rfl⟩) (gv_pV (wc := [(h0, .inr (6, [.int th, .int (nI mo), .ref r2, .int st, .int pe, .ref r5, .ref r6, .ref r7, .int (nI nc), .int (nI bn), .ref r10, .ref r11, .ref r12, .ref r13, .int (nI ln), .ref r15, .ref r16, .ref r17, .ref r18, .int (nI ac)]))]) hP hK hD hG [0] rfl (by decide) 0 rfl rfl rfl) rfl rfl hl.1 rfl (lv_room (Nat.le_of_ble_eq_true rfl)) dX6_doubt_3 ⟨Nat.le_of_ble_eq_true rfl, Nat.le_of_ble_eq_true rfl⟩) (fun q1 h1 => ?_)
  refine gv_mg (fun v : Int32 => v = gv_01 (vp_in p0 bn)) 14 [.ref h0] (fun tv hv_tv => ?_) (fun K_1 => ?_)
  · skip
    subst hv_tv
    refine gv_mi (wc := [(h0, .inr (6, [.int th, .int (nI mo), .ref r2, .int st, .int pe, .ref r5, .ref r6, .ref r7, .int (nI nc), .int (nI bn), .ref r10, .ref r11, .ref r12, .ref r13, .int (nI ln), .ref r15, .ref r16, .ref r17, .ref r18, .int (nI ac)]))]) (wr := [(r10, .inl (cI, 24, .inl (fun j => nI (sa j)))), (r11, .inl (cI, 24, .inl (fun j => nI (sb j)))), (r12, .inl (cI, 24, .inl sr)), (r13, .inl (cI, 24, .inl (fun j => nI (su j)))), (r15, .inl (cI, 10, .inl dd)), (r16, .inl (cI, 10, .inl hh))]) (w2 := (fun u => [(h0, .inr (6, [.int (gv_01 (vp_in p0 bn)), .int (nI mo), .ref r2, .int st, .int pe, .ref r5, .ref r6, .ref r7, .int (nI nc), .int (nI bn), .ref r10, .ref r11, .ref r12, .ref r13, .int (nI ln), .ref r15, .ref r16, .ref r17, .ref r18, .int (nI ac)])), (r10, .inl (cI, 24, .inl (fun j => nI (sa j)))), (r11, .inl (cI, 24, .inl (fun j => nI (sb j)))), (r12, .inl (cI, 24, .inl sr)), (r13, .inl (cI, 24, .inl (fun j => nI (su j)))), (r15, .inl (cI, 10, .inl dd)), (r16, .inl (cI, 10, .inl hh))])) (va_runV (As := [.int (gv_01 (vp_in p0 bn))]) (rest := []) ⟨hx, hb, hml, hown, hts⟩ (ct_X6_holds l D cI cJ s.heap.size h0 r2 r5 r6 r7 r10 r11 r12 r13 r15 r16 r17 r18 th st pe mo nc bn ln ac (gv_01 (vp_in p0 bn))) (cwV 1 hts gX6_doubt_X6_holds rfl rfl rfl (by decide +kernel) ⟨Nat.le_of_ble_eq_true rfl, Nat.le_of_ble_eq_true rfl⟩) (gv_pV (wc := [(h0, .inr (6, [.int th, .int (nI mo), .ref r2, .int st, .int pe, .ref r5, .ref r6, .ref r7, .int (nI nc), .int (nI bn), .ref r10, .ref r11, .ref r12, .ref r13, .int (nI ln), .ref r15, .ref r16, .ref r17, .ref r18, .int (nI ac)]))]) hP hK hD hG [0] rfl (by decide) 0 rfl rfl rfl) rfl rfl hl.1 rfl (lv_room (Nat.le_of_ble_eq_true rfl)) dX6_doubt_14 ⟨Nat.le_of_ble_eq_true rfl, Nat.le_of_ble_eq_true rfl⟩) hP hD hS hA [0] [1, 2, 3, 4, 5, 6] [6, 0, 1, 2, 3, 4, 5] rfl rfl (by decide) (by decide) (fun u => rfl) (by decide) (fun rh u H locs hrh hP hD hS => ?_)
    have hP : va_P D vwCl [(h0, .inr (6, [.int (gv_01 (vp_in p0 bn)), .int (nI mo), .ref r2, .int st, .int pe, .ref r5, .ref r6, .ref r7, .int (nI nc), .int (nI bn), .ref r10, .ref r11, .ref r12, .ref r13, .int (nI ln), .ref r15, .ref r16, .ref r17, .ref r18, .int (nI ac)])), (r10, .inl (cI, 24, .inl (fun j => nI (sa j)))), (r11, .inl (cI, 24, .inl (fun j => nI (sb j)))), (r12, .inl (cI, 24, .inl sr)), (r13, .inl (cI, 24, .inl (fun j => nI (su j)))), (r15, .inl (cI, 10, .inl dd)), (r16, .inl (cI, 10, .inl hh))] H := hP
    have hD : va_D A [(h0, .inr (6, [.int (gv_01 (vp_in p0 bn)), .int (nI mo), .ref r2, .int st, .int pe, .ref r5, .ref r6, .ref r7, .int (nI nc), .int (nI bn), .ref r10, .ref r11, .ref r12, .ref r13, .int (nI ln), .ref r15, .ref r16, .ref r17, .ref r18, .int (nI ac)])), (r10, .inl (cI, 24, .inl (fun j => nI (sa j)))), (r11, .inl (cI, 24, .inl (fun j => nI (sb j)))), (r12, .inl (cI, 24, .inl sr)), (r13, .inl (cI, 24, .inl (fun j => nI (su j)))), (r15, .inl (cI, 10, .inl dd)), (r16, .inl (cI, 10, .inl hh))] := hD
    refine lv_if_eq (tgt := 28) hx hb dX6_doubt_17 (by decide) (fun c_17 => ?_) (fun c_17 => ?_)
    · skip
      have hno := gv_if0 hrh c_17
      refine lv_iconst (v := nI 0) hx hb dX6_doubt_28 (by decide) ?_
      have hpo : match (dd, hh) with | (d9, h9) => ∀ i, i < bn → p0 = nI i → (nI 0) = (gv_itr sa sb su sr ln (bn - 1) (gv_ko dd, gv_hz hh)).1 i := by
        first
          | exact fun i hi ei => absurd (gv_01t (by rw [ei]; exact vp_in_nI hi (by omega))).symm hno
          | (intro i2 hi2 ei2; cases gv_inj (ei2.symm.trans ei) (by omega) (by omega); exact hrc)
      have hP9 : va_P D vwCl [(h0, .inr (6, [.int (gv_01 (vp_in p0 bn)), .int (nI mo), .ref r2, .int st, .int pe, .ref r5, .ref r6, .ref r7, .int (nI nc), .int (nI bn), .ref r10, .ref r11, .ref r12, .ref r13, .int (nI ln), .ref r15, .ref r16, .ref r17, .ref r18, .int (nI ac)])), (r10, .inl (cI, 24, .inl (fun j => nI (sa j)))), (r11, .inl (cI, 24, .inl (fun j => nI (sb j)))), (r12, .inl (cI, 24, .inl sr)), (r13, .inl (cI, 24, .inl (fun j => nI (su j)))), (r15, .inl (cI, 10, .inl dd)), (r16, .inl (cI, 10, .inl hh))] H := hP
      have hD9 : va_D A [(h0, .inr (6, [.int (gv_01 (vp_in p0 bn)), .int (nI mo), .ref r2, .int st, .int pe, .ref r5, .ref r6, .ref r7, .int (nI nc), .int (nI bn), .ref r10, .ref r11, .ref r12, .ref r13, .int (nI ln), .ref r15, .ref r16, .ref r17, .ref r18, .int (nI ac)])), (r10, .inl (cI, 24, .inl (fun j => nI (sa j)))), (r11, .inl (cI, 24, .inl (fun j => nI (sb j)))), (r12, .inl (cI, 24, .inl sr)), (r13, .inl (cI, 24, .inl (fun j => nI (su j)))), (r15, .inl (cI, 10, .inl dd)), (r16, .inl (cI, 10, .inl hh))] := hD
      exact W.iret (v := nI 0) hx hb hr (fun t9 ht9 hW9 => ⟨⟨(nI 0), (dd, hh), rfl, hpo, by rw [ht9]; exact hP9, hD9⟩, hS.F ht9⟩) hS.2.2 dX6_doubt_29
    · skip
      have hok := gv_01z (gv_if1 hrh c_17)
      obtain ⟨i, hi, ei⟩ := vp_in_of hok (by omega)
      rw [ei] at hl
      have hl : lv_has ls 2 [(0, .ref h0), (1, .int (nI i))] := hl
      refine lv_aload_n hx hb dX6_doubt_20 rfl (lv_at hl 0 rfl) ?_
      refine lv_iload_n hx hb dX6_doubt_21 rfl (lv_at hl 1 rfl) ?_
      refine gv_mi (wc := [(h0, .inr (6, [.int (gv_01 (vp_in p0 bn)), .int (nI mo), .ref r2, .int st, .int pe, .ref r5, .ref r6, .ref r7, .int (nI nc), .int (nI bn), .ref r10, .ref r11, .ref r12, .ref r13, .int (nI ln), .ref r15, .ref r16, .ref r17, .ref r18, .int (nI ac)])), (r10, .inl (cI, 24, .inl (fun j => nI (sa j)))), (r11, .inl (cI, 24, .inl (fun j => nI (sb j)))), (r12, .inl (cI, 24, .inl sr)), (r13, .inl (cI, 24, .inl (fun j => nI (su j)))), (r15, .inl (cI, 10, .inl dd)), (r16, .inl (cI, 10, .inl hh))]) (wr := []) (w2 := (fun u => [(h0, .inr (6, [.int (gv_01 (vp_in p0 bn)), .int (nI mo), .ref r2, .int st, .int pe, .ref r5, .ref r6, .ref r7, .int (nI nc), .int (nI bn), .ref r10, .ref r11, .ref r12, .ref r13, .int (nI ln), .ref r15, .ref r16, .ref r17, .ref r18, .int (nI ac)])), (r10, .inl (cI, 24, .inl (fun j => nI (sa j)))), (r11, .inl (cI, 24, .inl (fun j => nI (sb j)))), (r12, .inl (cI, 24, .inl sr)), (r13, .inl (cI, 24, .inl (fun j => nI (su j)))), (r15, .inl (cI, 10, .inl ((gv_itr sa sb su sr ln (bn - 1) (gv_ko dd, gv_hz hh)).1))), (r16, .inl (cI, 10, .inl ((gv_itr sa sb su sr ln (bn - 1) (gv_ko dd, gv_hz hh)).2)))])) (va_runV (As := [.int (nI i)]) (rest := []) ⟨hx, hb, hml, hown, hts⟩ (ct_X6_doubtOf l D cI cJ H.size h0 r2 r5 r6 r7 r10 r11 r12 r13 r15 r16 r17 r18 (gv_01 (vp_in p0 bn)) st pe mo nc bn ln ac sa sb su sr dd hh i hsa hsb hsu hlb hln hbn (by omega)) (cwV 1 hts gX6_doubt_X6_doubtOf rfl rfl rfl (by decide +kernel) ⟨Nat.le_of_ble_eq_true rfl, Nat.le_of_ble_eq_true rfl⟩) (gv_pV (wc := [(h0, .inr (6, [.int (gv_01 (vp_in p0 bn)), .int (nI mo), .ref r2, .int st, .int pe, .ref r5, .ref r6, .ref r7, .int (nI nc), .int (nI bn), .ref r10, .ref r11, .ref r12, .ref r13, .int (nI ln), .ref r15, .ref r16, .ref r17, .ref r18, .int (nI ac)])), (r10, .inl (cI, 24, .inl (fun j => nI (sa j)))), (r11, .inl (cI, 24, .inl (fun j => nI (sb j)))), (r12, .inl (cI, 24, .inl sr)), (r13, .inl (cI, 24, .inl (fun j => nI (su j)))), (r15, .inl (cI, 10, .inl dd)), (r16, .inl (cI, 10, .inl hh))]) hP hK hD hG [0, 1, 2, 3, 4, 5, 6] rfl (by decide) 0 rfl rfl rfl) rfl rfl hl.1 rfl (lv_room (Nat.le_of_ble_eq_true rfl)) dX6_doubt_22 ⟨Nat.le_of_ble_eq_true rfl, Nat.le_of_ble_eq_true rfl⟩) hP hD hS hA [0, 1, 2, 3, 4, 5, 6] [] [0, 1, 2, 3, 4, 5, 6] rfl rfl (by decide) (by decide) (fun u => rfl) (by decide) (fun rc u H locs hrc hP hD hS => ?_)
      have hP : va_P D vwCl [(h0, .inr (6, [.int (gv_01 (vp_in p0 bn)), .int (nI mo), .ref r2, .int st, .int pe, .ref r5, .ref r6, .ref r7, .int (nI nc), .int (nI bn), .ref r10, .ref r11, .ref r12, .ref r13, .int (nI ln), .ref r15, .ref r16, .ref r17, .ref r18, .int (nI ac)])), (r10, .inl (cI, 24, .inl (fun j => nI (sa j)))), (r11, .inl (cI, 24, .inl (fun j => nI (sb j)))), (r12, .inl (cI, 24, .inl sr)), (r13, .inl (cI, 24, .inl (fun j => nI (su j)))), (r15, .inl (cI, 10, .inl ((gv_itr sa sb su sr ln (bn - 1) (gv_ko dd, gv_hz hh)).1))), (r16, .inl (cI, 10, .inl ((gv_itr sa sb su sr ln (bn - 1) (gv_ko dd, gv_hz hh)).2)))] H := hP
      have hD : va_D A [(h0, .inr (6, [.int (gv_01 (vp_in p0 bn)), .int (nI mo), .ref r2, .int st, .int pe, .ref r5, .ref r6, .ref r7, .int (nI nc), .int (nI bn), .ref r10, .ref r11, .ref r12, .ref r13, .int (nI ln), .ref r15, .ref r16, .ref r17, .ref r18, .int (nI ac)])), (r10, .inl (cI, 24, .inl (fun j => nI (sa j)))), (r11, .inl (cI, 24, .inl (fun j => nI (sb j)))), (r12, .inl (cI, 24, .inl sr)), (r13, .inl (cI, 24, .inl (fun j => nI (su j)))), (r15, .inl (cI, 10, .inl ((gv_itr sa sb su sr ln (bn - 1) (gv_ko dd, gv_hz hh)).1))), (r16, .inl (cI, 10, .inl ((gv_itr sa sb su sr ln (bn - 1) (gv_ko dd, gv_hz hh)).2)))] := hD
      refine lv_goto (tgt := 29) hx hb dX6_doubt_25 (by decide) ?_
      have hpo : match ((gv_itr sa sb su sr ln (bn - 1) (gv_ko dd, gv_hz hh)).1, (gv_itr sa sb su sr ln (bn - 1) (gv_ko dd, gv_hz hh)).2) with | (d9, h9) => ∀ i, i < bn → p0 = nI i → rc = (gv_itr sa sb su sr ln (bn - 1) (gv_ko dd, gv_hz hh)).1 i := by
        first
          | exact fun i hi ei => absurd (gv_01t (by rw [ei]; exact vp_in_nI hi (by omega))).symm hno
          | (intro i2 hi2 ei2; cases gv_inj (ei2.symm.trans ei) (by omega) (by omega); exact hrc)
      have hP9 : va_P D vwCl [(h0, .inr (6, [.int (gv_01 (vp_in p0 bn)), .int (nI mo), .ref r2, .int st, .int pe, .ref r5, .ref r6, .ref r7, .int (nI nc), .int (nI bn), .ref r10, .ref r11, .ref r12, .ref r13, .int (nI ln), .ref r15, .ref r16, .ref r17, .ref r18, .int (nI ac)])), (r10, .inl (cI, 24, .inl (fun j => nI (sa j)))), (r11, .inl (cI, 24, .inl (fun j => nI (sb j)))), (r12, .inl (cI, 24, .inl sr)), (r13, .inl (cI, 24, .inl (fun j => nI (su j)))), (r15, .inl (cI, 10, .inl ((gv_itr sa sb su sr ln (bn - 1) (gv_ko dd, gv_hz hh)).1))), (r16, .inl (cI, 10, .inl ((gv_itr sa sb su sr ln (bn - 1) (gv_ko dd, gv_hz hh)).2)))] H := hP
      have hD9 : va_D A [(h0, .inr (6, [.int (gv_01 (vp_in p0 bn)), .int (nI mo), .ref r2, .int st, .int pe, .ref r5, .ref r6, .ref r7, .int (nI nc), .int (nI bn), .ref r10, .ref r11, .ref r12, .ref r13, .int (nI ln), .ref r15, .ref r16, .ref r17, .ref r18, .int (nI ac)])), (r10, .inl (cI, 24, .inl (fun j => nI (sa j)))), (r11, .inl (cI, 24, .inl (fun j => nI (sb j)))), (r12, .inl (cI, 24, .inl sr)), (r13, .inl (cI, 24, .inl (fun j => nI (su j)))), (r15, .inl (cI, 10, .inl ((gv_itr sa sb su sr ln (bn - 1) (gv_ko dd, gv_hz hh)).1))), (r16, .inl (cI, 10, .inl ((gv_itr sa sb su sr ln (bn - 1) (gv_ko dd, gv_hz hh)).2)))] := hD
      exact W.iret (v := rc) hx hb hr (fun t9 ht9 hW9 => ⟨⟨rc, ((gv_itr sa sb su sr ln (bn - 1) (gv_ko dd, gv_hz hh)).1, (gv_itr sa sb su sr ln (bn - 1) (gv_ko dd, gv_hz hh)).2), rfl, hpo, by rw [ht9]; exact hP9, hD9⟩, hS.F ht9⟩) hS.2.2 dX6_doubt_29
  · skip
    refine lv_if_eq (tgt := 13) hx hb dX6_doubt_6 (by decide) (fun c_6 => ?_) (fun c_6 => ?_)
    · skip
      refine lv_iconst (v := nI 1) hx hb dX6_doubt_13 (by decide) ?_
      exact K_1 _ (by first | exact gv_01t (gv_if1 h1 c_6) | exact gv_01f (gv_if0 h1 c_6))
    · skip
      refine lv_iconst (v := nI 0) hx hb dX6_doubt_9 (by decide) ?_
      refine lv_goto (tgt := 14) hx hb dX6_doubt_10 (by decide) ?_
      exact K_1 _ (by first | exact gv_01t (gv_if1 h1 c_6) | exact gv_01f (gv_if0 h1 c_6))
set_option maxHeartbeats 4000000 in
set_option maxRecDepth 100000 in
theorem ct_X6_doubtAnew (l : Launch) (D : va_G) (cI cJ : ClassId) (sz : Nat) (h0 r2 r5 r6 r7 r10 r11 r12 r13 r15 r16 r17 r18 : Nat) (th st pe : Int32) (mo nc bn ln ac : Nat) (sa sb su : Nat → Nat) (sr dd hh : Nat → Int32) (p0 : Int32) (hsa : ∀ j, sa j < 10) (hsb : ∀ j, sb j < 10) (hsu : ∀ j, su j ≤ 1000) (hlb : ∀ k, k < ln → sa k < bn ∧ sb k < bn) (hln : ln ≤ 24) (hbn : bn ≤ 10) : Met l yX6_doubtAnew wsX6_doubtAnew ({ frames := 5, cells := 0, slots := 0, locals := 111 }) (va_Pc [.ref h0, .int p0] (gv_B D cI cJ [(h0, .inr (6, [.int th, .int (nI mo), .ref r2, .int st, .int pe, .ref r5, .ref r6, .ref r7, .int (nI nc), .int (nI bn), .ref r10, .ref r11, .ref r12, .ref r13, .int (nI ln), .ref r15, .ref r16, .ref r17, .ref r18, .int (nI ac)])), (r10, .inl (cI, 24, .inl (fun j => nI (sa j)))), (r11, .inl (cI, 24, .inl (fun j => nI (sb j)))), (r12, .inl (cI, 24, .inl sr)), (r13, .inl (cI, 24, .inl (fun j => nI (su j)))), (r15, .inl (cI, 10, .inl dd)), (r16, .inl (cI, 10, .inl hh))] sz)) (va_Qi (fun (r9 : Int32) (u9 : (Nat → Int32) × (Nat → Int32)) => match u9 with | (d9, h9) => ∀ i, i < bn → p0 = nI i → r9 = (gv_itr sa sb su sr ln (bn - 1) (gv_ko dd, gv_hz hh)).1 i) (fun (u9 : (Nat → Int32) × (Nat → Int32)) t9 => gv_W D (va_A [(h0, .inr (6, [.int th, .int (nI mo), .ref r2, .int st, .int pe, .ref r5, .ref r6, .ref r7, .int (nI nc), .int (nI bn), .ref r10, .ref r11, .ref r12, .ref r13, .int (nI ln), .ref r15, .ref r16, .ref r17, .ref r18, .int (nI ac)])), (r10, .inl (cI, 24, .inl (fun j => nI (sa j)))), (r11, .inl (cI, 24, .inl (fun j => nI (sb j)))), (r12, .inl (cI, 24, .inl sr)), (r13, .inl (cI, 24, .inl (fun j => nI (su j)))), (r15, .inl (cI, 10, .inl dd)), (r16, .inl (cI, 10, .inl hh))] sz) (match u9 with | (d9, h9) => [(h0, .inr (6, [.int (gv_01 (vp_in p0 bn)), .int (nI mo), .ref r2, .int st, .int pe, .ref r5, .ref r6, .ref r7, .int (nI nc), .int (nI bn), .ref r10, .ref r11, .ref r12, .ref r13, .int (nI ln), .ref r15, .ref r16, .ref r17, .ref r18, .int (nI ac)])), (r10, .inl (cI, 24, .inl (fun j => nI (sa j)))), (r11, .inl (cI, 24, .inl (fun j => nI (sb j)))), (r12, .inl (cI, 24, .inl sr)), (r13, .inl (cI, 24, .inl (fun j => nI (su j)))), (r15, .inl (cI, 10, .inl d9)), (r16, .inl (cI, 10, .inl h9))]) t9) (va_A [(h0, .inr (6, [.int th, .int (nI mo), .ref r2, .int st, .int pe, .ref r5, .ref r6, .ref r7, .int (nI nc), .int (nI bn), .ref r10, .ref r11, .ref r12, .ref r13, .int (nI ln), .ref r15, .ref r16, .ref r17, .ref r18, .int (nI ac)])), (r10, .inl (cI, 24, .inl (fun j => nI (sa j)))), (r11, .inl (cI, 24, .inl (fun j => nI (sb j)))), (r12, .inl (cI, 24, .inl sr)), (r13, .inl (cI, 24, .inl (fun j => nI (su j)))), (r15, .inl (cI, 10, .inl dd)), (r16, .inl (cI, 10, .inl hh))] sz)) 0 0 (va_A [(h0, .inr (6, [.int th, .int (nI mo), .ref r2, .int st, .int pe, .ref r5, .ref r6, .ref r7, .int (nI nc), .int (nI bn), .ref r10, .ref r11, .ref r12, .ref r13, .int (nI ln), .ref r15, .ref r16, .ref r17, .ref r18, .int (nI ac)])), (r10, .inl (cI, 24, .inl (fun j => nI (sa j)))), (r11, .inl (cI, 24, .inl (fun j => nI (sb j)))), (r12, .inl (cI, 24, .inl sr)), (r13, .inl (cI, 24, .inl (fun j => nI (su j)))), (r15, .inl (cI, 10, .inl dd)), (r16, .inl (cI, 10, .inl hh))] sz) := by
  refine Met.ofW (cc := cX6_doubtAnew) (maxL := 2) (ret := (some .int)) (by decide) rfl ?_
  intro p e s m args below meth c s₁ B hml hv
  obtain ⟨rfl, hsz, hP, hK, hD0, hG⟩ := hv
  have hx := B.exec
  have hb := B.bytes
  have hr := B.returns
  have hts := atoms_spec (ws := wsX6_doubtAnew) B.pre
  have hown : s.vm.findClass RX6 = some m.cls := findClass_of_methodNamed B.named
  have hlocks := B.notSynchronized
  subst hsz
  have hD := hD0.self (sz := s.heap.size)
  generalize hAe : va_A [(h0, .inr (6, [.int th, .int (nI mo), .ref r2, .int st, .int pe, .ref r5, .ref r6, .ref r7, .int (nI nc), .int (nI bn), .ref r10, .ref r11, .ref r12, .ref r13, .int (nI ln), .ref r15, .ref r16, .ref r17, .ref r18, .int (nI ac)])), (r10, .inl (cI, 24, .inl (fun j => nI (sa j)))), (r11, .inl (cI, 24, .inl (fun j => nI (sb j)))), (r12, .inl (cI, 24, .inl sr)), (r13, .inl (cI, 24, .inl (fun j => nI (su j)))), (r15, .inl (cI, 10, .inl dd)), (r16, .inl (cI, 10, .inl hh))] s.heap.size = A at hD ⊢
  have hA : ∀ q : Nat, s.heap.size ≤ q → A q := fun q h => by rw [← hAe]; exact Or.inr h
  have hS : va_S A s.heap s.heap [] := va_S.rf
  have hP : va_P D vwCl [(h0, .inr (6, [.int th, .int (nI mo), .ref r2, .int st, .int pe, .ref r5, .ref r6, .ref r7, .int (nI nc), .int (nI bn), .ref r10, .ref r11, .ref r12, .ref r13, .int (nI ln), .ref r15, .ref r16, .ref r17, .ref r18, .int (nI ac)])), (r10, .inl (cI, 24, .inl (fun j => nI (sa j)))), (r11, .inl (cI, 24, .inl (fun j => nI (sb j)))), (r12, .inl (cI, 24, .inl sr)), (r13, .inl (cI, 24, .inl (fun j => nI (su j)))), (r15, .inl (cI, 10, .inl dd)), (r16, .inl (cI, 10, .inl hh))] s.heap := hP
  have hl := lv_entry ([.ref h0, .int p0]) (n := 2) (Nat.le_of_ble_eq_true rfl)
  rw [lg_entry_eq]
  generalize (lg_sl ([.ref h0, .int p0]) ++ List.replicate (2 - (lg_sl ([.ref h0, .int p0])).length) Slot.unset).toArray = ls at hl ⊢
  have hl : lv_has ls 2 [(0, .ref h0), (1, .int p0)] := hl
  refine lv_aload_n hx hb dX6_doubtAnew_0 rfl (lv_at hl 0 rfl) ?_
  refine lv_aload_n hx hb dX6_doubtAnew_1 rfl (lv_at hl 0 rfl) ?_
  refine lv_iload_n hx hb dX6_doubtAnew_2 rfl (lv_at hl 1 rfl) ?_
  refine gv_pi (va_runV (As := [.int p0]) (rest := [.ref h0]) ⟨hx, hb, hml, hown, hts⟩ (ct_X6_isBenchmark l D cI cJ s.heap.size h0 r2 r5 r6 r7 r10 r11 r12 r13 r15 r16 r17 r18 th st pe mo nc bn ln ac p0 (by omega)) (cwV 1 hts gX6_doubtAnew_X6_isBenchmark rfl rfl rfl (by decide +kernel) ⟨Nat.le_of_ble_eq_true rfl, Nat.le_of_ble_eq_true rfl⟩) (gv_pV (wc := [(h0, .inr (6, [.int th, .int (nI mo), .ref r2, .int st, .int pe, .ref r5, .ref r6, .ref r7, .int (nI nc), .int (nI bn), .ref r10, .ref r11, .ref r12, .ref r13, .int (nI ln), .ref r15, .ref r16, .ref r17, .ref r18, .int (nI ac)]))]) hP hK hD hG [0] rfl (by decide) 0 rfl rfl rfl) rfl rfl hl.1 rfl (lv_room (Nat.le_of_ble_eq_true rfl)) dX6_doubtAnew_3 ⟨Nat.le_of_ble_eq_true rfl, Nat.le_of_ble_eq_true rfl⟩) (fun q1 h1 => ?_)
  refine gv_mg (fun v : Int32 => v = gv_01 (vp_in p0 bn)) 14 [.ref h0] (fun tv hv_tv => ?_) (fun K_1 => ?_)
  · skip
    subst hv_tv
    refine gv_mi (wc := [(h0, .inr (6, [.int th, .int (nI mo), .ref r2, .int st, .int pe, .ref r5, .ref r6, .ref r7, .int (nI nc), .int (nI bn), .ref r10, .ref r11, .ref r12, .ref r13, .int (nI ln), .ref r15, .ref r16, .ref r17, .ref r18, .int (nI ac)]))]) (wr := [(r10, .inl (cI, 24, .inl (fun j => nI (sa j)))), (r11, .inl (cI, 24, .inl (fun j => nI (sb j)))), (r12, .inl (cI, 24, .inl sr)), (r13, .inl (cI, 24, .inl (fun j => nI (su j)))), (r15, .inl (cI, 10, .inl dd)), (r16, .inl (cI, 10, .inl hh))]) (w2 := (fun u => [(h0, .inr (6, [.int (gv_01 (vp_in p0 bn)), .int (nI mo), .ref r2, .int st, .int pe, .ref r5, .ref r6, .ref r7, .int (nI nc), .int (nI bn), .ref r10, .ref r11, .ref r12, .ref r13, .int (nI ln), .ref r15, .ref r16, .ref r17, .ref r18, .int (nI ac)])), (r10, .inl (cI, 24, .inl (fun j => nI (sa j)))), (r11, .inl (cI, 24, .inl (fun j => nI (sb j)))), (r12, .inl (cI, 24, .inl sr)), (r13, .inl (cI, 24, .inl (fun j => nI (su j)))), (r15, .inl (cI, 10, .inl dd)), (r16, .inl (cI, 10, .inl hh))])) (va_runV (As := [.int (gv_01 (vp_in p0 bn))]) (rest := []) ⟨hx, hb, hml, hown, hts⟩ (ct_X6_holds l D cI cJ s.heap.size h0 r2 r5 r6 r7 r10 r11 r12 r13 r15 r16 r17 r18 th st pe mo nc bn ln ac (gv_01 (vp_in p0 bn))) (cwV 1 hts gX6_doubtAnew_X6_holds rfl rfl rfl (by decide +kernel) ⟨Nat.le_of_ble_eq_true rfl, Nat.le_of_ble_eq_true rfl⟩) (gv_pV (wc := [(h0, .inr (6, [.int th, .int (nI mo), .ref r2, .int st, .int pe, .ref r5, .ref r6, .ref r7, .int (nI nc), .int (nI bn), .ref r10, .ref r11, .ref r12, .ref r13, .int (nI ln), .ref r15, .ref r16, .ref r17, .ref r18, .int (nI ac)]))]) hP hK hD hG [0] rfl (by decide) 0 rfl rfl rfl) rfl rfl hl.1 rfl (lv_room (Nat.le_of_ble_eq_true rfl)) dX6_doubtAnew_14 ⟨Nat.le_of_ble_eq_true rfl, Nat.le_of_ble_eq_true rfl⟩) hP hD hS hA [0] [1, 2, 3, 4, 5, 6] [6, 0, 1, 2, 3, 4, 5] rfl rfl (by decide) (by decide) (fun u => rfl) (by decide) (fun rh u H locs hrh hP hD hS => ?_)
    have hP : va_P D vwCl [(h0, .inr (6, [.int (gv_01 (vp_in p0 bn)), .int (nI mo), .ref r2, .int st, .int pe, .ref r5, .ref r6, .ref r7, .int (nI nc), .int (nI bn), .ref r10, .ref r11, .ref r12, .ref r13, .int (nI ln), .ref r15, .ref r16, .ref r17, .ref r18, .int (nI ac)])), (r10, .inl (cI, 24, .inl (fun j => nI (sa j)))), (r11, .inl (cI, 24, .inl (fun j => nI (sb j)))), (r12, .inl (cI, 24, .inl sr)), (r13, .inl (cI, 24, .inl (fun j => nI (su j)))), (r15, .inl (cI, 10, .inl dd)), (r16, .inl (cI, 10, .inl hh))] H := hP
    have hD : va_D A [(h0, .inr (6, [.int (gv_01 (vp_in p0 bn)), .int (nI mo), .ref r2, .int st, .int pe, .ref r5, .ref r6, .ref r7, .int (nI nc), .int (nI bn), .ref r10, .ref r11, .ref r12, .ref r13, .int (nI ln), .ref r15, .ref r16, .ref r17, .ref r18, .int (nI ac)])), (r10, .inl (cI, 24, .inl (fun j => nI (sa j)))), (r11, .inl (cI, 24, .inl (fun j => nI (sb j)))), (r12, .inl (cI, 24, .inl sr)), (r13, .inl (cI, 24, .inl (fun j => nI (su j)))), (r15, .inl (cI, 10, .inl dd)), (r16, .inl (cI, 10, .inl hh))] := hD
    refine lv_if_eq (tgt := 28) hx hb dX6_doubtAnew_17 (by decide) (fun c_17 => ?_) (fun c_17 => ?_)
    · skip
      have hno := gv_if0 hrh c_17
      refine lv_iconst (v := nI 0) hx hb dX6_doubtAnew_28 (by decide) ?_
      have hpo : match (dd, hh) with | (d9, h9) => ∀ i, i < bn → p0 = nI i → (nI 0) = (gv_itr sa sb su sr ln (bn - 1) (gv_ko dd, gv_hz hh)).1 i := by
        first
          | exact fun i hi ei => absurd (gv_01t (by rw [ei]; exact vp_in_nI hi (by omega))).symm hno
          | (intro i2 hi2 ei2; cases gv_inj (ei2.symm.trans ei) (by omega) (by omega); exact hrc)
      have hP9 : va_P D vwCl [(h0, .inr (6, [.int (gv_01 (vp_in p0 bn)), .int (nI mo), .ref r2, .int st, .int pe, .ref r5, .ref r6, .ref r7, .int (nI nc), .int (nI bn), .ref r10, .ref r11, .ref r12, .ref r13, .int (nI ln), .ref r15, .ref r16, .ref r17, .ref r18, .int (nI ac)])), (r10, .inl (cI, 24, .inl (fun j => nI (sa j)))), (r11, .inl (cI, 24, .inl (fun j => nI (sb j)))), (r12, .inl (cI, 24, .inl sr)), (r13, .inl (cI, 24, .inl (fun j => nI (su j)))), (r15, .inl (cI, 10, .inl dd)), (r16, .inl (cI, 10, .inl hh))] H := hP
      have hD9 : va_D A [(h0, .inr (6, [.int (gv_01 (vp_in p0 bn)), .int (nI mo), .ref r2, .int st, .int pe, .ref r5, .ref r6, .ref r7, .int (nI nc), .int (nI bn), .ref r10, .ref r11, .ref r12, .ref r13, .int (nI ln), .ref r15, .ref r16, .ref r17, .ref r18, .int (nI ac)])), (r10, .inl (cI, 24, .inl (fun j => nI (sa j)))), (r11, .inl (cI, 24, .inl (fun j => nI (sb j)))), (r12, .inl (cI, 24, .inl sr)), (r13, .inl (cI, 24, .inl (fun j => nI (su j)))), (r15, .inl (cI, 10, .inl dd)), (r16, .inl (cI, 10, .inl hh))] := hD
      exact W.iret (v := nI 0) hx hb hr (fun t9 ht9 hW9 => ⟨⟨(nI 0), (dd, hh), rfl, hpo, by rw [ht9]; exact hP9, hD9⟩, hS.F ht9⟩) hS.2.2 dX6_doubtAnew_29
    · skip
      have hok := gv_01z (gv_if1 hrh c_17)
      obtain ⟨i, hi, ei⟩ := vp_in_of hok (by omega)
      rw [ei] at hl
      have hl : lv_has ls 2 [(0, .ref h0), (1, .int (nI i))] := hl
      refine lv_aload_n hx hb dX6_doubtAnew_20 rfl (lv_at hl 0 rfl) ?_
      refine lv_iload_n hx hb dX6_doubtAnew_21 rfl (lv_at hl 1 rfl) ?_
      refine gv_mi (wc := [(h0, .inr (6, [.int (gv_01 (vp_in p0 bn)), .int (nI mo), .ref r2, .int st, .int pe, .ref r5, .ref r6, .ref r7, .int (nI nc), .int (nI bn), .ref r10, .ref r11, .ref r12, .ref r13, .int (nI ln), .ref r15, .ref r16, .ref r17, .ref r18, .int (nI ac)])), (r10, .inl (cI, 24, .inl (fun j => nI (sa j)))), (r11, .inl (cI, 24, .inl (fun j => nI (sb j)))), (r12, .inl (cI, 24, .inl sr)), (r13, .inl (cI, 24, .inl (fun j => nI (su j)))), (r15, .inl (cI, 10, .inl dd)), (r16, .inl (cI, 10, .inl hh))]) (wr := []) (w2 := (fun u => [(h0, .inr (6, [.int (gv_01 (vp_in p0 bn)), .int (nI mo), .ref r2, .int st, .int pe, .ref r5, .ref r6, .ref r7, .int (nI nc), .int (nI bn), .ref r10, .ref r11, .ref r12, .ref r13, .int (nI ln), .ref r15, .ref r16, .ref r17, .ref r18, .int (nI ac)])), (r10, .inl (cI, 24, .inl (fun j => nI (sa j)))), (r11, .inl (cI, 24, .inl (fun j => nI (sb j)))), (r12, .inl (cI, 24, .inl sr)), (r13, .inl (cI, 24, .inl (fun j => nI (su j)))), (r15, .inl (cI, 10, .inl ((gv_itr sa sb su sr ln (bn - 1) (gv_ko dd, gv_hz hh)).1))), (r16, .inl (cI, 10, .inl ((gv_itr sa sb su sr ln (bn - 1) (gv_ko dd, gv_hz hh)).2)))])) (va_runV (As := [.int (nI i)]) (rest := []) ⟨hx, hb, hml, hown, hts⟩ (ct_X6_doubtOf l D cI cJ H.size h0 r2 r5 r6 r7 r10 r11 r12 r13 r15 r16 r17 r18 (gv_01 (vp_in p0 bn)) st pe mo nc bn ln ac sa sb su sr dd hh i hsa hsb hsu hlb hln hbn (by omega)) (cwV 1 hts gX6_doubtAnew_X6_doubtOf rfl rfl rfl (by decide +kernel) ⟨Nat.le_of_ble_eq_true rfl, Nat.le_of_ble_eq_true rfl⟩) (gv_pV (wc := [(h0, .inr (6, [.int (gv_01 (vp_in p0 bn)), .int (nI mo), .ref r2, .int st, .int pe, .ref r5, .ref r6, .ref r7, .int (nI nc), .int (nI bn), .ref r10, .ref r11, .ref r12, .ref r13, .int (nI ln), .ref r15, .ref r16, .ref r17, .ref r18, .int (nI ac)])), (r10, .inl (cI, 24, .inl (fun j => nI (sa j)))), (r11, .inl (cI, 24, .inl (fun j => nI (sb j)))), (r12, .inl (cI, 24, .inl sr)), (r13, .inl (cI, 24, .inl (fun j => nI (su j)))), (r15, .inl (cI, 10, .inl dd)), (r16, .inl (cI, 10, .inl hh))]) hP hK hD hG [0, 1, 2, 3, 4, 5, 6] rfl (by decide) 0 rfl rfl rfl) rfl rfl hl.1 rfl (lv_room (Nat.le_of_ble_eq_true rfl)) dX6_doubtAnew_22 ⟨Nat.le_of_ble_eq_true rfl, Nat.le_of_ble_eq_true rfl⟩) hP hD hS hA [0, 1, 2, 3, 4, 5, 6] [] [0, 1, 2, 3, 4, 5, 6] rfl rfl (by decide) (by decide) (fun u => rfl) (by decide) (fun rc u H locs hrc hP hD hS => ?_)
      have hP : va_P D vwCl [(h0, .inr (6, [.int (gv_01 (vp_in p0 bn)), .int (nI mo), .ref r2, .int st, .int pe, .ref r5, .ref r6, .ref r7, .int (nI nc), .int (nI bn), .ref r10, .ref r11, .ref r12, .ref r13, .int (nI ln), .ref r15, .ref r16, .ref r17, .ref r18, .int (nI ac)])), (r10, .inl (cI, 24, .inl (fun j => nI (sa j)))), (r11, .inl (cI, 24, .inl (fun j => nI (sb j)))), (r12, .inl (cI, 24, .inl sr)), (r13, .inl (cI, 24, .inl (fun j => nI (su j)))), (r15, .inl (cI, 10, .inl ((gv_itr sa sb su sr ln (bn - 1) (gv_ko dd, gv_hz hh)).1))), (r16, .inl (cI, 10, .inl ((gv_itr sa sb su sr ln (bn - 1) (gv_ko dd, gv_hz hh)).2)))] H := hP
      have hD : va_D A [(h0, .inr (6, [.int (gv_01 (vp_in p0 bn)), .int (nI mo), .ref r2, .int st, .int pe, .ref r5, .ref r6, .ref r7, .int (nI nc), .int (nI bn), .ref r10, .ref r11, .ref r12, .ref r13, .int (nI ln), .ref r15, .ref r16, .ref r17, .ref r18, .int (nI ac)])), (r10, .inl (cI, 24, .inl (fun j => nI (sa j)))), (r11, .inl (cI, 24, .inl (fun j => nI (sb j)))), (r12, .inl (cI, 24, .inl sr)), (r13, .inl (cI, 24, .inl (fun j => nI (su j)))), (r15, .inl (cI, 10, .inl ((gv_itr sa sb su sr ln (bn - 1) (gv_ko dd, gv_hz hh)).1))), (r16, .inl (cI, 10, .inl ((gv_itr sa sb su sr ln (bn - 1) (gv_ko dd, gv_hz hh)).2)))] := hD
      refine lv_goto (tgt := 29) hx hb dX6_doubtAnew_25 (by decide) ?_
      have hpo : match ((gv_itr sa sb su sr ln (bn - 1) (gv_ko dd, gv_hz hh)).1, (gv_itr sa sb su sr ln (bn - 1) (gv_ko dd, gv_hz hh)).2) with | (d9, h9) => ∀ i, i < bn → p0 = nI i → rc = (gv_itr sa sb su sr ln (bn - 1) (gv_ko dd, gv_hz hh)).1 i := by
        first
          | exact fun i hi ei => absurd (gv_01t (by rw [ei]; exact vp_in_nI hi (by omega))).symm hno
          | (intro i2 hi2 ei2; cases gv_inj (ei2.symm.trans ei) (by omega) (by omega); exact hrc)
      have hP9 : va_P D vwCl [(h0, .inr (6, [.int (gv_01 (vp_in p0 bn)), .int (nI mo), .ref r2, .int st, .int pe, .ref r5, .ref r6, .ref r7, .int (nI nc), .int (nI bn), .ref r10, .ref r11, .ref r12, .ref r13, .int (nI ln), .ref r15, .ref r16, .ref r17, .ref r18, .int (nI ac)])), (r10, .inl (cI, 24, .inl (fun j => nI (sa j)))), (r11, .inl (cI, 24, .inl (fun j => nI (sb j)))), (r12, .inl (cI, 24, .inl sr)), (r13, .inl (cI, 24, .inl (fun j => nI (su j)))), (r15, .inl (cI, 10, .inl ((gv_itr sa sb su sr ln (bn - 1) (gv_ko dd, gv_hz hh)).1))), (r16, .inl (cI, 10, .inl ((gv_itr sa sb su sr ln (bn - 1) (gv_ko dd, gv_hz hh)).2)))] H := hP
      have hD9 : va_D A [(h0, .inr (6, [.int (gv_01 (vp_in p0 bn)), .int (nI mo), .ref r2, .int st, .int pe, .ref r5, .ref r6, .ref r7, .int (nI nc), .int (nI bn), .ref r10, .ref r11, .ref r12, .ref r13, .int (nI ln), .ref r15, .ref r16, .ref r17, .ref r18, .int (nI ac)])), (r10, .inl (cI, 24, .inl (fun j => nI (sa j)))), (r11, .inl (cI, 24, .inl (fun j => nI (sb j)))), (r12, .inl (cI, 24, .inl sr)), (r13, .inl (cI, 24, .inl (fun j => nI (su j)))), (r15, .inl (cI, 10, .inl ((gv_itr sa sb su sr ln (bn - 1) (gv_ko dd, gv_hz hh)).1))), (r16, .inl (cI, 10, .inl ((gv_itr sa sb su sr ln (bn - 1) (gv_ko dd, gv_hz hh)).2)))] := hD
      exact W.iret (v := rc) hx hb hr (fun t9 ht9 hW9 => ⟨⟨rc, ((gv_itr sa sb su sr ln (bn - 1) (gv_ko dd, gv_hz hh)).1, (gv_itr sa sb su sr ln (bn - 1) (gv_ko dd, gv_hz hh)).2), rfl, hpo, by rw [ht9]; exact hP9, hD9⟩, hS.F ht9⟩) hS.2.2 dX6_doubtAnew_29
  · skip
    refine lv_if_eq (tgt := 13) hx hb dX6_doubtAnew_6 (by decide) (fun c_6 => ?_) (fun c_6 => ?_)
    · skip
      refine lv_iconst (v := nI 1) hx hb dX6_doubtAnew_13 (by decide) ?_
      exact K_1 _ (by first | exact gv_01t (gv_if1 h1 c_6) | exact gv_01f (gv_if0 h1 c_6))
    · skip
      refine lv_iconst (v := nI 0) hx hb dX6_doubtAnew_9 (by decide) ?_
      refine lv_goto (tgt := 14) hx hb dX6_doubtAnew_10 (by decide) ?_
      exact K_1 _ (by first | exact gv_01t (gv_if1 h1 c_6) | exact gv_01f (gv_if0 h1 c_6))
set_option maxHeartbeats 4000000 in
set_option maxRecDepth 100000 in
theorem ct_X6_conflicts (l : Launch) (D : va_G) (cI cJ : ClassId) (sz : Nat) (h0 r2 r5 r6 r7 r10 r11 r12 r13 r15 r16 r17 r18 : Nat) (th st pe : Int32) (mo nc bn ln ac : Nat) (sa sb su : Nat → Nat) (sr dd hh : Nat → Int32) (k : Nat) (hsa : ∀ j, sa j < 10) (hsb : ∀ j, sb j < 10) (hsu : ∀ j, su j ≤ 1000) (hlb : ∀ k, k < ln → sa k < bn ∧ sb k < bn) (hln : ln ≤ 24) (hbn : bn ≤ 10) (hk : k < 24) : Met l yX6_conflicts wsX6_conflicts ({ frames := 4, cells := 0, slots := 0, locals := 90 }) (va_Pc [.ref h0, .int (nI k)] (gv_B D cI cJ [(h0, .inr (6, [.int th, .int (nI mo), .ref r2, .int st, .int pe, .ref r5, .ref r6, .ref r7, .int (nI nc), .int (nI bn), .ref r10, .ref r11, .ref r12, .ref r13, .int (nI ln), .ref r15, .ref r16, .ref r17, .ref r18, .int (nI ac)])), (r10, .inl (cI, 24, .inl (fun j => nI (sa j)))), (r11, .inl (cI, 24, .inl (fun j => nI (sb j)))), (r12, .inl (cI, 24, .inl sr)), (r13, .inl (cI, 24, .inl (fun j => nI (su j)))), (r15, .inl (cI, 10, .inl dd)), (r16, .inl (cI, 10, .inl hh))] sz)) (va_Qi (fun (r9 : Int32) (u9 : Unit) => r9 = gv_10 (gv_con sa sb su sr (gv_itr sa sb su sr ln (bn - 1) (gv_ko dd, gv_hz hh)).1 (gv_itr sa sb su sr ln (bn - 1) (gv_ko dd, gv_hz hh)).2 k)) (fun (u9 : Unit) t9 => gv_W D (va_A [(h0, .inr (6, [.int th, .int (nI mo), .ref r2, .int st, .int pe, .ref r5, .ref r6, .ref r7, .int (nI nc), .int (nI bn), .ref r10, .ref r11, .ref r12, .ref r13, .int (nI ln), .ref r15, .ref r16, .ref r17, .ref r18, .int (nI ac)])), (r10, .inl (cI, 24, .inl (fun j => nI (sa j)))), (r11, .inl (cI, 24, .inl (fun j => nI (sb j)))), (r12, .inl (cI, 24, .inl sr)), (r13, .inl (cI, 24, .inl (fun j => nI (su j)))), (r15, .inl (cI, 10, .inl dd)), (r16, .inl (cI, 10, .inl hh))] sz) [(h0, .inr (6, [.int th, .int (nI mo), .ref r2, .int st, .int pe, .ref r5, .ref r6, .ref r7, .int (nI nc), .int (nI bn), .ref r10, .ref r11, .ref r12, .ref r13, .int (nI ln), .ref r15, .ref r16, .ref r17, .ref r18, .int (nI ac)])), (r10, .inl (cI, 24, .inl (fun j => nI (sa j)))), (r11, .inl (cI, 24, .inl (fun j => nI (sb j)))), (r12, .inl (cI, 24, .inl sr)), (r13, .inl (cI, 24, .inl (fun j => nI (su j)))), (r15, .inl (cI, 10, .inl ((gv_itr sa sb su sr ln (bn - 1) (gv_ko dd, gv_hz hh)).1))), (r16, .inl (cI, 10, .inl ((gv_itr sa sb su sr ln (bn - 1) (gv_ko dd, gv_hz hh)).2)))] t9) (va_A [(h0, .inr (6, [.int th, .int (nI mo), .ref r2, .int st, .int pe, .ref r5, .ref r6, .ref r7, .int (nI nc), .int (nI bn), .ref r10, .ref r11, .ref r12, .ref r13, .int (nI ln), .ref r15, .ref r16, .ref r17, .ref r18, .int (nI ac)])), (r10, .inl (cI, 24, .inl (fun j => nI (sa j)))), (r11, .inl (cI, 24, .inl (fun j => nI (sb j)))), (r12, .inl (cI, 24, .inl sr)), (r13, .inl (cI, 24, .inl (fun j => nI (su j)))), (r15, .inl (cI, 10, .inl dd)), (r16, .inl (cI, 10, .inl hh))] sz)) 0 0 (va_A [(h0, .inr (6, [.int th, .int (nI mo), .ref r2, .int st, .int pe, .ref r5, .ref r6, .ref r7, .int (nI nc), .int (nI bn), .ref r10, .ref r11, .ref r12, .ref r13, .int (nI ln), .ref r15, .ref r16, .ref r17, .ref r18, .int (nI ac)])), (r10, .inl (cI, 24, .inl (fun j => nI (sa j)))), (r11, .inl (cI, 24, .inl (fun j => nI (sb j)))), (r12, .inl (cI, 24, .inl sr)), (r13, .inl (cI, 24, .inl (fun j => nI (su j)))), (r15, .inl (cI, 10, .inl dd)), (r16, .inl (cI, 10, .inl hh))] sz) := by
  refine Met.ofW (cc := cX6_conflicts) (maxL := 5) (ret := (some .boolean)) (by decide) rfl ?_
  intro p e s m args below meth c s₁ B hml hv
  obtain ⟨rfl, hsz, hP, hK, hD0, hG⟩ := hv
  have hx := B.exec
  have hb := B.bytes
  have hr := B.returns
  have hts := atoms_spec (ws := wsX6_conflicts) B.pre
  have hown : s.vm.findClass RX6 = some m.cls := findClass_of_methodNamed B.named
  have hlocks := B.notSynchronized
  subst hsz
  have hD := hD0.self (sz := s.heap.size)
  generalize hAe : va_A [(h0, .inr (6, [.int th, .int (nI mo), .ref r2, .int st, .int pe, .ref r5, .ref r6, .ref r7, .int (nI nc), .int (nI bn), .ref r10, .ref r11, .ref r12, .ref r13, .int (nI ln), .ref r15, .ref r16, .ref r17, .ref r18, .int (nI ac)])), (r10, .inl (cI, 24, .inl (fun j => nI (sa j)))), (r11, .inl (cI, 24, .inl (fun j => nI (sb j)))), (r12, .inl (cI, 24, .inl sr)), (r13, .inl (cI, 24, .inl (fun j => nI (su j)))), (r15, .inl (cI, 10, .inl dd)), (r16, .inl (cI, 10, .inl hh))] s.heap.size = A at hD ⊢
  have hA : ∀ q : Nat, s.heap.size ≤ q → A q := fun q h => by rw [← hAe]; exact Or.inr h
  have hS : va_S A s.heap s.heap [] := va_S.rf
  have hP : va_P D vwCl [(h0, .inr (6, [.int th, .int (nI mo), .ref r2, .int st, .int pe, .ref r5, .ref r6, .ref r7, .int (nI nc), .int (nI bn), .ref r10, .ref r11, .ref r12, .ref r13, .int (nI ln), .ref r15, .ref r16, .ref r17, .ref r18, .int (nI ac)])), (r10, .inl (cI, 24, .inl (fun j => nI (sa j)))), (r11, .inl (cI, 24, .inl (fun j => nI (sb j)))), (r12, .inl (cI, 24, .inl sr)), (r13, .inl (cI, 24, .inl (fun j => nI (su j)))), (r15, .inl (cI, 10, .inl dd)), (r16, .inl (cI, 10, .inl hh))] s.heap := hP
  have hl := lv_entry ([.ref h0, .int (nI k)]) (n := 5) (Nat.le_of_ble_eq_true rfl)
  rw [lg_entry_eq]
  generalize (lg_sl ([.ref h0, .int (nI k)]) ++ List.replicate (5 - (lg_sl ([.ref h0, .int (nI k)])).length) Slot.unset).toArray = ls at hl ⊢
  have hl : lv_has ls 5 [(0, .ref h0), (1, .int (nI k))] := hl
  refine lv_aload_n hx hb dX6_conflicts_0 rfl (lv_at hl 0 rfl) ?_
  refine gv_mv (wc := [(h0, .inr (6, [.int th, .int (nI mo), .ref r2, .int st, .int pe, .ref r5, .ref r6, .ref r7, .int (nI nc), .int (nI bn), .ref r10, .ref r11, .ref r12, .ref r13, .int (nI ln), .ref r15, .ref r16, .ref r17, .ref r18, .int (nI ac)])), (r10, .inl (cI, 24, .inl (fun j => nI (sa j)))), (r11, .inl (cI, 24, .inl (fun j => nI (sb j)))), (r12, .inl (cI, 24, .inl sr)), (r13, .inl (cI, 24, .inl (fun j => nI (su j)))), (r15, .inl (cI, 10, .inl dd)), (r16, .inl (cI, 10, .inl hh))]) (wr := []) (w2 := (fun u => [(h0, .inr (6, [.int th, .int (nI mo), .ref r2, .int st, .int pe, .ref r5, .ref r6, .ref r7, .int (nI nc), .int (nI bn), .ref r10, .ref r11, .ref r12, .ref r13, .int (nI ln), .ref r15, .ref r16, .ref r17, .ref r18, .int (nI ac)])), (r10, .inl (cI, 24, .inl (fun j => nI (sa j)))), (r11, .inl (cI, 24, .inl (fun j => nI (sb j)))), (r12, .inl (cI, 24, .inl sr)), (r13, .inl (cI, 24, .inl (fun j => nI (su j)))), (r15, .inl (cI, 10, .inl ((gv_itr sa sb su sr ln (bn - 1) (gv_ko dd, gv_hz hh)).1))), (r16, .inl (cI, 10, .inl ((gv_itr sa sb su sr ln (bn - 1) (gv_ko dd, gv_hz hh)).2)))])) (va_runV (As := []) (rest := []) ⟨hx, hb, hml, hown, hts⟩ (ct_X6_findsAll l D cI cJ s.heap.size h0 r2 r5 r6 r7 r10 r11 r12 r13 r15 r16 r17 r18 th st pe mo nc bn ln ac sa sb su sr dd hh hsa hsb hsu hlb hln hbn) (cwV 0 hts gX6_conflicts_X6_findsAll rfl rfl rfl (by decide +kernel) ⟨Nat.le_of_ble_eq_true rfl, Nat.le_of_ble_eq_true rfl⟩) (gv_pV (wc := [(h0, .inr (6, [.int th, .int (nI mo), .ref r2, .int st, .int pe, .ref r5, .ref r6, .ref r7, .int (nI nc), .int (nI bn), .ref r10, .ref r11, .ref r12, .ref r13, .int (nI ln), .ref r15, .ref r16, .ref r17, .ref r18, .int (nI ac)])), (r10, .inl (cI, 24, .inl (fun j => nI (sa j)))), (r11, .inl (cI, 24, .inl (fun j => nI (sb j)))), (r12, .inl (cI, 24, .inl sr)), (r13, .inl (cI, 24, .inl (fun j => nI (su j)))), (r15, .inl (cI, 10, .inl dd)), (r16, .inl (cI, 10, .inl hh))]) hP hK hD hG [0, 1, 2, 3, 4, 5, 6] rfl (by decide) 0 rfl rfl rfl) rfl rfl hl.1 rfl (lv_room (Nat.le_of_ble_eq_true rfl)) dX6_conflicts_1 ⟨Nat.le_of_ble_eq_true rfl, Nat.le_of_ble_eq_true rfl⟩) hP hD hS hA [0, 1, 2, 3, 4, 5, 6] [] [0, 1, 2, 3, 4, 5, 6] rfl rfl (by decide) (by decide) (fun u => rfl) (by decide) (fun u H locs hr_2 hP hD hS => ?_)
  have hP : va_P D vwCl [(h0, .inr (6, [.int th, .int (nI mo), .ref r2, .int st, .int pe, .ref r5, .ref r6, .ref r7, .int (nI nc), .int (nI bn), .ref r10, .ref r11, .ref r12, .ref r13, .int (nI ln), .ref r15, .ref r16, .ref r17, .ref r18, .int (nI ac)])), (r10, .inl (cI, 24, .inl (fun j => nI (sa j)))), (r11, .inl (cI, 24, .inl (fun j => nI (sb j)))), (r12, .inl (cI, 24, .inl sr)), (r13, .inl (cI, 24, .inl (fun j => nI (su j)))), (r15, .inl (cI, 10, .inl ((gv_itr sa sb su sr ln (bn - 1) (gv_ko dd, gv_hz hh)).1))), (r16, .inl (cI, 10, .inl ((gv_itr sa sb su sr ln (bn - 1) (gv_ko dd, gv_hz hh)).2)))] H := hP
  have hD : va_D A [(h0, .inr (6, [.int th, .int (nI mo), .ref r2, .int st, .int pe, .ref r5, .ref r6, .ref r7, .int (nI nc), .int (nI bn), .ref r10, .ref r11, .ref r12, .ref r13, .int (nI ln), .ref r15, .ref r16, .ref r17, .ref r18, .int (nI ac)])), (r10, .inl (cI, 24, .inl (fun j => nI (sa j)))), (r11, .inl (cI, 24, .inl (fun j => nI (sb j)))), (r12, .inl (cI, 24, .inl sr)), (r13, .inl (cI, 24, .inl (fun j => nI (su j)))), (r15, .inl (cI, 10, .inl ((gv_itr sa sb su sr ln (bn - 1) (gv_ko dd, gv_hz hh)).1))), (r16, .inl (cI, 10, .inl ((gv_itr sa sb su sr ln (bn - 1) (gv_ko dd, gv_hz hh)).2)))] := hD
  refine lv_aload_n hx hb dX6_conflicts_4 rfl (lv_at hl 0 rfl) ?_
  refine va_get (D := D) (ci := 6) (v := .ref r10) (C := RX6) (T := TX6) (N := 20) hx hb hts gv_in_X6_conflicts_X6 hown hK hP 0 rfl rfl 10 (by decide) (hts (.fieldLink RX6 27 "GravimereModel" "from" "[I") (by decide +kernel)) (fun _ h9 => h9) rfl dX6_conflicts_5 ?_
  refine lv_iload_n hx hb dX6_conflicts_8 rfl (lv_at hl 1 rfl) ?_
  refine gv_il hx hb hK hP 1 (k := k) rfl (by first | exact hsa _ | exact hsb _ | omega) (by decide) dX6_conflicts_9 ?_
  refine gv_wi (rfl) ?_
  refine lv_istore_n (lv' := [(2, .int (nI (sa k))), (0, .ref h0), (1, .int (nI k))]) hx hb dX6_conflicts_10 rfl hl (by decide) rfl (fun ls hl => ?_)
  refine lv_aload_n hx hb dX6_conflicts_11 rfl (lv_at hl 1 rfl) ?_
  refine va_get (D := D) (ci := 6) (v := .ref r11) (C := RX6) (T := TX6) (N := 20) hx hb hts gv_in_X6_conflicts_X6 hown hK hP 0 rfl rfl 11 (by decide) (hts (.fieldLink RX6 30 "GravimereModel" "to" "[I") (by decide +kernel)) (fun _ h9 => h9) rfl dX6_conflicts_12 ?_
  refine lv_iload_n hx hb dX6_conflicts_15 rfl (lv_at hl 2 rfl) ?_
  refine gv_il hx hb hK hP 2 (k := k) rfl (by first | exact hsa _ | exact hsb _ | omega) (by decide) dX6_conflicts_16 ?_
  refine gv_wi (rfl) ?_
  refine lv_istore_n (lv' := [(3, .int (nI (sb k))), (2, .int (nI (sa k))), (0, .ref h0), (1, .int (nI k))]) hx hb dX6_conflicts_17 rfl hl (by decide) rfl (fun ls hl => ?_)
  refine lv_aload_n hx hb dX6_conflicts_18 rfl (lv_at hl 2 rfl) ?_
  refine va_get (D := D) (ci := 6) (v := .ref r12) (C := RX6) (T := TX6) (N := 20) hx hb hts gv_in_X6_conflicts_X6 hown hK hP 0 rfl rfl 12 (by decide) (hts (.fieldLink RX6 33 "GravimereModel" "higher" "[I") (by decide +kernel)) (fun _ h9 => h9) rfl dX6_conflicts_19 ?_
  refine lv_iload_n hx hb dX6_conflicts_22 rfl (lv_at hl 3 rfl) ?_
  refine gv_il hx hb hK hP 3 (k := k) rfl (by first | exact hsa _ | exact hsb _ | omega) (by decide) dX6_conflicts_23 ?_
  refine lv_aload_n hx hb dX6_conflicts_24 rfl (lv_at hl 2 rfl) ?_
  refine va_get (D := D) (ci := 6) (v := .ref r16) (C := RX6) (T := TX6) (N := 20) hx hb hts gv_in_X6_conflicts_X6 hown hK hP 0 rfl rfl 16 (by decide) (hts (.fieldLink RX6 42 "GravimereModel" "heights" "[I") (by decide +kernel)) (fun _ h9 => h9) rfl dX6_conflicts_25 ?_
  refine lv_iload_n hx hb dX6_conflicts_28 rfl (lv_at hl 0 rfl) ?_
  refine gv_il hx hb hK hP 6 (k := sb k) rfl (by first | exact hsa _ | exact hsb _ | omega) (by decide) dX6_conflicts_29 ?_
  refine lv_aload_n hx hb dX6_conflicts_30 rfl (lv_at hl 2 rfl) ?_
  refine va_get (D := D) (ci := 6) (v := .ref r16) (C := RX6) (T := TX6) (N := 20) hx hb hts gv_in_X6_conflicts_X6 hown hK hP 0 rfl rfl 16 (by decide) (hts (.fieldLink RX6 42 "GravimereModel" "heights" "[I") (by decide +kernel)) (fun _ h9 => h9) rfl dX6_conflicts_31 ?_
  refine lv_iload_n hx hb dX6_conflicts_34 rfl (lv_at hl 1 rfl) ?_
  refine gv_il hx hb hK hP 6 (k := sa k) rfl (by first | exact hsa _ | exact hsb _ | omega) (by decide) dX6_conflicts_35 ?_
  refine lv_isub hx hb dX6_conflicts_36 ?_
  refine lv_isub hx hb dX6_conflicts_37 ?_
  refine lv_istore (lv' := [(4, .int ((sr k) - ((((gv_itr sa sb su sr ln (bn - 1) (gv_ko dd, gv_hz hh)).2) (sb k)) - (((gv_itr sa sb su sr ln (bn - 1) (gv_ko dd, gv_hz hh)).2) (sa k))))), (3, .int (nI (sb k))), (2, .int (nI (sa k))), (0, .ref h0), (1, .int (nI k))]) hx hb dX6_conflicts_38 hl (by decide) rfl (fun ls hl => ?_)
  refine lv_aload_n hx hb dX6_conflicts_40 rfl (lv_at hl 3 rfl) ?_
  refine lv_iload_n hx hb dX6_conflicts_41 rfl (lv_at hl 2 rfl) ?_
  refine gv_pi (va_runV (As := [.int (nI (sa k))]) (rest := []) ⟨hx, hb, hml, hown, hts⟩ (ct_X6_isFound l D cI cJ H.size h0 r2 r5 r6 r7 r10 r11 r12 r13 r15 r16 r17 r18 th st pe mo nc bn ln ac (gv_itr sa sb su sr ln (bn - 1) (gv_ko dd, gv_hz hh)).1 (sa k) (hsa k)) (cwV 1 hts gX6_conflicts_X6_isFound rfl rfl rfl (by decide +kernel) ⟨Nat.le_of_ble_eq_true rfl, Nat.le_of_ble_eq_true rfl⟩) (gv_pV (wc := [(h0, .inr (6, [.int th, .int (nI mo), .ref r2, .int st, .int pe, .ref r5, .ref r6, .ref r7, .int (nI nc), .int (nI bn), .ref r10, .ref r11, .ref r12, .ref r13, .int (nI ln), .ref r15, .ref r16, .ref r17, .ref r18, .int (nI ac)])), (r15, .inl (cI, 10, .inl ((gv_itr sa sb su sr ln (bn - 1) (gv_ko dd, gv_hz hh)).1)))]) hP hK hD hG [0, 5] rfl (by decide) 0 rfl rfl rfl) rfl rfl hl.1 rfl (lv_room (Nat.le_of_ble_eq_true rfl)) dX6_conflicts_42 ⟨Nat.le_of_ble_eq_true rfl, Nat.le_of_ble_eq_true rfl⟩) (fun q1 h1 => ?_)
  refine lv_if_eq (tgt := 96) hx hb dX6_conflicts_45 (by decide) (fun c_45 => ?_) (fun c_45 => ?_)
  · skip
    refine lv_iconst (v := nI 0) hx hb dX6_conflicts_96 (by decide) ?_
    have hpo : (nI 0) = gv_10 (gv_con sa sb su sr (gv_itr sa sb su sr ln (bn - 1) (gv_ko dd, gv_hz hh)).1 (gv_itr sa sb su sr ln (bn - 1) (gv_ko dd, gv_hz hh)).2 k) := by
      refine gv_10f (fun z => ?_)
      first
        | exact gv_if0 h1 c_45 z.1
        | exact gv_if0 h2 c_53 z.2.1
        | (have z3 := z.2.2; unfold gv_abs at z3; rw [if_pos c_58] at z3; exact gv_len32 c_89 z3)
        | (have z3 := z.2.2; unfold gv_abs at z3; rw [if_neg c_58, gv_negs] at z3; exact gv_len32 c_89 z3)
    have hP9 : va_P D vwCl [(h0, .inr (6, [.int th, .int (nI mo), .ref r2, .int st, .int pe, .ref r5, .ref r6, .ref r7, .int (nI nc), .int (nI bn), .ref r10, .ref r11, .ref r12, .ref r13, .int (nI ln), .ref r15, .ref r16, .ref r17, .ref r18, .int (nI ac)])), (r10, .inl (cI, 24, .inl (fun j => nI (sa j)))), (r11, .inl (cI, 24, .inl (fun j => nI (sb j)))), (r12, .inl (cI, 24, .inl sr)), (r13, .inl (cI, 24, .inl (fun j => nI (su j)))), (r15, .inl (cI, 10, .inl ((gv_itr sa sb su sr ln (bn - 1) (gv_ko dd, gv_hz hh)).1))), (r16, .inl (cI, 10, .inl ((gv_itr sa sb su sr ln (bn - 1) (gv_ko dd, gv_hz hh)).2)))] H := hP
    have hD9 : va_D A [(h0, .inr (6, [.int th, .int (nI mo), .ref r2, .int st, .int pe, .ref r5, .ref r6, .ref r7, .int (nI nc), .int (nI bn), .ref r10, .ref r11, .ref r12, .ref r13, .int (nI ln), .ref r15, .ref r16, .ref r17, .ref r18, .int (nI ac)])), (r10, .inl (cI, 24, .inl (fun j => nI (sa j)))), (r11, .inl (cI, 24, .inl (fun j => nI (sb j)))), (r12, .inl (cI, 24, .inl sr)), (r13, .inl (cI, 24, .inl (fun j => nI (su j)))), (r15, .inl (cI, 10, .inl ((gv_itr sa sb su sr ln (bn - 1) (gv_ko dd, gv_hz hh)).1))), (r16, .inl (cI, 10, .inl ((gv_itr sa sb su sr ln (bn - 1) (gv_ko dd, gv_hz hh)).2)))] := hD
    exact W.zret (v := nI 0) (ty := .boolean) hx hb hr rfl (fun t9 ht9 hW9 => ⟨⟨(nI 0), (), rfl, hpo, by rw [ht9]; exact hP9, hD9⟩, hS.F ht9⟩) hS.2.2 dX6_conflicts_97
  · skip
    refine lv_aload_n hx hb dX6_conflicts_48 rfl (lv_at hl 3 rfl) ?_
    refine lv_iload_n hx hb dX6_conflicts_49 rfl (lv_at hl 1 rfl) ?_
    refine gv_pi (va_runV (As := [.int (nI (sb k))]) (rest := []) ⟨hx, hb, hml, hown, hts⟩ (ct_X6_isFound l D cI cJ H.size h0 r2 r5 r6 r7 r10 r11 r12 r13 r15 r16 r17 r18 th st pe mo nc bn ln ac (gv_itr sa sb su sr ln (bn - 1) (gv_ko dd, gv_hz hh)).1 (sb k) (hsb k)) (cwV 1 hts gX6_conflicts_X6_isFound rfl rfl rfl (by decide +kernel) ⟨Nat.le_of_ble_eq_true rfl, Nat.le_of_ble_eq_true rfl⟩) (gv_pV (wc := [(h0, .inr (6, [.int th, .int (nI mo), .ref r2, .int st, .int pe, .ref r5, .ref r6, .ref r7, .int (nI nc), .int (nI bn), .ref r10, .ref r11, .ref r12, .ref r13, .int (nI ln), .ref r15, .ref r16, .ref r17, .ref r18, .int (nI ac)])), (r15, .inl (cI, 10, .inl ((gv_itr sa sb su sr ln (bn - 1) (gv_ko dd, gv_hz hh)).1)))]) hP hK hD hG [0, 5] rfl (by decide) 0 rfl rfl rfl) rfl rfl hl.1 rfl (lv_room (Nat.le_of_ble_eq_true rfl)) dX6_conflicts_50 ⟨Nat.le_of_ble_eq_true rfl, Nat.le_of_ble_eq_true rfl⟩) (fun q2 h2 => ?_)
    refine lv_if_eq (tgt := 96) hx hb dX6_conflicts_53 (by decide) (fun c_53 => ?_) (fun c_53 => ?_)
    · skip
      refine lv_iconst (v := nI 0) hx hb dX6_conflicts_96 (by decide) ?_
      have hpo : (nI 0) = gv_10 (gv_con sa sb su sr (gv_itr sa sb su sr ln (bn - 1) (gv_ko dd, gv_hz hh)).1 (gv_itr sa sb su sr ln (bn - 1) (gv_ko dd, gv_hz hh)).2 k) := by
        refine gv_10f (fun z => ?_)
        first
          | exact gv_if0 h1 c_45 z.1
          | exact gv_if0 h2 c_53 z.2.1
          | (have z3 := z.2.2; unfold gv_abs at z3; rw [if_pos c_58] at z3; exact gv_len32 c_89 z3)
          | (have z3 := z.2.2; unfold gv_abs at z3; rw [if_neg c_58, gv_negs] at z3; exact gv_len32 c_89 z3)
      have hP9 : va_P D vwCl [(h0, .inr (6, [.int th, .int (nI mo), .ref r2, .int st, .int pe, .ref r5, .ref r6, .ref r7, .int (nI nc), .int (nI bn), .ref r10, .ref r11, .ref r12, .ref r13, .int (nI ln), .ref r15, .ref r16, .ref r17, .ref r18, .int (nI ac)])), (r10, .inl (cI, 24, .inl (fun j => nI (sa j)))), (r11, .inl (cI, 24, .inl (fun j => nI (sb j)))), (r12, .inl (cI, 24, .inl sr)), (r13, .inl (cI, 24, .inl (fun j => nI (su j)))), (r15, .inl (cI, 10, .inl ((gv_itr sa sb su sr ln (bn - 1) (gv_ko dd, gv_hz hh)).1))), (r16, .inl (cI, 10, .inl ((gv_itr sa sb su sr ln (bn - 1) (gv_ko dd, gv_hz hh)).2)))] H := hP
      have hD9 : va_D A [(h0, .inr (6, [.int th, .int (nI mo), .ref r2, .int st, .int pe, .ref r5, .ref r6, .ref r7, .int (nI nc), .int (nI bn), .ref r10, .ref r11, .ref r12, .ref r13, .int (nI ln), .ref r15, .ref r16, .ref r17, .ref r18, .int (nI ac)])), (r10, .inl (cI, 24, .inl (fun j => nI (sa j)))), (r11, .inl (cI, 24, .inl (fun j => nI (sb j)))), (r12, .inl (cI, 24, .inl sr)), (r13, .inl (cI, 24, .inl (fun j => nI (su j)))), (r15, .inl (cI, 10, .inl ((gv_itr sa sb su sr ln (bn - 1) (gv_ko dd, gv_hz hh)).1))), (r16, .inl (cI, 10, .inl ((gv_itr sa sb su sr ln (bn - 1) (gv_ko dd, gv_hz hh)).2)))] := hD
      exact W.zret (v := nI 0) (ty := .boolean) hx hb hr rfl (fun t9 ht9 hW9 => ⟨⟨(nI 0), (), rfl, hpo, by rw [ht9]; exact hP9, hD9⟩, hS.F ht9⟩) hS.2.2 dX6_conflicts_97
    · skip
      refine lv_iload hx hb dX6_conflicts_56 (lv_at hl 0 rfl) ?_
      refine lv_if_ge (tgt := 67) hx hb dX6_conflicts_58 (by decide) (fun c_58 => ?_) (fun c_58 => ?_)
      · skip
        refine lv_iload hx hb dX6_conflicts_67 (lv_at hl 0 rfl) ?_
        refine lv_aload_n hx hb dX6_conflicts_69 rfl (lv_at hl 3 rfl) ?_
        refine va_get (D := D) (ci := 6) (v := .ref r13) (C := RX6) (T := TX6) (N := 20) hx hb hts gv_in_X6_conflicts_X6 hown hK hP 0 rfl rfl 13 (by decide) (hts (.fieldLink RX6 36 "GravimereModel" "unsure" "[I") (by decide +kernel)) (fun _ h9 => h9) rfl dX6_conflicts_70 ?_
        refine lv_iload_n hx hb dX6_conflicts_73 rfl (lv_at hl 4 rfl) ?_
        refine gv_il hx hb hK hP 4 (k := k) rfl (by first | exact hsa _ | exact hsb _ | omega) (by decide) dX6_conflicts_74 ?_
        refine gv_wi (rfl) ?_
        refine lv_aload_n hx hb dX6_conflicts_75 rfl (lv_at hl 3 rfl) ?_
        refine va_get (D := D) (ci := 6) (v := .ref r15) (C := RX6) (T := TX6) (N := 20) hx hb hts gv_in_X6_conflicts_X6 hown hK hP 0 rfl rfl 15 (by decide) (hts (.fieldLink RX6 39 "GravimereModel" "doubts" "[I") (by decide +kernel)) (fun _ h9 => h9) rfl dX6_conflicts_76 ?_
        refine lv_iload_n hx hb dX6_conflicts_79 rfl (lv_at hl 2 rfl) ?_
        refine gv_il hx hb hK hP 5 (k := sa k) rfl (by first | exact hsa _ | exact hsb _ | omega) (by decide) dX6_conflicts_80 ?_
        refine lv_iadd hx hb dX6_conflicts_81 ?_
        refine lv_aload_n hx hb dX6_conflicts_82 rfl (lv_at hl 3 rfl) ?_
        refine va_get (D := D) (ci := 6) (v := .ref r15) (C := RX6) (T := TX6) (N := 20) hx hb hts gv_in_X6_conflicts_X6 hown hK hP 0 rfl rfl 15 (by decide) (hts (.fieldLink RX6 39 "GravimereModel" "doubts" "[I") (by decide +kernel)) (fun _ h9 => h9) rfl dX6_conflicts_83 ?_
        refine lv_iload_n hx hb dX6_conflicts_86 rfl (lv_at hl 1 rfl) ?_
        refine gv_il hx hb hK hP 5 (k := sb k) rfl (by first | exact hsa _ | exact hsb _ | omega) (by decide) dX6_conflicts_87 ?_
        refine lv_iadd hx hb dX6_conflicts_88 ?_
        refine lv_icmp_le (tgt := 96) hx hb dX6_conflicts_89 (by decide) (fun c_89 => ?_) (fun c_89 => ?_)
        · skip
          refine lv_iconst (v := nI 0) hx hb dX6_conflicts_96 (by decide) ?_
          have hpo : (nI 0) = gv_10 (gv_con sa sb su sr (gv_itr sa sb su sr ln (bn - 1) (gv_ko dd, gv_hz hh)).1 (gv_itr sa sb su sr ln (bn - 1) (gv_ko dd, gv_hz hh)).2 k) := by
            refine gv_10f (fun z => ?_)
            first
              | exact gv_if0 h1 c_45 z.1
              | exact gv_if0 h2 c_53 z.2.1
              | (have z3 := z.2.2; unfold gv_abs at z3; rw [if_pos c_58] at z3; exact gv_len32 c_89 z3)
              | (have z3 := z.2.2; unfold gv_abs at z3; rw [if_neg c_58, gv_negs] at z3; exact gv_len32 c_89 z3)
          have hP9 : va_P D vwCl [(h0, .inr (6, [.int th, .int (nI mo), .ref r2, .int st, .int pe, .ref r5, .ref r6, .ref r7, .int (nI nc), .int (nI bn), .ref r10, .ref r11, .ref r12, .ref r13, .int (nI ln), .ref r15, .ref r16, .ref r17, .ref r18, .int (nI ac)])), (r10, .inl (cI, 24, .inl (fun j => nI (sa j)))), (r11, .inl (cI, 24, .inl (fun j => nI (sb j)))), (r12, .inl (cI, 24, .inl sr)), (r13, .inl (cI, 24, .inl (fun j => nI (su j)))), (r15, .inl (cI, 10, .inl ((gv_itr sa sb su sr ln (bn - 1) (gv_ko dd, gv_hz hh)).1))), (r16, .inl (cI, 10, .inl ((gv_itr sa sb su sr ln (bn - 1) (gv_ko dd, gv_hz hh)).2)))] H := hP
          have hD9 : va_D A [(h0, .inr (6, [.int th, .int (nI mo), .ref r2, .int st, .int pe, .ref r5, .ref r6, .ref r7, .int (nI nc), .int (nI bn), .ref r10, .ref r11, .ref r12, .ref r13, .int (nI ln), .ref r15, .ref r16, .ref r17, .ref r18, .int (nI ac)])), (r10, .inl (cI, 24, .inl (fun j => nI (sa j)))), (r11, .inl (cI, 24, .inl (fun j => nI (sb j)))), (r12, .inl (cI, 24, .inl sr)), (r13, .inl (cI, 24, .inl (fun j => nI (su j)))), (r15, .inl (cI, 10, .inl ((gv_itr sa sb su sr ln (bn - 1) (gv_ko dd, gv_hz hh)).1))), (r16, .inl (cI, 10, .inl ((gv_itr sa sb su sr ln (bn - 1) (gv_ko dd, gv_hz hh)).2)))] := hD
          exact W.zret (v := nI 0) (ty := .boolean) hx hb hr rfl (fun t9 ht9 hW9 => ⟨⟨(nI 0), (), rfl, hpo, by rw [ht9]; exact hP9, hD9⟩, hS.F ht9⟩) hS.2.2 dX6_conflicts_97
        · skip
          refine lv_iconst (v := nI 1) hx hb dX6_conflicts_92 (by decide) ?_
          refine lv_goto (tgt := 97) hx hb dX6_conflicts_93 (by decide) ?_
          have hpo : (nI 1) = gv_10 (gv_con sa sb su sr (gv_itr sa sb su sr ln (bn - 1) (gv_ko dd, gv_hz hh)).1 (gv_itr sa sb su sr ln (bn - 1) (gv_ko dd, gv_hz hh)).2 k) := by
            exact gv_10t ⟨gv_if1 h1 c_45, gv_if1 h2 c_53, by unfold gv_abs; first | (rw [if_pos c_58]; exact gv_nle32 c_89) | (rw [if_neg c_58, gv_negs]; exact gv_nle32 c_89)⟩
          have hP9 : va_P D vwCl [(h0, .inr (6, [.int th, .int (nI mo), .ref r2, .int st, .int pe, .ref r5, .ref r6, .ref r7, .int (nI nc), .int (nI bn), .ref r10, .ref r11, .ref r12, .ref r13, .int (nI ln), .ref r15, .ref r16, .ref r17, .ref r18, .int (nI ac)])), (r10, .inl (cI, 24, .inl (fun j => nI (sa j)))), (r11, .inl (cI, 24, .inl (fun j => nI (sb j)))), (r12, .inl (cI, 24, .inl sr)), (r13, .inl (cI, 24, .inl (fun j => nI (su j)))), (r15, .inl (cI, 10, .inl ((gv_itr sa sb su sr ln (bn - 1) (gv_ko dd, gv_hz hh)).1))), (r16, .inl (cI, 10, .inl ((gv_itr sa sb su sr ln (bn - 1) (gv_ko dd, gv_hz hh)).2)))] H := hP
          have hD9 : va_D A [(h0, .inr (6, [.int th, .int (nI mo), .ref r2, .int st, .int pe, .ref r5, .ref r6, .ref r7, .int (nI nc), .int (nI bn), .ref r10, .ref r11, .ref r12, .ref r13, .int (nI ln), .ref r15, .ref r16, .ref r17, .ref r18, .int (nI ac)])), (r10, .inl (cI, 24, .inl (fun j => nI (sa j)))), (r11, .inl (cI, 24, .inl (fun j => nI (sb j)))), (r12, .inl (cI, 24, .inl sr)), (r13, .inl (cI, 24, .inl (fun j => nI (su j)))), (r15, .inl (cI, 10, .inl ((gv_itr sa sb su sr ln (bn - 1) (gv_ko dd, gv_hz hh)).1))), (r16, .inl (cI, 10, .inl ((gv_itr sa sb su sr ln (bn - 1) (gv_ko dd, gv_hz hh)).2)))] := hD
          exact W.zret (v := nI 1) (ty := .boolean) hx hb hr rfl (fun t9 ht9 hW9 => ⟨⟨(nI 1), (), rfl, hpo, by rw [ht9]; exact hP9, hD9⟩, hS.F ht9⟩) hS.2.2 dX6_conflicts_97
      · skip
        refine lv_iload hx hb dX6_conflicts_61 (lv_at hl 0 rfl) ?_
        refine lv_ineg hx hb dX6_conflicts_63 ?_
        refine lv_goto (tgt := 69) hx hb dX6_conflicts_64 (by decide) ?_
        refine lv_aload_n hx hb dX6_conflicts_69 rfl (lv_at hl 3 rfl) ?_
        refine va_get (D := D) (ci := 6) (v := .ref r13) (C := RX6) (T := TX6) (N := 20) hx hb hts gv_in_X6_conflicts_X6 hown hK hP 0 rfl rfl 13 (by decide) (hts (.fieldLink RX6 36 "GravimereModel" "unsure" "[I") (by decide +kernel)) (fun _ h9 => h9) rfl dX6_conflicts_70 ?_
        refine lv_iload_n hx hb dX6_conflicts_73 rfl (lv_at hl 4 rfl) ?_
        refine gv_il hx hb hK hP 4 (k := k) rfl (by first | exact hsa _ | exact hsb _ | omega) (by decide) dX6_conflicts_74 ?_
        refine gv_wi (rfl) ?_
        refine lv_aload_n hx hb dX6_conflicts_75 rfl (lv_at hl 3 rfl) ?_
        refine va_get (D := D) (ci := 6) (v := .ref r15) (C := RX6) (T := TX6) (N := 20) hx hb hts gv_in_X6_conflicts_X6 hown hK hP 0 rfl rfl 15 (by decide) (hts (.fieldLink RX6 39 "GravimereModel" "doubts" "[I") (by decide +kernel)) (fun _ h9 => h9) rfl dX6_conflicts_76 ?_
        refine lv_iload_n hx hb dX6_conflicts_79 rfl (lv_at hl 2 rfl) ?_
        refine gv_il hx hb hK hP 5 (k := sa k) rfl (by first | exact hsa _ | exact hsb _ | omega) (by decide) dX6_conflicts_80 ?_
        refine lv_iadd hx hb dX6_conflicts_81 ?_
        refine lv_aload_n hx hb dX6_conflicts_82 rfl (lv_at hl 3 rfl) ?_
        refine va_get (D := D) (ci := 6) (v := .ref r15) (C := RX6) (T := TX6) (N := 20) hx hb hts gv_in_X6_conflicts_X6 hown hK hP 0 rfl rfl 15 (by decide) (hts (.fieldLink RX6 39 "GravimereModel" "doubts" "[I") (by decide +kernel)) (fun _ h9 => h9) rfl dX6_conflicts_83 ?_
        refine lv_iload_n hx hb dX6_conflicts_86 rfl (lv_at hl 1 rfl) ?_
        refine gv_il hx hb hK hP 5 (k := sb k) rfl (by first | exact hsa _ | exact hsb _ | omega) (by decide) dX6_conflicts_87 ?_
        refine lv_iadd hx hb dX6_conflicts_88 ?_
        refine lv_icmp_le (tgt := 96) hx hb dX6_conflicts_89 (by decide) (fun c_89 => ?_) (fun c_89 => ?_)
        · skip
          refine lv_iconst (v := nI 0) hx hb dX6_conflicts_96 (by decide) ?_
          have hpo : (nI 0) = gv_10 (gv_con sa sb su sr (gv_itr sa sb su sr ln (bn - 1) (gv_ko dd, gv_hz hh)).1 (gv_itr sa sb su sr ln (bn - 1) (gv_ko dd, gv_hz hh)).2 k) := by
            refine gv_10f (fun z => ?_)
            first
              | exact gv_if0 h1 c_45 z.1
              | exact gv_if0 h2 c_53 z.2.1
              | (have z3 := z.2.2; unfold gv_abs at z3; rw [if_pos c_58] at z3; exact gv_len32 c_89 z3)
              | (have z3 := z.2.2; unfold gv_abs at z3; rw [if_neg c_58, gv_negs] at z3; exact gv_len32 c_89 z3)
          have hP9 : va_P D vwCl [(h0, .inr (6, [.int th, .int (nI mo), .ref r2, .int st, .int pe, .ref r5, .ref r6, .ref r7, .int (nI nc), .int (nI bn), .ref r10, .ref r11, .ref r12, .ref r13, .int (nI ln), .ref r15, .ref r16, .ref r17, .ref r18, .int (nI ac)])), (r10, .inl (cI, 24, .inl (fun j => nI (sa j)))), (r11, .inl (cI, 24, .inl (fun j => nI (sb j)))), (r12, .inl (cI, 24, .inl sr)), (r13, .inl (cI, 24, .inl (fun j => nI (su j)))), (r15, .inl (cI, 10, .inl ((gv_itr sa sb su sr ln (bn - 1) (gv_ko dd, gv_hz hh)).1))), (r16, .inl (cI, 10, .inl ((gv_itr sa sb su sr ln (bn - 1) (gv_ko dd, gv_hz hh)).2)))] H := hP
          have hD9 : va_D A [(h0, .inr (6, [.int th, .int (nI mo), .ref r2, .int st, .int pe, .ref r5, .ref r6, .ref r7, .int (nI nc), .int (nI bn), .ref r10, .ref r11, .ref r12, .ref r13, .int (nI ln), .ref r15, .ref r16, .ref r17, .ref r18, .int (nI ac)])), (r10, .inl (cI, 24, .inl (fun j => nI (sa j)))), (r11, .inl (cI, 24, .inl (fun j => nI (sb j)))), (r12, .inl (cI, 24, .inl sr)), (r13, .inl (cI, 24, .inl (fun j => nI (su j)))), (r15, .inl (cI, 10, .inl ((gv_itr sa sb su sr ln (bn - 1) (gv_ko dd, gv_hz hh)).1))), (r16, .inl (cI, 10, .inl ((gv_itr sa sb su sr ln (bn - 1) (gv_ko dd, gv_hz hh)).2)))] := hD
          exact W.zret (v := nI 0) (ty := .boolean) hx hb hr rfl (fun t9 ht9 hW9 => ⟨⟨(nI 0), (), rfl, hpo, by rw [ht9]; exact hP9, hD9⟩, hS.F ht9⟩) hS.2.2 dX6_conflicts_97
        · skip
          refine lv_iconst (v := nI 1) hx hb dX6_conflicts_92 (by decide) ?_
          refine lv_goto (tgt := 97) hx hb dX6_conflicts_93 (by decide) ?_
          have hpo : (nI 1) = gv_10 (gv_con sa sb su sr (gv_itr sa sb su sr ln (bn - 1) (gv_ko dd, gv_hz hh)).1 (gv_itr sa sb su sr ln (bn - 1) (gv_ko dd, gv_hz hh)).2 k) := by
            exact gv_10t ⟨gv_if1 h1 c_45, gv_if1 h2 c_53, by unfold gv_abs; first | (rw [if_pos c_58]; exact gv_nle32 c_89) | (rw [if_neg c_58, gv_negs]; exact gv_nle32 c_89)⟩
          have hP9 : va_P D vwCl [(h0, .inr (6, [.int th, .int (nI mo), .ref r2, .int st, .int pe, .ref r5, .ref r6, .ref r7, .int (nI nc), .int (nI bn), .ref r10, .ref r11, .ref r12, .ref r13, .int (nI ln), .ref r15, .ref r16, .ref r17, .ref r18, .int (nI ac)])), (r10, .inl (cI, 24, .inl (fun j => nI (sa j)))), (r11, .inl (cI, 24, .inl (fun j => nI (sb j)))), (r12, .inl (cI, 24, .inl sr)), (r13, .inl (cI, 24, .inl (fun j => nI (su j)))), (r15, .inl (cI, 10, .inl ((gv_itr sa sb su sr ln (bn - 1) (gv_ko dd, gv_hz hh)).1))), (r16, .inl (cI, 10, .inl ((gv_itr sa sb su sr ln (bn - 1) (gv_ko dd, gv_hz hh)).2)))] H := hP
          have hD9 : va_D A [(h0, .inr (6, [.int th, .int (nI mo), .ref r2, .int st, .int pe, .ref r5, .ref r6, .ref r7, .int (nI nc), .int (nI bn), .ref r10, .ref r11, .ref r12, .ref r13, .int (nI ln), .ref r15, .ref r16, .ref r17, .ref r18, .int (nI ac)])), (r10, .inl (cI, 24, .inl (fun j => nI (sa j)))), (r11, .inl (cI, 24, .inl (fun j => nI (sb j)))), (r12, .inl (cI, 24, .inl sr)), (r13, .inl (cI, 24, .inl (fun j => nI (su j)))), (r15, .inl (cI, 10, .inl ((gv_itr sa sb su sr ln (bn - 1) (gv_ko dd, gv_hz hh)).1))), (r16, .inl (cI, 10, .inl ((gv_itr sa sb su sr ln (bn - 1) (gv_ko dd, gv_hz hh)).2)))] := hD
          exact W.zret (v := nI 1) (ty := .boolean) hx hb hr rfl (fun t9 ht9 hW9 => ⟨⟨(nI 1), (), rfl, hpo, by rw [ht9]; exact hP9, hD9⟩, hS.F ht9⟩) hS.2.2 dX6_conflicts_97
set_option maxHeartbeats 4000000 in
set_option maxRecDepth 100000 in
theorem ct_X6_isInConflict (l : Launch) (D : va_G) (cI cJ : ClassId) (sz : Nat) (h0 r2 r5 r6 r7 r10 r11 r12 r13 r15 r16 r17 r18 : Nat) (th st pe : Int32) (mo nc bn ln ac : Nat) (sa sb su : Nat → Nat) (sr dd hh : Nat → Int32) (p0 : Int32) (hsa : ∀ j, sa j < 10) (hsb : ∀ j, sb j < 10) (hsu : ∀ j, su j ≤ 1000) (hlb : ∀ k, k < ln → sa k < bn ∧ sb k < bn) (hln : ln ≤ 24) (hbn : bn ≤ 10) : Met l yX6_isInConflict wsX6_isInConflict ({ frames := 5, cells := 0, slots := 0, locals := 114 }) (va_Pc [.ref h0, .int p0] (gv_B D cI cJ [(h0, .inr (6, [.int th, .int (nI mo), .ref r2, .int st, .int pe, .ref r5, .ref r6, .ref r7, .int (nI nc), .int (nI bn), .ref r10, .ref r11, .ref r12, .ref r13, .int (nI ln), .ref r15, .ref r16, .ref r17, .ref r18, .int (nI ac)])), (r10, .inl (cI, 24, .inl (fun j => nI (sa j)))), (r11, .inl (cI, 24, .inl (fun j => nI (sb j)))), (r12, .inl (cI, 24, .inl sr)), (r13, .inl (cI, 24, .inl (fun j => nI (su j)))), (r15, .inl (cI, 10, .inl dd)), (r16, .inl (cI, 10, .inl hh))] sz)) (va_Qi (fun (r9 : Int32) (u9 : (Nat → Int32) × (Nat → Int32)) => match u9 with | (d9, h9) => ∀ i, i < ln → p0 = nI i → r9 = gv_10 (gv_con sa sb su sr (gv_itr sa sb su sr ln (bn - 1) (gv_ko dd, gv_hz hh)).1 (gv_itr sa sb su sr ln (bn - 1) (gv_ko dd, gv_hz hh)).2 i)) (fun (u9 : (Nat → Int32) × (Nat → Int32)) t9 => gv_W D (va_A [(h0, .inr (6, [.int th, .int (nI mo), .ref r2, .int st, .int pe, .ref r5, .ref r6, .ref r7, .int (nI nc), .int (nI bn), .ref r10, .ref r11, .ref r12, .ref r13, .int (nI ln), .ref r15, .ref r16, .ref r17, .ref r18, .int (nI ac)])), (r10, .inl (cI, 24, .inl (fun j => nI (sa j)))), (r11, .inl (cI, 24, .inl (fun j => nI (sb j)))), (r12, .inl (cI, 24, .inl sr)), (r13, .inl (cI, 24, .inl (fun j => nI (su j)))), (r15, .inl (cI, 10, .inl dd)), (r16, .inl (cI, 10, .inl hh))] sz) (match u9 with | (d9, h9) => [(h0, .inr (6, [.int (gv_01 (vp_in p0 ln)), .int (nI mo), .ref r2, .int st, .int pe, .ref r5, .ref r6, .ref r7, .int (nI nc), .int (nI bn), .ref r10, .ref r11, .ref r12, .ref r13, .int (nI ln), .ref r15, .ref r16, .ref r17, .ref r18, .int (nI ac)])), (r10, .inl (cI, 24, .inl (fun j => nI (sa j)))), (r11, .inl (cI, 24, .inl (fun j => nI (sb j)))), (r12, .inl (cI, 24, .inl sr)), (r13, .inl (cI, 24, .inl (fun j => nI (su j)))), (r15, .inl (cI, 10, .inl d9)), (r16, .inl (cI, 10, .inl h9))]) t9) (va_A [(h0, .inr (6, [.int th, .int (nI mo), .ref r2, .int st, .int pe, .ref r5, .ref r6, .ref r7, .int (nI nc), .int (nI bn), .ref r10, .ref r11, .ref r12, .ref r13, .int (nI ln), .ref r15, .ref r16, .ref r17, .ref r18, .int (nI ac)])), (r10, .inl (cI, 24, .inl (fun j => nI (sa j)))), (r11, .inl (cI, 24, .inl (fun j => nI (sb j)))), (r12, .inl (cI, 24, .inl sr)), (r13, .inl (cI, 24, .inl (fun j => nI (su j)))), (r15, .inl (cI, 10, .inl dd)), (r16, .inl (cI, 10, .inl hh))] sz)) 0 0 (va_A [(h0, .inr (6, [.int th, .int (nI mo), .ref r2, .int st, .int pe, .ref r5, .ref r6, .ref r7, .int (nI nc), .int (nI bn), .ref r10, .ref r11, .ref r12, .ref r13, .int (nI ln), .ref r15, .ref r16, .ref r17, .ref r18, .int (nI ac)])), (r10, .inl (cI, 24, .inl (fun j => nI (sa j)))), (r11, .inl (cI, 24, .inl (fun j => nI (sb j)))), (r12, .inl (cI, 24, .inl sr)), (r13, .inl (cI, 24, .inl (fun j => nI (su j)))), (r15, .inl (cI, 10, .inl dd)), (r16, .inl (cI, 10, .inl hh))] sz) := by
  refine Met.ofW (cc := cX6_isInConflict) (maxL := 2) (ret := (some .boolean)) (by decide) rfl ?_
  intro p e s m args below meth c s₁ B hml hv
  obtain ⟨rfl, hsz, hP, hK, hD0, hG⟩ := hv
  have hx := B.exec
  have hb := B.bytes
  have hr := B.returns
  have hts := atoms_spec (ws := wsX6_isInConflict) B.pre
  have hown : s.vm.findClass RX6 = some m.cls := findClass_of_methodNamed B.named
  have hlocks := B.notSynchronized
  subst hsz
  have hD := hD0.self (sz := s.heap.size)
  generalize hAe : va_A [(h0, .inr (6, [.int th, .int (nI mo), .ref r2, .int st, .int pe, .ref r5, .ref r6, .ref r7, .int (nI nc), .int (nI bn), .ref r10, .ref r11, .ref r12, .ref r13, .int (nI ln), .ref r15, .ref r16, .ref r17, .ref r18, .int (nI ac)])), (r10, .inl (cI, 24, .inl (fun j => nI (sa j)))), (r11, .inl (cI, 24, .inl (fun j => nI (sb j)))), (r12, .inl (cI, 24, .inl sr)), (r13, .inl (cI, 24, .inl (fun j => nI (su j)))), (r15, .inl (cI, 10, .inl dd)), (r16, .inl (cI, 10, .inl hh))] s.heap.size = A at hD ⊢
  have hA : ∀ q : Nat, s.heap.size ≤ q → A q := fun q h => by rw [← hAe]; exact Or.inr h
  have hS : va_S A s.heap s.heap [] := va_S.rf
  have hP : va_P D vwCl [(h0, .inr (6, [.int th, .int (nI mo), .ref r2, .int st, .int pe, .ref r5, .ref r6, .ref r7, .int (nI nc), .int (nI bn), .ref r10, .ref r11, .ref r12, .ref r13, .int (nI ln), .ref r15, .ref r16, .ref r17, .ref r18, .int (nI ac)])), (r10, .inl (cI, 24, .inl (fun j => nI (sa j)))), (r11, .inl (cI, 24, .inl (fun j => nI (sb j)))), (r12, .inl (cI, 24, .inl sr)), (r13, .inl (cI, 24, .inl (fun j => nI (su j)))), (r15, .inl (cI, 10, .inl dd)), (r16, .inl (cI, 10, .inl hh))] s.heap := hP
  have hl := lv_entry ([.ref h0, .int p0]) (n := 2) (Nat.le_of_ble_eq_true rfl)
  rw [lg_entry_eq]
  generalize (lg_sl ([.ref h0, .int p0]) ++ List.replicate (2 - (lg_sl ([.ref h0, .int p0])).length) Slot.unset).toArray = ls at hl ⊢
  have hl : lv_has ls 2 [(0, .ref h0), (1, .int p0)] := hl
  refine lv_aload_n hx hb dX6_isInConflict_0 rfl (lv_at hl 0 rfl) ?_
  refine lv_iload_n hx hb dX6_isInConflict_1 rfl (lv_at hl 1 rfl) ?_
  refine lv_i2l (v := p0.toInt64) hx hb dX6_isInConflict_2 rfl ?_
  refine lv_lconst (v := 0) hx hb dX6_isInConflict_3 (by decide) ?_
  refine lv_aload_n hx hb dX6_isInConflict_4 rfl (lv_at hl 0 rfl) ?_
  refine va_get (D := D) (ci := 6) (v := .int (nI ln)) (C := RX6) (T := TX6) (N := 20) hx hb hts gv_in_X6_isInConflict_X6 hown hK hP 0 rfl rfl 14 (by decide) (hts (.fieldLink RX6 123 "GravimereModel" "lines" "I") (by decide +kernel)) (fun _ h9 => h9) rfl dX6_isInConflict_5 ?_
  refine lv_iconst (v := nI 1) hx hb dX6_isInConflict_8 (by decide) ?_
  refine lv_isub hx hb dX6_isInConflict_9 ?_
  refine lv_i2l (v := ((nI ln) - (nI 1)).toInt64) hx hb dX6_isInConflict_10 rfl ?_
  refine gv_pi (va_runS (As := [.long p0.toInt64, .long 0, .long (((nI ln) - (nI 1)).toInt64)]) (rest := [.ref h0]) ⟨hx, hb, hml, hown, hts⟩ (ct_X6_isIn l p0.toInt64 0 ((nI ln - nI 1).toInt64)) (va_cwS 3 hts gX6_isInConflict_X6_isIn rfl rfl rfl (by decide +kernel) ⟨Nat.le_of_ble_eq_true rfl, Nat.le_of_ble_eq_true rfl⟩) gv_p0 rfl rfl hl.1 rfl (lv_room (Nat.le_of_ble_eq_true rfl)) dX6_isInConflict_11 ⟨Nat.le_of_ble_eq_true rfl, Nat.le_of_ble_eq_true rfl⟩) (fun q1 h1 => ?_)
  refine gv_mg (fun v : Int32 => v = gv_01 (vp_in p0 ln)) 22 [.ref h0] (fun tv hv_tv => ?_) (fun K_1 => ?_)
  · skip
    subst hv_tv
    refine gv_mi (wc := [(h0, .inr (6, [.int th, .int (nI mo), .ref r2, .int st, .int pe, .ref r5, .ref r6, .ref r7, .int (nI nc), .int (nI bn), .ref r10, .ref r11, .ref r12, .ref r13, .int (nI ln), .ref r15, .ref r16, .ref r17, .ref r18, .int (nI ac)]))]) (wr := [(r10, .inl (cI, 24, .inl (fun j => nI (sa j)))), (r11, .inl (cI, 24, .inl (fun j => nI (sb j)))), (r12, .inl (cI, 24, .inl sr)), (r13, .inl (cI, 24, .inl (fun j => nI (su j)))), (r15, .inl (cI, 10, .inl dd)), (r16, .inl (cI, 10, .inl hh))]) (w2 := (fun u => [(h0, .inr (6, [.int (gv_01 (vp_in p0 ln)), .int (nI mo), .ref r2, .int st, .int pe, .ref r5, .ref r6, .ref r7, .int (nI nc), .int (nI bn), .ref r10, .ref r11, .ref r12, .ref r13, .int (nI ln), .ref r15, .ref r16, .ref r17, .ref r18, .int (nI ac)])), (r10, .inl (cI, 24, .inl (fun j => nI (sa j)))), (r11, .inl (cI, 24, .inl (fun j => nI (sb j)))), (r12, .inl (cI, 24, .inl sr)), (r13, .inl (cI, 24, .inl (fun j => nI (su j)))), (r15, .inl (cI, 10, .inl dd)), (r16, .inl (cI, 10, .inl hh))])) (va_runV (As := [.int (gv_01 (vp_in p0 ln))]) (rest := []) ⟨hx, hb, hml, hown, hts⟩ (ct_X6_holds l D cI cJ s.heap.size h0 r2 r5 r6 r7 r10 r11 r12 r13 r15 r16 r17 r18 th st pe mo nc bn ln ac (gv_01 (vp_in p0 ln))) (cwV 1 hts gX6_isInConflict_X6_holds rfl rfl rfl (by decide +kernel) ⟨Nat.le_of_ble_eq_true rfl, Nat.le_of_ble_eq_true rfl⟩) (gv_pV (wc := [(h0, .inr (6, [.int th, .int (nI mo), .ref r2, .int st, .int pe, .ref r5, .ref r6, .ref r7, .int (nI nc), .int (nI bn), .ref r10, .ref r11, .ref r12, .ref r13, .int (nI ln), .ref r15, .ref r16, .ref r17, .ref r18, .int (nI ac)]))]) hP hK hD hG [0] rfl (by decide) 0 rfl rfl rfl) rfl rfl hl.1 rfl (lv_room (Nat.le_of_ble_eq_true rfl)) dX6_isInConflict_22 ⟨Nat.le_of_ble_eq_true rfl, Nat.le_of_ble_eq_true rfl⟩) hP hD hS hA [0] [1, 2, 3, 4, 5, 6] [6, 0, 1, 2, 3, 4, 5] rfl rfl (by decide) (by decide) (fun u => rfl) (by decide) (fun rh u H locs hrh hP hD hS => ?_)
    have hP : va_P D vwCl [(h0, .inr (6, [.int (gv_01 (vp_in p0 ln)), .int (nI mo), .ref r2, .int st, .int pe, .ref r5, .ref r6, .ref r7, .int (nI nc), .int (nI bn), .ref r10, .ref r11, .ref r12, .ref r13, .int (nI ln), .ref r15, .ref r16, .ref r17, .ref r18, .int (nI ac)])), (r10, .inl (cI, 24, .inl (fun j => nI (sa j)))), (r11, .inl (cI, 24, .inl (fun j => nI (sb j)))), (r12, .inl (cI, 24, .inl sr)), (r13, .inl (cI, 24, .inl (fun j => nI (su j)))), (r15, .inl (cI, 10, .inl dd)), (r16, .inl (cI, 10, .inl hh))] H := hP
    have hD : va_D A [(h0, .inr (6, [.int (gv_01 (vp_in p0 ln)), .int (nI mo), .ref r2, .int st, .int pe, .ref r5, .ref r6, .ref r7, .int (nI nc), .int (nI bn), .ref r10, .ref r11, .ref r12, .ref r13, .int (nI ln), .ref r15, .ref r16, .ref r17, .ref r18, .int (nI ac)])), (r10, .inl (cI, 24, .inl (fun j => nI (sa j)))), (r11, .inl (cI, 24, .inl (fun j => nI (sb j)))), (r12, .inl (cI, 24, .inl sr)), (r13, .inl (cI, 24, .inl (fun j => nI (su j)))), (r15, .inl (cI, 10, .inl dd)), (r16, .inl (cI, 10, .inl hh))] := hD
    refine lv_if_eq (tgt := 40) hx hb dX6_isInConflict_25 (by decide) (fun c_25 => ?_) (fun c_25 => ?_)
    · skip
      have hno := gv_if0 hrh c_25
      refine lv_iconst (v := nI 0) hx hb dX6_isInConflict_40 (by decide) ?_
      have hpo : match (dd, hh) with | (d9, h9) => ∀ i, i < ln → p0 = nI i → (nI 0) = gv_10 (gv_con sa sb su sr (gv_itr sa sb su sr ln (bn - 1) (gv_ko dd, gv_hz hh)).1 (gv_itr sa sb su sr ln (bn - 1) (gv_ko dd, gv_hz hh)).2 i) := by
        first
          | exact fun i hi ei => absurd (gv_01t (by rw [ei]; exact vp_in_nI hi (by omega))).symm hno
          | (intro i2 hi2 ei2; cases gv_inj (ei2.symm.trans ei) (by omega) (by omega); first | exact gv_10t (gv_if1 hrc c_33) | exact gv_10f (gv_if0 hrc c_33))
      have hP9 : va_P D vwCl [(h0, .inr (6, [.int (gv_01 (vp_in p0 ln)), .int (nI mo), .ref r2, .int st, .int pe, .ref r5, .ref r6, .ref r7, .int (nI nc), .int (nI bn), .ref r10, .ref r11, .ref r12, .ref r13, .int (nI ln), .ref r15, .ref r16, .ref r17, .ref r18, .int (nI ac)])), (r10, .inl (cI, 24, .inl (fun j => nI (sa j)))), (r11, .inl (cI, 24, .inl (fun j => nI (sb j)))), (r12, .inl (cI, 24, .inl sr)), (r13, .inl (cI, 24, .inl (fun j => nI (su j)))), (r15, .inl (cI, 10, .inl dd)), (r16, .inl (cI, 10, .inl hh))] H := hP
      have hD9 : va_D A [(h0, .inr (6, [.int (gv_01 (vp_in p0 ln)), .int (nI mo), .ref r2, .int st, .int pe, .ref r5, .ref r6, .ref r7, .int (nI nc), .int (nI bn), .ref r10, .ref r11, .ref r12, .ref r13, .int (nI ln), .ref r15, .ref r16, .ref r17, .ref r18, .int (nI ac)])), (r10, .inl (cI, 24, .inl (fun j => nI (sa j)))), (r11, .inl (cI, 24, .inl (fun j => nI (sb j)))), (r12, .inl (cI, 24, .inl sr)), (r13, .inl (cI, 24, .inl (fun j => nI (su j)))), (r15, .inl (cI, 10, .inl dd)), (r16, .inl (cI, 10, .inl hh))] := hD
      exact W.zret (v := nI 0) (ty := .boolean) hx hb hr rfl (fun t9 ht9 hW9 => ⟨⟨(nI 0), (dd, hh), rfl, hpo, by rw [ht9]; exact hP9, hD9⟩, hS.F ht9⟩) hS.2.2 dX6_isInConflict_41
    · skip
      have hok := gv_01z (gv_if1 hrh c_25)
      obtain ⟨i, hi, ei⟩ := vp_in_of hok (by omega)
      rw [ei] at hl
      have hl : lv_has ls 2 [(0, .ref h0), (1, .int (nI i))] := hl
      refine lv_aload_n hx hb dX6_isInConflict_28 rfl (lv_at hl 0 rfl) ?_
      refine lv_iload_n hx hb dX6_isInConflict_29 rfl (lv_at hl 1 rfl) ?_
      refine gv_mi (wc := [(h0, .inr (6, [.int (gv_01 (vp_in p0 ln)), .int (nI mo), .ref r2, .int st, .int pe, .ref r5, .ref r6, .ref r7, .int (nI nc), .int (nI bn), .ref r10, .ref r11, .ref r12, .ref r13, .int (nI ln), .ref r15, .ref r16, .ref r17, .ref r18, .int (nI ac)])), (r10, .inl (cI, 24, .inl (fun j => nI (sa j)))), (r11, .inl (cI, 24, .inl (fun j => nI (sb j)))), (r12, .inl (cI, 24, .inl sr)), (r13, .inl (cI, 24, .inl (fun j => nI (su j)))), (r15, .inl (cI, 10, .inl dd)), (r16, .inl (cI, 10, .inl hh))]) (wr := []) (w2 := (fun u => [(h0, .inr (6, [.int (gv_01 (vp_in p0 ln)), .int (nI mo), .ref r2, .int st, .int pe, .ref r5, .ref r6, .ref r7, .int (nI nc), .int (nI bn), .ref r10, .ref r11, .ref r12, .ref r13, .int (nI ln), .ref r15, .ref r16, .ref r17, .ref r18, .int (nI ac)])), (r10, .inl (cI, 24, .inl (fun j => nI (sa j)))), (r11, .inl (cI, 24, .inl (fun j => nI (sb j)))), (r12, .inl (cI, 24, .inl sr)), (r13, .inl (cI, 24, .inl (fun j => nI (su j)))), (r15, .inl (cI, 10, .inl ((gv_itr sa sb su sr ln (bn - 1) (gv_ko dd, gv_hz hh)).1))), (r16, .inl (cI, 10, .inl ((gv_itr sa sb su sr ln (bn - 1) (gv_ko dd, gv_hz hh)).2)))])) (va_runV (As := [.int (nI i)]) (rest := []) ⟨hx, hb, hml, hown, hts⟩ (ct_X6_conflicts l D cI cJ H.size h0 r2 r5 r6 r7 r10 r11 r12 r13 r15 r16 r17 r18 (gv_01 (vp_in p0 ln)) st pe mo nc bn ln ac sa sb su sr dd hh i hsa hsb hsu hlb hln hbn (by omega)) (cwV 1 hts gX6_isInConflict_X6_conflicts rfl rfl rfl (by decide +kernel) ⟨Nat.le_of_ble_eq_true rfl, Nat.le_of_ble_eq_true rfl⟩) (gv_pV (wc := [(h0, .inr (6, [.int (gv_01 (vp_in p0 ln)), .int (nI mo), .ref r2, .int st, .int pe, .ref r5, .ref r6, .ref r7, .int (nI nc), .int (nI bn), .ref r10, .ref r11, .ref r12, .ref r13, .int (nI ln), .ref r15, .ref r16, .ref r17, .ref r18, .int (nI ac)])), (r10, .inl (cI, 24, .inl (fun j => nI (sa j)))), (r11, .inl (cI, 24, .inl (fun j => nI (sb j)))), (r12, .inl (cI, 24, .inl sr)), (r13, .inl (cI, 24, .inl (fun j => nI (su j)))), (r15, .inl (cI, 10, .inl dd)), (r16, .inl (cI, 10, .inl hh))]) hP hK hD hG [0, 1, 2, 3, 4, 5, 6] rfl (by decide) 0 rfl rfl rfl) rfl rfl hl.1 rfl (lv_room (Nat.le_of_ble_eq_true rfl)) dX6_isInConflict_30 ⟨Nat.le_of_ble_eq_true rfl, Nat.le_of_ble_eq_true rfl⟩) hP hD hS hA [0, 1, 2, 3, 4, 5, 6] [] [0, 1, 2, 3, 4, 5, 6] rfl rfl (by decide) (by decide) (fun u => rfl) (by decide) (fun rc u H locs hrc hP hD hS => ?_)
      have hP : va_P D vwCl [(h0, .inr (6, [.int (gv_01 (vp_in p0 ln)), .int (nI mo), .ref r2, .int st, .int pe, .ref r5, .ref r6, .ref r7, .int (nI nc), .int (nI bn), .ref r10, .ref r11, .ref r12, .ref r13, .int (nI ln), .ref r15, .ref r16, .ref r17, .ref r18, .int (nI ac)])), (r10, .inl (cI, 24, .inl (fun j => nI (sa j)))), (r11, .inl (cI, 24, .inl (fun j => nI (sb j)))), (r12, .inl (cI, 24, .inl sr)), (r13, .inl (cI, 24, .inl (fun j => nI (su j)))), (r15, .inl (cI, 10, .inl ((gv_itr sa sb su sr ln (bn - 1) (gv_ko dd, gv_hz hh)).1))), (r16, .inl (cI, 10, .inl ((gv_itr sa sb su sr ln (bn - 1) (gv_ko dd, gv_hz hh)).2)))] H := hP
      have hD : va_D A [(h0, .inr (6, [.int (gv_01 (vp_in p0 ln)), .int (nI mo), .ref r2, .int st, .int pe, .ref r5, .ref r6, .ref r7, .int (nI nc), .int (nI bn), .ref r10, .ref r11, .ref r12, .ref r13, .int (nI ln), .ref r15, .ref r16, .ref r17, .ref r18, .int (nI ac)])), (r10, .inl (cI, 24, .inl (fun j => nI (sa j)))), (r11, .inl (cI, 24, .inl (fun j => nI (sb j)))), (r12, .inl (cI, 24, .inl sr)), (r13, .inl (cI, 24, .inl (fun j => nI (su j)))), (r15, .inl (cI, 10, .inl ((gv_itr sa sb su sr ln (bn - 1) (gv_ko dd, gv_hz hh)).1))), (r16, .inl (cI, 10, .inl ((gv_itr sa sb su sr ln (bn - 1) (gv_ko dd, gv_hz hh)).2)))] := hD
      refine lv_if_eq (tgt := 40) hx hb dX6_isInConflict_33 (by decide) (fun c_33 => ?_) (fun c_33 => ?_)
      · skip
        refine lv_iconst (v := nI 0) hx hb dX6_isInConflict_40 (by decide) ?_
        have hpo : match ((gv_itr sa sb su sr ln (bn - 1) (gv_ko dd, gv_hz hh)).1, (gv_itr sa sb su sr ln (bn - 1) (gv_ko dd, gv_hz hh)).2) with | (d9, h9) => ∀ i, i < ln → p0 = nI i → (nI 0) = gv_10 (gv_con sa sb su sr (gv_itr sa sb su sr ln (bn - 1) (gv_ko dd, gv_hz hh)).1 (gv_itr sa sb su sr ln (bn - 1) (gv_ko dd, gv_hz hh)).2 i) := by
          first
            | exact fun i hi ei => absurd (gv_01t (by rw [ei]; exact vp_in_nI hi (by omega))).symm hno
            | (intro i2 hi2 ei2; cases gv_inj (ei2.symm.trans ei) (by omega) (by omega); first | exact gv_10t (gv_if1 hrc c_33) | exact gv_10f (gv_if0 hrc c_33))
        have hP9 : va_P D vwCl [(h0, .inr (6, [.int (gv_01 (vp_in p0 ln)), .int (nI mo), .ref r2, .int st, .int pe, .ref r5, .ref r6, .ref r7, .int (nI nc), .int (nI bn), .ref r10, .ref r11, .ref r12, .ref r13, .int (nI ln), .ref r15, .ref r16, .ref r17, .ref r18, .int (nI ac)])), (r10, .inl (cI, 24, .inl (fun j => nI (sa j)))), (r11, .inl (cI, 24, .inl (fun j => nI (sb j)))), (r12, .inl (cI, 24, .inl sr)), (r13, .inl (cI, 24, .inl (fun j => nI (su j)))), (r15, .inl (cI, 10, .inl ((gv_itr sa sb su sr ln (bn - 1) (gv_ko dd, gv_hz hh)).1))), (r16, .inl (cI, 10, .inl ((gv_itr sa sb su sr ln (bn - 1) (gv_ko dd, gv_hz hh)).2)))] H := hP
        have hD9 : va_D A [(h0, .inr (6, [.int (gv_01 (vp_in p0 ln)), .int (nI mo), .ref r2, .int st, .int pe, .ref r5, .ref r6, .ref r7, .int (nI nc), .int (nI bn), .ref r10, .ref r11, .ref r12, .ref r13, .int (nI ln), .ref r15, .ref r16, .ref r17, .ref r18, .int (nI ac)])), (r10, .inl (cI, 24, .inl (fun j => nI (sa j)))), (r11, .inl (cI, 24, .inl (fun j => nI (sb j)))), (r12, .inl (cI, 24, .inl sr)), (r13, .inl (cI, 24, .inl (fun j => nI (su j)))), (r15, .inl (cI, 10, .inl ((gv_itr sa sb su sr ln (bn - 1) (gv_ko dd, gv_hz hh)).1))), (r16, .inl (cI, 10, .inl ((gv_itr sa sb su sr ln (bn - 1) (gv_ko dd, gv_hz hh)).2)))] := hD
        exact W.zret (v := nI 0) (ty := .boolean) hx hb hr rfl (fun t9 ht9 hW9 => ⟨⟨(nI 0), ((gv_itr sa sb su sr ln (bn - 1) (gv_ko dd, gv_hz hh)).1, (gv_itr sa sb su sr ln (bn - 1) (gv_ko dd, gv_hz hh)).2), rfl, hpo, by rw [ht9]; exact hP9, hD9⟩, hS.F ht9⟩) hS.2.2 dX6_isInConflict_41
      · skip
        refine lv_iconst (v := nI 1) hx hb dX6_isInConflict_36 (by decide) ?_
        refine lv_goto (tgt := 41) hx hb dX6_isInConflict_37 (by decide) ?_
        have hpo : match ((gv_itr sa sb su sr ln (bn - 1) (gv_ko dd, gv_hz hh)).1, (gv_itr sa sb su sr ln (bn - 1) (gv_ko dd, gv_hz hh)).2) with | (d9, h9) => ∀ i, i < ln → p0 = nI i → (nI 1) = gv_10 (gv_con sa sb su sr (gv_itr sa sb su sr ln (bn - 1) (gv_ko dd, gv_hz hh)).1 (gv_itr sa sb su sr ln (bn - 1) (gv_ko dd, gv_hz hh)).2 i) := by
          first
            | exact fun i hi ei => absurd (gv_01t (by rw [ei]; exact vp_in_nI hi (by omega))).symm hno
            | (intro i2 hi2 ei2; cases gv_inj (ei2.symm.trans ei) (by omega) (by omega); first | exact gv_10t (gv_if1 hrc c_33) | exact gv_10f (gv_if0 hrc c_33))
        have hP9 : va_P D vwCl [(h0, .inr (6, [.int (gv_01 (vp_in p0 ln)), .int (nI mo), .ref r2, .int st, .int pe, .ref r5, .ref r6, .ref r7, .int (nI nc), .int (nI bn), .ref r10, .ref r11, .ref r12, .ref r13, .int (nI ln), .ref r15, .ref r16, .ref r17, .ref r18, .int (nI ac)])), (r10, .inl (cI, 24, .inl (fun j => nI (sa j)))), (r11, .inl (cI, 24, .inl (fun j => nI (sb j)))), (r12, .inl (cI, 24, .inl sr)), (r13, .inl (cI, 24, .inl (fun j => nI (su j)))), (r15, .inl (cI, 10, .inl ((gv_itr sa sb su sr ln (bn - 1) (gv_ko dd, gv_hz hh)).1))), (r16, .inl (cI, 10, .inl ((gv_itr sa sb su sr ln (bn - 1) (gv_ko dd, gv_hz hh)).2)))] H := hP
        have hD9 : va_D A [(h0, .inr (6, [.int (gv_01 (vp_in p0 ln)), .int (nI mo), .ref r2, .int st, .int pe, .ref r5, .ref r6, .ref r7, .int (nI nc), .int (nI bn), .ref r10, .ref r11, .ref r12, .ref r13, .int (nI ln), .ref r15, .ref r16, .ref r17, .ref r18, .int (nI ac)])), (r10, .inl (cI, 24, .inl (fun j => nI (sa j)))), (r11, .inl (cI, 24, .inl (fun j => nI (sb j)))), (r12, .inl (cI, 24, .inl sr)), (r13, .inl (cI, 24, .inl (fun j => nI (su j)))), (r15, .inl (cI, 10, .inl ((gv_itr sa sb su sr ln (bn - 1) (gv_ko dd, gv_hz hh)).1))), (r16, .inl (cI, 10, .inl ((gv_itr sa sb su sr ln (bn - 1) (gv_ko dd, gv_hz hh)).2)))] := hD
        exact W.zret (v := nI 1) (ty := .boolean) hx hb hr rfl (fun t9 ht9 hW9 => ⟨⟨(nI 1), ((gv_itr sa sb su sr ln (bn - 1) (gv_ko dd, gv_hz hh)).1, (gv_itr sa sb su sr ln (bn - 1) (gv_ko dd, gv_hz hh)).2), rfl, hpo, by rw [ht9]; exact hP9, hD9⟩, hS.F ht9⟩) hS.2.2 dX6_isInConflict_41
  · skip
    refine lv_if_eq (tgt := 21) hx hb dX6_isInConflict_14 (by decide) (fun c_14 => ?_) (fun c_14 => ?_)
    · skip
      refine lv_iconst (v := nI 1) hx hb dX6_isInConflict_21 (by decide) ?_
      exact K_1 _ (by first | exact gv_01t ((gv_isnc (by omega)).mp (gv_if1 h1 c_14)) | exact gv_01f (fun z => gv_if0 h1 c_14 ((gv_isnc (by omega)).mpr z)))
    · skip
      refine lv_iconst (v := nI 0) hx hb dX6_isInConflict_17 (by decide) ?_
      refine lv_goto (tgt := 22) hx hb dX6_isInConflict_18 (by decide) ?_
      exact K_1 _ (by first | exact gv_01t ((gv_isnc (by omega)).mp (gv_if1 h1 c_14)) | exact gv_01f (fun z => gv_if0 h1 c_14 ((gv_isnc (by omega)).mpr z)))
set_option maxHeartbeats 4000000 in
set_option maxRecDepth 100000 in
theorem ct_X6_release (l : Launch) (D : va_G) (cI cJ : ClassId) (sz : Nat) (h0 r2 r5 r6 r7 r10 r11 r12 r13 r15 r16 r17 r18 : Nat) (th st pe : Int32) (mo nc bn ln ac : Nat) (mm kp : Nat → Int64) (am : Nat → Nat) (hac : ac ≤ 12) : Met l yX6_release wsX6_release ({ frames := 1, cells := 0, slots := 0, locals := 29 }) (va_Pc [.ref h0] (gv_B D cI cJ [(h0, .inr (6, [.int th, .int (nI mo), .ref r2, .int st, .int pe, .ref r5, .ref r6, .ref r7, .int (nI nc), .int (nI bn), .ref r10, .ref r11, .ref r12, .ref r13, .int (nI ln), .ref r15, .ref r16, .ref r17, .ref r18, .int (nI ac)])), (r2, .inl (cJ, 256, .inr (.inl mm))), (r17, .inl (cJ, 768, .inr (.inl kp))), (r18, .inl (cI, 12, .inl (fun j => nI (am j))))] sz)) (va_Qi (fun (r9 : Int32) (u9 : Nat × (Nat → Int64) × (Nat → Nat)) => match u9 with | (ac9, kp9, am9) => (¬ ac = 12 → r9 = nI ac ∧ ac9 = ac + 1 ∧ kp9 = gv_kr mm kp ac 64 ∧ am9 = gv_un am ac mo) ∧ (ac = 12 → ac9 = ac ∧ kp9 = kp ∧ am9 = am)) (fun (u9 : Nat × (Nat → Int64) × (Nat → Nat)) t9 => gv_W D (va_A [(h0, .inr (6, [.int th, .int (nI mo), .ref r2, .int st, .int pe, .ref r5, .ref r6, .ref r7, .int (nI nc), .int (nI bn), .ref r10, .ref r11, .ref r12, .ref r13, .int (nI ln), .ref r15, .ref r16, .ref r17, .ref r18, .int (nI ac)])), (r2, .inl (cJ, 256, .inr (.inl mm))), (r17, .inl (cJ, 768, .inr (.inl kp))), (r18, .inl (cI, 12, .inl (fun j => nI (am j))))] sz) (match u9 with | (ac9, kp9, am9) => [(h0, .inr (6, [.int (gv_01 (¬ ac = 12)), .int (nI mo), .ref r2, .int st, .int pe, .ref r5, .ref r6, .ref r7, .int (nI nc), .int (nI bn), .ref r10, .ref r11, .ref r12, .ref r13, .int (nI ln), .ref r15, .ref r16, .ref r17, .ref r18, .int (nI ac9)])), (r2, .inl (cJ, 256, .inr (.inl mm))), (r17, .inl (cJ, 768, .inr (.inl kp9))), (r18, .inl (cI, 12, .inl (fun j => nI (am9 j))))]) t9) (va_A [(h0, .inr (6, [.int th, .int (nI mo), .ref r2, .int st, .int pe, .ref r5, .ref r6, .ref r7, .int (nI nc), .int (nI bn), .ref r10, .ref r11, .ref r12, .ref r13, .int (nI ln), .ref r15, .ref r16, .ref r17, .ref r18, .int (nI ac)])), (r2, .inl (cJ, 256, .inr (.inl mm))), (r17, .inl (cJ, 768, .inr (.inl kp))), (r18, .inl (cI, 12, .inl (fun j => nI (am j))))] sz)) 0 0 (va_A [(h0, .inr (6, [.int th, .int (nI mo), .ref r2, .int st, .int pe, .ref r5, .ref r6, .ref r7, .int (nI nc), .int (nI bn), .ref r10, .ref r11, .ref r12, .ref r13, .int (nI ln), .ref r15, .ref r16, .ref r17, .ref r18, .int (nI ac)])), (r2, .inl (cJ, 256, .inr (.inl mm))), (r17, .inl (cJ, 768, .inr (.inl kp))), (r18, .inl (cI, 12, .inl (fun j => nI (am j))))] sz) := by
  refine Met.ofW (cc := cX6_release) (maxL := 2) (ret := (some .int)) (by decide) rfl ?_
  intro p e s m args below meth c s₁ B hml hv
  obtain ⟨rfl, hsz, hP, hK, hD0, hG⟩ := hv
  have hx := B.exec
  have hb := B.bytes
  have hr := B.returns
  have hts := atoms_spec (ws := wsX6_release) B.pre
  have hown : s.vm.findClass RX6 = some m.cls := findClass_of_methodNamed B.named
  have hlocks := B.notSynchronized
  subst hsz
  have hD := hD0.self (sz := s.heap.size)
  generalize hAe : va_A [(h0, .inr (6, [.int th, .int (nI mo), .ref r2, .int st, .int pe, .ref r5, .ref r6, .ref r7, .int (nI nc), .int (nI bn), .ref r10, .ref r11, .ref r12, .ref r13, .int (nI ln), .ref r15, .ref r16, .ref r17, .ref r18, .int (nI ac)])), (r2, .inl (cJ, 256, .inr (.inl mm))), (r17, .inl (cJ, 768, .inr (.inl kp))), (r18, .inl (cI, 12, .inl (fun j => nI (am j))))] s.heap.size = A at hD ⊢
  have hA : ∀ q : Nat, s.heap.size ≤ q → A q := fun q h => by rw [← hAe]; exact Or.inr h
  have hS : va_S A s.heap s.heap [] := va_S.rf
  have hP : va_P D vwCl [(h0, .inr (6, [.int th, .int (nI mo), .ref r2, .int st, .int pe, .ref r5, .ref r6, .ref r7, .int (nI nc), .int (nI bn), .ref r10, .ref r11, .ref r12, .ref r13, .int (nI ln), .ref r15, .ref r16, .ref r17, .ref r18, .int (nI ac)])), (r2, .inl (cJ, 256, .inr (.inl mm))), (r17, .inl (cJ, 768, .inr (.inl kp))), (r18, .inl (cI, 12, .inl (fun j => nI (am j))))] s.heap := hP
  have hl := lv_entry ([.ref h0]) (n := 2) (Nat.le_of_ble_eq_true rfl)
  rw [lg_entry_eq]
  generalize (lg_sl ([.ref h0]) ++ List.replicate (2 - (lg_sl ([.ref h0])).length) Slot.unset).toArray = ls at hl ⊢
  have hl : lv_has ls 2 [(0, .ref h0)] := hl
  refine lv_aload_n hx hb dX6_release_0 rfl (lv_at hl 0 rfl) ?_
  refine gv_mg (fun v : Int32 => v = gv_01 (¬ ac = 12)) 15 [.ref h0] (fun tv hv_tv => ?_) (fun K_1 => ?_)
  · skip
    subst hv_tv
    refine gv_mi (wc := [(h0, .inr (6, [.int th, .int (nI mo), .ref r2, .int st, .int pe, .ref r5, .ref r6, .ref r7, .int (nI nc), .int (nI bn), .ref r10, .ref r11, .ref r12, .ref r13, .int (nI ln), .ref r15, .ref r16, .ref r17, .ref r18, .int (nI ac)]))]) (wr := [(r2, .inl (cJ, 256, .inr (.inl mm))), (r17, .inl (cJ, 768, .inr (.inl kp))), (r18, .inl (cI, 12, .inl (fun j => nI (am j))))]) (w2 := (fun u => [(h0, .inr (6, [.int (gv_01 (¬ ac = 12)), .int (nI mo), .ref r2, .int st, .int pe, .ref r5, .ref r6, .ref r7, .int (nI nc), .int (nI bn), .ref r10, .ref r11, .ref r12, .ref r13, .int (nI ln), .ref r15, .ref r16, .ref r17, .ref r18, .int (nI ac)])), (r2, .inl (cJ, 256, .inr (.inl mm))), (r17, .inl (cJ, 768, .inr (.inl kp))), (r18, .inl (cI, 12, .inl (fun j => nI (am j))))])) (va_runV (As := [.int (gv_01 (¬ ac = 12))]) (rest := []) ⟨hx, hb, hml, hown, hts⟩ (ct_X6_holds l D cI cJ s.heap.size h0 r2 r5 r6 r7 r10 r11 r12 r13 r15 r16 r17 r18 th st pe mo nc bn ln ac (gv_01 (¬ ac = 12))) (cwV 1 hts gX6_release_X6_holds rfl rfl rfl (by decide +kernel) ⟨Nat.le_of_ble_eq_true rfl, Nat.le_of_ble_eq_true rfl⟩) (gv_pV (wc := [(h0, .inr (6, [.int th, .int (nI mo), .ref r2, .int st, .int pe, .ref r5, .ref r6, .ref r7, .int (nI nc), .int (nI bn), .ref r10, .ref r11, .ref r12, .ref r13, .int (nI ln), .ref r15, .ref r16, .ref r17, .ref r18, .int (nI ac)]))]) hP hK hD hG [0] rfl (by decide) 0 rfl rfl rfl) rfl rfl hl.1 rfl (lv_room (Nat.le_of_ble_eq_true rfl)) dX6_release_15 ⟨Nat.le_of_ble_eq_true rfl, Nat.le_of_ble_eq_true rfl⟩) hP hD hS hA [0] [1, 2, 3] [3, 0, 1, 2] rfl rfl (by decide) (by decide) (fun u => rfl) (by decide) (fun rh u H locs hrh hP hD hS => ?_)
    have hP : va_P D vwCl [(h0, .inr (6, [.int (gv_01 (¬ ac = 12)), .int (nI mo), .ref r2, .int st, .int pe, .ref r5, .ref r6, .ref r7, .int (nI nc), .int (nI bn), .ref r10, .ref r11, .ref r12, .ref r13, .int (nI ln), .ref r15, .ref r16, .ref r17, .ref r18, .int (nI ac)])), (r2, .inl (cJ, 256, .inr (.inl mm))), (r17, .inl (cJ, 768, .inr (.inl kp))), (r18, .inl (cI, 12, .inl (fun j => nI (am j))))] H := hP
    have hD : va_D A [(h0, .inr (6, [.int (gv_01 (¬ ac = 12)), .int (nI mo), .ref r2, .int st, .int pe, .ref r5, .ref r6, .ref r7, .int (nI nc), .int (nI bn), .ref r10, .ref r11, .ref r12, .ref r13, .int (nI ln), .ref r15, .ref r16, .ref r17, .ref r18, .int (nI ac)])), (r2, .inl (cJ, 256, .inr (.inl mm))), (r17, .inl (cJ, 768, .inr (.inl kp))), (r18, .inl (cI, 12, .inl (fun j => nI (am j))))] := hD
    refine lv_if_ne (tgt := 23) hx hb dX6_release_18 (by decide) (fun c_18 => ?_) (fun c_18 => ?_)
    · skip
      have hok := gv_01z (gv_if1 hrh c_18)
      have hac2 : ac < 12 := by omega
      have hRW : kp = gv_kr mm kp ac 0 := gv_kr_0 mm kp ac
      rw [hRW] at hP hD
      have hP : va_P D vwCl [(h0, .inr (6, [.int (gv_01 (¬ ac = 12)), .int (nI mo), .ref r2, .int st, .int pe, .ref r5, .ref r6, .ref r7, .int (nI nc), .int (nI bn), .ref r10, .ref r11, .ref r12, .ref r13, .int (nI ln), .ref r15, .ref r16, .ref r17, .ref r18, .int (nI ac)])), (r2, .inl (cJ, 256, .inr (.inl mm))), (r17, .inl (cJ, 768, .inr (.inl (gv_kr mm kp ac 0)))), (r18, .inl (cI, 12, .inl (fun j => nI (am j))))] H := hP
      have hD : va_D A [(h0, .inr (6, [.int (gv_01 (¬ ac = 12)), .int (nI mo), .ref r2, .int st, .int pe, .ref r5, .ref r6, .ref r7, .int (nI nc), .int (nI bn), .ref r10, .ref r11, .ref r12, .ref r13, .int (nI ln), .ref r15, .ref r16, .ref r17, .ref r18, .int (nI ac)])), (r2, .inl (cJ, 256, .inr (.inl mm))), (r17, .inl (cJ, 768, .inr (.inl (gv_kr mm kp ac 0)))), (r18, .inl (cI, 12, .inl (fun j => nI (am j))))] := hD
      refine lv_iconst (v := nI 0) hx hb dX6_release_23 (by decide) ?_
      refine lv_istore_n (lv' := [(1, .int (nI 0)), (0, .ref h0)]) hx hb dX6_release_24 rfl hl (by decide) rfl (fun ls hl => ?_)
      refine gv_lm (σ := Nat) (fun zq H locs ls => match zq with | k => k ≤ 64 ∧ va_P D vwCl [(h0, .inr (6, [.int (gv_01 (¬ ac = 12)), .int (nI mo), .ref r2, .int st, .int pe, .ref r5, .ref r6, .ref r7, .int (nI nc), .int (nI bn), .ref r10, .ref r11, .ref r12, .ref r13, .int (nI ln), .ref r15, .ref r16, .ref r17, .ref r18, .int (nI ac)])), (r2, .inl (cJ, 256, .inr (.inl mm))), (r17, .inl (cJ, 768, .inr (.inl (gv_kr mm kp ac k)))), (r18, .inl (cI, 12, .inl (fun j => nI (am j))))] H ∧ va_D A [(h0, .inr (6, [.int (gv_01 (¬ ac = 12)), .int (nI mo), .ref r2, .int st, .int pe, .ref r5, .ref r6, .ref r7, .int (nI nc), .int (nI bn), .ref r10, .ref r11, .ref r12, .ref r13, .int (nI ln), .ref r15, .ref r16, .ref r17, .ref r18, .int (nI ac)])), (r2, .inl (cJ, 256, .inr (.inl mm))), (r17, .inl (cJ, 768, .inr (.inl (gv_kr mm kp ac k)))), (r18, .inl (cI, 12, .inl (fun j => nI (am j))))] ∧ va_S A s.heap H locs ∧ lv_has ls 2 [(0, .ref h0), (1, .int (nI k))]) (fun zq => match zq with | k => 64 - k) 0 ⟨by omega, hP, hD, hS, lv_sub hl [1, 0] rfl⟩ (fun k H locs ls hI ih_25 => ?_)
      obtain ⟨hk, hP, hD, hS, hl⟩ := hI
      refine lv_iload_n hx hb dX6_release_25 rfl (lv_at hl 1 rfl) ?_
      refine lv_bipush (v := nI 64) hx hb dX6_release_26 (by decide) ?_
      refine lv_icmp_ge (tgt := 63) hx hb dX6_release_28 (by decide) (fun c_28 => ?_) (fun c_28 => ?_)
      · skip
        have c_28 := (nI_leI (a := 64) (b := k) (by omega) (by omega)).mp c_28
        have hk64 : k = 64 := by omega
        have hRW : gv_kr mm kp ac k = gv_kr mm kp ac 64 := by rw [hk64]
        rw [hRW] at hP hD
        have hP : va_P D vwCl [(h0, .inr (6, [.int (gv_01 (¬ ac = 12)), .int (nI mo), .ref r2, .int st, .int pe, .ref r5, .ref r6, .ref r7, .int (nI nc), .int (nI bn), .ref r10, .ref r11, .ref r12, .ref r13, .int (nI ln), .ref r15, .ref r16, .ref r17, .ref r18, .int (nI ac)])), (r2, .inl (cJ, 256, .inr (.inl mm))), (r17, .inl (cJ, 768, .inr (.inl (gv_kr mm kp ac 64)))), (r18, .inl (cI, 12, .inl (fun j => nI (am j))))] H := hP
        have hD : va_D A [(h0, .inr (6, [.int (gv_01 (¬ ac = 12)), .int (nI mo), .ref r2, .int st, .int pe, .ref r5, .ref r6, .ref r7, .int (nI nc), .int (nI bn), .ref r10, .ref r11, .ref r12, .ref r13, .int (nI ln), .ref r15, .ref r16, .ref r17, .ref r18, .int (nI ac)])), (r2, .inl (cJ, 256, .inr (.inl mm))), (r17, .inl (cJ, 768, .inr (.inl (gv_kr mm kp ac 64)))), (r18, .inl (cI, 12, .inl (fun j => nI (am j))))] := hD
        refine lv_aload_n hx hb dX6_release_63 rfl (lv_at hl 0 rfl) ?_
        refine va_get (D := D) (ci := 6) (v := .ref r18) (C := RX6) (T := TX6) (N := 20) hx hb hts gv_in_X6_release_X6 hown hK hP 0 rfl rfl 18 (by decide) (hts (.fieldLink RX6 48 "GravimereModel" "made" "[I") (by decide +kernel)) (fun _ h9 => h9) rfl dX6_release_64 ?_
        refine lv_aload_n hx hb dX6_release_67 rfl (lv_at hl 0 rfl) ?_
        refine va_get (D := D) (ci := 6) (v := .int (nI ac)) (C := RX6) (T := TX6) (N := 20) hx hb hts gv_in_X6_release_X6 hown hK hP 0 rfl rfl 19 (by decide) (hts (.fieldLink RX6 69 "GravimereModel" "releases" "I") (by decide +kernel)) (fun _ h9 => h9) rfl dX6_release_68 ?_
        refine lv_aload_n hx hb dX6_release_71 rfl (lv_at hl 0 rfl) ?_
        refine va_get (D := D) (ci := 6) (v := .int (nI mo)) (C := RX6) (T := TX6) (N := 20) hx hb hts gv_in_X6_release_X6 hown hK hP 0 rfl rfl 1 (by decide) (hts (.fieldLink RX6 51 "GravimereModel" "month" "I") (by decide +kernel)) (fun _ h9 => h9) rfl dX6_release_72 ?_
        refine gv_is hx hb hK hP hD hS 3 (k := ac) rfl (by omega) (by decide) dX6_release_75 (fun H locs hP hD hS => ?_)
        have hP : va_P D vwCl [(h0, .inr (6, [.int (gv_01 (¬ ac = 12)), .int (nI mo), .ref r2, .int st, .int pe, .ref r5, .ref r6, .ref r7, .int (nI nc), .int (nI bn), .ref r10, .ref r11, .ref r12, .ref r13, .int (nI ln), .ref r15, .ref r16, .ref r17, .ref r18, .int (nI ac)])), (r2, .inl (cJ, 256, .inr (.inl mm))), (r17, .inl (cJ, 768, .inr (.inl (gv_kr mm kp ac 64)))), (r18, .inl (cI, 12, .inl (upd (fun j => nI (am j)) ac (nI mo))))] H := hP
        have hD : va_D A [(h0, .inr (6, [.int (gv_01 (¬ ac = 12)), .int (nI mo), .ref r2, .int st, .int pe, .ref r5, .ref r6, .ref r7, .int (nI nc), .int (nI bn), .ref r10, .ref r11, .ref r12, .ref r13, .int (nI ln), .ref r15, .ref r16, .ref r17, .ref r18, .int (nI ac)])), (r2, .inl (cJ, 256, .inr (.inl mm))), (r17, .inl (cJ, 768, .inr (.inl (gv_kr mm kp ac 64)))), (r18, .inl (cI, 12, .inl (upd (fun j => nI (am j)) ac (nI mo))))] := hD
        have hRW : upd (fun j => nI (am j)) ac (nI mo) = fun j => nI (gv_un am ac mo j) := gv_upd_n am ac mo
        rw [hRW] at hP hD
        have hP : va_P D vwCl [(h0, .inr (6, [.int (gv_01 (¬ ac = 12)), .int (nI mo), .ref r2, .int st, .int pe, .ref r5, .ref r6, .ref r7, .int (nI nc), .int (nI bn), .ref r10, .ref r11, .ref r12, .ref r13, .int (nI ln), .ref r15, .ref r16, .ref r17, .ref r18, .int (nI ac)])), (r2, .inl (cJ, 256, .inr (.inl mm))), (r17, .inl (cJ, 768, .inr (.inl (gv_kr mm kp ac 64)))), (r18, .inl (cI, 12, .inl (fun j => nI (gv_un am ac mo j))))] H := hP
        have hD : va_D A [(h0, .inr (6, [.int (gv_01 (¬ ac = 12)), .int (nI mo), .ref r2, .int st, .int pe, .ref r5, .ref r6, .ref r7, .int (nI nc), .int (nI bn), .ref r10, .ref r11, .ref r12, .ref r13, .int (nI ln), .ref r15, .ref r16, .ref r17, .ref r18, .int (nI ac)])), (r2, .inl (cJ, 256, .inr (.inl mm))), (r17, .inl (cJ, 768, .inr (.inl (gv_kr mm kp ac 64)))), (r18, .inl (cI, 12, .inl (fun j => nI (gv_un am ac mo j))))] := hD
        refine lv_aload_n hx hb dX6_release_76 rfl (lv_at hl 0 rfl) ?_
        refine lv_dup hx hb dX6_release_77 rfl ?_
        refine va_get (D := D) (ci := 6) (v := .int (nI ac)) (C := RX6) (T := TX6) (N := 20) hx hb hts gv_in_X6_release_X6 hown hK hP 0 rfl rfl 19 (by decide) (hts (.fieldLink RX6 69 "GravimereModel" "releases" "I") (by decide +kernel)) (fun _ h9 => h9) rfl dX6_release_78 ?_
        refine lv_iconst (v := nI 1) hx hb dX6_release_81 (by decide) ?_
        refine lv_iadd hx hb dX6_release_82 ?_
        refine gv_wi (nI_add ac 1) ?_
        refine va_put (D := D) (ci := 6) (v := .int (nI (ac + 1))) (ty := .int) (C := RX6) (T := TX6) (N := 20) hx hb hts gv_in_X6_release_X6 tyX6 tyX6_ok nmX6 hown hK hP hD hS 0 rfl rfl 19 (by decide) (hts (.fieldLink RX6 69 "GravimereModel" "releases" "I") (by decide +kernel)) (fun _ h9 => h9) rfl (by decide +kernel) rfl rfl (Nat.le_of_ble_eq_true rfl) dX6_release_83 (fun H locs hP hD hS => ?_)
        have hP : va_P D vwCl [(h0, .inr (6, [.int (gv_01 (¬ ac = 12)), .int (nI mo), .ref r2, .int st, .int pe, .ref r5, .ref r6, .ref r7, .int (nI nc), .int (nI bn), .ref r10, .ref r11, .ref r12, .ref r13, .int (nI ln), .ref r15, .ref r16, .ref r17, .ref r18, .int (nI (ac + 1))])), (r2, .inl (cJ, 256, .inr (.inl mm))), (r17, .inl (cJ, 768, .inr (.inl (gv_kr mm kp ac 64)))), (r18, .inl (cI, 12, .inl (fun j => nI (gv_un am ac mo j))))] H := hP
        have hD : va_D A [(h0, .inr (6, [.int (gv_01 (¬ ac = 12)), .int (nI mo), .ref r2, .int st, .int pe, .ref r5, .ref r6, .ref r7, .int (nI nc), .int (nI bn), .ref r10, .ref r11, .ref r12, .ref r13, .int (nI ln), .ref r15, .ref r16, .ref r17, .ref r18, .int (nI (ac + 1))])), (r2, .inl (cJ, 256, .inr (.inl mm))), (r17, .inl (cJ, 768, .inr (.inl (gv_kr mm kp ac 64)))), (r18, .inl (cI, 12, .inl (fun j => nI (gv_un am ac mo j))))] := hD
        refine lv_aload_n hx hb dX6_release_86 rfl (lv_at hl 0 rfl) ?_
        refine va_get (D := D) (ci := 6) (v := .int (nI (ac + 1))) (C := RX6) (T := TX6) (N := 20) hx hb hts gv_in_X6_release_X6 hown hK hP 0 rfl rfl 19 (by decide) (hts (.fieldLink RX6 69 "GravimereModel" "releases" "I") (by decide +kernel)) (fun _ h9 => h9) rfl dX6_release_87 ?_
        refine lv_iconst (v := nI 1) hx hb dX6_release_90 (by decide) ?_
        refine lv_isub hx hb dX6_release_91 ?_
        refine gv_wi (nI_pred ac) ?_
        have hpo : match (ac + 1, gv_kr mm kp ac 64, gv_un am ac mo) with | (ac9, kp9, am9) => (¬ ac = 12 → (nI ac) = nI ac ∧ ac9 = ac + 1 ∧ kp9 = gv_kr mm kp ac 64 ∧ am9 = gv_un am ac mo) ∧ (ac = 12 → ac9 = ac ∧ kp9 = kp ∧ am9 = am) := by
          exact ⟨fun _ => ⟨rfl, rfl, rfl, rfl⟩, fun z => absurd z hok⟩
        have hP9 : va_P D vwCl [(h0, .inr (6, [.int (gv_01 (¬ ac = 12)), .int (nI mo), .ref r2, .int st, .int pe, .ref r5, .ref r6, .ref r7, .int (nI nc), .int (nI bn), .ref r10, .ref r11, .ref r12, .ref r13, .int (nI ln), .ref r15, .ref r16, .ref r17, .ref r18, .int (nI (ac + 1))])), (r2, .inl (cJ, 256, .inr (.inl mm))), (r17, .inl (cJ, 768, .inr (.inl (gv_kr mm kp ac 64)))), (r18, .inl (cI, 12, .inl (fun j => nI ((gv_un am ac mo) j))))] H := hP
        have hD9 : va_D A [(h0, .inr (6, [.int (gv_01 (¬ ac = 12)), .int (nI mo), .ref r2, .int st, .int pe, .ref r5, .ref r6, .ref r7, .int (nI nc), .int (nI bn), .ref r10, .ref r11, .ref r12, .ref r13, .int (nI ln), .ref r15, .ref r16, .ref r17, .ref r18, .int (nI (ac + 1))])), (r2, .inl (cJ, 256, .inr (.inl mm))), (r17, .inl (cJ, 768, .inr (.inl (gv_kr mm kp ac 64)))), (r18, .inl (cI, 12, .inl (fun j => nI ((gv_un am ac mo) j))))] := hD
        exact W.iret (v := nI ac) hx hb hr (fun t9 ht9 hW9 => ⟨⟨(nI ac), (ac + 1, gv_kr mm kp ac 64, gv_un am ac mo), rfl, hpo, by rw [ht9]; exact hP9, hD9⟩, hS.F ht9⟩) hS.2.2 dX6_release_92
      · skip
        have c_28 := (not_congr (nI_leI (a := 64) (b := k) (by omega) (by omega))).mp c_28
        refine lv_aload_n hx hb dX6_release_31 rfl (lv_at hl 0 rfl) ?_
        refine va_get (D := D) (ci := 6) (v := .ref r17) (C := RX6) (T := TX6) (N := 20) hx hb hts gv_in_X6_release_X6 hown hK hP 0 rfl rfl 17 (by decide) (hts (.fieldLink RX6 45 "GravimereModel" "kept" "[J") (by decide +kernel)) (fun _ h9 => h9) rfl dX6_release_32 ?_
        refine lv_bipush (v := nI 64) hx hb dX6_release_35 (by decide) ?_
        refine lv_aload_n hx hb dX6_release_37 rfl (lv_at hl 0 rfl) ?_
        refine va_get (D := D) (ci := 6) (v := .int (nI ac)) (C := RX6) (T := TX6) (N := 20) hx hb hts gv_in_X6_release_X6 hown hK hP 0 rfl rfl 19 (by decide) (hts (.fieldLink RX6 69 "GravimereModel" "releases" "I") (by decide +kernel)) (fun _ h9 => h9) rfl dX6_release_38 ?_
        refine lv_imul hx hb dX6_release_41 ?_
        refine gv_wi (pk_mul 64 ac) ?_
        refine lv_iload_n hx hb dX6_release_42 rfl (lv_at hl 1 rfl) ?_
        refine lv_iadd hx hb dX6_release_43 ?_
        refine gv_wi (nI_add (64 * ac) k) ?_
        refine lv_aload_n hx hb dX6_release_44 rfl (lv_at hl 0 rfl) ?_
        refine lv_iload_n hx hb dX6_release_45 rfl (lv_at hl 1 rfl) ?_
        refine lv_bipush (v := nI 8) hx hb dX6_release_46 (by decide) ?_
        refine lv_irem hx hb dX6_release_48 (by decide) ?_
        refine gv_wi (pk_rem (a := k) (d := 8) (by omega) (by omega) (by omega)) ?_
        refine lv_iload_n hx hb dX6_release_49 rfl (lv_at hl 1 rfl) ?_
        refine lv_bipush (v := nI 8) hx hb dX6_release_50 (by decide) ?_
        refine lv_idiv hx hb dX6_release_52 (by decide) ?_
        refine gv_wi (pk_div (a := k) (d := 8) (by omega) (by omega) (by omega)) ?_
        refine gv_pl (va_runV (As := [.int (nI (k % 8)), .int (nI (k / 8))]) (rest := [.int (nI (64 * ac + k)), .ref r17]) ⟨hx, hb, hml, hown, hts⟩ (ct_X6_pullAt l D cI cJ H.size h0 r2 r5 r6 r7 r10 r11 r12 r13 r15 r16 r17 r18 (gv_01 (¬ ac = 12)) st pe mo nc bn ln ac mm (k % 8) (k / 8) (by omega) (by omega)) (cwV 2 hts gX6_release_X6_pullAt rfl rfl rfl (by decide +kernel) ⟨Nat.le_of_ble_eq_true rfl, Nat.le_of_ble_eq_true rfl⟩) (gv_pV (wc := [(h0, .inr (6, [.int (gv_01 (¬ ac = 12)), .int (nI mo), .ref r2, .int st, .int pe, .ref r5, .ref r6, .ref r7, .int (nI nc), .int (nI bn), .ref r10, .ref r11, .ref r12, .ref r13, .int (nI ln), .ref r15, .ref r16, .ref r17, .ref r18, .int (nI ac)])), (r2, .inl (cJ, 256, .inr (.inl mm)))]) hP hK hD hG [0, 1] rfl (by decide) 0 rfl rfl rfl) rfl rfl hl.1 rfl (lv_room (Nat.le_of_ble_eq_true rfl)) dX6_release_53 ⟨Nat.le_of_ble_eq_true rfl, Nat.le_of_ble_eq_true rfl⟩) (fun rc hrc => ?_)
        refine gv_ls hx hb hK hP hD hS 2 (k := 64 * ac + k) rfl (by omega) (by decide) dX6_release_56 (fun H locs hP hD hS => ?_)
        have hP : va_P D vwCl [(h0, .inr (6, [.int (gv_01 (¬ ac = 12)), .int (nI mo), .ref r2, .int st, .int pe, .ref r5, .ref r6, .ref r7, .int (nI nc), .int (nI bn), .ref r10, .ref r11, .ref r12, .ref r13, .int (nI ln), .ref r15, .ref r16, .ref r17, .ref r18, .int (nI ac)])), (r2, .inl (cJ, 256, .inr (.inl mm))), (r17, .inl (cJ, 768, .inr (.inl (vp_updL (gv_kr mm kp ac k) (64 * ac + k) rc)))), (r18, .inl (cI, 12, .inl (fun j => nI (am j))))] H := hP
        have hD : va_D A [(h0, .inr (6, [.int (gv_01 (¬ ac = 12)), .int (nI mo), .ref r2, .int st, .int pe, .ref r5, .ref r6, .ref r7, .int (nI nc), .int (nI bn), .ref r10, .ref r11, .ref r12, .ref r13, .int (nI ln), .ref r15, .ref r16, .ref r17, .ref r18, .int (nI ac)])), (r2, .inl (cJ, 256, .inr (.inl mm))), (r17, .inl (cJ, 768, .inr (.inl (vp_updL (gv_kr mm kp ac k) (64 * ac + k) rc)))), (r18, .inl (cI, 12, .inl (fun j => nI (am j))))] := hD
        have hRW : vp_updL (gv_kr mm kp ac k) (64 * ac + k) rc = gv_kr mm kp ac (k + 1) := gv_kr_s hrc
        rw [hRW] at hP hD
        have hP : va_P D vwCl [(h0, .inr (6, [.int (gv_01 (¬ ac = 12)), .int (nI mo), .ref r2, .int st, .int pe, .ref r5, .ref r6, .ref r7, .int (nI nc), .int (nI bn), .ref r10, .ref r11, .ref r12, .ref r13, .int (nI ln), .ref r15, .ref r16, .ref r17, .ref r18, .int (nI ac)])), (r2, .inl (cJ, 256, .inr (.inl mm))), (r17, .inl (cJ, 768, .inr (.inl (gv_kr mm kp ac (k + 1))))), (r18, .inl (cI, 12, .inl (fun j => nI (am j))))] H := hP
        have hD : va_D A [(h0, .inr (6, [.int (gv_01 (¬ ac = 12)), .int (nI mo), .ref r2, .int st, .int pe, .ref r5, .ref r6, .ref r7, .int (nI nc), .int (nI bn), .ref r10, .ref r11, .ref r12, .ref r13, .int (nI ln), .ref r15, .ref r16, .ref r17, .ref r18, .int (nI ac)])), (r2, .inl (cJ, 256, .inr (.inl mm))), (r17, .inl (cJ, 768, .inr (.inl (gv_kr mm kp ac (k + 1))))), (r18, .inl (cI, 12, .inl (fun j => nI (am j))))] := hD
        refine lv_iinc (v := nI (k + 1)) (lv' := [(1, .int (nI (k + 1))), (0, .ref h0)]) hx hb dX6_release_57 hl (k := 1) rfl (nI_add k 1) (by decide) rfl (fun ls hl => ?_)
        refine lv_goto (tgt := 25) hx hb dX6_release_60 (by decide) ?_
        exact ih_25 (k + 1) _ _ _ ⟨by omega, hP, hD, hS, lv_sub hl [1, 0] rfl⟩ (by simp only; omega)
    · skip
      have hno := gv_01n (gv_if0 hrh c_18)
      refine lv_iconst (v := nI 0) hx hb dX6_release_21 (by decide) ?_
      have hpo : match (ac, kp, am) with | (ac9, kp9, am9) => (¬ ac = 12 → (nI 0) = nI ac ∧ ac9 = ac + 1 ∧ kp9 = gv_kr mm kp ac 64 ∧ am9 = gv_un am ac mo) ∧ (ac = 12 → ac9 = ac ∧ kp9 = kp ∧ am9 = am) := by
        exact ⟨fun z => absurd z hno, fun _ => ⟨rfl, rfl, rfl⟩⟩
      have hP9 : va_P D vwCl [(h0, .inr (6, [.int (gv_01 (¬ ac = 12)), .int (nI mo), .ref r2, .int st, .int pe, .ref r5, .ref r6, .ref r7, .int (nI nc), .int (nI bn), .ref r10, .ref r11, .ref r12, .ref r13, .int (nI ln), .ref r15, .ref r16, .ref r17, .ref r18, .int (nI ac)])), (r2, .inl (cJ, 256, .inr (.inl mm))), (r17, .inl (cJ, 768, .inr (.inl kp))), (r18, .inl (cI, 12, .inl (fun j => nI (am j))))] H := hP
      have hD9 : va_D A [(h0, .inr (6, [.int (gv_01 (¬ ac = 12)), .int (nI mo), .ref r2, .int st, .int pe, .ref r5, .ref r6, .ref r7, .int (nI nc), .int (nI bn), .ref r10, .ref r11, .ref r12, .ref r13, .int (nI ln), .ref r15, .ref r16, .ref r17, .ref r18, .int (nI ac)])), (r2, .inl (cJ, 256, .inr (.inl mm))), (r17, .inl (cJ, 768, .inr (.inl kp))), (r18, .inl (cI, 12, .inl (fun j => nI (am j))))] := hD
      exact W.iret (v := nI 0) hx hb hr (fun t9 ht9 hW9 => ⟨⟨(nI 0), (ac, kp, am), rfl, hpo, by rw [ht9]; exact hP9, hD9⟩, hS.F ht9⟩) hS.2.2 dX6_release_22
  · skip
    refine lv_aload_n hx hb dX6_release_1 rfl (lv_at hl 0 rfl) ?_
    refine va_get (D := D) (ci := 6) (v := .int (nI ac)) (C := RX6) (T := TX6) (N := 20) hx hb hts gv_in_X6_release_X6 hown hK hP 0 rfl rfl 19 (by decide) (hts (.fieldLink RX6 69 "GravimereModel" "releases" "I") (by decide +kernel)) (fun _ h9 => h9) rfl dX6_release_2 ?_
    refine lv_bipush (v := nI 12) hx hb dX6_release_5 (by decide) ?_
    refine lv_icmp_ne (tgt := 14) hx hb dX6_release_7 (by decide) (fun c_7 => ?_) (fun c_7 => ?_)
    · skip
      have c_7 := (not_congr (nI_eq (a := ac) (b := 12) (by omega) (by omega))).mp c_7
      refine lv_iconst (v := nI 0) hx hb dX6_release_14 (by decide) ?_
      exact K_1 _ (by first | exact gv_01f (fun z => z c_7) | exact gv_01t c_7)
    · skip
      have c_7 := (nI_eq (a := ac) (b := 12) (by omega) (by omega)).mp c_7
      refine lv_iconst (v := nI 1) hx hb dX6_release_10 (by decide) ?_
      refine lv_goto (tgt := 15) hx hb dX6_release_11 (by decide) ?_
      exact K_1 _ (by first | exact gv_01f (fun z => z c_7) | exact gv_01t c_7)
set_option maxHeartbeats 4000000 in
set_option maxRecDepth 100000 in
theorem ct_X6_trend (l : Launch) (D : va_G) (cI cJ : ClassId) (sz : Nat) (h0 r2 r5 r6 r7 r10 r11 r12 r13 r15 r16 r17 r18 : Nat) (th st pe : Int32) (mo nc bn ln ac : Nat) (kp : Nat → Int64) (am : Nat → Nat) (p0 p1 x y : Int32) (hac : ac ≤ 12) (ham : ∀ j, am j ≤ 3000) : Met l yX6_trend wsX6_trend ({ frames := 2, cells := 0, slots := 0, locals := 46 }) (va_Pc [.ref h0, .int p0, .int p1, .int x, .int y] (gv_B D cI cJ [(h0, .inr (6, [.int th, .int (nI mo), .ref r2, .int st, .int pe, .ref r5, .ref r6, .ref r7, .int (nI nc), .int (nI bn), .ref r10, .ref r11, .ref r12, .ref r13, .int (nI ln), .ref r15, .ref r16, .ref r17, .ref r18, .int (nI ac)])), (r17, .inl (cJ, 768, .inr (.inl kp))), (r18, .inl (cI, 12, .inl (fun j => nI (am j))))] sz)) (va_Ql (fun (r9 : Int64) (u9 : Unit) => ∀ i j a b, i < ac → j < ac → a < 8 → b < 8 → p0 = nI i → p1 = nI j → x = nI a → y = nI b → ¬ am i = am j → r9 = if am j < am i then gv_down (kp (64 * i + (8 * b + a)) - kp (64 * j + (8 * b + a))) ((nI (am i - am j)).toInt64) else gv_down (kp (64 * j + (8 * b + a)) - kp (64 * i + (8 * b + a))) ((nI (am j - am i)).toInt64)) (fun (u9 : Unit) t9 => gv_W D (va_A [(h0, .inr (6, [.int th, .int (nI mo), .ref r2, .int st, .int pe, .ref r5, .ref r6, .ref r7, .int (nI nc), .int (nI bn), .ref r10, .ref r11, .ref r12, .ref r13, .int (nI ln), .ref r15, .ref r16, .ref r17, .ref r18, .int (nI ac)])), (r17, .inl (cJ, 768, .inr (.inl kp))), (r18, .inl (cI, 12, .inl (fun j => nI (am j))))] sz) [(h0, .inr (6, [.int (gv_02 (vp_in p0 ac ∧ vp_in p1 ac ∧ vp_in x 8 ∧ vp_in y 8) (¬ am p0.toNatClampNeg = am p1.toNatClampNeg)), .int (nI mo), .ref r2, .int st, .int pe, .ref r5, .ref r6, .ref r7, .int (nI nc), .int (nI bn), .ref r10, .ref r11, .ref r12, .ref r13, .int (nI ln), .ref r15, .ref r16, .ref r17, .ref r18, .int (nI ac)])), (r17, .inl (cJ, 768, .inr (.inl kp))), (r18, .inl (cI, 12, .inl (fun j => nI (am j))))] t9) (va_A [(h0, .inr (6, [.int th, .int (nI mo), .ref r2, .int st, .int pe, .ref r5, .ref r6, .ref r7, .int (nI nc), .int (nI bn), .ref r10, .ref r11, .ref r12, .ref r13, .int (nI ln), .ref r15, .ref r16, .ref r17, .ref r18, .int (nI ac)])), (r17, .inl (cJ, 768, .inr (.inl kp))), (r18, .inl (cI, 12, .inl (fun j => nI (am j))))] sz)) 0 0 (va_A [(h0, .inr (6, [.int th, .int (nI mo), .ref r2, .int st, .int pe, .ref r5, .ref r6, .ref r7, .int (nI nc), .int (nI bn), .ref r10, .ref r11, .ref r12, .ref r13, .int (nI ln), .ref r15, .ref r16, .ref r17, .ref r18, .int (nI ac)])), (r17, .inl (cJ, 768, .inr (.inl kp))), (r18, .inl (cI, 12, .inl (fun j => nI (am j))))] sz) := by
  refine Met.ofW (cc := cX6_trend) (maxL := 9) (ret := (some .long)) (by decide) rfl ?_
  intro p e s m args below meth c s₁ B hml hv
  obtain ⟨rfl, hsz, hP, hK, hD0, hG⟩ := hv
  have hx := B.exec
  have hb := B.bytes
  have hr := B.returns
  have hts := atoms_spec (ws := wsX6_trend) B.pre
  have hown : s.vm.findClass RX6 = some m.cls := findClass_of_methodNamed B.named
  have hlocks := B.notSynchronized
  subst hsz
  have hD := hD0.self (sz := s.heap.size)
  generalize hAe : va_A [(h0, .inr (6, [.int th, .int (nI mo), .ref r2, .int st, .int pe, .ref r5, .ref r6, .ref r7, .int (nI nc), .int (nI bn), .ref r10, .ref r11, .ref r12, .ref r13, .int (nI ln), .ref r15, .ref r16, .ref r17, .ref r18, .int (nI ac)])), (r17, .inl (cJ, 768, .inr (.inl kp))), (r18, .inl (cI, 12, .inl (fun j => nI (am j))))] s.heap.size = A at hD ⊢
  have hA : ∀ q : Nat, s.heap.size ≤ q → A q := fun q h => by rw [← hAe]; exact Or.inr h
  have hS : va_S A s.heap s.heap [] := va_S.rf
  have hP : va_P D vwCl [(h0, .inr (6, [.int th, .int (nI mo), .ref r2, .int st, .int pe, .ref r5, .ref r6, .ref r7, .int (nI nc), .int (nI bn), .ref r10, .ref r11, .ref r12, .ref r13, .int (nI ln), .ref r15, .ref r16, .ref r17, .ref r18, .int (nI ac)])), (r17, .inl (cJ, 768, .inr (.inl kp))), (r18, .inl (cI, 12, .inl (fun j => nI (am j))))] s.heap := hP
  have hl := lv_entry ([.ref h0, .int p0, .int p1, .int x, .int y]) (n := 9) (Nat.le_of_ble_eq_true rfl)
  rw [lg_entry_eq]
  generalize (lg_sl ([.ref h0, .int p0, .int p1, .int x, .int y]) ++ List.replicate (9 - (lg_sl ([.ref h0, .int p0, .int p1, .int x, .int y])).length) Slot.unset).toArray = ls at hl ⊢
  have hl : lv_has ls 9 [(0, .ref h0), (1, .int p0), (2, .int p1), (3, .int x), (4, .int y)] := hl
  refine lv_aload_n hx hb dX6_trend_0 rfl (lv_at hl 0 rfl) ?_
  refine lv_iload_n hx hb dX6_trend_1 rfl (lv_at hl 1 rfl) ?_
  refine gv_pi (va_runV (As := [.int p0]) (rest := []) ⟨hx, hb, hml, hown, hts⟩ (ct_X6_isRelease l D cI cJ s.heap.size h0 r2 r5 r6 r7 r10 r11 r12 r13 r15 r16 r17 r18 th st pe mo nc bn ln ac p0 (by omega)) (cwV 1 hts gX6_trend_X6_isRelease rfl rfl rfl (by decide +kernel) ⟨Nat.le_of_ble_eq_true rfl, Nat.le_of_ble_eq_true rfl⟩) (gv_pV (wc := [(h0, .inr (6, [.int th, .int (nI mo), .ref r2, .int st, .int pe, .ref r5, .ref r6, .ref r7, .int (nI nc), .int (nI bn), .ref r10, .ref r11, .ref r12, .ref r13, .int (nI ln), .ref r15, .ref r16, .ref r17, .ref r18, .int (nI ac)]))]) hP hK hD hG [0] rfl (by decide) 0 rfl rfl rfl) rfl rfl hl.1 rfl (lv_room (Nat.le_of_ble_eq_true rfl)) dX6_trend_2 ⟨Nat.le_of_ble_eq_true rfl, Nat.le_of_ble_eq_true rfl⟩) (fun q1 h1 => ?_)
  refine gv_mg (fun v : Int32 => v = gv_10 (vp_in p0 ac ∧ vp_in p1 ac ∧ vp_in x 8 ∧ vp_in y 8)) 30 [] (fun v5 hv_v5 => ?_) (fun K_1 => ?_)
  · skip
    refine lv_istore (lv' := [(5, .int v5), (0, .ref h0), (1, .int p0), (2, .int p1), (3, .int x), (4, .int y)]) hx hb dX6_trend_30 hl (by decide) rfl (fun ls hl => ?_)
    refine lv_aload_n hx hb dX6_trend_32 rfl (lv_at hl 1 rfl) ?_
    refine gv_mg (fun v : Int32 => v = gv_02 (vp_in p0 ac ∧ vp_in p1 ac ∧ vp_in x 8 ∧ vp_in y 8) (¬ am p0.toNatClampNeg = am p1.toNatClampNeg)) 62 [.ref h0] (fun tv hv_tv => ?_) (fun K_2 => ?_)
    · skip
      subst hv_tv
      refine gv_mi (wc := [(h0, .inr (6, [.int th, .int (nI mo), .ref r2, .int st, .int pe, .ref r5, .ref r6, .ref r7, .int (nI nc), .int (nI bn), .ref r10, .ref r11, .ref r12, .ref r13, .int (nI ln), .ref r15, .ref r16, .ref r17, .ref r18, .int (nI ac)]))]) (wr := [(r17, .inl (cJ, 768, .inr (.inl kp))), (r18, .inl (cI, 12, .inl (fun j => nI (am j))))]) (w2 := (fun u => [(h0, .inr (6, [.int (gv_02 (vp_in p0 ac ∧ vp_in p1 ac ∧ vp_in x 8 ∧ vp_in y 8) (¬ am p0.toNatClampNeg = am p1.toNatClampNeg)), .int (nI mo), .ref r2, .int st, .int pe, .ref r5, .ref r6, .ref r7, .int (nI nc), .int (nI bn), .ref r10, .ref r11, .ref r12, .ref r13, .int (nI ln), .ref r15, .ref r16, .ref r17, .ref r18, .int (nI ac)])), (r17, .inl (cJ, 768, .inr (.inl kp))), (r18, .inl (cI, 12, .inl (fun j => nI (am j))))])) (va_runV (As := [.int (gv_02 (vp_in p0 ac ∧ vp_in p1 ac ∧ vp_in x 8 ∧ vp_in y 8) (¬ am p0.toNatClampNeg = am p1.toNatClampNeg))]) (rest := []) ⟨hx, hb, hml, hown, hts⟩ (ct_X6_holds l D cI cJ s.heap.size h0 r2 r5 r6 r7 r10 r11 r12 r13 r15 r16 r17 r18 th st pe mo nc bn ln ac (gv_02 (vp_in p0 ac ∧ vp_in p1 ac ∧ vp_in x 8 ∧ vp_in y 8) (¬ am p0.toNatClampNeg = am p1.toNatClampNeg))) (cwV 1 hts gX6_trend_X6_holds rfl rfl rfl (by decide +kernel) ⟨Nat.le_of_ble_eq_true rfl, Nat.le_of_ble_eq_true rfl⟩) (gv_pV (wc := [(h0, .inr (6, [.int th, .int (nI mo), .ref r2, .int st, .int pe, .ref r5, .ref r6, .ref r7, .int (nI nc), .int (nI bn), .ref r10, .ref r11, .ref r12, .ref r13, .int (nI ln), .ref r15, .ref r16, .ref r17, .ref r18, .int (nI ac)]))]) hP hK hD hG [0] rfl (by decide) 0 rfl rfl rfl) rfl rfl hl.1 rfl (lv_room (Nat.le_of_ble_eq_true rfl)) dX6_trend_62 ⟨Nat.le_of_ble_eq_true rfl, Nat.le_of_ble_eq_true rfl⟩) hP hD hS hA [0] [1, 2] [2, 0, 1] rfl rfl (by decide) (by decide) (fun u => rfl) (by decide) (fun rh u H locs hrh hP hD hS => ?_)
      have hP : va_P D vwCl [(h0, .inr (6, [.int (gv_02 (vp_in p0 ac ∧ vp_in p1 ac ∧ vp_in x 8 ∧ vp_in y 8) (¬ am p0.toNatClampNeg = am p1.toNatClampNeg)), .int (nI mo), .ref r2, .int st, .int pe, .ref r5, .ref r6, .ref r7, .int (nI nc), .int (nI bn), .ref r10, .ref r11, .ref r12, .ref r13, .int (nI ln), .ref r15, .ref r16, .ref r17, .ref r18, .int (nI ac)])), (r17, .inl (cJ, 768, .inr (.inl kp))), (r18, .inl (cI, 12, .inl (fun j => nI (am j))))] H := hP
      have hD : va_D A [(h0, .inr (6, [.int (gv_02 (vp_in p0 ac ∧ vp_in p1 ac ∧ vp_in x 8 ∧ vp_in y 8) (¬ am p0.toNatClampNeg = am p1.toNatClampNeg)), .int (nI mo), .ref r2, .int st, .int pe, .ref r5, .ref r6, .ref r7, .int (nI nc), .int (nI bn), .ref r10, .ref r11, .ref r12, .ref r13, .int (nI ln), .ref r15, .ref r16, .ref r17, .ref r18, .int (nI ac)])), (r17, .inl (cJ, 768, .inr (.inl kp))), (r18, .inl (cI, 12, .inl (fun j => nI (am j))))] := hD
      refine lv_if_ne (tgt := 70) hx hb dX6_trend_65 (by decide) (fun c_65 => ?_) (fun c_65 => ?_)
      · skip
        have hok9 := gv_02z (gv_if1 hrh c_65)
        obtain ⟨i, hi, ei⟩ := vp_in_of (hok9.1).1 (by omega)
        obtain ⟨j, hj, ej⟩ := vp_in_of (hok9.1).2.1 (by omega)
        rw [ei] at hl
        have hl : lv_has ls 9 [(5, .int v5), (0, .ref h0), (1, .int (nI i)), (2, .int p1), (3, .int x), (4, .int y)] := hl
        rw [ej] at hl
        have hl : lv_has ls 9 [(5, .int v5), (0, .ref h0), (1, .int (nI i)), (2, .int (nI j)), (3, .int x), (4, .int y)] := hl
        have hami := ham i
        have hamj := ham j
        obtain ⟨a, ha8, ea⟩ := vp_in_of (hok9.1.2.2).1 (by decide)
        obtain ⟨b, hb8, eb⟩ := vp_in_of (hok9.1.2.2).2 (by decide)
        rw [ea] at hl
        have hl : lv_has ls 9 [(5, .int v5), (0, .ref h0), (1, .int (nI i)), (2, .int (nI j)), (3, .int (nI a)), (4, .int y)] := hl
        rw [eb] at hl
        have hl : lv_has ls 9 [(5, .int v5), (0, .ref h0), (1, .int (nI i)), (2, .int (nI j)), (3, .int (nI a)), (4, .int (nI b))] := hl
        have hok : True ∧ ¬ am i = am j := ⟨trivial, by have z := hok9.2; rw [ei, ej, nI_clamp (n := i) (by omega), nI_clamp (n := j) (by omega)] at z; exact z⟩
        have hnij := hok.2
        refine lv_aload_n hx hb dX6_trend_70 rfl (lv_at hl 1 rfl) ?_
        refine va_get (D := D) (ci := 6) (v := .ref r18) (C := RX6) (T := TX6) (N := 20) hx hb hts gv_in_X6_trend_X6 hown hK hP 0 rfl rfl 18 (by decide) (hts (.fieldLink RX6 48 "GravimereModel" "made" "[I") (by decide +kernel)) (fun _ h9 => h9) rfl dX6_trend_71 ?_
        refine lv_iload_n hx hb dX6_trend_74 rfl (lv_at hl 2 rfl) ?_
        refine gv_il hx hb hK hP 2 (k := i) rfl (by omega) (by decide) dX6_trend_75 ?_
        refine gv_wi (rfl) ?_
        refine lv_aload_n hx hb dX6_trend_76 rfl (lv_at hl 1 rfl) ?_
        refine va_get (D := D) (ci := 6) (v := .ref r18) (C := RX6) (T := TX6) (N := 20) hx hb hts gv_in_X6_trend_X6 hown hK hP 0 rfl rfl 18 (by decide) (hts (.fieldLink RX6 48 "GravimereModel" "made" "[I") (by decide +kernel)) (fun _ h9 => h9) rfl dX6_trend_77 ?_
        refine lv_iload_n hx hb dX6_trend_80 rfl (lv_at hl 3 rfl) ?_
        refine gv_il hx hb hK hP 2 (k := j) rfl (by omega) (by decide) dX6_trend_81 ?_
        refine gv_wi (rfl) ?_
        refine lv_icmp_le (tgt := 89) hx hb dX6_trend_82 (by decide) (fun c_82 => ?_) (fun c_82 => ?_)
        · skip
          have c_82 := (nI_leI (a := am i) (b := am j) (by omega) (by omega)).mp c_82
          refine lv_iload_n hx hb dX6_trend_89 rfl (lv_at hl 3 rfl) ?_
          refine lv_istore (lv' := [(6, .int (nI j)), (5, .int v5), (0, .ref h0), (1, .int (nI i)), (2, .int (nI j)), (3, .int (nI a)), (4, .int (nI b))]) hx hb dX6_trend_90 hl (by decide) rfl (fun ls hl => ?_)
          refine lv_iload hx hb dX6_trend_92 (lv_at hl 0 rfl) ?_
          refine lv_iload_n hx hb dX6_trend_94 rfl (lv_at hl 3 rfl) ?_
          refine lv_icmp_ne (tgt := 102) hx hb dX6_trend_95 (by decide) (fun c_95 => ?_) (fun c_95 => ?_)
          · skip
            have c_95 := (not_congr (nI_eq (a := j) (b := i) (by omega) (by omega))).mp c_95
            refine lv_iload_n hx hb dX6_trend_102 rfl (lv_at hl 3 rfl) ?_
            refine lv_istore (lv' := [(7, .int (nI i)), (6, .int (nI j)), (5, .int v5), (0, .ref h0), (1, .int (nI i)), (2, .int (nI j)), (3, .int (nI a)), (4, .int (nI b))]) hx hb dX6_trend_103 hl (by decide) rfl (fun ls hl => ?_)
            refine lv_bipush (v := nI 8) hx hb dX6_trend_105 (by decide) ?_
            refine lv_iload hx hb dX6_trend_107 (lv_at hl 7 rfl) ?_
            refine lv_imul hx hb dX6_trend_109 ?_
            refine gv_wi (pk_mul 8 b) ?_
            refine lv_iload_n hx hb dX6_trend_110 rfl (lv_at hl 6 rfl) ?_
            refine lv_iadd hx hb dX6_trend_111 ?_
            refine gv_wi (nI_add (8 * b) a) ?_
            refine lv_istore (lv' := [(8, .int (nI (8 * b + a))), (7, .int (nI i)), (6, .int (nI j)), (5, .int v5), (0, .ref h0), (1, .int (nI i)), (2, .int (nI j)), (3, .int (nI a)), (4, .int (nI b))]) hx hb dX6_trend_112 hl (by decide) rfl (fun ls hl => ?_)
            refine lv_aload_n hx hb dX6_trend_114 rfl (lv_at hl 4 rfl) ?_
            refine va_get (D := D) (ci := 6) (v := .ref r17) (C := RX6) (T := TX6) (N := 20) hx hb hts gv_in_X6_trend_X6 hown hK hP 0 rfl rfl 17 (by decide) (hts (.fieldLink RX6 45 "GravimereModel" "kept" "[J") (by decide +kernel)) (fun _ h9 => h9) rfl dX6_trend_115 ?_
            refine lv_bipush (v := nI 64) hx hb dX6_trend_118 (by decide) ?_
            refine lv_iload hx hb dX6_trend_120 (lv_at hl 2 rfl) ?_
            refine lv_imul hx hb dX6_trend_122 ?_
            refine gv_wi (pk_mul 64 j) ?_
            refine lv_iload hx hb dX6_trend_123 (lv_at hl 0 rfl) ?_
            refine lv_iadd hx hb dX6_trend_125 ?_
            refine gv_wi (nI_add (64 * j) (8 * b + a)) ?_
            refine gv_ll hx hb hK hP 1 (k := 64 * j + (8 * b + a)) rfl (by omega) (by decide) dX6_trend_126 ?_
            refine lv_aload_n hx hb dX6_trend_127 rfl (lv_at hl 4 rfl) ?_
            refine va_get (D := D) (ci := 6) (v := .ref r17) (C := RX6) (T := TX6) (N := 20) hx hb hts gv_in_X6_trend_X6 hown hK hP 0 rfl rfl 17 (by decide) (hts (.fieldLink RX6 45 "GravimereModel" "kept" "[J") (by decide +kernel)) (fun _ h9 => h9) rfl dX6_trend_128 ?_
            refine lv_bipush (v := nI 64) hx hb dX6_trend_131 (by decide) ?_
            refine lv_iload hx hb dX6_trend_133 (lv_at hl 1 rfl) ?_
            refine lv_imul hx hb dX6_trend_135 ?_
            refine gv_wi (pk_mul 64 i) ?_
            refine lv_iload hx hb dX6_trend_136 (lv_at hl 0 rfl) ?_
            refine lv_iadd hx hb dX6_trend_138 ?_
            refine gv_wi (nI_add (64 * i) (8 * b + a)) ?_
            refine gv_ll hx hb hK hP 1 (k := 64 * i + (8 * b + a)) rfl (by omega) (by decide) dX6_trend_139 ?_
            refine lv_lsub hx hb dX6_trend_140 ?_
            refine lv_aload_n hx hb dX6_trend_141 rfl (lv_at hl 4 rfl) ?_
            refine va_get (D := D) (ci := 6) (v := .ref r18) (C := RX6) (T := TX6) (N := 20) hx hb hts gv_in_X6_trend_X6 hown hK hP 0 rfl rfl 18 (by decide) (hts (.fieldLink RX6 48 "GravimereModel" "made" "[I") (by decide +kernel)) (fun _ h9 => h9) rfl dX6_trend_142 ?_
            refine lv_iload hx hb dX6_trend_145 (lv_at hl 2 rfl) ?_
            refine gv_il hx hb hK hP 2 (k := j) rfl (by omega) (by decide) dX6_trend_147 ?_
            refine gv_wi (rfl) ?_
            refine lv_aload_n hx hb dX6_trend_148 rfl (lv_at hl 4 rfl) ?_
            refine va_get (D := D) (ci := 6) (v := .ref r18) (C := RX6) (T := TX6) (N := 20) hx hb hts gv_in_X6_trend_X6 hown hK hP 0 rfl rfl 18 (by decide) (hts (.fieldLink RX6 48 "GravimereModel" "made" "[I") (by decide +kernel)) (fun _ h9 => h9) rfl dX6_trend_149 ?_
            refine lv_iload hx hb dX6_trend_152 (lv_at hl 1 rfl) ?_
            refine gv_il hx hb hK hP 2 (k := i) rfl (by omega) (by decide) dX6_trend_154 ?_
            refine gv_wi (rfl) ?_
            refine lv_isub hx hb dX6_trend_155 ?_
            refine gv_wi (pk_sub (by omega)) ?_
            refine lv_i2l (v := (nI (am j - am i)).toInt64) hx hb dX6_trend_156 rfl ?_
            refine gv_pl (va_runS (As := [.long ((kp (64 * j + (8 * b + a))) - (kp (64 * i + (8 * b + a)))), .long ((nI (am j - am i)).toInt64)]) (rest := []) ⟨hx, hb, hml, hown, hts⟩ (ct_X6_down l ((kp (64 * j + (8 * b + a))) - (kp (64 * i + (8 * b + a)))) ((nI (am j - am i)).toInt64) (gv_i2lne (by omega) (by omega))) (va_cwS 2 hts gX6_trend_X6_down rfl rfl rfl (by decide +kernel) ⟨Nat.le_of_ble_eq_true rfl, Nat.le_of_ble_eq_true rfl⟩) gv_p0 rfl rfl hl.1 rfl (lv_room (Nat.le_of_ble_eq_true rfl)) dX6_trend_157 ⟨Nat.le_of_ble_eq_true rfl, Nat.le_of_ble_eq_true rfl⟩) (fun rc hrc => ?_)
            have hpo : ∀ i j a b, i < ac → j < ac → a < 8 → b < 8 → p0 = nI i → p1 = nI j → x = nI a → y = nI b → ¬ am i = am j → rc = if am j < am i then gv_down (kp (64 * i + (8 * b + a)) - kp (64 * j + (8 * b + a))) ((nI (am i - am j)).toInt64) else gv_down (kp (64 * j + (8 * b + a)) - kp (64 * i + (8 * b + a))) ((nI (am j - am i)).toInt64) := by
              intro i2 j2 a2 b2 hi2 hj2 ha hb ei2 ej2 ea2 eb2 _
              cases gv_inj (ei2.symm.trans ei) (by omega) (by omega)
              cases gv_inj (ej2.symm.trans ej) (by omega) (by omega)
              cases gv_inj (ea2.symm.trans ea) (by omega) (by omega)
              cases gv_inj (eb2.symm.trans eb) (by omega) (by omega)
              first | (rw [if_pos (by omega)]; exact hrc) | (rw [if_neg (by omega)]; exact hrc)
            have hP9 : va_P D vwCl [(h0, .inr (6, [.int (gv_02 (vp_in p0 ac ∧ vp_in p1 ac ∧ vp_in x 8 ∧ vp_in y 8) (¬ am p0.toNatClampNeg = am p1.toNatClampNeg)), .int (nI mo), .ref r2, .int st, .int pe, .ref r5, .ref r6, .ref r7, .int (nI nc), .int (nI bn), .ref r10, .ref r11, .ref r12, .ref r13, .int (nI ln), .ref r15, .ref r16, .ref r17, .ref r18, .int (nI ac)])), (r17, .inl (cJ, 768, .inr (.inl kp))), (r18, .inl (cI, 12, .inl (fun j => nI (am j))))] H := hP
            have hD9 : va_D A [(h0, .inr (6, [.int (gv_02 (vp_in p0 ac ∧ vp_in p1 ac ∧ vp_in x 8 ∧ vp_in y 8) (¬ am p0.toNatClampNeg = am p1.toNatClampNeg)), .int (nI mo), .ref r2, .int st, .int pe, .ref r5, .ref r6, .ref r7, .int (nI nc), .int (nI bn), .ref r10, .ref r11, .ref r12, .ref r13, .int (nI ln), .ref r15, .ref r16, .ref r17, .ref r18, .int (nI ac)])), (r17, .inl (cJ, 768, .inr (.inl kp))), (r18, .inl (cI, 12, .inl (fun j => nI (am j))))] := hD
            exact W.lret (v := rc) hx hb hr (fun t9 ht9 hW9 => ⟨⟨rc, (), rfl, hpo, by rw [ht9]; exact hP9, hD9⟩, hS.F ht9⟩) hS.2.2 dX6_trend_160
          · skip
            have c_95 := (nI_eq (a := j) (b := i) (by omega) (by omega)).mp c_95
            exact absurd (by rw [c_95]) hok.2
        · skip
          have c_82 := (not_congr (nI_leI (a := am i) (b := am j) (by omega) (by omega))).mp c_82
          refine lv_iload_n hx hb dX6_trend_85 rfl (lv_at hl 2 rfl) ?_
          refine lv_goto (tgt := 90) hx hb dX6_trend_86 (by decide) ?_
          refine lv_istore (lv' := [(6, .int (nI i)), (5, .int v5), (0, .ref h0), (1, .int (nI i)), (2, .int (nI j)), (3, .int (nI a)), (4, .int (nI b))]) hx hb dX6_trend_90 hl (by decide) rfl (fun ls hl => ?_)
          refine lv_iload hx hb dX6_trend_92 (lv_at hl 0 rfl) ?_
          refine lv_iload_n hx hb dX6_trend_94 rfl (lv_at hl 3 rfl) ?_
          refine lv_icmp_ne (tgt := 102) hx hb dX6_trend_95 (by decide) (fun c_95 => ?_) (fun c_95 => ?_)
          · skip
            have c_95 := (not_congr (nI_eq (a := i) (b := i) (by omega) (by omega))).mp c_95
            exact absurd rfl c_95
          · skip
            have c_95 := (nI_eq (a := i) (b := i) (by omega) (by omega)).mp c_95
            refine lv_iload_n hx hb dX6_trend_98 rfl (lv_at hl 4 rfl) ?_
            refine lv_goto (tgt := 103) hx hb dX6_trend_99 (by decide) ?_
            refine lv_istore (lv' := [(7, .int (nI j)), (6, .int (nI i)), (5, .int v5), (0, .ref h0), (1, .int (nI i)), (2, .int (nI j)), (3, .int (nI a)), (4, .int (nI b))]) hx hb dX6_trend_103 hl (by decide) rfl (fun ls hl => ?_)
            refine lv_bipush (v := nI 8) hx hb dX6_trend_105 (by decide) ?_
            refine lv_iload hx hb dX6_trend_107 (lv_at hl 7 rfl) ?_
            refine lv_imul hx hb dX6_trend_109 ?_
            refine gv_wi (pk_mul 8 b) ?_
            refine lv_iload_n hx hb dX6_trend_110 rfl (lv_at hl 6 rfl) ?_
            refine lv_iadd hx hb dX6_trend_111 ?_
            refine gv_wi (nI_add (8 * b) a) ?_
            refine lv_istore (lv' := [(8, .int (nI (8 * b + a))), (7, .int (nI j)), (6, .int (nI i)), (5, .int v5), (0, .ref h0), (1, .int (nI i)), (2, .int (nI j)), (3, .int (nI a)), (4, .int (nI b))]) hx hb dX6_trend_112 hl (by decide) rfl (fun ls hl => ?_)
            refine lv_aload_n hx hb dX6_trend_114 rfl (lv_at hl 4 rfl) ?_
            refine va_get (D := D) (ci := 6) (v := .ref r17) (C := RX6) (T := TX6) (N := 20) hx hb hts gv_in_X6_trend_X6 hown hK hP 0 rfl rfl 17 (by decide) (hts (.fieldLink RX6 45 "GravimereModel" "kept" "[J") (by decide +kernel)) (fun _ h9 => h9) rfl dX6_trend_115 ?_
            refine lv_bipush (v := nI 64) hx hb dX6_trend_118 (by decide) ?_
            refine lv_iload hx hb dX6_trend_120 (lv_at hl 2 rfl) ?_
            refine lv_imul hx hb dX6_trend_122 ?_
            refine gv_wi (pk_mul 64 i) ?_
            refine lv_iload hx hb dX6_trend_123 (lv_at hl 0 rfl) ?_
            refine lv_iadd hx hb dX6_trend_125 ?_
            refine gv_wi (nI_add (64 * i) (8 * b + a)) ?_
            refine gv_ll hx hb hK hP 1 (k := 64 * i + (8 * b + a)) rfl (by omega) (by decide) dX6_trend_126 ?_
            refine lv_aload_n hx hb dX6_trend_127 rfl (lv_at hl 4 rfl) ?_
            refine va_get (D := D) (ci := 6) (v := .ref r17) (C := RX6) (T := TX6) (N := 20) hx hb hts gv_in_X6_trend_X6 hown hK hP 0 rfl rfl 17 (by decide) (hts (.fieldLink RX6 45 "GravimereModel" "kept" "[J") (by decide +kernel)) (fun _ h9 => h9) rfl dX6_trend_128 ?_
            refine lv_bipush (v := nI 64) hx hb dX6_trend_131 (by decide) ?_
            refine lv_iload hx hb dX6_trend_133 (lv_at hl 1 rfl) ?_
            refine lv_imul hx hb dX6_trend_135 ?_
            refine gv_wi (pk_mul 64 j) ?_
            refine lv_iload hx hb dX6_trend_136 (lv_at hl 0 rfl) ?_
            refine lv_iadd hx hb dX6_trend_138 ?_
            refine gv_wi (nI_add (64 * j) (8 * b + a)) ?_
            refine gv_ll hx hb hK hP 1 (k := 64 * j + (8 * b + a)) rfl (by omega) (by decide) dX6_trend_139 ?_
            refine lv_lsub hx hb dX6_trend_140 ?_
            refine lv_aload_n hx hb dX6_trend_141 rfl (lv_at hl 4 rfl) ?_
            refine va_get (D := D) (ci := 6) (v := .ref r18) (C := RX6) (T := TX6) (N := 20) hx hb hts gv_in_X6_trend_X6 hown hK hP 0 rfl rfl 18 (by decide) (hts (.fieldLink RX6 48 "GravimereModel" "made" "[I") (by decide +kernel)) (fun _ h9 => h9) rfl dX6_trend_142 ?_
            refine lv_iload hx hb dX6_trend_145 (lv_at hl 2 rfl) ?_
            refine gv_il hx hb hK hP 2 (k := i) rfl (by omega) (by decide) dX6_trend_147 ?_
            refine gv_wi (rfl) ?_
            refine lv_aload_n hx hb dX6_trend_148 rfl (lv_at hl 4 rfl) ?_
            refine va_get (D := D) (ci := 6) (v := .ref r18) (C := RX6) (T := TX6) (N := 20) hx hb hts gv_in_X6_trend_X6 hown hK hP 0 rfl rfl 18 (by decide) (hts (.fieldLink RX6 48 "GravimereModel" "made" "[I") (by decide +kernel)) (fun _ h9 => h9) rfl dX6_trend_149 ?_
            refine lv_iload hx hb dX6_trend_152 (lv_at hl 1 rfl) ?_
            refine gv_il hx hb hK hP 2 (k := j) rfl (by omega) (by decide) dX6_trend_154 ?_
            refine gv_wi (rfl) ?_
            refine lv_isub hx hb dX6_trend_155 ?_
            refine gv_wi (pk_sub (by omega)) ?_
            refine lv_i2l (v := (nI (am i - am j)).toInt64) hx hb dX6_trend_156 rfl ?_
            refine gv_pl (va_runS (As := [.long ((kp (64 * i + (8 * b + a))) - (kp (64 * j + (8 * b + a)))), .long ((nI (am i - am j)).toInt64)]) (rest := []) ⟨hx, hb, hml, hown, hts⟩ (ct_X6_down l ((kp (64 * i + (8 * b + a))) - (kp (64 * j + (8 * b + a)))) ((nI (am i - am j)).toInt64) (gv_i2lne (by omega) (by omega))) (va_cwS 2 hts gX6_trend_X6_down rfl rfl rfl (by decide +kernel) ⟨Nat.le_of_ble_eq_true rfl, Nat.le_of_ble_eq_true rfl⟩) gv_p0 rfl rfl hl.1 rfl (lv_room (Nat.le_of_ble_eq_true rfl)) dX6_trend_157 ⟨Nat.le_of_ble_eq_true rfl, Nat.le_of_ble_eq_true rfl⟩) (fun rc hrc => ?_)
            have hpo : ∀ i j a b, i < ac → j < ac → a < 8 → b < 8 → p0 = nI i → p1 = nI j → x = nI a → y = nI b → ¬ am i = am j → rc = if am j < am i then gv_down (kp (64 * i + (8 * b + a)) - kp (64 * j + (8 * b + a))) ((nI (am i - am j)).toInt64) else gv_down (kp (64 * j + (8 * b + a)) - kp (64 * i + (8 * b + a))) ((nI (am j - am i)).toInt64) := by
              intro i2 j2 a2 b2 hi2 hj2 ha hb ei2 ej2 ea2 eb2 _
              cases gv_inj (ei2.symm.trans ei) (by omega) (by omega)
              cases gv_inj (ej2.symm.trans ej) (by omega) (by omega)
              cases gv_inj (ea2.symm.trans ea) (by omega) (by omega)
              cases gv_inj (eb2.symm.trans eb) (by omega) (by omega)
              first | (rw [if_pos (by omega)]; exact hrc) | (rw [if_neg (by omega)]; exact hrc)
            have hP9 : va_P D vwCl [(h0, .inr (6, [.int (gv_02 (vp_in p0 ac ∧ vp_in p1 ac ∧ vp_in x 8 ∧ vp_in y 8) (¬ am p0.toNatClampNeg = am p1.toNatClampNeg)), .int (nI mo), .ref r2, .int st, .int pe, .ref r5, .ref r6, .ref r7, .int (nI nc), .int (nI bn), .ref r10, .ref r11, .ref r12, .ref r13, .int (nI ln), .ref r15, .ref r16, .ref r17, .ref r18, .int (nI ac)])), (r17, .inl (cJ, 768, .inr (.inl kp))), (r18, .inl (cI, 12, .inl (fun j => nI (am j))))] H := hP
            have hD9 : va_D A [(h0, .inr (6, [.int (gv_02 (vp_in p0 ac ∧ vp_in p1 ac ∧ vp_in x 8 ∧ vp_in y 8) (¬ am p0.toNatClampNeg = am p1.toNatClampNeg)), .int (nI mo), .ref r2, .int st, .int pe, .ref r5, .ref r6, .ref r7, .int (nI nc), .int (nI bn), .ref r10, .ref r11, .ref r12, .ref r13, .int (nI ln), .ref r15, .ref r16, .ref r17, .ref r18, .int (nI ac)])), (r17, .inl (cJ, 768, .inr (.inl kp))), (r18, .inl (cI, 12, .inl (fun j => nI (am j))))] := hD
            exact W.lret (v := rc) hx hb hr (fun t9 ht9 hW9 => ⟨⟨rc, (), rfl, hpo, by rw [ht9]; exact hP9, hD9⟩, hS.F ht9⟩) hS.2.2 dX6_trend_160
      · skip
        have hno := gv_if0 hrh c_65
        refine lv_lconst (v := 0) hx hb dX6_trend_68 (by decide) ?_
        have hpo : ∀ i j a b, i < ac → j < ac → a < 8 → b < 8 → p0 = nI i → p1 = nI j → x = nI a → y = nI b → ¬ am i = am j → 0 = if am j < am i then gv_down (kp (64 * i + (8 * b + a)) - kp (64 * j + (8 * b + a))) ((nI (am i - am j)).toInt64) else gv_down (kp (64 * j + (8 * b + a)) - kp (64 * i + (8 * b + a))) ((nI (am j - am i)).toInt64) := by
          exact fun i j a b hi hj ha hb ei ej ea eb hne => absurd (gv_02c ⟨by rw [ei]; exact vp_in_nI hi (by omega), by rw [ej]; exact vp_in_nI hj (by omega), by rw [ea]; exact vp_in_nI ha (by decide), by rw [eb]; exact vp_in_nI hb (by decide)⟩ (by rw [ei, ej, nI_clamp (n := i) (by omega), nI_clamp (n := j) (by omega)]; exact hne)).symm hno
        have hP9 : va_P D vwCl [(h0, .inr (6, [.int (gv_02 (vp_in p0 ac ∧ vp_in p1 ac ∧ vp_in x 8 ∧ vp_in y 8) (¬ am p0.toNatClampNeg = am p1.toNatClampNeg)), .int (nI mo), .ref r2, .int st, .int pe, .ref r5, .ref r6, .ref r7, .int (nI nc), .int (nI bn), .ref r10, .ref r11, .ref r12, .ref r13, .int (nI ln), .ref r15, .ref r16, .ref r17, .ref r18, .int (nI ac)])), (r17, .inl (cJ, 768, .inr (.inl kp))), (r18, .inl (cI, 12, .inl (fun j => nI (am j))))] H := hP
        have hD9 : va_D A [(h0, .inr (6, [.int (gv_02 (vp_in p0 ac ∧ vp_in p1 ac ∧ vp_in x 8 ∧ vp_in y 8) (¬ am p0.toNatClampNeg = am p1.toNatClampNeg)), .int (nI mo), .ref r2, .int st, .int pe, .ref r5, .ref r6, .ref r7, .int (nI nc), .int (nI bn), .ref r10, .ref r11, .ref r12, .ref r13, .int (nI ln), .ref r15, .ref r16, .ref r17, .ref r18, .int (nI ac)])), (r17, .inl (cJ, 768, .inr (.inl kp))), (r18, .inl (cI, 12, .inl (fun j => nI (am j))))] := hD
        exact W.lret (v := 0) hx hb hr (fun t9 ht9 hW9 => ⟨⟨0, (), rfl, hpo, by rw [ht9]; exact hP9, hD9⟩, hS.F ht9⟩) hS.2.2 dX6_trend_69
    · skip
      refine lv_iload hx hb dX6_trend_33 (lv_at hl 0 rfl) ?_
      refine lv_if_ne (tgt := 42) hx hb dX6_trend_35 (by decide) (fun c_35 => ?_) (fun c_35 => ?_)
      · skip
        obtain ⟨i, hi, ei⟩ := vp_in_of (gv_if1 hv_v5 c_35).1 (by omega)
        obtain ⟨j, hj, ej⟩ := vp_in_of (gv_if1 hv_v5 c_35).2.1 (by omega)
        rw [ei] at hl
        have hl : lv_has ls 9 [(5, .int v5), (0, .ref h0), (1, .int (nI i)), (2, .int p1), (3, .int x), (4, .int y)] := hl
        rw [ej] at hl
        have hl : lv_has ls 9 [(5, .int v5), (0, .ref h0), (1, .int (nI i)), (2, .int (nI j)), (3, .int x), (4, .int y)] := hl
        have hami := ham i
        have hamj := ham j
        refine lv_aload_n hx hb dX6_trend_42 rfl (lv_at hl 1 rfl) ?_
        refine va_get (D := D) (ci := 6) (v := .ref r18) (C := RX6) (T := TX6) (N := 20) hx hb hts gv_in_X6_trend_X6 hown hK hP 0 rfl rfl 18 (by decide) (hts (.fieldLink RX6 48 "GravimereModel" "made" "[I") (by decide +kernel)) (fun _ h9 => h9) rfl dX6_trend_43 ?_
        refine lv_iload_n hx hb dX6_trend_46 rfl (lv_at hl 2 rfl) ?_
        refine gv_il hx hb hK hP 2 (k := i) rfl (by omega) (by decide) dX6_trend_47 ?_
        refine gv_wi (rfl) ?_
        refine lv_aload_n hx hb dX6_trend_48 rfl (lv_at hl 1 rfl) ?_
        refine va_get (D := D) (ci := 6) (v := .ref r18) (C := RX6) (T := TX6) (N := 20) hx hb hts gv_in_X6_trend_X6 hown hK hP 0 rfl rfl 18 (by decide) (hts (.fieldLink RX6 48 "GravimereModel" "made" "[I") (by decide +kernel)) (fun _ h9 => h9) rfl dX6_trend_49 ?_
        refine lv_iload_n hx hb dX6_trend_52 rfl (lv_at hl 3 rfl) ?_
        refine gv_il hx hb hK hP 2 (k := j) rfl (by omega) (by decide) dX6_trend_53 ?_
        refine gv_wi (rfl) ?_
        refine lv_icmp_ne (tgt := 61) hx hb dX6_trend_54 (by decide) (fun c_54 => ?_) (fun c_54 => ?_)
        · skip
          have c_54 := (not_congr (nI_eq (a := am i) (b := am j) (by omega) (by omega))).mp c_54
          refine lv_iconst (v := nI 0) hx hb dX6_trend_61 (by decide) ?_
          exact K_2 _ (by first | exact gv_02a (gv_if0 hv_v5 c_35) | exact gv_02b (gv_if1 hv_v5 c_35) (by rw [ei, ej, nI_clamp (n := i) (by omega), nI_clamp (n := j) (by omega)]; exact fun z => z c_54) | exact gv_02c (gv_if1 hv_v5 c_35) (by rw [ei, ej, nI_clamp (n := i) (by omega), nI_clamp (n := j) (by omega)]; exact c_54))
        · skip
          have c_54 := (nI_eq (a := am i) (b := am j) (by omega) (by omega)).mp c_54
          refine lv_iconst (v := nI 2) hx hb dX6_trend_57 (by decide) ?_
          refine lv_goto (tgt := 62) hx hb dX6_trend_58 (by decide) ?_
          exact K_2 _ (by first | exact gv_02a (gv_if0 hv_v5 c_35) | exact gv_02b (gv_if1 hv_v5 c_35) (by rw [ei, ej, nI_clamp (n := i) (by omega), nI_clamp (n := j) (by omega)]; exact fun z => z c_54) | exact gv_02c (gv_if1 hv_v5 c_35) (by rw [ei, ej, nI_clamp (n := i) (by omega), nI_clamp (n := j) (by omega)]; exact c_54))
      · skip
        refine lv_iconst (v := nI 1) hx hb dX6_trend_38 (by decide) ?_
        refine lv_goto (tgt := 62) hx hb dX6_trend_39 (by decide) ?_
        exact K_2 _ (by first | exact gv_02a (gv_if0 hv_v5 c_35) | exact gv_02b (gv_if1 hv_v5 c_35) (by rw [ei, ej, nI_clamp (n := i) (by omega), nI_clamp (n := j) (by omega)]; exact fun z => z c_54) | exact gv_02c (gv_if1 hv_v5 c_35) (by rw [ei, ej, nI_clamp (n := i) (by omega), nI_clamp (n := j) (by omega)]; exact c_54))
  · skip
    refine lv_if_eq (tgt := 29) hx hb dX6_trend_5 (by decide) (fun c_5 => ?_) (fun c_5 => ?_)
    · skip
      refine lv_iconst (v := nI 0) hx hb dX6_trend_29 (by decide) ?_
      exact K_1 _ (by first | exact gv_10t ⟨gv_if1 h1 c_5, gv_if1 h2 c_13, gv_if1 h3 c_22⟩ | exact gv_10f (fun z => gv_if0 h1 c_5 z.1) | exact gv_10f (fun z => gv_if0 h2 c_13 z.2.1) | exact gv_10f (fun z => gv_if0 h3 c_22 z.2.2))
    · skip
      refine lv_aload_n hx hb dX6_trend_8 rfl (lv_at hl 0 rfl) ?_
      refine lv_iload_n hx hb dX6_trend_9 rfl (lv_at hl 2 rfl) ?_
      refine gv_pi (va_runV (As := [.int p1]) (rest := []) ⟨hx, hb, hml, hown, hts⟩ (ct_X6_isRelease l D cI cJ s.heap.size h0 r2 r5 r6 r7 r10 r11 r12 r13 r15 r16 r17 r18 th st pe mo nc bn ln ac p1 (by omega)) (cwV 1 hts gX6_trend_X6_isRelease rfl rfl rfl (by decide +kernel) ⟨Nat.le_of_ble_eq_true rfl, Nat.le_of_ble_eq_true rfl⟩) (gv_pV (wc := [(h0, .inr (6, [.int th, .int (nI mo), .ref r2, .int st, .int pe, .ref r5, .ref r6, .ref r7, .int (nI nc), .int (nI bn), .ref r10, .ref r11, .ref r12, .ref r13, .int (nI ln), .ref r15, .ref r16, .ref r17, .ref r18, .int (nI ac)]))]) hP hK hD hG [0] rfl (by decide) 0 rfl rfl rfl) rfl rfl hl.1 rfl (lv_room (Nat.le_of_ble_eq_true rfl)) dX6_trend_10 ⟨Nat.le_of_ble_eq_true rfl, Nat.le_of_ble_eq_true rfl⟩) (fun q2 h2 => ?_)
      refine lv_if_eq (tgt := 29) hx hb dX6_trend_13 (by decide) (fun c_13 => ?_) (fun c_13 => ?_)
      · skip
        refine lv_iconst (v := nI 0) hx hb dX6_trend_29 (by decide) ?_
        exact K_1 _ (by first | exact gv_10t ⟨gv_if1 h1 c_5, gv_if1 h2 c_13, gv_if1 h3 c_22⟩ | exact gv_10f (fun z => gv_if0 h1 c_5 z.1) | exact gv_10f (fun z => gv_if0 h2 c_13 z.2.1) | exact gv_10f (fun z => gv_if0 h3 c_22 z.2.2))
      · skip
        refine lv_iload_n hx hb dX6_trend_16 rfl (lv_at hl 3 rfl) ?_
        refine lv_iload hx hb dX6_trend_17 (lv_at hl 4 rfl) ?_
        refine gv_pi (va_runS (As := [.int x, .int y]) (rest := []) ⟨hx, hb, hml, hown, hts⟩ (ct_X6_isCell l x y) (va_cwS 2 hts gX6_trend_X6_isCell rfl rfl rfl (by decide +kernel) ⟨Nat.le_of_ble_eq_true rfl, Nat.le_of_ble_eq_true rfl⟩) gv_p0 rfl rfl hl.1 rfl (lv_room (Nat.le_of_ble_eq_true rfl)) dX6_trend_19 ⟨Nat.le_of_ble_eq_true rfl, Nat.le_of_ble_eq_true rfl⟩) (fun q3 h3 => ?_)
        refine lv_if_eq (tgt := 29) hx hb dX6_trend_22 (by decide) (fun c_22 => ?_) (fun c_22 => ?_)
        · skip
          refine lv_iconst (v := nI 0) hx hb dX6_trend_29 (by decide) ?_
          exact K_1 _ (by first | exact gv_10t ⟨gv_if1 h1 c_5, gv_if1 h2 c_13, gv_if1 h3 c_22⟩ | exact gv_10f (fun z => gv_if0 h1 c_5 z.1) | exact gv_10f (fun z => gv_if0 h2 c_13 z.2.1) | exact gv_10f (fun z => gv_if0 h3 c_22 z.2.2))
        · skip
          refine lv_iconst (v := nI 1) hx hb dX6_trend_25 (by decide) ?_
          refine lv_goto (tgt := 30) hx hb dX6_trend_26 (by decide) ?_
          exact K_1 _ (by first | exact gv_10t ⟨gv_if1 h1 c_5, gv_if1 h2 c_13, gv_if1 h3 c_22⟩ | exact gv_10f (fun z => gv_if0 h1 c_5 z.1) | exact gv_10f (fun z => gv_if0 h2 c_13 z.2.1) | exact gv_10f (fun z => gv_if0 h3 c_22 z.2.2))
