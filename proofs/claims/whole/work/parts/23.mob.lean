theorem gv_v7 {x : Int32} {n k : Nat} (h : vp_in x k) (h2 : ¬ nI n ≤ x) (hn : n < 2 ^ 31 := by decide) : vp_in x n := by
  rw [vp_in_iff] at h ⊢
  have h3 := gv_nle32 h2
  rw [Int32.lt_iff_toInt_lt, nI_toInt hn] at h3
  omega
theorem gv_pk {mo k : Nat} (hmo : mo ≤ 3000) (hk : k ≤ 120) (h : nI mo + nI k ≤ nI 3000) : mo + k ≤ 3000 := by
  rw [nI_add] at h
  exact (nI_leI (by omega) (by omega)).mp h
theorem gv_pk2 {mo k : Nat} (hk : mo + k < 2 ^ 31) (h : mo + k ≤ 3000) : nI mo + nI k ≤ nI 3000 := by
  rw [nI_add]
  exact (nI_leI (by omega) (by omega)).mpr h
theorem gv_okp_n {p : Int32} {k : Nat} (e : p = nI k) (h1 : 1 ≤ k) (h2 : k ≤ 120) : gv_okp p := by
  rw [e]
  unfold gv_okp
  rw [nI_l (by omega)]
  exact ⟨(lN_le (a := 1) (by omega) (by omega)).mpr h1, (lN_le (b := 120) (by omega) (by omega)).mpr h2⟩
theorem gv_in_X6_tide_X6 : ∀ w ∈ wsX60, w ∈ wsX6_tide := by decide +kernel
theorem gv_in_X6_pass_X6 : ∀ w ∈ wsX60, w ∈ wsX6_pass := by decide +kernel
theorem gv_in_X6_needle_X6 : ∀ w ∈ wsX60, w ∈ wsX6_needle := by decide +kernel
theorem gv_in_X6_offNow_X6 : ∀ w ∈ wsX60, w ∈ wsX6_offNow := by decide +kernel
theorem gv_in_X6_tie_X6 : ∀ w ∈ wsX60, w ∈ wsX6_tie := by decide +kernel
theorem gv_in_X6_readAt_X6 : ∀ w ∈ wsX60, w ∈ wsX6_readAt := by decide +kernel
theorem gv_in_X6_benchmark_X6 : ∀ w ∈ wsX60, w ∈ wsX6_benchmark := by decide +kernel
theorem gv_in_X6_line_X6 : ∀ w ∈ wsX60, w ∈ wsX6_line := by decide +kernel
set_option maxHeartbeats 4000000 in
set_option maxRecDepth 100000 in
theorem ct_X6_gap (l : Launch) (D : va_G) (cI cJ : ClassId) (sz : Nat) (h0 r2 r5 r6 r7 r10 r11 r12 r13 r15 r16 r17 r18 : Nat) (th st pe : Int32) (mo nc bn ln ac : Nat) (mm : Nat → Int64) (x y : Int32)  : Met l yX6_gap wsX6_gap ({ frames := 2, cells := 0, slots := 0, locals := 46 }) (va_Pc [.ref h0, .int x, .int y] (gv_B D cI cJ [(h0, .inr (6, [.int th, .int (nI mo), .ref r2, .int st, .int pe, .ref r5, .ref r6, .ref r7, .int (nI nc), .int (nI bn), .ref r10, .ref r11, .ref r12, .ref r13, .int (nI ln), .ref r15, .ref r16, .ref r17, .ref r18, .int (nI ac)])), (r2, .inl (cJ, 256, .inr (.inl mm)))] sz)) (va_Ql (fun (r9 : Int64) (u9 : Unit) => ∀ a b, a < 7 → b < 8 → x = nI a → y = nI b → r9 = gv_PA mm (a + 1) b - gv_PA mm a b) (fun (u9 : Unit) t9 => gv_W D (va_A [(h0, .inr (6, [.int th, .int (nI mo), .ref r2, .int st, .int pe, .ref r5, .ref r6, .ref r7, .int (nI nc), .int (nI bn), .ref r10, .ref r11, .ref r12, .ref r13, .int (nI ln), .ref r15, .ref r16, .ref r17, .ref r18, .int (nI ac)])), (r2, .inl (cJ, 256, .inr (.inl mm)))] sz) [(h0, .inr (6, [.int (gv_01 (vp_in x 7 ∧ vp_in y 8)), .int (nI mo), .ref r2, .int st, .int pe, .ref r5, .ref r6, .ref r7, .int (nI nc), .int (nI bn), .ref r10, .ref r11, .ref r12, .ref r13, .int (nI ln), .ref r15, .ref r16, .ref r17, .ref r18, .int (nI ac)])), (r2, .inl (cJ, 256, .inr (.inl mm)))] t9) (va_A [(h0, .inr (6, [.int th, .int (nI mo), .ref r2, .int st, .int pe, .ref r5, .ref r6, .ref r7, .int (nI nc), .int (nI bn), .ref r10, .ref r11, .ref r12, .ref r13, .int (nI ln), .ref r15, .ref r16, .ref r17, .ref r18, .int (nI ac)])), (r2, .inl (cJ, 256, .inr (.inl mm)))] sz)) 0 0 (va_A [(h0, .inr (6, [.int th, .int (nI mo), .ref r2, .int st, .int pe, .ref r5, .ref r6, .ref r7, .int (nI nc), .int (nI bn), .ref r10, .ref r11, .ref r12, .ref r13, .int (nI ln), .ref r15, .ref r16, .ref r17, .ref r18, .int (nI ac)])), (r2, .inl (cJ, 256, .inr (.inl mm)))] sz) := by
  refine Met.ofW (cc := cX6_gap) (maxL := 3) (ret := (some .long)) (by decide) rfl ?_
  intro p e s m args below meth c s₁ B hml hv
  obtain ⟨rfl, hsz, hP, hK, hD0, hG⟩ := hv
  have hx := B.exec
  have hb := B.bytes
  have hr := B.returns
  have hts := atoms_spec (ws := wsX6_gap) B.pre
  have hown : s.vm.findClass RX6 = some m.cls := findClass_of_methodNamed B.named
  have hlocks := B.notSynchronized
  subst hsz
  have hD := hD0.self (sz := s.heap.size)
  generalize hAe : va_A [(h0, .inr (6, [.int th, .int (nI mo), .ref r2, .int st, .int pe, .ref r5, .ref r6, .ref r7, .int (nI nc), .int (nI bn), .ref r10, .ref r11, .ref r12, .ref r13, .int (nI ln), .ref r15, .ref r16, .ref r17, .ref r18, .int (nI ac)])), (r2, .inl (cJ, 256, .inr (.inl mm)))] s.heap.size = A at hD ⊢
  have hA : ∀ q : Nat, s.heap.size ≤ q → A q := fun q h => by rw [← hAe]; exact Or.inr h
  have hS : va_S A s.heap s.heap [] := va_S.rf
  have hP : va_P D vwCl [(h0, .inr (6, [.int th, .int (nI mo), .ref r2, .int st, .int pe, .ref r5, .ref r6, .ref r7, .int (nI nc), .int (nI bn), .ref r10, .ref r11, .ref r12, .ref r13, .int (nI ln), .ref r15, .ref r16, .ref r17, .ref r18, .int (nI ac)])), (r2, .inl (cJ, 256, .inr (.inl mm)))] s.heap := hP
  have hl := lv_entry ([.ref h0, .int x, .int y]) (n := 3) (Nat.le_of_ble_eq_true rfl)
  rw [lg_entry_eq]
  generalize (lg_sl ([.ref h0, .int x, .int y]) ++ List.replicate (3 - (lg_sl ([.ref h0, .int x, .int y])).length) Slot.unset).toArray = ls at hl ⊢
  have hl : lv_has ls 3 [(0, .ref h0), (1, .int x), (2, .int y)] := hl
  refine lv_aload_n hx hb dX6_gap_0 rfl (lv_at hl 0 rfl) ?_
  refine lv_iload_n hx hb dX6_gap_1 rfl (lv_at hl 1 rfl) ?_
  refine lv_iload_n hx hb dX6_gap_2 rfl (lv_at hl 2 rfl) ?_
  refine gv_pi (va_runS (As := [.int x, .int y]) (rest := [.ref h0]) ⟨hx, hb, hml, hown, hts⟩ (ct_X6_isCell l x y) (va_cwS 2 hts gX6_gap_X6_isCell rfl rfl rfl (by decide +kernel) ⟨Nat.le_of_ble_eq_true rfl, Nat.le_of_ble_eq_true rfl⟩) gv_p0 rfl rfl hl.1 rfl (lv_room (Nat.le_of_ble_eq_true rfl)) dX6_gap_3 ⟨Nat.le_of_ble_eq_true rfl, Nat.le_of_ble_eq_true rfl⟩) (fun q1 h1 => ?_)
  refine gv_mg (fun v : Int32 => v = gv_01 (vp_in x 7 ∧ vp_in y 8)) 20 [.ref h0] (fun tv hv_tv => ?_) (fun K_1 => ?_)
  · skip
    subst hv_tv
    refine gv_mi (wc := [(h0, .inr (6, [.int th, .int (nI mo), .ref r2, .int st, .int pe, .ref r5, .ref r6, .ref r7, .int (nI nc), .int (nI bn), .ref r10, .ref r11, .ref r12, .ref r13, .int (nI ln), .ref r15, .ref r16, .ref r17, .ref r18, .int (nI ac)]))]) (wr := [(r2, .inl (cJ, 256, .inr (.inl mm)))]) (w2 := (fun u => [(h0, .inr (6, [.int (gv_01 (vp_in x 7 ∧ vp_in y 8)), .int (nI mo), .ref r2, .int st, .int pe, .ref r5, .ref r6, .ref r7, .int (nI nc), .int (nI bn), .ref r10, .ref r11, .ref r12, .ref r13, .int (nI ln), .ref r15, .ref r16, .ref r17, .ref r18, .int (nI ac)])), (r2, .inl (cJ, 256, .inr (.inl mm)))])) (va_runV (As := [.int (gv_01 (vp_in x 7 ∧ vp_in y 8))]) (rest := []) ⟨hx, hb, hml, hown, hts⟩ (ct_X6_holds l D cI cJ s.heap.size h0 r2 r5 r6 r7 r10 r11 r12 r13 r15 r16 r17 r18 th st pe mo nc bn ln ac (gv_01 (vp_in x 7 ∧ vp_in y 8))) (cwV 1 hts gX6_gap_X6_holds rfl rfl rfl (by decide +kernel) ⟨Nat.le_of_ble_eq_true rfl, Nat.le_of_ble_eq_true rfl⟩) (gv_pV (wc := [(h0, .inr (6, [.int th, .int (nI mo), .ref r2, .int st, .int pe, .ref r5, .ref r6, .ref r7, .int (nI nc), .int (nI bn), .ref r10, .ref r11, .ref r12, .ref r13, .int (nI ln), .ref r15, .ref r16, .ref r17, .ref r18, .int (nI ac)]))]) hP hK hD hG [0] rfl (by decide) 0 rfl rfl rfl) rfl rfl hl.1 rfl (lv_room (Nat.le_of_ble_eq_true rfl)) dX6_gap_20 ⟨Nat.le_of_ble_eq_true rfl, Nat.le_of_ble_eq_true rfl⟩) hP hD hS hA [0] [1] [1, 0] rfl rfl (by decide) (by decide) (fun u => rfl) (by decide) (fun rh u H locs hrh hP hD hS => ?_)
    have hP : va_P D vwCl [(h0, .inr (6, [.int (gv_01 (vp_in x 7 ∧ vp_in y 8)), .int (nI mo), .ref r2, .int st, .int pe, .ref r5, .ref r6, .ref r7, .int (nI nc), .int (nI bn), .ref r10, .ref r11, .ref r12, .ref r13, .int (nI ln), .ref r15, .ref r16, .ref r17, .ref r18, .int (nI ac)])), (r2, .inl (cJ, 256, .inr (.inl mm)))] H := hP
    have hD : va_D A [(h0, .inr (6, [.int (gv_01 (vp_in x 7 ∧ vp_in y 8)), .int (nI mo), .ref r2, .int st, .int pe, .ref r5, .ref r6, .ref r7, .int (nI nc), .int (nI bn), .ref r10, .ref r11, .ref r12, .ref r13, .int (nI ln), .ref r15, .ref r16, .ref r17, .ref r18, .int (nI ac)])), (r2, .inl (cJ, 256, .inr (.inl mm)))] := hD
    refine lv_if_eq (tgt := 44) hx hb dX6_gap_23 (by decide) (fun c_23 => ?_) (fun c_23 => ?_)
    · skip
      have hno := gv_if0 hrh c_23
      refine lv_lconst (v := 0) hx hb dX6_gap_44 (by decide) ?_
      have hpo : ∀ a b, a < 7 → b < 8 → x = nI a → y = nI b → 0 = gv_PA mm (a + 1) b - gv_PA mm a b := by
        exact fun a b ha hb ea eb => absurd (gv_01t ⟨by rw [ea]; exact vp_in_nI ha (by decide), by rw [eb]; exact vp_in_nI hb (by decide)⟩).symm hno
      have hP9 : va_P D vwCl [(h0, .inr (6, [.int (gv_01 (vp_in x 7 ∧ vp_in y 8)), .int (nI mo), .ref r2, .int st, .int pe, .ref r5, .ref r6, .ref r7, .int (nI nc), .int (nI bn), .ref r10, .ref r11, .ref r12, .ref r13, .int (nI ln), .ref r15, .ref r16, .ref r17, .ref r18, .int (nI ac)])), (r2, .inl (cJ, 256, .inr (.inl mm)))] H := hP
      have hD9 : va_D A [(h0, .inr (6, [.int (gv_01 (vp_in x 7 ∧ vp_in y 8)), .int (nI mo), .ref r2, .int st, .int pe, .ref r5, .ref r6, .ref r7, .int (nI nc), .int (nI bn), .ref r10, .ref r11, .ref r12, .ref r13, .int (nI ln), .ref r15, .ref r16, .ref r17, .ref r18, .int (nI ac)])), (r2, .inl (cJ, 256, .inr (.inl mm)))] := hD
      exact W.lret (v := 0) hx hb hr (fun t9 ht9 hW9 => ⟨⟨0, (), rfl, hpo, by rw [ht9]; exact hP9, hD9⟩, hS.F ht9⟩) hS.2.2 dX6_gap_45
    · skip
      have hok := gv_01z (gv_if1 hrh c_23)
      obtain ⟨a, ha7, ea⟩ := vp_in_of hok.1 (by decide)
      obtain ⟨b, hb8, eb⟩ := vp_in_of hok.2 (by decide)
      rw [ea] at hl
      have hl : lv_has ls 3 [(0, .ref h0), (1, .int (nI a)), (2, .int y)] := hl
      rw [eb] at hl
      have hl : lv_has ls 3 [(0, .ref h0), (1, .int (nI a)), (2, .int (nI b))] := hl
      refine lv_aload_n hx hb dX6_gap_26 rfl (lv_at hl 0 rfl) ?_
      refine lv_iload_n hx hb dX6_gap_27 rfl (lv_at hl 1 rfl) ?_
      refine lv_iconst (v := nI 1) hx hb dX6_gap_28 (by decide) ?_
      refine lv_iadd hx hb dX6_gap_29 ?_
      refine gv_wi (nI_add a 1) ?_
      refine lv_iload_n hx hb dX6_gap_30 rfl (lv_at hl 2 rfl) ?_
      refine gv_pl (va_runV (As := [.int (nI (a + 1)), .int (nI b)]) (rest := []) ⟨hx, hb, hml, hown, hts⟩ (ct_X6_pullAt l D cI cJ H.size h0 r2 r5 r6 r7 r10 r11 r12 r13 r15 r16 r17 r18 (gv_01 (vp_in x 7 ∧ vp_in y 8)) st pe mo nc bn ln ac mm (a + 1) b (by omega) hb8) (cwV 2 hts gX6_gap_X6_pullAt rfl rfl rfl (by decide +kernel) ⟨Nat.le_of_ble_eq_true rfl, Nat.le_of_ble_eq_true rfl⟩) (gv_pV (wc := [(h0, .inr (6, [.int (gv_01 (vp_in x 7 ∧ vp_in y 8)), .int (nI mo), .ref r2, .int st, .int pe, .ref r5, .ref r6, .ref r7, .int (nI nc), .int (nI bn), .ref r10, .ref r11, .ref r12, .ref r13, .int (nI ln), .ref r15, .ref r16, .ref r17, .ref r18, .int (nI ac)])), (r2, .inl (cJ, 256, .inr (.inl mm)))]) hP hK hD hG [0, 1] rfl (by decide) 0 rfl rfl rfl) rfl rfl hl.1 rfl (lv_room (Nat.le_of_ble_eq_true rfl)) dX6_gap_31 ⟨Nat.le_of_ble_eq_true rfl, Nat.le_of_ble_eq_true rfl⟩) (fun rc hrc => ?_)
      refine lv_aload_n hx hb dX6_gap_34 rfl (lv_at hl 0 rfl) ?_
      refine lv_iload_n hx hb dX6_gap_35 rfl (lv_at hl 1 rfl) ?_
      refine lv_iload_n hx hb dX6_gap_36 rfl (lv_at hl 2 rfl) ?_
      refine gv_pl (va_runV (As := [.int (nI a), .int (nI b)]) (rest := [.long rc]) ⟨hx, hb, hml, hown, hts⟩ (ct_X6_pullAt l D cI cJ H.size h0 r2 r5 r6 r7 r10 r11 r12 r13 r15 r16 r17 r18 (gv_01 (vp_in x 7 ∧ vp_in y 8)) st pe mo nc bn ln ac mm a b (by omega) hb8) (cwV 2 hts gX6_gap_X6_pullAt rfl rfl rfl (by decide +kernel) ⟨Nat.le_of_ble_eq_true rfl, Nat.le_of_ble_eq_true rfl⟩) (gv_pV (wc := [(h0, .inr (6, [.int (gv_01 (vp_in x 7 ∧ vp_in y 8)), .int (nI mo), .ref r2, .int st, .int pe, .ref r5, .ref r6, .ref r7, .int (nI nc), .int (nI bn), .ref r10, .ref r11, .ref r12, .ref r13, .int (nI ln), .ref r15, .ref r16, .ref r17, .ref r18, .int (nI ac)])), (r2, .inl (cJ, 256, .inr (.inl mm)))]) hP hK hD hG [0, 1] rfl (by decide) 0 rfl rfl rfl) rfl rfl hl.1 rfl (lv_room (Nat.le_of_ble_eq_true rfl)) dX6_gap_37 ⟨Nat.le_of_ble_eq_true rfl, Nat.le_of_ble_eq_true rfl⟩) (fun rd hrd => ?_)
      refine lv_lsub hx hb dX6_gap_40 ?_
      refine lv_goto (tgt := 45) hx hb dX6_gap_41 (by decide) ?_
      have hpo : ∀ a b, a < 7 → b < 8 → x = nI a → y = nI b → (rc - rd) = gv_PA mm (a + 1) b - gv_PA mm a b := by
        intro a2 b2 ha hb ea2 eb2
        cases gv_inj (ea2.symm.trans ea) (by omega) (by omega)
        cases gv_inj (eb2.symm.trans eb) (by omega) (by omega)
        rw [hrc, hrd]
      have hP9 : va_P D vwCl [(h0, .inr (6, [.int (gv_01 (vp_in x 7 ∧ vp_in y 8)), .int (nI mo), .ref r2, .int st, .int pe, .ref r5, .ref r6, .ref r7, .int (nI nc), .int (nI bn), .ref r10, .ref r11, .ref r12, .ref r13, .int (nI ln), .ref r15, .ref r16, .ref r17, .ref r18, .int (nI ac)])), (r2, .inl (cJ, 256, .inr (.inl mm)))] H := hP
      have hD9 : va_D A [(h0, .inr (6, [.int (gv_01 (vp_in x 7 ∧ vp_in y 8)), .int (nI mo), .ref r2, .int st, .int pe, .ref r5, .ref r6, .ref r7, .int (nI nc), .int (nI bn), .ref r10, .ref r11, .ref r12, .ref r13, .int (nI ln), .ref r15, .ref r16, .ref r17, .ref r18, .int (nI ac)])), (r2, .inl (cJ, 256, .inr (.inl mm)))] := hD
      exact W.lret (v := rc - rd) hx hb hr (fun t9 ht9 hW9 => ⟨⟨(rc - rd), (), rfl, hpo, by rw [ht9]; exact hP9, hD9⟩, hS.F ht9⟩) hS.2.2 dX6_gap_45
  · skip
    refine lv_if_eq (tgt := 19) hx hb dX6_gap_6 (by decide) (fun c_6 => ?_) (fun c_6 => ?_)
    · skip
      refine lv_iconst (v := nI 1) hx hb dX6_gap_19 (by decide) ?_
      exact K_1 _ (by first | exact gv_01t ⟨gv_v7 (gv_if1 h1 c_6).1 c_12, (gv_if1 h1 c_6).2⟩ | exact gv_01f (fun z => gv_if0 h1 c_6 ⟨gv_vmono z.1 (by decide), z.2⟩) | exact gv_01f (fun z => gv_v2 (by decide) c_12 z.1))
    · skip
      refine lv_iload_n hx hb dX6_gap_9 rfl (lv_at hl 1 rfl) ?_
      refine lv_bipush (v := nI 7) hx hb dX6_gap_10 (by decide) ?_
      refine lv_icmp_ge (tgt := 19) hx hb dX6_gap_12 (by decide) (fun c_12 => ?_) (fun c_12 => ?_)
      · skip
        refine lv_iconst (v := nI 1) hx hb dX6_gap_19 (by decide) ?_
        exact K_1 _ (by first | exact gv_01t ⟨gv_v7 (gv_if1 h1 c_6).1 c_12, (gv_if1 h1 c_6).2⟩ | exact gv_01f (fun z => gv_if0 h1 c_6 ⟨gv_vmono z.1 (by decide), z.2⟩) | exact gv_01f (fun z => gv_v2 (by decide) c_12 z.1))
      · skip
        refine lv_iconst (v := nI 0) hx hb dX6_gap_15 (by decide) ?_
        refine lv_goto (tgt := 20) hx hb dX6_gap_16 (by decide) ?_
        exact K_1 _ (by first | exact gv_01t ⟨gv_v7 (gv_if1 h1 c_6).1 c_12, (gv_if1 h1 c_6).2⟩ | exact gv_01f (fun z => gv_if0 h1 c_6 ⟨gv_vmono z.1 (by decide), z.2⟩) | exact gv_01f (fun z => gv_v2 (by decide) c_12 z.1))
set_option maxHeartbeats 4000000 in
set_option maxRecDepth 100000 in
theorem ct_X6_tide (l : Launch) (D : va_G) (cI cJ : ClassId) (sz : Nat) (h0 r2 r5 r6 r7 r10 r11 r12 r13 r15 r16 r17 r18 : Nat) (th st pe : Int32) (mo nc bn ln ac : Nat) (p0 p1 : Int32)  : Met l yX6_tide wsX6_tide ({ frames := 1, cells := 0, slots := 0, locals := 25 }) (va_Pc [.ref h0, .int p0, .int p1] (gv_B D cI cJ [(h0, .inr (6, [.int th, .int (nI mo), .ref r2, .int st, .int pe, .ref r5, .ref r6, .ref r7, .int (nI nc), .int (nI bn), .ref r10, .ref r11, .ref r12, .ref r13, .int (nI ln), .ref r15, .ref r16, .ref r17, .ref r18, .int (nI ac)]))] sz)) (va_Qi (fun (r9 : Int32) (u9 : Int32 × Int32) => match u9 with | (st9, pe9) => (gv_okt p0 p1 → r9 = st ∧ st9 = p0 ∧ pe9 = p1) ∧ (¬ gv_okt p0 p1 → st9 = st ∧ pe9 = pe)) (fun (u9 : Int32 × Int32) t9 => gv_W D (va_A [(h0, .inr (6, [.int th, .int (nI mo), .ref r2, .int st, .int pe, .ref r5, .ref r6, .ref r7, .int (nI nc), .int (nI bn), .ref r10, .ref r11, .ref r12, .ref r13, .int (nI ln), .ref r15, .ref r16, .ref r17, .ref r18, .int (nI ac)]))] sz) (match u9 with | (st9, pe9) => [(h0, .inr (6, [.int (gv_01 (gv_okt p0 p1)), .int (nI mo), .ref r2, .int st9, .int pe9, .ref r5, .ref r6, .ref r7, .int (nI nc), .int (nI bn), .ref r10, .ref r11, .ref r12, .ref r13, .int (nI ln), .ref r15, .ref r16, .ref r17, .ref r18, .int (nI ac)]))]) t9) (va_A [(h0, .inr (6, [.int th, .int (nI mo), .ref r2, .int st, .int pe, .ref r5, .ref r6, .ref r7, .int (nI nc), .int (nI bn), .ref r10, .ref r11, .ref r12, .ref r13, .int (nI ln), .ref r15, .ref r16, .ref r17, .ref r18, .int (nI ac)]))] sz)) 0 0 (va_A [(h0, .inr (6, [.int th, .int (nI mo), .ref r2, .int st, .int pe, .ref r5, .ref r6, .ref r7, .int (nI nc), .int (nI bn), .ref r10, .ref r11, .ref r12, .ref r13, .int (nI ln), .ref r15, .ref r16, .ref r17, .ref r18, .int (nI ac)]))] sz) := by
  refine Met.ofW (cc := cX6_tide) (maxL := 4) (ret := (some .int)) (by decide) rfl ?_
  intro p e s m args below meth c s₁ B hml hv
  obtain ⟨rfl, hsz, hP, hK, hD0, hG⟩ := hv
  have hx := B.exec
  have hb := B.bytes
  have hr := B.returns
  have hts := atoms_spec (ws := wsX6_tide) B.pre
  have hown : s.vm.findClass RX6 = some m.cls := findClass_of_methodNamed B.named
  have hlocks := B.notSynchronized
  subst hsz
  have hD := hD0.self (sz := s.heap.size)
  generalize hAe : va_A [(h0, .inr (6, [.int th, .int (nI mo), .ref r2, .int st, .int pe, .ref r5, .ref r6, .ref r7, .int (nI nc), .int (nI bn), .ref r10, .ref r11, .ref r12, .ref r13, .int (nI ln), .ref r15, .ref r16, .ref r17, .ref r18, .int (nI ac)]))] s.heap.size = A at hD ⊢
  have hA : ∀ q : Nat, s.heap.size ≤ q → A q := fun q h => by rw [← hAe]; exact Or.inr h
  have hS : va_S A s.heap s.heap [] := va_S.rf
  have hP : va_P D vwCl [(h0, .inr (6, [.int th, .int (nI mo), .ref r2, .int st, .int pe, .ref r5, .ref r6, .ref r7, .int (nI nc), .int (nI bn), .ref r10, .ref r11, .ref r12, .ref r13, .int (nI ln), .ref r15, .ref r16, .ref r17, .ref r18, .int (nI ac)]))] s.heap := hP
  have hl := lv_entry ([.ref h0, .int p0, .int p1]) (n := 4) (Nat.le_of_ble_eq_true rfl)
  rw [lg_entry_eq]
  generalize (lg_sl ([.ref h0, .int p0, .int p1]) ++ List.replicate (4 - (lg_sl ([.ref h0, .int p0, .int p1])).length) Slot.unset).toArray = ls at hl ⊢
  have hl : lv_has ls 4 [(0, .ref h0), (1, .int p0), (2, .int p1)] := hl
  refine lv_aload_n hx hb dX6_tide_0 rfl (lv_at hl 0 rfl) ?_
  refine lv_iload_n hx hb dX6_tide_1 rfl (lv_at hl 1 rfl) ?_
  refine lv_i2l (v := p0.toInt64) hx hb dX6_tide_2 rfl ?_
  refine lv_lconst (v := 0) hx hb dX6_tide_3 (by decide) ?_
  refine lv_ldc2 hx hb hown (hts (.constantLong RX6 90 (1000000)) (by decide +kernel)) dX6_tide_4 ?_
  refine gv_pi (va_runS (As := [.long p0.toInt64, .long 0, .long 1000000]) (rest := [.ref h0]) ⟨hx, hb, hml, hown, hts⟩ (ct_X6_isIn l p0.toInt64 0 1000000) (va_cwS 3 hts gX6_tide_X6_isIn rfl rfl rfl (by decide +kernel) ⟨Nat.le_of_ble_eq_true rfl, Nat.le_of_ble_eq_true rfl⟩) gv_p0 rfl rfl hl.1 rfl (lv_room (Nat.le_of_ble_eq_true rfl)) dX6_tide_7 ⟨Nat.le_of_ble_eq_true rfl, Nat.le_of_ble_eq_true rfl⟩) (fun q1 h1 => ?_)
  refine gv_mg (fun v : Int32 => v = gv_01 (gv_okt p0 p1)) 30 [.ref h0] (fun tv hv_tv => ?_) (fun K_1 => ?_)
  · skip
    subst hv_tv
    refine gv_mi (wc := [(h0, .inr (6, [.int th, .int (nI mo), .ref r2, .int st, .int pe, .ref r5, .ref r6, .ref r7, .int (nI nc), .int (nI bn), .ref r10, .ref r11, .ref r12, .ref r13, .int (nI ln), .ref r15, .ref r16, .ref r17, .ref r18, .int (nI ac)]))]) (wr := []) (w2 := (fun u => [(h0, .inr (6, [.int (gv_01 (gv_okt p0 p1)), .int (nI mo), .ref r2, .int st, .int pe, .ref r5, .ref r6, .ref r7, .int (nI nc), .int (nI bn), .ref r10, .ref r11, .ref r12, .ref r13, .int (nI ln), .ref r15, .ref r16, .ref r17, .ref r18, .int (nI ac)]))])) (va_runV (As := [.int (gv_01 (gv_okt p0 p1))]) (rest := []) ⟨hx, hb, hml, hown, hts⟩ (ct_X6_holds l D cI cJ s.heap.size h0 r2 r5 r6 r7 r10 r11 r12 r13 r15 r16 r17 r18 th st pe mo nc bn ln ac (gv_01 (gv_okt p0 p1))) (cwV 1 hts gX6_tide_X6_holds rfl rfl rfl (by decide +kernel) ⟨Nat.le_of_ble_eq_true rfl, Nat.le_of_ble_eq_true rfl⟩) (gv_pV (wc := [(h0, .inr (6, [.int th, .int (nI mo), .ref r2, .int st, .int pe, .ref r5, .ref r6, .ref r7, .int (nI nc), .int (nI bn), .ref r10, .ref r11, .ref r12, .ref r13, .int (nI ln), .ref r15, .ref r16, .ref r17, .ref r18, .int (nI ac)]))]) hP hK hD hG [0] rfl (by decide) 0 rfl rfl rfl) rfl rfl hl.1 rfl (lv_room (Nat.le_of_ble_eq_true rfl)) dX6_tide_30 ⟨Nat.le_of_ble_eq_true rfl, Nat.le_of_ble_eq_true rfl⟩) hP hD hS hA [0] [] [0] rfl rfl (by decide) (by decide) (fun u => rfl) (by decide) (fun rh u H locs hrh hP hD hS => ?_)
    have hP : va_P D vwCl [(h0, .inr (6, [.int (gv_01 (gv_okt p0 p1)), .int (nI mo), .ref r2, .int st, .int pe, .ref r5, .ref r6, .ref r7, .int (nI nc), .int (nI bn), .ref r10, .ref r11, .ref r12, .ref r13, .int (nI ln), .ref r15, .ref r16, .ref r17, .ref r18, .int (nI ac)]))] H := hP
    have hD : va_D A [(h0, .inr (6, [.int (gv_01 (gv_okt p0 p1)), .int (nI mo), .ref r2, .int st, .int pe, .ref r5, .ref r6, .ref r7, .int (nI nc), .int (nI bn), .ref r10, .ref r11, .ref r12, .ref r13, .int (nI ln), .ref r15, .ref r16, .ref r17, .ref r18, .int (nI ac)]))] := hD
    refine lv_if_ne (tgt := 38) hx hb dX6_tide_33 (by decide) (fun c_33 => ?_) (fun c_33 => ?_)
    · skip
      have hok := gv_01z (gv_if1 hrh c_33)
      refine lv_aload_n hx hb dX6_tide_38 rfl (lv_at hl 0 rfl) ?_
      refine va_get (D := D) (ci := 6) (v := .int st) (C := RX6) (T := TX6) (N := 20) hx hb hts gv_in_X6_tide_X6 hown hK hP 0 rfl rfl 3 (by decide) (hts (.fieldLink RX6 98 "GravimereModel" "strength" "I") (by decide +kernel)) (fun _ h9 => h9) rfl dX6_tide_39 ?_
      refine lv_istore_n (lv' := [(3, .int st), (0, .ref h0), (1, .int p0), (2, .int p1)]) hx hb dX6_tide_42 rfl hl (by decide) rfl (fun ls hl => ?_)
      refine lv_aload_n hx hb dX6_tide_43 rfl (lv_at hl 1 rfl) ?_
      refine lv_iload_n hx hb dX6_tide_44 rfl (lv_at hl 2 rfl) ?_
      refine va_put (D := D) (ci := 6) (v := .int p0) (ty := .int) (C := RX6) (T := TX6) (N := 20) hx hb hts gv_in_X6_tide_X6 tyX6 tyX6_ok nmX6 hown hK hP hD hS 0 rfl rfl 3 (by decide) (hts (.fieldLink RX6 98 "GravimereModel" "strength" "I") (by decide +kernel)) (fun _ h9 => h9) rfl (by decide +kernel) rfl rfl (Nat.le_of_ble_eq_true rfl) dX6_tide_45 (fun H locs hP hD hS => ?_)
      have hP : va_P D vwCl [(h0, .inr (6, [.int (gv_01 (gv_okt p0 p1)), .int (nI mo), .ref r2, .int p0, .int pe, .ref r5, .ref r6, .ref r7, .int (nI nc), .int (nI bn), .ref r10, .ref r11, .ref r12, .ref r13, .int (nI ln), .ref r15, .ref r16, .ref r17, .ref r18, .int (nI ac)]))] H := hP
      have hD : va_D A [(h0, .inr (6, [.int (gv_01 (gv_okt p0 p1)), .int (nI mo), .ref r2, .int p0, .int pe, .ref r5, .ref r6, .ref r7, .int (nI nc), .int (nI bn), .ref r10, .ref r11, .ref r12, .ref r13, .int (nI ln), .ref r15, .ref r16, .ref r17, .ref r18, .int (nI ac)]))] := hD
      refine lv_aload_n hx hb dX6_tide_48 rfl (lv_at hl 1 rfl) ?_
      refine lv_iload_n hx hb dX6_tide_49 rfl (lv_at hl 3 rfl) ?_
      refine va_put (D := D) (ci := 6) (v := .int p1) (ty := .int) (C := RX6) (T := TX6) (N := 20) hx hb hts gv_in_X6_tide_X6 tyX6 tyX6_ok nmX6 hown hK hP hD hS 0 rfl rfl 4 (by decide) (hts (.fieldLink RX6 13 "GravimereModel" "period" "I") (by decide +kernel)) (fun _ h9 => h9) rfl (by decide +kernel) rfl rfl (Nat.le_of_ble_eq_true rfl) dX6_tide_50 (fun H locs hP hD hS => ?_)
      have hP : va_P D vwCl [(h0, .inr (6, [.int (gv_01 (gv_okt p0 p1)), .int (nI mo), .ref r2, .int p0, .int p1, .ref r5, .ref r6, .ref r7, .int (nI nc), .int (nI bn), .ref r10, .ref r11, .ref r12, .ref r13, .int (nI ln), .ref r15, .ref r16, .ref r17, .ref r18, .int (nI ac)]))] H := hP
      have hD : va_D A [(h0, .inr (6, [.int (gv_01 (gv_okt p0 p1)), .int (nI mo), .ref r2, .int p0, .int p1, .ref r5, .ref r6, .ref r7, .int (nI nc), .int (nI bn), .ref r10, .ref r11, .ref r12, .ref r13, .int (nI ln), .ref r15, .ref r16, .ref r17, .ref r18, .int (nI ac)]))] := hD
      refine lv_iload_n hx hb dX6_tide_53 rfl (lv_at hl 0 rfl) ?_
      have hpo : match (p0, p1) with | (st9, pe9) => (gv_okt p0 p1 → st = st ∧ st9 = p0 ∧ pe9 = p1) ∧ (¬ gv_okt p0 p1 → st9 = st ∧ pe9 = pe) := by
        exact ⟨fun _ => ⟨rfl, rfl, rfl⟩, fun z => absurd hok z⟩
      have hP9 : va_P D vwCl [(h0, .inr (6, [.int (gv_01 (gv_okt p0 p1)), .int (nI mo), .ref r2, .int p0, .int p1, .ref r5, .ref r6, .ref r7, .int (nI nc), .int (nI bn), .ref r10, .ref r11, .ref r12, .ref r13, .int (nI ln), .ref r15, .ref r16, .ref r17, .ref r18, .int (nI ac)]))] H := hP
      have hD9 : va_D A [(h0, .inr (6, [.int (gv_01 (gv_okt p0 p1)), .int (nI mo), .ref r2, .int p0, .int p1, .ref r5, .ref r6, .ref r7, .int (nI nc), .int (nI bn), .ref r10, .ref r11, .ref r12, .ref r13, .int (nI ln), .ref r15, .ref r16, .ref r17, .ref r18, .int (nI ac)]))] := hD
      exact W.iret (v := st) hx hb hr (fun t9 ht9 hW9 => ⟨⟨st, (p0, p1), rfl, hpo, by rw [ht9]; exact hP9, hD9⟩, hS.F ht9⟩) hS.2.2 dX6_tide_54
    · skip
      have hno := gv_01n (gv_if0 hrh c_33)
      refine lv_iconst (v := nI 0) hx hb dX6_tide_36 (by decide) ?_
      have hpo : match (st, pe) with | (st9, pe9) => (gv_okt p0 p1 → (nI 0) = st ∧ st9 = p0 ∧ pe9 = p1) ∧ (¬ gv_okt p0 p1 → st9 = st ∧ pe9 = pe) := by
        exact ⟨fun z => absurd z hno, fun _ => ⟨rfl, rfl⟩⟩
      have hP9 : va_P D vwCl [(h0, .inr (6, [.int (gv_01 (gv_okt p0 p1)), .int (nI mo), .ref r2, .int st, .int pe, .ref r5, .ref r6, .ref r7, .int (nI nc), .int (nI bn), .ref r10, .ref r11, .ref r12, .ref r13, .int (nI ln), .ref r15, .ref r16, .ref r17, .ref r18, .int (nI ac)]))] H := hP
      have hD9 : va_D A [(h0, .inr (6, [.int (gv_01 (gv_okt p0 p1)), .int (nI mo), .ref r2, .int st, .int pe, .ref r5, .ref r6, .ref r7, .int (nI nc), .int (nI bn), .ref r10, .ref r11, .ref r12, .ref r13, .int (nI ln), .ref r15, .ref r16, .ref r17, .ref r18, .int (nI ac)]))] := hD
      exact W.iret (v := nI 0) hx hb hr (fun t9 ht9 hW9 => ⟨⟨(nI 0), (st, pe), rfl, hpo, by rw [ht9]; exact hP9, hD9⟩, hS.F ht9⟩) hS.2.2 dX6_tide_37
  · skip
    refine lv_if_eq (tgt := 29) hx hb dX6_tide_10 (by decide) (fun c_10 => ?_) (fun c_10 => ?_)
    · skip
      refine lv_iconst (v := nI 1) hx hb dX6_tide_29 (by decide) ?_
      exact K_1 _ (by first | exact gv_01t ⟨gv_if1 h1 c_10, gv_if1 h2 c_22⟩ | exact gv_01f (fun z => gv_if0 h1 c_10 z.1) | exact gv_01f (fun z => gv_if0 h2 c_22 z.2))
    · skip
      refine lv_iload_n hx hb dX6_tide_13 rfl (lv_at hl 2 rfl) ?_
      refine lv_i2l (v := p1.toInt64) hx hb dX6_tide_14 rfl ?_
      refine lv_lconst (v := 1) hx hb dX6_tide_15 (by decide) ?_
      refine lv_ldc2 hx hb hown (hts (.constantLong RX6 96 (60)) (by decide +kernel)) dX6_tide_16 ?_
      refine gv_pi (va_runS (As := [.long p1.toInt64, .long 1, .long 60]) (rest := [.ref h0]) ⟨hx, hb, hml, hown, hts⟩ (ct_X6_isIn l p1.toInt64 1 60) (va_cwS 3 hts gX6_tide_X6_isIn rfl rfl rfl (by decide +kernel) ⟨Nat.le_of_ble_eq_true rfl, Nat.le_of_ble_eq_true rfl⟩) gv_p0 rfl rfl hl.1 rfl (lv_room (Nat.le_of_ble_eq_true rfl)) dX6_tide_19 ⟨Nat.le_of_ble_eq_true rfl, Nat.le_of_ble_eq_true rfl⟩) (fun q2 h2 => ?_)
      refine lv_if_eq (tgt := 29) hx hb dX6_tide_22 (by decide) (fun c_22 => ?_) (fun c_22 => ?_)
      · skip
        refine lv_iconst (v := nI 1) hx hb dX6_tide_29 (by decide) ?_
        exact K_1 _ (by first | exact gv_01t ⟨gv_if1 h1 c_10, gv_if1 h2 c_22⟩ | exact gv_01f (fun z => gv_if0 h1 c_10 z.1) | exact gv_01f (fun z => gv_if0 h2 c_22 z.2))
      · skip
        refine lv_iconst (v := nI 0) hx hb dX6_tide_25 (by decide) ?_
        refine lv_goto (tgt := 30) hx hb dX6_tide_26 (by decide) ?_
        exact K_1 _ (by first | exact gv_01t ⟨gv_if1 h1 c_10, gv_if1 h2 c_22⟩ | exact gv_01f (fun z => gv_if0 h1 c_10 z.1) | exact gv_01f (fun z => gv_if0 h2 c_22 z.2))
set_option maxHeartbeats 4000000 in
set_option maxRecDepth 100000 in
theorem ct_X6_pass (l : Launch) (D : va_G) (cI cJ : ClassId) (sz : Nat) (h0 r2 r5 r6 r7 r10 r11 r12 r13 r15 r16 r17 r18 : Nat) (th st pe : Int32) (mo nc bn ln ac : Nat) (p0 : Int32) (hmo : mo ≤ 3000) : Met l yX6_pass wsX6_pass ({ frames := 1, cells := 0, slots := 0, locals := 25 }) (va_Pc [.ref h0, .int p0] (gv_B D cI cJ [(h0, .inr (6, [.int th, .int (nI mo), .ref r2, .int st, .int pe, .ref r5, .ref r6, .ref r7, .int (nI nc), .int (nI bn), .ref r10, .ref r11, .ref r12, .ref r13, .int (nI ln), .ref r15, .ref r16, .ref r17, .ref r18, .int (nI ac)]))] sz)) (va_Qi (fun (r9 : Int32) (u9 : Nat) => let mo9 := u9; (∀ k, 1 ≤ k → k ≤ 120 → p0 = nI k → mo + k ≤ 3000 → r9 = nI (mo + k) ∧ mo9 = mo + k) ∧ (¬ gv_02 (gv_okp p0) (nI mo + p0 ≤ nI 3000) = 0 → mo9 = mo)) (fun (u9 : Nat) t9 => gv_W D (va_A [(h0, .inr (6, [.int th, .int (nI mo), .ref r2, .int st, .int pe, .ref r5, .ref r6, .ref r7, .int (nI nc), .int (nI bn), .ref r10, .ref r11, .ref r12, .ref r13, .int (nI ln), .ref r15, .ref r16, .ref r17, .ref r18, .int (nI ac)]))] sz) (let mo9 := u9; [(h0, .inr (6, [.int (gv_02 (gv_okp p0) (nI mo + p0 ≤ nI 3000)), .int (nI mo9), .ref r2, .int st, .int pe, .ref r5, .ref r6, .ref r7, .int (nI nc), .int (nI bn), .ref r10, .ref r11, .ref r12, .ref r13, .int (nI ln), .ref r15, .ref r16, .ref r17, .ref r18, .int (nI ac)]))]) t9) (va_A [(h0, .inr (6, [.int th, .int (nI mo), .ref r2, .int st, .int pe, .ref r5, .ref r6, .ref r7, .int (nI nc), .int (nI bn), .ref r10, .ref r11, .ref r12, .ref r13, .int (nI ln), .ref r15, .ref r16, .ref r17, .ref r18, .int (nI ac)]))] sz)) 0 0 (va_A [(h0, .inr (6, [.int th, .int (nI mo), .ref r2, .int st, .int pe, .ref r5, .ref r6, .ref r7, .int (nI nc), .int (nI bn), .ref r10, .ref r11, .ref r12, .ref r13, .int (nI ln), .ref r15, .ref r16, .ref r17, .ref r18, .int (nI ac)]))] sz) := by
  refine Met.ofW (cc := cX6_pass) (maxL := 2) (ret := (some .int)) (by decide) rfl ?_
  intro p e s m args below meth c s₁ B hml hv
  obtain ⟨rfl, hsz, hP, hK, hD0, hG⟩ := hv
  have hx := B.exec
  have hb := B.bytes
  have hr := B.returns
  have hts := atoms_spec (ws := wsX6_pass) B.pre
  have hown : s.vm.findClass RX6 = some m.cls := findClass_of_methodNamed B.named
  have hlocks := B.notSynchronized
  subst hsz
  have hD := hD0.self (sz := s.heap.size)
  generalize hAe : va_A [(h0, .inr (6, [.int th, .int (nI mo), .ref r2, .int st, .int pe, .ref r5, .ref r6, .ref r7, .int (nI nc), .int (nI bn), .ref r10, .ref r11, .ref r12, .ref r13, .int (nI ln), .ref r15, .ref r16, .ref r17, .ref r18, .int (nI ac)]))] s.heap.size = A at hD ⊢
  have hA : ∀ q : Nat, s.heap.size ≤ q → A q := fun q h => by rw [← hAe]; exact Or.inr h
  have hS : va_S A s.heap s.heap [] := va_S.rf
  have hP : va_P D vwCl [(h0, .inr (6, [.int th, .int (nI mo), .ref r2, .int st, .int pe, .ref r5, .ref r6, .ref r7, .int (nI nc), .int (nI bn), .ref r10, .ref r11, .ref r12, .ref r13, .int (nI ln), .ref r15, .ref r16, .ref r17, .ref r18, .int (nI ac)]))] s.heap := hP
  have hl := lv_entry ([.ref h0, .int p0]) (n := 2) (Nat.le_of_ble_eq_true rfl)
  rw [lg_entry_eq]
  generalize (lg_sl ([.ref h0, .int p0]) ++ List.replicate (2 - (lg_sl ([.ref h0, .int p0])).length) Slot.unset).toArray = ls at hl ⊢
  have hl : lv_has ls 2 [(0, .ref h0), (1, .int p0)] := hl
  refine lv_aload_n hx hb dX6_pass_0 rfl (lv_at hl 0 rfl) ?_
  refine lv_iload_n hx hb dX6_pass_1 rfl (lv_at hl 1 rfl) ?_
  refine lv_i2l (v := p0.toInt64) hx hb dX6_pass_2 rfl ?_
  refine lv_lconst (v := 1) hx hb dX6_pass_3 (by decide) ?_
  refine lv_ldc2 hx hb hown (hts (.constantLong RX6 101 (120)) (by decide +kernel)) dX6_pass_4 ?_
  refine gv_pi (va_runS (As := [.long p0.toInt64, .long 1, .long 120]) (rest := [.ref h0]) ⟨hx, hb, hml, hown, hts⟩ (ct_X6_isIn l p0.toInt64 1 120) (va_cwS 3 hts gX6_pass_X6_isIn rfl rfl rfl (by decide +kernel) ⟨Nat.le_of_ble_eq_true rfl, Nat.le_of_ble_eq_true rfl⟩) gv_p0 rfl rfl hl.1 rfl (lv_room (Nat.le_of_ble_eq_true rfl)) dX6_pass_7 ⟨Nat.le_of_ble_eq_true rfl, Nat.le_of_ble_eq_true rfl⟩) (fun q1 h1 => ?_)
  refine gv_mg (fun v : Int32 => v = gv_02 (gv_okp p0) (nI mo + p0 ≤ nI 3000)) 34 [.ref h0] (fun tv hv_tv => ?_) (fun K_1 => ?_)
  · skip
    subst hv_tv
    refine gv_mi (wc := [(h0, .inr (6, [.int th, .int (nI mo), .ref r2, .int st, .int pe, .ref r5, .ref r6, .ref r7, .int (nI nc), .int (nI bn), .ref r10, .ref r11, .ref r12, .ref r13, .int (nI ln), .ref r15, .ref r16, .ref r17, .ref r18, .int (nI ac)]))]) (wr := []) (w2 := (fun u => [(h0, .inr (6, [.int (gv_02 (gv_okp p0) (nI mo + p0 ≤ nI 3000)), .int (nI mo), .ref r2, .int st, .int pe, .ref r5, .ref r6, .ref r7, .int (nI nc), .int (nI bn), .ref r10, .ref r11, .ref r12, .ref r13, .int (nI ln), .ref r15, .ref r16, .ref r17, .ref r18, .int (nI ac)]))])) (va_runV (As := [.int (gv_02 (gv_okp p0) (nI mo + p0 ≤ nI 3000))]) (rest := []) ⟨hx, hb, hml, hown, hts⟩ (ct_X6_holds l D cI cJ s.heap.size h0 r2 r5 r6 r7 r10 r11 r12 r13 r15 r16 r17 r18 th st pe mo nc bn ln ac (gv_02 (gv_okp p0) (nI mo + p0 ≤ nI 3000))) (cwV 1 hts gX6_pass_X6_holds rfl rfl rfl (by decide +kernel) ⟨Nat.le_of_ble_eq_true rfl, Nat.le_of_ble_eq_true rfl⟩) (gv_pV (wc := [(h0, .inr (6, [.int th, .int (nI mo), .ref r2, .int st, .int pe, .ref r5, .ref r6, .ref r7, .int (nI nc), .int (nI bn), .ref r10, .ref r11, .ref r12, .ref r13, .int (nI ln), .ref r15, .ref r16, .ref r17, .ref r18, .int (nI ac)]))]) hP hK hD hG [0] rfl (by decide) 0 rfl rfl rfl) rfl rfl hl.1 rfl (lv_room (Nat.le_of_ble_eq_true rfl)) dX6_pass_34 ⟨Nat.le_of_ble_eq_true rfl, Nat.le_of_ble_eq_true rfl⟩) hP hD hS hA [0] [] [0] rfl rfl (by decide) (by decide) (fun u => rfl) (by decide) (fun rh u H locs hrh hP hD hS => ?_)
    have hP : va_P D vwCl [(h0, .inr (6, [.int (gv_02 (gv_okp p0) (nI mo + p0 ≤ nI 3000)), .int (nI mo), .ref r2, .int st, .int pe, .ref r5, .ref r6, .ref r7, .int (nI nc), .int (nI bn), .ref r10, .ref r11, .ref r12, .ref r13, .int (nI ln), .ref r15, .ref r16, .ref r17, .ref r18, .int (nI ac)]))] H := hP
    have hD : va_D A [(h0, .inr (6, [.int (gv_02 (gv_okp p0) (nI mo + p0 ≤ nI 3000)), .int (nI mo), .ref r2, .int st, .int pe, .ref r5, .ref r6, .ref r7, .int (nI nc), .int (nI bn), .ref r10, .ref r11, .ref r12, .ref r13, .int (nI ln), .ref r15, .ref r16, .ref r17, .ref r18, .int (nI ac)]))] := hD
    refine lv_if_ne (tgt := 42) hx hb dX6_pass_37 (by decide) (fun c_37 => ?_) (fun c_37 => ?_)
    · skip
      have hok := gv_02z (gv_if1 hrh c_37)
      obtain ⟨k9, hk1, hk2, ek⟩ := gv_of64 (p := p0) (lo := 1) (hi := 120) (by decide) (by decide) hok.1.1 hok.1.2
      rw [ek] at hl
      have hl : lv_has ls 2 [(0, .ref h0), (1, .int (nI k9))] := hl
      have hk3 : mo + k9 ≤ 3000 := gv_pk hmo hk2 (by rw [← ek]; exact hok.2)
      refine lv_aload_n hx hb dX6_pass_42 rfl (lv_at hl 0 rfl) ?_
      refine lv_dup hx hb dX6_pass_43 rfl ?_
      refine va_get (D := D) (ci := 6) (v := .int (nI mo)) (C := RX6) (T := TX6) (N := 20) hx hb hts gv_in_X6_pass_X6 hown hK hP 0 rfl rfl 1 (by decide) (hts (.fieldLink RX6 51 "GravimereModel" "month" "I") (by decide +kernel)) (fun _ h9 => h9) rfl dX6_pass_44 ?_
      refine lv_iload_n hx hb dX6_pass_47 rfl (lv_at hl 1 rfl) ?_
      refine lv_iadd hx hb dX6_pass_48 ?_
      refine gv_wi (nI_add mo k9) ?_
      refine va_put (D := D) (ci := 6) (v := .int (nI (mo + k9))) (ty := .int) (C := RX6) (T := TX6) (N := 20) hx hb hts gv_in_X6_pass_X6 tyX6 tyX6_ok nmX6 hown hK hP hD hS 0 rfl rfl 1 (by decide) (hts (.fieldLink RX6 51 "GravimereModel" "month" "I") (by decide +kernel)) (fun _ h9 => h9) rfl (by decide +kernel) rfl rfl (Nat.le_of_ble_eq_true rfl) dX6_pass_49 (fun H locs hP hD hS => ?_)
      have hP : va_P D vwCl [(h0, .inr (6, [.int (gv_02 (gv_okp p0) (nI mo + p0 ≤ nI 3000)), .int (nI (mo + k9)), .ref r2, .int st, .int pe, .ref r5, .ref r6, .ref r7, .int (nI nc), .int (nI bn), .ref r10, .ref r11, .ref r12, .ref r13, .int (nI ln), .ref r15, .ref r16, .ref r17, .ref r18, .int (nI ac)]))] H := hP
      have hD : va_D A [(h0, .inr (6, [.int (gv_02 (gv_okp p0) (nI mo + p0 ≤ nI 3000)), .int (nI (mo + k9)), .ref r2, .int st, .int pe, .ref r5, .ref r6, .ref r7, .int (nI nc), .int (nI bn), .ref r10, .ref r11, .ref r12, .ref r13, .int (nI ln), .ref r15, .ref r16, .ref r17, .ref r18, .int (nI ac)]))] := hD
      refine lv_aload_n hx hb dX6_pass_52 rfl (lv_at hl 0 rfl) ?_
      refine va_get (D := D) (ci := 6) (v := .int (nI (mo + k9))) (C := RX6) (T := TX6) (N := 20) hx hb hts gv_in_X6_pass_X6 hown hK hP 0 rfl rfl 1 (by decide) (hts (.fieldLink RX6 51 "GravimereModel" "month" "I") (by decide +kernel)) (fun _ h9 => h9) rfl dX6_pass_53 ?_
      have hpo : let mo9 := (mo + k9); (∀ k, 1 ≤ k → k ≤ 120 → p0 = nI k → mo + k ≤ 3000 → (nI (mo + k9)) = nI (mo + k) ∧ mo9 = mo + k) ∧ (¬ gv_02 (gv_okp p0) (nI mo + p0 ≤ nI 3000) = 0 → mo9 = mo) := by
        refine ⟨fun k2 _ hk22 ek2 _ => ?_, fun z => absurd (gv_if1 hrh c_37) z⟩
        cases gv_inj (ek2.symm.trans ek) (by omega) (by omega)
        exact ⟨rfl, rfl⟩
      have hP9 : va_P D vwCl [(h0, .inr (6, [.int (gv_02 (gv_okp p0) (nI mo + p0 ≤ nI 3000)), .int (nI (mo + k9)), .ref r2, .int st, .int pe, .ref r5, .ref r6, .ref r7, .int (nI nc), .int (nI bn), .ref r10, .ref r11, .ref r12, .ref r13, .int (nI ln), .ref r15, .ref r16, .ref r17, .ref r18, .int (nI ac)]))] H := hP
      have hD9 : va_D A [(h0, .inr (6, [.int (gv_02 (gv_okp p0) (nI mo + p0 ≤ nI 3000)), .int (nI (mo + k9)), .ref r2, .int st, .int pe, .ref r5, .ref r6, .ref r7, .int (nI nc), .int (nI bn), .ref r10, .ref r11, .ref r12, .ref r13, .int (nI ln), .ref r15, .ref r16, .ref r17, .ref r18, .int (nI ac)]))] := hD
      exact W.iret (v := nI (mo + k9)) hx hb hr (fun t9 ht9 hW9 => ⟨⟨(nI (mo + k9)), (mo + k9), rfl, hpo, by rw [ht9]; exact hP9, hD9⟩, hS.F ht9⟩) hS.2.2 dX6_pass_56
    · skip
      have hno := gv_if0 hrh c_37
      refine lv_iconst (v := nI 0) hx hb dX6_pass_40 (by decide) ?_
      have hpo : let mo9 := mo; (∀ k, 1 ≤ k → k ≤ 120 → p0 = nI k → mo + k ≤ 3000 → (nI 0) = nI (mo + k) ∧ mo9 = mo + k) ∧ (¬ gv_02 (gv_okp p0) (nI mo + p0 ≤ nI 3000) = 0 → mo9 = mo) := by
        exact ⟨fun k hk1 hk2 ek hk3 => absurd (gv_02c (gv_okp_n ek hk1 hk2) (by rw [ek]; exact gv_pk2 (by omega) hk3)).symm hno, fun _ => rfl⟩
      have hP9 : va_P D vwCl [(h0, .inr (6, [.int (gv_02 (gv_okp p0) (nI mo + p0 ≤ nI 3000)), .int (nI mo), .ref r2, .int st, .int pe, .ref r5, .ref r6, .ref r7, .int (nI nc), .int (nI bn), .ref r10, .ref r11, .ref r12, .ref r13, .int (nI ln), .ref r15, .ref r16, .ref r17, .ref r18, .int (nI ac)]))] H := hP
      have hD9 : va_D A [(h0, .inr (6, [.int (gv_02 (gv_okp p0) (nI mo + p0 ≤ nI 3000)), .int (nI mo), .ref r2, .int st, .int pe, .ref r5, .ref r6, .ref r7, .int (nI nc), .int (nI bn), .ref r10, .ref r11, .ref r12, .ref r13, .int (nI ln), .ref r15, .ref r16, .ref r17, .ref r18, .int (nI ac)]))] := hD
      exact W.iret (v := nI 0) hx hb hr (fun t9 ht9 hW9 => ⟨⟨(nI 0), mo, rfl, hpo, by rw [ht9]; exact hP9, hD9⟩, hS.F ht9⟩) hS.2.2 dX6_pass_41
  · skip
    refine lv_if_ne (tgt := 17) hx hb dX6_pass_10 (by decide) (fun c_10 => ?_) (fun c_10 => ?_)
    · skip
      refine lv_aload_n hx hb dX6_pass_17 rfl (lv_at hl 0 rfl) ?_
      refine va_get (D := D) (ci := 6) (v := .int (nI mo)) (C := RX6) (T := TX6) (N := 20) hx hb hts gv_in_X6_pass_X6 hown hK hP 0 rfl rfl 1 (by decide) (hts (.fieldLink RX6 51 "GravimereModel" "month" "I") (by decide +kernel)) (fun _ h9 => h9) rfl dX6_pass_18 ?_
      refine lv_iload_n hx hb dX6_pass_21 rfl (lv_at hl 1 rfl) ?_
      refine lv_iadd hx hb dX6_pass_22 ?_
      refine lv_sipush (v := nI 3000) hx hb dX6_pass_23 (by decide) ?_
      refine lv_icmp_le (tgt := 33) hx hb dX6_pass_26 (by decide) (fun c_26 => ?_) (fun c_26 => ?_)
      · skip
        refine lv_iconst (v := nI 0) hx hb dX6_pass_33 (by decide) ?_
        exact K_1 _ (by first | exact gv_02a (gv_if0 h1 c_10) | exact gv_02b (gv_if1 h1 c_10) c_26 | exact gv_02c (gv_if1 h1 c_10) c_26)
      · skip
        refine lv_iconst (v := nI 2) hx hb dX6_pass_29 (by decide) ?_
        refine lv_goto (tgt := 34) hx hb dX6_pass_30 (by decide) ?_
        exact K_1 _ (by first | exact gv_02a (gv_if0 h1 c_10) | exact gv_02b (gv_if1 h1 c_10) c_26 | exact gv_02c (gv_if1 h1 c_10) c_26)
    · skip
      refine lv_iconst (v := nI 1) hx hb dX6_pass_13 (by decide) ?_
      refine lv_goto (tgt := 34) hx hb dX6_pass_14 (by decide) ?_
      exact K_1 _ (by first | exact gv_02a (gv_if0 h1 c_10) | exact gv_02b (gv_if1 h1 c_10) c_26 | exact gv_02c (gv_if1 h1 c_10) c_26)
set_option maxHeartbeats 4000000 in
set_option maxRecDepth 100000 in
theorem ct_X6_needle (l : Launch) (D : va_G) (cI cJ : ClassId) (sz : Nat) (h0 r2 r5 r6 r7 r10 r11 r12 r13 r15 r16 r17 r18 : Nat) (th st pe : Int32) (mo nc bn ln ac : Nat) (kd of_ td : Nat → Int32) (p0 p1 : Int32) (hnc : nc ≤ 6) : Met l yX6_needle wsX6_needle ({ frames := 1, cells := 0, slots := 0, locals := 25 }) (va_Pc [.ref h0, .int p0, .int p1] (gv_B D cI cJ [(h0, .inr (6, [.int th, .int (nI mo), .ref r2, .int st, .int pe, .ref r5, .ref r6, .ref r7, .int (nI nc), .int (nI bn), .ref r10, .ref r11, .ref r12, .ref r13, .int (nI ln), .ref r15, .ref r16, .ref r17, .ref r18, .int (nI ac)])), (r5, .inl (cI, 6, .inl kd)), (r6, .inl (cI, 6, .inl of_)), (r7, .inl (cI, 6, .inl td))] sz)) (va_Qi (fun (r9 : Int32) (u9 : Nat × (Nat → Int32) × (Nat → Int32) × (Nat → Int32)) => match u9 with | (nc9, kd9, of9, td9) => (gv_02 (gv_okn p0 p1) (¬ nc = 6) = 0 → r9 = nI nc ∧ nc9 = nc + 1 ∧ kd9 = upd kd nc p0 ∧ of9 = upd of_ nc p1 ∧ td9 = upd td nc (nI mo)) ∧ (¬ gv_02 (gv_okn p0 p1) (¬ nc = 6) = 0 → nc9 = nc ∧ kd9 = kd ∧ of9 = of_ ∧ td9 = td)) (fun (u9 : Nat × (Nat → Int32) × (Nat → Int32) × (Nat → Int32)) t9 => gv_W D (va_A [(h0, .inr (6, [.int th, .int (nI mo), .ref r2, .int st, .int pe, .ref r5, .ref r6, .ref r7, .int (nI nc), .int (nI bn), .ref r10, .ref r11, .ref r12, .ref r13, .int (nI ln), .ref r15, .ref r16, .ref r17, .ref r18, .int (nI ac)])), (r5, .inl (cI, 6, .inl kd)), (r6, .inl (cI, 6, .inl of_)), (r7, .inl (cI, 6, .inl td))] sz) (match u9 with | (nc9, kd9, of9, td9) => [(h0, .inr (6, [.int (gv_02 (gv_okn p0 p1) (¬ nc = 6)), .int (nI mo), .ref r2, .int st, .int pe, .ref r5, .ref r6, .ref r7, .int (nI nc9), .int (nI bn), .ref r10, .ref r11, .ref r12, .ref r13, .int (nI ln), .ref r15, .ref r16, .ref r17, .ref r18, .int (nI ac)])), (r5, .inl (cI, 6, .inl kd9)), (r6, .inl (cI, 6, .inl of9)), (r7, .inl (cI, 6, .inl td9))]) t9) (va_A [(h0, .inr (6, [.int th, .int (nI mo), .ref r2, .int st, .int pe, .ref r5, .ref r6, .ref r7, .int (nI nc), .int (nI bn), .ref r10, .ref r11, .ref r12, .ref r13, .int (nI ln), .ref r15, .ref r16, .ref r17, .ref r18, .int (nI ac)])), (r5, .inl (cI, 6, .inl kd)), (r6, .inl (cI, 6, .inl of_)), (r7, .inl (cI, 6, .inl td))] sz)) 0 0 (va_A [(h0, .inr (6, [.int th, .int (nI mo), .ref r2, .int st, .int pe, .ref r5, .ref r6, .ref r7, .int (nI nc), .int (nI bn), .ref r10, .ref r11, .ref r12, .ref r13, .int (nI ln), .ref r15, .ref r16, .ref r17, .ref r18, .int (nI ac)])), (r5, .inl (cI, 6, .inl kd)), (r6, .inl (cI, 6, .inl of_)), (r7, .inl (cI, 6, .inl td))] sz) := by
  refine Met.ofW (cc := cX6_needle) (maxL := 4) (ret := (some .int)) (by decide) rfl ?_
  intro p e s m args below meth c s₁ B hml hv
  obtain ⟨rfl, hsz, hP, hK, hD0, hG⟩ := hv
  have hx := B.exec
  have hb := B.bytes
  have hr := B.returns
  have hts := atoms_spec (ws := wsX6_needle) B.pre
  have hown : s.vm.findClass RX6 = some m.cls := findClass_of_methodNamed B.named
  have hlocks := B.notSynchronized
  subst hsz
  have hD := hD0.self (sz := s.heap.size)
  generalize hAe : va_A [(h0, .inr (6, [.int th, .int (nI mo), .ref r2, .int st, .int pe, .ref r5, .ref r6, .ref r7, .int (nI nc), .int (nI bn), .ref r10, .ref r11, .ref r12, .ref r13, .int (nI ln), .ref r15, .ref r16, .ref r17, .ref r18, .int (nI ac)])), (r5, .inl (cI, 6, .inl kd)), (r6, .inl (cI, 6, .inl of_)), (r7, .inl (cI, 6, .inl td))] s.heap.size = A at hD ⊢
  have hA : ∀ q : Nat, s.heap.size ≤ q → A q := fun q h => by rw [← hAe]; exact Or.inr h
  have hS : va_S A s.heap s.heap [] := va_S.rf
  have hP : va_P D vwCl [(h0, .inr (6, [.int th, .int (nI mo), .ref r2, .int st, .int pe, .ref r5, .ref r6, .ref r7, .int (nI nc), .int (nI bn), .ref r10, .ref r11, .ref r12, .ref r13, .int (nI ln), .ref r15, .ref r16, .ref r17, .ref r18, .int (nI ac)])), (r5, .inl (cI, 6, .inl kd)), (r6, .inl (cI, 6, .inl of_)), (r7, .inl (cI, 6, .inl td))] s.heap := hP
  have hl := lv_entry ([.ref h0, .int p0, .int p1]) (n := 4) (Nat.le_of_ble_eq_true rfl)
  rw [lg_entry_eq]
  generalize (lg_sl ([.ref h0, .int p0, .int p1]) ++ List.replicate (4 - (lg_sl ([.ref h0, .int p0, .int p1])).length) Slot.unset).toArray = ls at hl ⊢
  have hl : lv_has ls 4 [(0, .ref h0), (1, .int p0), (2, .int p1)] := hl
  refine lv_iload_n hx hb dX6_needle_0 rfl (lv_at hl 1 rfl) ?_
  refine lv_i2l (v := p0.toInt64) hx hb dX6_needle_1 rfl ?_
  refine lv_lconst (v := 0) hx hb dX6_needle_2 (by decide) ?_
  refine lv_lconst (v := 1) hx hb dX6_needle_3 (by decide) ?_
  refine gv_pi (va_runS (As := [.long p0.toInt64, .long 0, .long 1]) (rest := []) ⟨hx, hb, hml, hown, hts⟩ (ct_X6_isIn l p0.toInt64 0 1) (va_cwS 3 hts gX6_needle_X6_isIn rfl rfl rfl (by decide +kernel) ⟨Nat.le_of_ble_eq_true rfl, Nat.le_of_ble_eq_true rfl⟩) gv_p0 rfl rfl hl.1 rfl (lv_room (Nat.le_of_ble_eq_true rfl)) dX6_needle_4 ⟨Nat.le_of_ble_eq_true rfl, Nat.le_of_ble_eq_true rfl⟩) (fun q1 h1 => ?_)
  refine gv_mg (fun v : Int32 => v = gv_10 (gv_okn p0 p1)) 29 [] (fun v6 hv_v6 => ?_) (fun K_1 => ?_)
  · skip
    refine lv_istore_n (lv' := [(3, .int v6), (0, .ref h0), (1, .int p0), (2, .int p1)]) hx hb dX6_needle_29 rfl hl (by decide) rfl (fun ls hl => ?_)
    refine lv_aload_n hx hb dX6_needle_30 rfl (lv_at hl 1 rfl) ?_
    refine gv_mg (fun v : Int32 => v = gv_02 (gv_okn p0 p1) (¬ nc = 6)) 53 [.ref h0] (fun tv hv_tv => ?_) (fun K_2 => ?_)
    · skip
      subst hv_tv
      refine gv_mi (wc := [(h0, .inr (6, [.int th, .int (nI mo), .ref r2, .int st, .int pe, .ref r5, .ref r6, .ref r7, .int (nI nc), .int (nI bn), .ref r10, .ref r11, .ref r12, .ref r13, .int (nI ln), .ref r15, .ref r16, .ref r17, .ref r18, .int (nI ac)]))]) (wr := [(r5, .inl (cI, 6, .inl kd)), (r6, .inl (cI, 6, .inl of_)), (r7, .inl (cI, 6, .inl td))]) (w2 := (fun u => [(h0, .inr (6, [.int (gv_02 (gv_okn p0 p1) (¬ nc = 6)), .int (nI mo), .ref r2, .int st, .int pe, .ref r5, .ref r6, .ref r7, .int (nI nc), .int (nI bn), .ref r10, .ref r11, .ref r12, .ref r13, .int (nI ln), .ref r15, .ref r16, .ref r17, .ref r18, .int (nI ac)])), (r5, .inl (cI, 6, .inl kd)), (r6, .inl (cI, 6, .inl of_)), (r7, .inl (cI, 6, .inl td))])) (va_runV (As := [.int (gv_02 (gv_okn p0 p1) (¬ nc = 6))]) (rest := []) ⟨hx, hb, hml, hown, hts⟩ (ct_X6_holds l D cI cJ s.heap.size h0 r2 r5 r6 r7 r10 r11 r12 r13 r15 r16 r17 r18 th st pe mo nc bn ln ac (gv_02 (gv_okn p0 p1) (¬ nc = 6))) (cwV 1 hts gX6_needle_X6_holds rfl rfl rfl (by decide +kernel) ⟨Nat.le_of_ble_eq_true rfl, Nat.le_of_ble_eq_true rfl⟩) (gv_pV (wc := [(h0, .inr (6, [.int th, .int (nI mo), .ref r2, .int st, .int pe, .ref r5, .ref r6, .ref r7, .int (nI nc), .int (nI bn), .ref r10, .ref r11, .ref r12, .ref r13, .int (nI ln), .ref r15, .ref r16, .ref r17, .ref r18, .int (nI ac)]))]) hP hK hD hG [0] rfl (by decide) 0 rfl rfl rfl) rfl rfl hl.1 rfl (lv_room (Nat.le_of_ble_eq_true rfl)) dX6_needle_53 ⟨Nat.le_of_ble_eq_true rfl, Nat.le_of_ble_eq_true rfl⟩) hP hD hS hA [0] [1, 2, 3] [3, 0, 1, 2] rfl rfl (by decide) (by decide) (fun u => rfl) (by decide) (fun rh u H locs hrh hP hD hS => ?_)
      have hP : va_P D vwCl [(h0, .inr (6, [.int (gv_02 (gv_okn p0 p1) (¬ nc = 6)), .int (nI mo), .ref r2, .int st, .int pe, .ref r5, .ref r6, .ref r7, .int (nI nc), .int (nI bn), .ref r10, .ref r11, .ref r12, .ref r13, .int (nI ln), .ref r15, .ref r16, .ref r17, .ref r18, .int (nI ac)])), (r5, .inl (cI, 6, .inl kd)), (r6, .inl (cI, 6, .inl of_)), (r7, .inl (cI, 6, .inl td))] H := hP
      have hD : va_D A [(h0, .inr (6, [.int (gv_02 (gv_okn p0 p1) (¬ nc = 6)), .int (nI mo), .ref r2, .int st, .int pe, .ref r5, .ref r6, .ref r7, .int (nI nc), .int (nI bn), .ref r10, .ref r11, .ref r12, .ref r13, .int (nI ln), .ref r15, .ref r16, .ref r17, .ref r18, .int (nI ac)])), (r5, .inl (cI, 6, .inl kd)), (r6, .inl (cI, 6, .inl of_)), (r7, .inl (cI, 6, .inl td))] := hD
      refine lv_if_ne (tgt := 61) hx hb dX6_needle_56 (by decide) (fun c_56 => ?_) (fun c_56 => ?_)
      · skip
        have hok := gv_02z (gv_if1 hrh c_56)
        have hn6 : nc < 6 := by have := hok.2; omega
        refine lv_aload_n hx hb dX6_needle_61 rfl (lv_at hl 1 rfl) ?_
        refine va_get (D := D) (ci := 6) (v := .ref r5) (C := RX6) (T := TX6) (N := 20) hx hb hts gv_in_X6_needle_X6 hown hK hP 0 rfl rfl 5 (by decide) (hts (.fieldLink RX6 17 "GravimereModel" "kind" "[I") (by decide +kernel)) (fun _ h9 => h9) rfl dX6_needle_62 ?_
        refine lv_aload_n hx hb dX6_needle_65 rfl (lv_at hl 1 rfl) ?_
        refine va_get (D := D) (ci := 6) (v := .int (nI nc)) (C := RX6) (T := TX6) (N := 20) hx hb hts gv_in_X6_needle_X6 hown hK hP 0 rfl rfl 8 (by decide) (hts (.fieldLink RX6 63 "GravimereModel" "needles" "I") (by decide +kernel)) (fun _ h9 => h9) rfl dX6_needle_66 ?_
        refine lv_iload_n hx hb dX6_needle_69 rfl (lv_at hl 2 rfl) ?_
        refine gv_is hx hb hK hP hD hS 1 (k := nc) rfl (by omega) (by decide) dX6_needle_70 (fun H locs hP hD hS => ?_)
        have hP : va_P D vwCl [(h0, .inr (6, [.int (gv_02 (gv_okn p0 p1) (¬ nc = 6)), .int (nI mo), .ref r2, .int st, .int pe, .ref r5, .ref r6, .ref r7, .int (nI nc), .int (nI bn), .ref r10, .ref r11, .ref r12, .ref r13, .int (nI ln), .ref r15, .ref r16, .ref r17, .ref r18, .int (nI ac)])), (r5, .inl (cI, 6, .inl (upd kd nc p0))), (r6, .inl (cI, 6, .inl of_)), (r7, .inl (cI, 6, .inl td))] H := hP
        have hD : va_D A [(h0, .inr (6, [.int (gv_02 (gv_okn p0 p1) (¬ nc = 6)), .int (nI mo), .ref r2, .int st, .int pe, .ref r5, .ref r6, .ref r7, .int (nI nc), .int (nI bn), .ref r10, .ref r11, .ref r12, .ref r13, .int (nI ln), .ref r15, .ref r16, .ref r17, .ref r18, .int (nI ac)])), (r5, .inl (cI, 6, .inl (upd kd nc p0))), (r6, .inl (cI, 6, .inl of_)), (r7, .inl (cI, 6, .inl td))] := hD
        refine lv_aload_n hx hb dX6_needle_71 rfl (lv_at hl 1 rfl) ?_
        refine va_get (D := D) (ci := 6) (v := .ref r6) (C := RX6) (T := TX6) (N := 20) hx hb hts gv_in_X6_needle_X6 hown hK hP 0 rfl rfl 6 (by decide) (hts (.fieldLink RX6 21 "GravimereModel" "off" "[I") (by decide +kernel)) (fun _ h9 => h9) rfl dX6_needle_72 ?_
        refine lv_aload_n hx hb dX6_needle_75 rfl (lv_at hl 1 rfl) ?_
        refine va_get (D := D) (ci := 6) (v := .int (nI nc)) (C := RX6) (T := TX6) (N := 20) hx hb hts gv_in_X6_needle_X6 hown hK hP 0 rfl rfl 8 (by decide) (hts (.fieldLink RX6 63 "GravimereModel" "needles" "I") (by decide +kernel)) (fun _ h9 => h9) rfl dX6_needle_76 ?_
        refine lv_iload_n hx hb dX6_needle_79 rfl (lv_at hl 3 rfl) ?_
        refine gv_is hx hb hK hP hD hS 2 (k := nc) rfl (by omega) (by decide) dX6_needle_80 (fun H locs hP hD hS => ?_)
        have hP : va_P D vwCl [(h0, .inr (6, [.int (gv_02 (gv_okn p0 p1) (¬ nc = 6)), .int (nI mo), .ref r2, .int st, .int pe, .ref r5, .ref r6, .ref r7, .int (nI nc), .int (nI bn), .ref r10, .ref r11, .ref r12, .ref r13, .int (nI ln), .ref r15, .ref r16, .ref r17, .ref r18, .int (nI ac)])), (r5, .inl (cI, 6, .inl (upd kd nc p0))), (r6, .inl (cI, 6, .inl (upd of_ nc p1))), (r7, .inl (cI, 6, .inl td))] H := hP
        have hD : va_D A [(h0, .inr (6, [.int (gv_02 (gv_okn p0 p1) (¬ nc = 6)), .int (nI mo), .ref r2, .int st, .int pe, .ref r5, .ref r6, .ref r7, .int (nI nc), .int (nI bn), .ref r10, .ref r11, .ref r12, .ref r13, .int (nI ln), .ref r15, .ref r16, .ref r17, .ref r18, .int (nI ac)])), (r5, .inl (cI, 6, .inl (upd kd nc p0))), (r6, .inl (cI, 6, .inl (upd of_ nc p1))), (r7, .inl (cI, 6, .inl td))] := hD
        refine lv_aload_n hx hb dX6_needle_81 rfl (lv_at hl 1 rfl) ?_
        refine va_get (D := D) (ci := 6) (v := .ref r7) (C := RX6) (T := TX6) (N := 20) hx hb hts gv_in_X6_needle_X6 hown hK hP 0 rfl rfl 7 (by decide) (hts (.fieldLink RX6 24 "GravimereModel" "tied" "[I") (by decide +kernel)) (fun _ h9 => h9) rfl dX6_needle_82 ?_
        refine lv_aload_n hx hb dX6_needle_85 rfl (lv_at hl 1 rfl) ?_
        refine va_get (D := D) (ci := 6) (v := .int (nI nc)) (C := RX6) (T := TX6) (N := 20) hx hb hts gv_in_X6_needle_X6 hown hK hP 0 rfl rfl 8 (by decide) (hts (.fieldLink RX6 63 "GravimereModel" "needles" "I") (by decide +kernel)) (fun _ h9 => h9) rfl dX6_needle_86 ?_
        refine lv_aload_n hx hb dX6_needle_89 rfl (lv_at hl 1 rfl) ?_
        refine va_get (D := D) (ci := 6) (v := .int (nI mo)) (C := RX6) (T := TX6) (N := 20) hx hb hts gv_in_X6_needle_X6 hown hK hP 0 rfl rfl 1 (by decide) (hts (.fieldLink RX6 51 "GravimereModel" "month" "I") (by decide +kernel)) (fun _ h9 => h9) rfl dX6_needle_90 ?_
        refine gv_is hx hb hK hP hD hS 3 (k := nc) rfl (by omega) (by decide) dX6_needle_93 (fun H locs hP hD hS => ?_)
        have hP : va_P D vwCl [(h0, .inr (6, [.int (gv_02 (gv_okn p0 p1) (¬ nc = 6)), .int (nI mo), .ref r2, .int st, .int pe, .ref r5, .ref r6, .ref r7, .int (nI nc), .int (nI bn), .ref r10, .ref r11, .ref r12, .ref r13, .int (nI ln), .ref r15, .ref r16, .ref r17, .ref r18, .int (nI ac)])), (r5, .inl (cI, 6, .inl (upd kd nc p0))), (r6, .inl (cI, 6, .inl (upd of_ nc p1))), (r7, .inl (cI, 6, .inl (upd td nc (nI mo))))] H := hP
        have hD : va_D A [(h0, .inr (6, [.int (gv_02 (gv_okn p0 p1) (¬ nc = 6)), .int (nI mo), .ref r2, .int st, .int pe, .ref r5, .ref r6, .ref r7, .int (nI nc), .int (nI bn), .ref r10, .ref r11, .ref r12, .ref r13, .int (nI ln), .ref r15, .ref r16, .ref r17, .ref r18, .int (nI ac)])), (r5, .inl (cI, 6, .inl (upd kd nc p0))), (r6, .inl (cI, 6, .inl (upd of_ nc p1))), (r7, .inl (cI, 6, .inl (upd td nc (nI mo))))] := hD
        refine lv_aload_n hx hb dX6_needle_94 rfl (lv_at hl 1 rfl) ?_
        refine lv_dup hx hb dX6_needle_95 rfl ?_
        refine va_get (D := D) (ci := 6) (v := .int (nI nc)) (C := RX6) (T := TX6) (N := 20) hx hb hts gv_in_X6_needle_X6 hown hK hP 0 rfl rfl 8 (by decide) (hts (.fieldLink RX6 63 "GravimereModel" "needles" "I") (by decide +kernel)) (fun _ h9 => h9) rfl dX6_needle_96 ?_
        refine lv_iconst (v := nI 1) hx hb dX6_needle_99 (by decide) ?_
        refine lv_iadd hx hb dX6_needle_100 ?_
        refine gv_wi (nI_add nc 1) ?_
        refine va_put (D := D) (ci := 6) (v := .int (nI (nc + 1))) (ty := .int) (C := RX6) (T := TX6) (N := 20) hx hb hts gv_in_X6_needle_X6 tyX6 tyX6_ok nmX6 hown hK hP hD hS 0 rfl rfl 8 (by decide) (hts (.fieldLink RX6 63 "GravimereModel" "needles" "I") (by decide +kernel)) (fun _ h9 => h9) rfl (by decide +kernel) rfl rfl (Nat.le_of_ble_eq_true rfl) dX6_needle_101 (fun H locs hP hD hS => ?_)
        have hP : va_P D vwCl [(h0, .inr (6, [.int (gv_02 (gv_okn p0 p1) (¬ nc = 6)), .int (nI mo), .ref r2, .int st, .int pe, .ref r5, .ref r6, .ref r7, .int (nI (nc + 1)), .int (nI bn), .ref r10, .ref r11, .ref r12, .ref r13, .int (nI ln), .ref r15, .ref r16, .ref r17, .ref r18, .int (nI ac)])), (r5, .inl (cI, 6, .inl (upd kd nc p0))), (r6, .inl (cI, 6, .inl (upd of_ nc p1))), (r7, .inl (cI, 6, .inl (upd td nc (nI mo))))] H := hP
        have hD : va_D A [(h0, .inr (6, [.int (gv_02 (gv_okn p0 p1) (¬ nc = 6)), .int (nI mo), .ref r2, .int st, .int pe, .ref r5, .ref r6, .ref r7, .int (nI (nc + 1)), .int (nI bn), .ref r10, .ref r11, .ref r12, .ref r13, .int (nI ln), .ref r15, .ref r16, .ref r17, .ref r18, .int (nI ac)])), (r5, .inl (cI, 6, .inl (upd kd nc p0))), (r6, .inl (cI, 6, .inl (upd of_ nc p1))), (r7, .inl (cI, 6, .inl (upd td nc (nI mo))))] := hD
        refine lv_aload_n hx hb dX6_needle_104 rfl (lv_at hl 1 rfl) ?_
        refine va_get (D := D) (ci := 6) (v := .int (nI (nc + 1))) (C := RX6) (T := TX6) (N := 20) hx hb hts gv_in_X6_needle_X6 hown hK hP 0 rfl rfl 8 (by decide) (hts (.fieldLink RX6 63 "GravimereModel" "needles" "I") (by decide +kernel)) (fun _ h9 => h9) rfl dX6_needle_105 ?_
        refine lv_iconst (v := nI 1) hx hb dX6_needle_108 (by decide) ?_
        refine lv_isub hx hb dX6_needle_109 ?_
        refine gv_wi (nI_pred nc) ?_
        have hpo : match (nc + 1, upd kd nc p0, upd of_ nc p1, upd td nc (nI mo)) with | (nc9, kd9, of9, td9) => (gv_02 (gv_okn p0 p1) (¬ nc = 6) = 0 → (nI nc) = nI nc ∧ nc9 = nc + 1 ∧ kd9 = upd kd nc p0 ∧ of9 = upd of_ nc p1 ∧ td9 = upd td nc (nI mo)) ∧ (¬ gv_02 (gv_okn p0 p1) (¬ nc = 6) = 0 → nc9 = nc ∧ kd9 = kd ∧ of9 = of_ ∧ td9 = td) := by
          exact ⟨fun _ => ⟨rfl, rfl, rfl, rfl, rfl⟩, fun z => absurd (gv_if1 hrh c_56) z⟩
        have hP9 : va_P D vwCl [(h0, .inr (6, [.int (gv_02 (gv_okn p0 p1) (¬ nc = 6)), .int (nI mo), .ref r2, .int st, .int pe, .ref r5, .ref r6, .ref r7, .int (nI (nc + 1)), .int (nI bn), .ref r10, .ref r11, .ref r12, .ref r13, .int (nI ln), .ref r15, .ref r16, .ref r17, .ref r18, .int (nI ac)])), (r5, .inl (cI, 6, .inl (upd kd nc p0))), (r6, .inl (cI, 6, .inl (upd of_ nc p1))), (r7, .inl (cI, 6, .inl (upd td nc (nI mo))))] H := hP
        have hD9 : va_D A [(h0, .inr (6, [.int (gv_02 (gv_okn p0 p1) (¬ nc = 6)), .int (nI mo), .ref r2, .int st, .int pe, .ref r5, .ref r6, .ref r7, .int (nI (nc + 1)), .int (nI bn), .ref r10, .ref r11, .ref r12, .ref r13, .int (nI ln), .ref r15, .ref r16, .ref r17, .ref r18, .int (nI ac)])), (r5, .inl (cI, 6, .inl (upd kd nc p0))), (r6, .inl (cI, 6, .inl (upd of_ nc p1))), (r7, .inl (cI, 6, .inl (upd td nc (nI mo))))] := hD
        exact W.iret (v := nI nc) hx hb hr (fun t9 ht9 hW9 => ⟨⟨(nI nc), (nc + 1, upd kd nc p0, upd of_ nc p1, upd td nc (nI mo)), rfl, hpo, by rw [ht9]; exact hP9, hD9⟩, hS.F ht9⟩) hS.2.2 dX6_needle_110
      · skip
        have hno := gv_if0 hrh c_56
        refine lv_iconst (v := nI 0) hx hb dX6_needle_59 (by decide) ?_
        have hpo : match (nc, kd, of_, td) with | (nc9, kd9, of9, td9) => (gv_02 (gv_okn p0 p1) (¬ nc = 6) = 0 → (nI 0) = nI nc ∧ nc9 = nc + 1 ∧ kd9 = upd kd nc p0 ∧ of9 = upd of_ nc p1 ∧ td9 = upd td nc (nI mo)) ∧ (¬ gv_02 (gv_okn p0 p1) (¬ nc = 6) = 0 → nc9 = nc ∧ kd9 = kd ∧ of9 = of_ ∧ td9 = td) := by
          exact ⟨fun z => absurd z hno, fun _ => ⟨rfl, rfl, rfl, rfl⟩⟩
        have hP9 : va_P D vwCl [(h0, .inr (6, [.int (gv_02 (gv_okn p0 p1) (¬ nc = 6)), .int (nI mo), .ref r2, .int st, .int pe, .ref r5, .ref r6, .ref r7, .int (nI nc), .int (nI bn), .ref r10, .ref r11, .ref r12, .ref r13, .int (nI ln), .ref r15, .ref r16, .ref r17, .ref r18, .int (nI ac)])), (r5, .inl (cI, 6, .inl kd)), (r6, .inl (cI, 6, .inl of_)), (r7, .inl (cI, 6, .inl td))] H := hP
        have hD9 : va_D A [(h0, .inr (6, [.int (gv_02 (gv_okn p0 p1) (¬ nc = 6)), .int (nI mo), .ref r2, .int st, .int pe, .ref r5, .ref r6, .ref r7, .int (nI nc), .int (nI bn), .ref r10, .ref r11, .ref r12, .ref r13, .int (nI ln), .ref r15, .ref r16, .ref r17, .ref r18, .int (nI ac)])), (r5, .inl (cI, 6, .inl kd)), (r6, .inl (cI, 6, .inl of_)), (r7, .inl (cI, 6, .inl td))] := hD
        exact W.iret (v := nI 0) hx hb hr (fun t9 ht9 hW9 => ⟨⟨(nI 0), (nc, kd, of_, td), rfl, hpo, by rw [ht9]; exact hP9, hD9⟩, hS.F ht9⟩) hS.2.2 dX6_needle_60
    · skip
      refine lv_iload_n hx hb dX6_needle_31 rfl (lv_at hl 0 rfl) ?_
      refine lv_if_ne (tgt := 39) hx hb dX6_needle_32 (by decide) (fun c_32 => ?_) (fun c_32 => ?_)
      · skip
        refine lv_aload_n hx hb dX6_needle_39 rfl (lv_at hl 1 rfl) ?_
        refine va_get (D := D) (ci := 6) (v := .int (nI nc)) (C := RX6) (T := TX6) (N := 20) hx hb hts gv_in_X6_needle_X6 hown hK hP 0 rfl rfl 8 (by decide) (hts (.fieldLink RX6 63 "GravimereModel" "needles" "I") (by decide +kernel)) (fun _ h9 => h9) rfl dX6_needle_40 ?_
        refine lv_bipush (v := nI 6) hx hb dX6_needle_43 (by decide) ?_
        refine lv_icmp_ne (tgt := 52) hx hb dX6_needle_45 (by decide) (fun c_45 => ?_) (fun c_45 => ?_)
        · skip
          have c_45 := (not_congr (nI_eq (a := nc) (b := 6) (by omega) (by omega))).mp c_45
          refine lv_iconst (v := nI 0) hx hb dX6_needle_52 (by decide) ?_
          exact K_2 _ (by first | exact gv_02a (gv_if0 hv_v6 c_32) | exact gv_02b (gv_if1 hv_v6 c_32) (fun z => z c_45) | exact gv_02c (gv_if1 hv_v6 c_32) c_45)
        · skip
          have c_45 := (nI_eq (a := nc) (b := 6) (by omega) (by omega)).mp c_45
          refine lv_iconst (v := nI 2) hx hb dX6_needle_48 (by decide) ?_
          refine lv_goto (tgt := 53) hx hb dX6_needle_49 (by decide) ?_
          exact K_2 _ (by first | exact gv_02a (gv_if0 hv_v6 c_32) | exact gv_02b (gv_if1 hv_v6 c_32) (fun z => z c_45) | exact gv_02c (gv_if1 hv_v6 c_32) c_45)
      · skip
        refine lv_iconst (v := nI 1) hx hb dX6_needle_35 (by decide) ?_
        refine lv_goto (tgt := 53) hx hb dX6_needle_36 (by decide) ?_
        exact K_2 _ (by first | exact gv_02a (gv_if0 hv_v6 c_32) | exact gv_02b (gv_if1 hv_v6 c_32) (fun z => z c_45) | exact gv_02c (gv_if1 hv_v6 c_32) c_45)
  · skip
    refine lv_if_eq (tgt := 28) hx hb dX6_needle_7 (by decide) (fun c_7 => ?_) (fun c_7 => ?_)
    · skip
      refine lv_iconst (v := nI 0) hx hb dX6_needle_28 (by decide) ?_
      exact K_1 _ (by first | exact gv_10t ⟨gv_if1 h1 c_7, gv_if1 h2 c_21⟩ | exact gv_10f (fun z => gv_if0 h1 c_7 z.1) | exact gv_10f (fun z => gv_if0 h2 c_21 z.2))
    · skip
      refine lv_iload_n hx hb dX6_needle_10 rfl (lv_at hl 2 rfl) ?_
      refine lv_i2l (v := p1.toInt64) hx hb dX6_needle_11 rfl ?_
      refine lv_ldc2 hx hb hown (hts (.constantLong RX6 103 (-1000)) (by decide +kernel)) dX6_needle_12 ?_
      refine lv_ldc2 hx hb hown (hts (.constantLong RX6 105 (1000)) (by decide +kernel)) dX6_needle_15 ?_
      refine gv_pi (va_runS (As := [.long p1.toInt64, .long (-1000), .long 1000]) (rest := []) ⟨hx, hb, hml, hown, hts⟩ (ct_X6_isIn l p1.toInt64 (-1000) 1000) (va_cwS 3 hts gX6_needle_X6_isIn rfl rfl rfl (by decide +kernel) ⟨Nat.le_of_ble_eq_true rfl, Nat.le_of_ble_eq_true rfl⟩) gv_p0 rfl rfl hl.1 rfl (lv_room (Nat.le_of_ble_eq_true rfl)) dX6_needle_18 ⟨Nat.le_of_ble_eq_true rfl, Nat.le_of_ble_eq_true rfl⟩) (fun q2 h2 => ?_)
      refine lv_if_eq (tgt := 28) hx hb dX6_needle_21 (by decide) (fun c_21 => ?_) (fun c_21 => ?_)
      · skip
        refine lv_iconst (v := nI 0) hx hb dX6_needle_28 (by decide) ?_
        exact K_1 _ (by first | exact gv_10t ⟨gv_if1 h1 c_7, gv_if1 h2 c_21⟩ | exact gv_10f (fun z => gv_if0 h1 c_7 z.1) | exact gv_10f (fun z => gv_if0 h2 c_21 z.2))
      · skip
        refine lv_iconst (v := nI 1) hx hb dX6_needle_24 (by decide) ?_
        refine lv_goto (tgt := 29) hx hb dX6_needle_25 (by decide) ?_
        exact K_1 _ (by first | exact gv_10t ⟨gv_if1 h1 c_7, gv_if1 h2 c_21⟩ | exact gv_10f (fun z => gv_if0 h1 c_7 z.1) | exact gv_10f (fun z => gv_if0 h2 c_21 z.2))
set_option maxHeartbeats 4000000 in
set_option maxRecDepth 100000 in
theorem ct_X6_offNow (l : Launch) (D : va_G) (cI cJ : ClassId) (sz : Nat) (h0 r2 r5 r6 r7 r10 r11 r12 r13 r15 r16 r17 r18 : Nat) (th st pe : Int32) (mo nc bn ln ac : Nat) (kd of_ td : Nat → Int32) (i : Nat) (hi : i < 6) : Met l yX6_offNow wsX6_offNow ({ frames := 0, cells := 0, slots := 0, locals := 0 }) (va_Pc [.ref h0, .int (nI i)] (gv_B D cI cJ [(h0, .inr (6, [.int th, .int (nI mo), .ref r2, .int st, .int pe, .ref r5, .ref r6, .ref r7, .int (nI nc), .int (nI bn), .ref r10, .ref r11, .ref r12, .ref r13, .int (nI ln), .ref r15, .ref r16, .ref r17, .ref r18, .int (nI ac)])), (r5, .inl (cI, 6, .inl kd)), (r6, .inl (cI, 6, .inl of_)), (r7, .inl (cI, 6, .inl td))] sz)) (vp_Sl (fun r9 : Int64 => r9 = gv_off kd of_ td (nI mo) i)) 0 0 (fun _ => False) := by
  refine Met.ofW (cc := cX6_offNow) (maxL := 2) (ret := (some .long)) (by decide) rfl ?_
  intro p e s m args below meth c s₁ B hml hv
  obtain ⟨rfl, hsz, hP, hK, hD0, hG⟩ := hv
  have hx := B.exec
  have hb := B.bytes
  have hr := B.returns
  have hts := atoms_spec (ws := wsX6_offNow) B.pre
  have hown : s.vm.findClass RX6 = some m.cls := findClass_of_methodNamed B.named
  have hlocks := B.notSynchronized
  subst hsz
  have hD := hD0
  have hP : va_P D vwCl [(h0, .inr (6, [.int th, .int (nI mo), .ref r2, .int st, .int pe, .ref r5, .ref r6, .ref r7, .int (nI nc), .int (nI bn), .ref r10, .ref r11, .ref r12, .ref r13, .int (nI ln), .ref r15, .ref r16, .ref r17, .ref r18, .int (nI ac)])), (r5, .inl (cI, 6, .inl kd)), (r6, .inl (cI, 6, .inl of_)), (r7, .inl (cI, 6, .inl td))] s.heap := hP
  have hl := lv_entry ([.ref h0, .int (nI i)]) (n := 2) (Nat.le_of_ble_eq_true rfl)
  rw [lg_entry_eq]
  generalize (lg_sl ([.ref h0, .int (nI i)]) ++ List.replicate (2 - (lg_sl ([.ref h0, .int (nI i)])).length) Slot.unset).toArray = ls at hl ⊢
  have hl : lv_has ls 2 [(0, .ref h0), (1, .int (nI i))] := hl
  refine lv_aload_n hx hb dX6_offNow_0 rfl (lv_at hl 0 rfl) ?_
  refine va_get (D := D) (ci := 6) (v := .ref r5) (C := RX6) (T := TX6) (N := 20) hx hb hts gv_in_X6_offNow_X6 hown hK hP 0 rfl rfl 5 (by decide) (hts (.fieldLink RX6 17 "GravimereModel" "kind" "[I") (by decide +kernel)) (fun _ h9 => h9) rfl dX6_offNow_1 ?_
  refine lv_iload_n hx hb dX6_offNow_4 rfl (lv_at hl 1 rfl) ?_
  refine gv_il hx hb hK hP 1 (k := i) rfl (by omega) (by decide) dX6_offNow_5 ?_
  refine lv_if_ne (tgt := 19) hx hb dX6_offNow_6 (by decide) (fun c_6 => ?_) (fun c_6 => ?_)
  · skip
    refine lv_aload_n hx hb dX6_offNow_19 rfl (lv_at hl 0 rfl) ?_
    refine va_get (D := D) (ci := 6) (v := .ref r6) (C := RX6) (T := TX6) (N := 20) hx hb hts gv_in_X6_offNow_X6 hown hK hP 0 rfl rfl 6 (by decide) (hts (.fieldLink RX6 21 "GravimereModel" "off" "[I") (by decide +kernel)) (fun _ h9 => h9) rfl dX6_offNow_20 ?_
    refine lv_iload_n hx hb dX6_offNow_23 rfl (lv_at hl 1 rfl) ?_
    refine gv_il hx hb hK hP 2 (k := i) rfl (by omega) (by decide) dX6_offNow_24 ?_
    refine lv_i2l (v := (of_ i).toInt64) hx hb dX6_offNow_25 rfl ?_
    refine lv_aload_n hx hb dX6_offNow_26 rfl (lv_at hl 0 rfl) ?_
    refine va_get (D := D) (ci := 6) (v := .int (nI mo)) (C := RX6) (T := TX6) (N := 20) hx hb hts gv_in_X6_offNow_X6 hown hK hP 0 rfl rfl 1 (by decide) (hts (.fieldLink RX6 51 "GravimereModel" "month" "I") (by decide +kernel)) (fun _ h9 => h9) rfl dX6_offNow_27 ?_
    refine lv_aload_n hx hb dX6_offNow_30 rfl (lv_at hl 0 rfl) ?_
    refine va_get (D := D) (ci := 6) (v := .ref r7) (C := RX6) (T := TX6) (N := 20) hx hb hts gv_in_X6_offNow_X6 hown hK hP 0 rfl rfl 7 (by decide) (hts (.fieldLink RX6 24 "GravimereModel" "tied" "[I") (by decide +kernel)) (fun _ h9 => h9) rfl dX6_offNow_31 ?_
    refine lv_iload_n hx hb dX6_offNow_34 rfl (lv_at hl 1 rfl) ?_
    refine gv_il hx hb hK hP 3 (k := i) rfl (by omega) (by decide) dX6_offNow_35 ?_
    refine lv_isub hx hb dX6_offNow_36 ?_
    refine lv_i2l (v := ((nI mo) - (td i)).toInt64) hx hb dX6_offNow_37 rfl ?_
    refine lv_lmul hx hb dX6_offNow_38 ?_
    have hpo : (((of_ i).toInt64) * (((nI mo) - (td i)).toInt64)) = gv_off kd of_ td (nI mo) i := by
      exact (if_neg c_6).symm
    exact W.lret (v := ((of_ i).toInt64) * (((nI mo) - (td i)).toInt64)) hx hb hr (fun t9 ht9 hW9 => ⟨(((of_ i).toInt64) * (((nI mo) - (td i)).toInt64)), rfl, hpo, ht9⟩) t_nil dX6_offNow_39
  · skip
    refine lv_aload_n hx hb dX6_offNow_9 rfl (lv_at hl 0 rfl) ?_
    refine va_get (D := D) (ci := 6) (v := .ref r6) (C := RX6) (T := TX6) (N := 20) hx hb hts gv_in_X6_offNow_X6 hown hK hP 0 rfl rfl 6 (by decide) (hts (.fieldLink RX6 21 "GravimereModel" "off" "[I") (by decide +kernel)) (fun _ h9 => h9) rfl dX6_offNow_10 ?_
    refine lv_iload_n hx hb dX6_offNow_13 rfl (lv_at hl 1 rfl) ?_
    refine gv_il hx hb hK hP 2 (k := i) rfl (by omega) (by decide) dX6_offNow_14 ?_
    refine lv_i2l (v := (of_ i).toInt64) hx hb dX6_offNow_15 rfl ?_
    refine lv_goto (tgt := 39) hx hb dX6_offNow_16 (by decide) ?_
    have hpo : ((of_ i).toInt64) = gv_off kd of_ td (nI mo) i := by
      exact (if_pos c_6).symm
    exact W.lret (v := (of_ i).toInt64) hx hb hr (fun t9 ht9 hW9 => ⟨((of_ i).toInt64), rfl, hpo, ht9⟩) t_nil dX6_offNow_39
set_option maxHeartbeats 4000000 in
set_option maxRecDepth 100000 in
theorem ct_X6_tie (l : Launch) (D : va_G) (cI cJ : ClassId) (sz : Nat) (h0 r2 r5 r6 r7 r10 r11 r12 r13 r15 r16 r17 r18 : Nat) (th st pe : Int32) (mo nc bn ln ac : Nat) (kd of_ td : Nat → Int32) (p0 : Int32) (hnc : nc ≤ 6) : Met l yX6_tie wsX6_tie ({ frames := 2, cells := 0, slots := 0, locals := 46 }) (va_Pc [.ref h0, .int p0] (gv_B D cI cJ [(h0, .inr (6, [.int th, .int (nI mo), .ref r2, .int st, .int pe, .ref r5, .ref r6, .ref r7, .int (nI nc), .int (nI bn), .ref r10, .ref r11, .ref r12, .ref r13, .int (nI ln), .ref r15, .ref r16, .ref r17, .ref r18, .int (nI ac)])), (r5, .inl (cI, 6, .inl kd)), (r6, .inl (cI, 6, .inl of_)), (r7, .inl (cI, 6, .inl td))] sz)) (va_Ql (fun (r9 : Int64) (u9 : Nat → Int32) => let td9 := u9; (∀ i, i < nc → p0 = nI i → ¬ kd i = 0 → r9 = gv_off kd of_ td (nI mo) i ∧ td9 = upd td i (nI mo)) ∧ (¬ gv_02 (vp_in p0 nc) (¬ kd p0.toNatClampNeg = 0) = 0 → td9 = td)) (fun (u9 : Nat → Int32) t9 => gv_W D (va_A [(h0, .inr (6, [.int th, .int (nI mo), .ref r2, .int st, .int pe, .ref r5, .ref r6, .ref r7, .int (nI nc), .int (nI bn), .ref r10, .ref r11, .ref r12, .ref r13, .int (nI ln), .ref r15, .ref r16, .ref r17, .ref r18, .int (nI ac)])), (r5, .inl (cI, 6, .inl kd)), (r6, .inl (cI, 6, .inl of_)), (r7, .inl (cI, 6, .inl td))] sz) (let td9 := u9; [(h0, .inr (6, [.int (gv_02 (vp_in p0 nc) (¬ kd p0.toNatClampNeg = 0)), .int (nI mo), .ref r2, .int st, .int pe, .ref r5, .ref r6, .ref r7, .int (nI nc), .int (nI bn), .ref r10, .ref r11, .ref r12, .ref r13, .int (nI ln), .ref r15, .ref r16, .ref r17, .ref r18, .int (nI ac)])), (r5, .inl (cI, 6, .inl kd)), (r6, .inl (cI, 6, .inl of_)), (r7, .inl (cI, 6, .inl td9))]) t9) (va_A [(h0, .inr (6, [.int th, .int (nI mo), .ref r2, .int st, .int pe, .ref r5, .ref r6, .ref r7, .int (nI nc), .int (nI bn), .ref r10, .ref r11, .ref r12, .ref r13, .int (nI ln), .ref r15, .ref r16, .ref r17, .ref r18, .int (nI ac)])), (r5, .inl (cI, 6, .inl kd)), (r6, .inl (cI, 6, .inl of_)), (r7, .inl (cI, 6, .inl td))] sz)) 0 0 (va_A [(h0, .inr (6, [.int th, .int (nI mo), .ref r2, .int st, .int pe, .ref r5, .ref r6, .ref r7, .int (nI nc), .int (nI bn), .ref r10, .ref r11, .ref r12, .ref r13, .int (nI ln), .ref r15, .ref r16, .ref r17, .ref r18, .int (nI ac)])), (r5, .inl (cI, 6, .inl kd)), (r6, .inl (cI, 6, .inl of_)), (r7, .inl (cI, 6, .inl td))] sz) := by
  refine Met.ofW (cc := cX6_tie) (maxL := 5) (ret := (some .long)) (by decide) rfl ?_
  intro p e s m args below meth c s₁ B hml hv
  obtain ⟨rfl, hsz, hP, hK, hD0, hG⟩ := hv
  have hx := B.exec
  have hb := B.bytes
  have hr := B.returns
  have hts := atoms_spec (ws := wsX6_tie) B.pre
  have hown : s.vm.findClass RX6 = some m.cls := findClass_of_methodNamed B.named
  have hlocks := B.notSynchronized
  subst hsz
  have hD := hD0.self (sz := s.heap.size)
  generalize hAe : va_A [(h0, .inr (6, [.int th, .int (nI mo), .ref r2, .int st, .int pe, .ref r5, .ref r6, .ref r7, .int (nI nc), .int (nI bn), .ref r10, .ref r11, .ref r12, .ref r13, .int (nI ln), .ref r15, .ref r16, .ref r17, .ref r18, .int (nI ac)])), (r5, .inl (cI, 6, .inl kd)), (r6, .inl (cI, 6, .inl of_)), (r7, .inl (cI, 6, .inl td))] s.heap.size = A at hD ⊢
  have hA : ∀ q : Nat, s.heap.size ≤ q → A q := fun q h => by rw [← hAe]; exact Or.inr h
  have hS : va_S A s.heap s.heap [] := va_S.rf
  have hP : va_P D vwCl [(h0, .inr (6, [.int th, .int (nI mo), .ref r2, .int st, .int pe, .ref r5, .ref r6, .ref r7, .int (nI nc), .int (nI bn), .ref r10, .ref r11, .ref r12, .ref r13, .int (nI ln), .ref r15, .ref r16, .ref r17, .ref r18, .int (nI ac)])), (r5, .inl (cI, 6, .inl kd)), (r6, .inl (cI, 6, .inl of_)), (r7, .inl (cI, 6, .inl td))] s.heap := hP
  have hl := lv_entry ([.ref h0, .int p0]) (n := 5) (Nat.le_of_ble_eq_true rfl)
  rw [lg_entry_eq]
  generalize (lg_sl ([.ref h0, .int p0]) ++ List.replicate (5 - (lg_sl ([.ref h0, .int p0])).length) Slot.unset).toArray = ls at hl ⊢
  have hl : lv_has ls 5 [(0, .ref h0), (1, .int p0)] := hl
  refine lv_aload_n hx hb dX6_tie_0 rfl (lv_at hl 0 rfl) ?_
  refine lv_iload_n hx hb dX6_tie_1 rfl (lv_at hl 1 rfl) ?_
  refine gv_pi (va_runV (As := [.int p0]) (rest := []) ⟨hx, hb, hml, hown, hts⟩ (ct_X6_isNeedle l D cI cJ s.heap.size h0 r2 r5 r6 r7 r10 r11 r12 r13 r15 r16 r17 r18 th st pe mo nc bn ln ac p0 (by omega)) (cwV 1 hts gX6_tie_X6_isNeedle rfl rfl rfl (by decide +kernel) ⟨Nat.le_of_ble_eq_true rfl, Nat.le_of_ble_eq_true rfl⟩) (gv_pV (wc := [(h0, .inr (6, [.int th, .int (nI mo), .ref r2, .int st, .int pe, .ref r5, .ref r6, .ref r7, .int (nI nc), .int (nI bn), .ref r10, .ref r11, .ref r12, .ref r13, .int (nI ln), .ref r15, .ref r16, .ref r17, .ref r18, .int (nI ac)]))]) hP hK hD hG [0] rfl (by decide) 0 rfl rfl rfl) rfl rfl hl.1 rfl (lv_room (Nat.le_of_ble_eq_true rfl)) dX6_tie_2 ⟨Nat.le_of_ble_eq_true rfl, Nat.le_of_ble_eq_true rfl⟩) (fun q1 h1 => ?_)
  refine lv_istore_n (lv' := [(2, .int q1), (0, .ref h0), (1, .int p0)]) hx hb dX6_tie_5 rfl hl (by decide) rfl (fun ls hl => ?_)
  refine lv_aload_n hx hb dX6_tie_6 rfl (lv_at hl 1 rfl) ?_
  refine gv_mg (fun v : Int32 => v = gv_02 (vp_in p0 nc) (¬ kd p0.toNatClampNeg = 0)) 29 [.ref h0] (fun tv hv_tv => ?_) (fun K_1 => ?_)
  · skip
    subst hv_tv
    refine gv_mi (wc := [(h0, .inr (6, [.int th, .int (nI mo), .ref r2, .int st, .int pe, .ref r5, .ref r6, .ref r7, .int (nI nc), .int (nI bn), .ref r10, .ref r11, .ref r12, .ref r13, .int (nI ln), .ref r15, .ref r16, .ref r17, .ref r18, .int (nI ac)]))]) (wr := [(r5, .inl (cI, 6, .inl kd)), (r6, .inl (cI, 6, .inl of_)), (r7, .inl (cI, 6, .inl td))]) (w2 := (fun u => [(h0, .inr (6, [.int (gv_02 (vp_in p0 nc) (¬ kd p0.toNatClampNeg = 0)), .int (nI mo), .ref r2, .int st, .int pe, .ref r5, .ref r6, .ref r7, .int (nI nc), .int (nI bn), .ref r10, .ref r11, .ref r12, .ref r13, .int (nI ln), .ref r15, .ref r16, .ref r17, .ref r18, .int (nI ac)])), (r5, .inl (cI, 6, .inl kd)), (r6, .inl (cI, 6, .inl of_)), (r7, .inl (cI, 6, .inl td))])) (va_runV (As := [.int (gv_02 (vp_in p0 nc) (¬ kd p0.toNatClampNeg = 0))]) (rest := []) ⟨hx, hb, hml, hown, hts⟩ (ct_X6_holds l D cI cJ s.heap.size h0 r2 r5 r6 r7 r10 r11 r12 r13 r15 r16 r17 r18 th st pe mo nc bn ln ac (gv_02 (vp_in p0 nc) (¬ kd p0.toNatClampNeg = 0))) (cwV 1 hts gX6_tie_X6_holds rfl rfl rfl (by decide +kernel) ⟨Nat.le_of_ble_eq_true rfl, Nat.le_of_ble_eq_true rfl⟩) (gv_pV (wc := [(h0, .inr (6, [.int th, .int (nI mo), .ref r2, .int st, .int pe, .ref r5, .ref r6, .ref r7, .int (nI nc), .int (nI bn), .ref r10, .ref r11, .ref r12, .ref r13, .int (nI ln), .ref r15, .ref r16, .ref r17, .ref r18, .int (nI ac)]))]) hP hK hD hG [0] rfl (by decide) 0 rfl rfl rfl) rfl rfl hl.1 rfl (lv_room (Nat.le_of_ble_eq_true rfl)) dX6_tie_29 ⟨Nat.le_of_ble_eq_true rfl, Nat.le_of_ble_eq_true rfl⟩) hP hD hS hA [0] [1, 2, 3] [3, 0, 1, 2] rfl rfl (by decide) (by decide) (fun u => rfl) (by decide) (fun rh u H locs hrh hP hD hS => ?_)
    have hP : va_P D vwCl [(h0, .inr (6, [.int (gv_02 (vp_in p0 nc) (¬ kd p0.toNatClampNeg = 0)), .int (nI mo), .ref r2, .int st, .int pe, .ref r5, .ref r6, .ref r7, .int (nI nc), .int (nI bn), .ref r10, .ref r11, .ref r12, .ref r13, .int (nI ln), .ref r15, .ref r16, .ref r17, .ref r18, .int (nI ac)])), (r5, .inl (cI, 6, .inl kd)), (r6, .inl (cI, 6, .inl of_)), (r7, .inl (cI, 6, .inl td))] H := hP
    have hD : va_D A [(h0, .inr (6, [.int (gv_02 (vp_in p0 nc) (¬ kd p0.toNatClampNeg = 0)), .int (nI mo), .ref r2, .int st, .int pe, .ref r5, .ref r6, .ref r7, .int (nI nc), .int (nI bn), .ref r10, .ref r11, .ref r12, .ref r13, .int (nI ln), .ref r15, .ref r16, .ref r17, .ref r18, .int (nI ac)])), (r5, .inl (cI, 6, .inl kd)), (r6, .inl (cI, 6, .inl of_)), (r7, .inl (cI, 6, .inl td))] := hD
    refine lv_if_ne (tgt := 37) hx hb dX6_tie_32 (by decide) (fun c_32 => ?_) (fun c_32 => ?_)
    · skip
      have hok := gv_02z (gv_if1 hrh c_32)
      obtain ⟨i, hi, ei⟩ := vp_in_of hok.1 (by omega)
      rw [ei] at hl
      have hl : lv_has ls 5 [(2, .int q1), (0, .ref h0), (1, .int (nI i))] := hl
      have hki := hok.2
      rw [ei, nI_clamp (by omega)] at hki
      refine lv_aload_n hx hb dX6_tie_37 rfl (lv_at hl 1 rfl) ?_
      refine lv_iload_n hx hb dX6_tie_38 rfl (lv_at hl 2 rfl) ?_
      refine gv_pl (va_runV (As := [.int (nI i)]) (rest := []) ⟨hx, hb, hml, hown, hts⟩ (ct_X6_offNow l D cI cJ H.size h0 r2 r5 r6 r7 r10 r11 r12 r13 r15 r16 r17 r18 (gv_02 (vp_in p0 nc) (¬ kd p0.toNatClampNeg = 0)) st pe mo nc bn ln ac kd of_ td i (by omega)) (cwV 1 hts gX6_tie_X6_offNow rfl rfl rfl (by decide +kernel) ⟨Nat.le_of_ble_eq_true rfl, Nat.le_of_ble_eq_true rfl⟩) (gv_pV (wc := [(h0, .inr (6, [.int (gv_02 (vp_in p0 nc) (¬ kd p0.toNatClampNeg = 0)), .int (nI mo), .ref r2, .int st, .int pe, .ref r5, .ref r6, .ref r7, .int (nI nc), .int (nI bn), .ref r10, .ref r11, .ref r12, .ref r13, .int (nI ln), .ref r15, .ref r16, .ref r17, .ref r18, .int (nI ac)])), (r5, .inl (cI, 6, .inl kd)), (r6, .inl (cI, 6, .inl of_)), (r7, .inl (cI, 6, .inl td))]) hP hK hD hG [0, 1, 2, 3] rfl (by decide) 0 rfl rfl rfl) rfl rfl hl.1 rfl (lv_room (Nat.le_of_ble_eq_true rfl)) dX6_tie_39 ⟨Nat.le_of_ble_eq_true rfl, Nat.le_of_ble_eq_true rfl⟩) (fun rc hrc => ?_)
      refine lv_lstore_n (lv' := [(3, .long rc), (2, .int q1), (0, .ref h0), (1, .int (nI i))]) hx hb dX6_tie_42 rfl hl (by decide) rfl (fun ls hl => ?_)
      refine lv_aload_n hx hb dX6_tie_43 rfl (lv_at hl 2 rfl) ?_
      refine va_get (D := D) (ci := 6) (v := .ref r7) (C := RX6) (T := TX6) (N := 20) hx hb hts gv_in_X6_tie_X6 hown hK hP 0 rfl rfl 7 (by decide) (hts (.fieldLink RX6 24 "GravimereModel" "tied" "[I") (by decide +kernel)) (fun _ h9 => h9) rfl dX6_tie_44 ?_
      refine lv_iload_n hx hb dX6_tie_47 rfl (lv_at hl 3 rfl) ?_
      refine lv_aload_n hx hb dX6_tie_48 rfl (lv_at hl 2 rfl) ?_
      refine va_get (D := D) (ci := 6) (v := .int (nI mo)) (C := RX6) (T := TX6) (N := 20) hx hb hts gv_in_X6_tie_X6 hown hK hP 0 rfl rfl 1 (by decide) (hts (.fieldLink RX6 51 "GravimereModel" "month" "I") (by decide +kernel)) (fun _ h9 => h9) rfl dX6_tie_49 ?_
      refine gv_is hx hb hK hP hD hS 3 (k := i) rfl (by omega) (by decide) dX6_tie_52 (fun H locs hP hD hS => ?_)
      have hP : va_P D vwCl [(h0, .inr (6, [.int (gv_02 (vp_in p0 nc) (¬ kd p0.toNatClampNeg = 0)), .int (nI mo), .ref r2, .int st, .int pe, .ref r5, .ref r6, .ref r7, .int (nI nc), .int (nI bn), .ref r10, .ref r11, .ref r12, .ref r13, .int (nI ln), .ref r15, .ref r16, .ref r17, .ref r18, .int (nI ac)])), (r5, .inl (cI, 6, .inl kd)), (r6, .inl (cI, 6, .inl of_)), (r7, .inl (cI, 6, .inl (upd td i (nI mo))))] H := hP
      have hD : va_D A [(h0, .inr (6, [.int (gv_02 (vp_in p0 nc) (¬ kd p0.toNatClampNeg = 0)), .int (nI mo), .ref r2, .int st, .int pe, .ref r5, .ref r6, .ref r7, .int (nI nc), .int (nI bn), .ref r10, .ref r11, .ref r12, .ref r13, .int (nI ln), .ref r15, .ref r16, .ref r17, .ref r18, .int (nI ac)])), (r5, .inl (cI, 6, .inl kd)), (r6, .inl (cI, 6, .inl of_)), (r7, .inl (cI, 6, .inl (upd td i (nI mo))))] := hD
      refine lv_lload_n hx hb dX6_tie_53 rfl (lv_at hl 0 rfl) ?_
      have hpo : let td9 := (upd td i (nI mo)); (∀ i, i < nc → p0 = nI i → ¬ kd i = 0 → rc = gv_off kd of_ td (nI mo) i ∧ td9 = upd td i (nI mo)) ∧ (¬ gv_02 (vp_in p0 nc) (¬ kd p0.toNatClampNeg = 0) = 0 → td9 = td) := by
        refine ⟨fun i2 hi2 ei2 _ => ?_, fun z => absurd (gv_if1 hrh c_32) z⟩
        cases gv_inj (ei2.symm.trans ei) (by omega) (by omega)
        exact ⟨hrc, rfl⟩
      have hP9 : va_P D vwCl [(h0, .inr (6, [.int (gv_02 (vp_in p0 nc) (¬ kd p0.toNatClampNeg = 0)), .int (nI mo), .ref r2, .int st, .int pe, .ref r5, .ref r6, .ref r7, .int (nI nc), .int (nI bn), .ref r10, .ref r11, .ref r12, .ref r13, .int (nI ln), .ref r15, .ref r16, .ref r17, .ref r18, .int (nI ac)])), (r5, .inl (cI, 6, .inl kd)), (r6, .inl (cI, 6, .inl of_)), (r7, .inl (cI, 6, .inl (upd td i (nI mo))))] H := hP
      have hD9 : va_D A [(h0, .inr (6, [.int (gv_02 (vp_in p0 nc) (¬ kd p0.toNatClampNeg = 0)), .int (nI mo), .ref r2, .int st, .int pe, .ref r5, .ref r6, .ref r7, .int (nI nc), .int (nI bn), .ref r10, .ref r11, .ref r12, .ref r13, .int (nI ln), .ref r15, .ref r16, .ref r17, .ref r18, .int (nI ac)])), (r5, .inl (cI, 6, .inl kd)), (r6, .inl (cI, 6, .inl of_)), (r7, .inl (cI, 6, .inl (upd td i (nI mo))))] := hD
      exact W.lret (v := rc) hx hb hr (fun t9 ht9 hW9 => ⟨⟨rc, (upd td i (nI mo)), rfl, hpo, by rw [ht9]; exact hP9, hD9⟩, hS.F ht9⟩) hS.2.2 dX6_tie_54
    · skip
      have hno := gv_if0 hrh c_32
      refine lv_lconst (v := 0) hx hb dX6_tie_35 (by decide) ?_
      have hpo : let td9 := td; (∀ i, i < nc → p0 = nI i → ¬ kd i = 0 → 0 = gv_off kd of_ td (nI mo) i ∧ td9 = upd td i (nI mo)) ∧ (¬ gv_02 (vp_in p0 nc) (¬ kd p0.toNatClampNeg = 0) = 0 → td9 = td) := by
        exact ⟨fun i hi ei hk => absurd (gv_02c (by rw [ei]; exact vp_in_nI hi (by omega)) (by rw [ei, nI_clamp (by omega)]; exact hk)).symm hno, fun _ => rfl⟩
      have hP9 : va_P D vwCl [(h0, .inr (6, [.int (gv_02 (vp_in p0 nc) (¬ kd p0.toNatClampNeg = 0)), .int (nI mo), .ref r2, .int st, .int pe, .ref r5, .ref r6, .ref r7, .int (nI nc), .int (nI bn), .ref r10, .ref r11, .ref r12, .ref r13, .int (nI ln), .ref r15, .ref r16, .ref r17, .ref r18, .int (nI ac)])), (r5, .inl (cI, 6, .inl kd)), (r6, .inl (cI, 6, .inl of_)), (r7, .inl (cI, 6, .inl td))] H := hP
      have hD9 : va_D A [(h0, .inr (6, [.int (gv_02 (vp_in p0 nc) (¬ kd p0.toNatClampNeg = 0)), .int (nI mo), .ref r2, .int st, .int pe, .ref r5, .ref r6, .ref r7, .int (nI nc), .int (nI bn), .ref r10, .ref r11, .ref r12, .ref r13, .int (nI ln), .ref r15, .ref r16, .ref r17, .ref r18, .int (nI ac)])), (r5, .inl (cI, 6, .inl kd)), (r6, .inl (cI, 6, .inl of_)), (r7, .inl (cI, 6, .inl td))] := hD
      exact W.lret (v := 0) hx hb hr (fun t9 ht9 hW9 => ⟨⟨0, td, rfl, hpo, by rw [ht9]; exact hP9, hD9⟩, hS.F ht9⟩) hS.2.2 dX6_tie_36
  · skip
    refine lv_iload_n hx hb dX6_tie_7 rfl (lv_at hl 0 rfl) ?_
    refine lv_if_ne (tgt := 15) hx hb dX6_tie_8 (by decide) (fun c_8 => ?_) (fun c_8 => ?_)
    · skip
      obtain ⟨i, hi, ei⟩ := vp_in_of (gv_if1 h1 c_8) (by omega)
      rw [ei] at hl
      have hl : lv_has ls 5 [(2, .int q1), (0, .ref h0), (1, .int (nI i))] := hl
      refine lv_aload_n hx hb dX6_tie_15 rfl (lv_at hl 1 rfl) ?_
      refine va_get (D := D) (ci := 6) (v := .ref r5) (C := RX6) (T := TX6) (N := 20) hx hb hts gv_in_X6_tie_X6 hown hK hP 0 rfl rfl 5 (by decide) (hts (.fieldLink RX6 17 "GravimereModel" "kind" "[I") (by decide +kernel)) (fun _ h9 => h9) rfl dX6_tie_16 ?_
      refine lv_iload_n hx hb dX6_tie_19 rfl (lv_at hl 2 rfl) ?_
      refine gv_il hx hb hK hP 1 (k := i) rfl (by omega) (by decide) dX6_tie_20 ?_
      refine lv_if_ne (tgt := 28) hx hb dX6_tie_21 (by decide) (fun c_21 => ?_) (fun c_21 => ?_)
      · skip
        refine lv_iconst (v := nI 0) hx hb dX6_tie_28 (by decide) ?_
        exact K_1 _ (by first | exact gv_02a (gv_if0 h1 c_8) | exact gv_02b (gv_if1 h1 c_8) (by rw [ei, nI_clamp (by omega)]; exact fun z => z c_21) | exact gv_02c (gv_if1 h1 c_8) (by rw [ei, nI_clamp (by omega)]; exact c_21))
      · skip
        refine lv_iconst (v := nI 2) hx hb dX6_tie_24 (by decide) ?_
        refine lv_goto (tgt := 29) hx hb dX6_tie_25 (by decide) ?_
        exact K_1 _ (by first | exact gv_02a (gv_if0 h1 c_8) | exact gv_02b (gv_if1 h1 c_8) (by rw [ei, nI_clamp (by omega)]; exact fun z => z c_21) | exact gv_02c (gv_if1 h1 c_8) (by rw [ei, nI_clamp (by omega)]; exact c_21))
    · skip
      refine lv_iconst (v := nI 1) hx hb dX6_tie_11 (by decide) ?_
      refine lv_goto (tgt := 29) hx hb dX6_tie_12 (by decide) ?_
      exact K_1 _ (by first | exact gv_02a (gv_if0 h1 c_8) | exact gv_02b (gv_if1 h1 c_8) (by rw [ei, nI_clamp (by omega)]; exact fun z => z c_21) | exact gv_02c (gv_if1 h1 c_8) (by rw [ei, nI_clamp (by omega)]; exact c_21))
set_option maxHeartbeats 4000000 in
set_option maxRecDepth 100000 in
theorem ct_X6_readAt (l : Launch) (D : va_G) (cI cJ : ClassId) (sz : Nat) (h0 r2 r5 r6 r7 r10 r11 r12 r13 r15 r16 r17 r18 : Nat) (th st : Int32) (pe : Nat) (mo nc bn ln ac : Nat) (mm : Nat → Int64) (kd of_ td : Nat → Int32) (i x y : Nat) (h1p : 1 ≤ pe) (h60 : pe ≤ 60) (hmo : mo ≤ 3000) (hi : i < 6) (hx8 : x < 8) (hy8 : y < 8) : Met l yX6_readAt wsX6_readAt ({ frames := 1, cells := 0, slots := 0, locals := 29 }) (va_Pc [.ref h0, .int (nI i), .int (nI x), .int (nI y)] (gv_B D cI cJ [(h0, .inr (6, [.int th, .int (nI mo), .ref r2, .int st, .int (nI pe), .ref r5, .ref r6, .ref r7, .int (nI nc), .int (nI bn), .ref r10, .ref r11, .ref r12, .ref r13, .int (nI ln), .ref r15, .ref r16, .ref r17, .ref r18, .int (nI ac)])), (r2, .inl (cJ, 256, .inr (.inl mm))), (r5, .inl (cI, 6, .inl kd)), (r6, .inl (cI, 6, .inl of_)), (r7, .inl (cI, 6, .inl td))] sz)) (vp_Sl (fun r9 : Int64 => r9 = gv_PA mm x y + (if mo % pe < pe / 2 then st else -st).toInt64 + gv_off kd of_ td (nI mo) i)) 0 0 (fun _ => False) := by
  refine Met.ofW (cc := cX6_readAt) (maxL := 5) (ret := (some .long)) (by decide) rfl ?_
  intro p e s m args below meth c s₁ B hml hv
  obtain ⟨rfl, hsz, hP, hK, hD0, hG⟩ := hv
  have hx := B.exec
  have hb := B.bytes
  have hr := B.returns
  have hts := atoms_spec (ws := wsX6_readAt) B.pre
  have hown : s.vm.findClass RX6 = some m.cls := findClass_of_methodNamed B.named
  have hlocks := B.notSynchronized
  subst hsz
  have hD := hD0
  have hP : va_P D vwCl [(h0, .inr (6, [.int th, .int (nI mo), .ref r2, .int st, .int (nI pe), .ref r5, .ref r6, .ref r7, .int (nI nc), .int (nI bn), .ref r10, .ref r11, .ref r12, .ref r13, .int (nI ln), .ref r15, .ref r16, .ref r17, .ref r18, .int (nI ac)])), (r2, .inl (cJ, 256, .inr (.inl mm))), (r5, .inl (cI, 6, .inl kd)), (r6, .inl (cI, 6, .inl of_)), (r7, .inl (cI, 6, .inl td))] s.heap := hP
  have hmm : mo % pe ≤ mo := Nat.mod_le mo pe
  have hl := lv_entry ([.ref h0, .int (nI i), .int (nI x), .int (nI y)]) (n := 5) (Nat.le_of_ble_eq_true rfl)
  rw [lg_entry_eq]
  generalize (lg_sl ([.ref h0, .int (nI i), .int (nI x), .int (nI y)]) ++ List.replicate (5 - (lg_sl ([.ref h0, .int (nI i), .int (nI x), .int (nI y)])).length) Slot.unset).toArray = ls at hl ⊢
  have hl : lv_has ls 5 [(0, .ref h0), (1, .int (nI i)), (2, .int (nI x)), (3, .int (nI y))] := hl
  refine lv_aload_n hx hb dX6_readAt_0 rfl (lv_at hl 0 rfl) ?_
  refine va_get (D := D) (ci := 6) (v := .int (nI mo)) (C := RX6) (T := TX6) (N := 20) hx hb hts gv_in_X6_readAt_X6 hown hK hP 0 rfl rfl 1 (by decide) (hts (.fieldLink RX6 51 "GravimereModel" "month" "I") (by decide +kernel)) (fun _ h9 => h9) rfl dX6_readAt_1 ?_
  refine lv_aload_n hx hb dX6_readAt_4 rfl (lv_at hl 0 rfl) ?_
  refine va_get (D := D) (ci := 6) (v := .int (nI pe)) (C := RX6) (T := TX6) (N := 20) hx hb hts gv_in_X6_readAt_X6 hown hK hP 0 rfl rfl 4 (by decide) (hts (.fieldLink RX6 13 "GravimereModel" "period" "I") (by decide +kernel)) (fun _ h9 => h9) rfl dX6_readAt_5 ?_
  refine lv_irem hx hb dX6_readAt_8 (nI_ne0 (by omega) (by omega)) ?_
  refine gv_wi (pk_rem (a := mo) (d := pe) (by omega) (by omega) (by omega)) ?_
  refine lv_aload_n hx hb dX6_readAt_9 rfl (lv_at hl 0 rfl) ?_
  refine va_get (D := D) (ci := 6) (v := .int (nI pe)) (C := RX6) (T := TX6) (N := 20) hx hb hts gv_in_X6_readAt_X6 hown hK hP 0 rfl rfl 4 (by decide) (hts (.fieldLink RX6 13 "GravimereModel" "period" "I") (by decide +kernel)) (fun _ h9 => h9) rfl dX6_readAt_10 ?_
  refine lv_iconst (v := nI 2) hx hb dX6_readAt_13 (by decide) ?_
  refine lv_idiv hx hb dX6_readAt_14 (by decide) ?_
  refine gv_wi (pk_div (a := pe) (d := 2) (by omega) (by omega) (by omega)) ?_
  refine gv_mg (fun v : Int32 => v = (if mo % pe < pe / 2 then st else -st)) 30 [] (fun tv hv_tv => ?_) (fun K_1 => ?_)
  · skip
    refine lv_istore (lv' := [(4, .int tv), (0, .ref h0), (1, .int (nI i)), (2, .int (nI x)), (3, .int (nI y))]) hx hb dX6_readAt_30 hl (by decide) rfl (fun ls hl => ?_)
    refine lv_aload_n hx hb dX6_readAt_32 rfl (lv_at hl 1 rfl) ?_
    refine lv_iload_n hx hb dX6_readAt_33 rfl (lv_at hl 3 rfl) ?_
    refine lv_iload_n hx hb dX6_readAt_34 rfl (lv_at hl 4 rfl) ?_
    refine gv_pl (va_runV (As := [.int (nI x), .int (nI y)]) (rest := []) ⟨hx, hb, hml, hown, hts⟩ (ct_X6_pullAt l D cI cJ s.heap.size h0 r2 r5 r6 r7 r10 r11 r12 r13 r15 r16 r17 r18 th st (nI pe) mo nc bn ln ac mm x y hx8 hy8) (cwV 2 hts gX6_readAt_X6_pullAt rfl rfl rfl (by decide +kernel) ⟨Nat.le_of_ble_eq_true rfl, Nat.le_of_ble_eq_true rfl⟩) (gv_pV (wc := [(h0, .inr (6, [.int th, .int (nI mo), .ref r2, .int st, .int (nI pe), .ref r5, .ref r6, .ref r7, .int (nI nc), .int (nI bn), .ref r10, .ref r11, .ref r12, .ref r13, .int (nI ln), .ref r15, .ref r16, .ref r17, .ref r18, .int (nI ac)])), (r2, .inl (cJ, 256, .inr (.inl mm)))]) hP hK hD hG [0, 1] rfl (by decide) 0 rfl rfl rfl) rfl rfl hl.1 rfl (lv_room (Nat.le_of_ble_eq_true rfl)) dX6_readAt_35 ⟨Nat.le_of_ble_eq_true rfl, Nat.le_of_ble_eq_true rfl⟩) (fun rc hrc => ?_)
    refine lv_iload hx hb dX6_readAt_38 (lv_at hl 0 rfl) ?_
    refine lv_i2l (v := tv.toInt64) hx hb dX6_readAt_40 rfl ?_
    refine lv_ladd hx hb dX6_readAt_41 ?_
    refine lv_aload_n hx hb dX6_readAt_42 rfl (lv_at hl 1 rfl) ?_
    refine lv_iload_n hx hb dX6_readAt_43 rfl (lv_at hl 2 rfl) ?_
    refine gv_pl (va_runV (As := [.int (nI i)]) (rest := [.long (rc + tv.toInt64)]) ⟨hx, hb, hml, hown, hts⟩ (ct_X6_offNow l D cI cJ s.heap.size h0 r2 r5 r6 r7 r10 r11 r12 r13 r15 r16 r17 r18 th st (nI pe) mo nc bn ln ac kd of_ td i hi) (cwV 1 hts gX6_readAt_X6_offNow rfl rfl rfl (by decide +kernel) ⟨Nat.le_of_ble_eq_true rfl, Nat.le_of_ble_eq_true rfl⟩) (gv_pV (wc := [(h0, .inr (6, [.int th, .int (nI mo), .ref r2, .int st, .int (nI pe), .ref r5, .ref r6, .ref r7, .int (nI nc), .int (nI bn), .ref r10, .ref r11, .ref r12, .ref r13, .int (nI ln), .ref r15, .ref r16, .ref r17, .ref r18, .int (nI ac)])), (r5, .inl (cI, 6, .inl kd)), (r6, .inl (cI, 6, .inl of_)), (r7, .inl (cI, 6, .inl td))]) hP hK hD hG [0, 2, 3, 4] rfl (by decide) 0 rfl rfl rfl) rfl rfl hl.1 rfl (lv_room (Nat.le_of_ble_eq_true rfl)) dX6_readAt_44 ⟨Nat.le_of_ble_eq_true rfl, Nat.le_of_ble_eq_true rfl⟩) (fun rd hrd => ?_)
    refine lv_ladd hx hb dX6_readAt_47 ?_
    have hpo : ((rc + tv.toInt64) + rd) = gv_PA mm x y + (if mo % pe < pe / 2 then st else -st).toInt64 + gv_off kd of_ td (nI mo) i := by
      rw [hrc, hrd, hv_tv]
    exact W.lret (v := (rc + tv.toInt64) + rd) hx hb hr (fun t9 ht9 hW9 => ⟨((rc + tv.toInt64) + rd), rfl, hpo, ht9⟩) t_nil dX6_readAt_48
  · skip
    refine lv_icmp_ge (tgt := 25) hx hb dX6_readAt_15 (by decide) (fun c_15 => ?_) (fun c_15 => ?_)
    · skip
      have c_15 := (nI_leI (a := pe / 2) (b := mo % pe) (by omega) (by omega)).mp c_15
      refine lv_aload_n hx hb dX6_readAt_25 rfl (lv_at hl 0 rfl) ?_
      refine va_get (D := D) (ci := 6) (v := .int st) (C := RX6) (T := TX6) (N := 20) hx hb hts gv_in_X6_readAt_X6 hown hK hP 0 rfl rfl 3 (by decide) (hts (.fieldLink RX6 98 "GravimereModel" "strength" "I") (by decide +kernel)) (fun _ h9 => h9) rfl dX6_readAt_26 ?_
      refine lv_ineg hx hb dX6_readAt_29 ?_
      exact K_1 _ (by first | exact (if_pos (by omega)).symm | exact (if_neg (by omega)).symm)
    · skip
      have c_15 := (not_congr (nI_leI (a := pe / 2) (b := mo % pe) (by omega) (by omega))).mp c_15
      refine lv_aload_n hx hb dX6_readAt_18 rfl (lv_at hl 0 rfl) ?_
      refine va_get (D := D) (ci := 6) (v := .int st) (C := RX6) (T := TX6) (N := 20) hx hb hts gv_in_X6_readAt_X6 hown hK hP 0 rfl rfl 3 (by decide) (hts (.fieldLink RX6 98 "GravimereModel" "strength" "I") (by decide +kernel)) (fun _ h9 => h9) rfl dX6_readAt_19 ?_
      refine lv_goto (tgt := 30) hx hb dX6_readAt_22 (by decide) ?_
      exact K_1 _ (by first | exact (if_pos (by omega)).symm | exact (if_neg (by omega)).symm)
set_option maxHeartbeats 4000000 in
set_option maxRecDepth 100000 in
theorem ct_X6_read (l : Launch) (D : va_G) (cI cJ : ClassId) (sz : Nat) (h0 r2 r5 r6 r7 r10 r11 r12 r13 r15 r16 r17 r18 : Nat) (th st : Int32) (pe : Nat) (mo nc bn ln ac : Nat) (mm : Nat → Int64) (kd of_ td : Nat → Int32) (p0 x y : Int32) (h1p : 1 ≤ pe) (h60 : pe ≤ 60) (hmo : mo ≤ 3000) (hnc : nc ≤ 6) : Met l yX6_read wsX6_read ({ frames := 2, cells := 0, slots := 0, locals := 53 }) (va_Pc [.ref h0, .int p0, .int x, .int y] (gv_B D cI cJ [(h0, .inr (6, [.int th, .int (nI mo), .ref r2, .int st, .int (nI pe), .ref r5, .ref r6, .ref r7, .int (nI nc), .int (nI bn), .ref r10, .ref r11, .ref r12, .ref r13, .int (nI ln), .ref r15, .ref r16, .ref r17, .ref r18, .int (nI ac)])), (r2, .inl (cJ, 256, .inr (.inl mm))), (r5, .inl (cI, 6, .inl kd)), (r6, .inl (cI, 6, .inl of_)), (r7, .inl (cI, 6, .inl td))] sz)) (va_Ql (fun (r9 : Int64) (u9 : Unit) => ∀ i a b, i < nc → a < 8 → b < 8 → p0 = nI i → x = nI a → y = nI b → r9 = gv_PA mm a b + (if mo % pe < pe / 2 then st else -st).toInt64 + gv_off kd of_ td (nI mo) i) (fun (u9 : Unit) t9 => gv_W D (va_A [(h0, .inr (6, [.int th, .int (nI mo), .ref r2, .int st, .int (nI pe), .ref r5, .ref r6, .ref r7, .int (nI nc), .int (nI bn), .ref r10, .ref r11, .ref r12, .ref r13, .int (nI ln), .ref r15, .ref r16, .ref r17, .ref r18, .int (nI ac)])), (r2, .inl (cJ, 256, .inr (.inl mm))), (r5, .inl (cI, 6, .inl kd)), (r6, .inl (cI, 6, .inl of_)), (r7, .inl (cI, 6, .inl td))] sz) [(h0, .inr (6, [.int (gv_01 (vp_in p0 nc ∧ vp_in x 8 ∧ vp_in y 8)), .int (nI mo), .ref r2, .int st, .int (nI pe), .ref r5, .ref r6, .ref r7, .int (nI nc), .int (nI bn), .ref r10, .ref r11, .ref r12, .ref r13, .int (nI ln), .ref r15, .ref r16, .ref r17, .ref r18, .int (nI ac)])), (r2, .inl (cJ, 256, .inr (.inl mm))), (r5, .inl (cI, 6, .inl kd)), (r6, .inl (cI, 6, .inl of_)), (r7, .inl (cI, 6, .inl td))] t9) (va_A [(h0, .inr (6, [.int th, .int (nI mo), .ref r2, .int st, .int (nI pe), .ref r5, .ref r6, .ref r7, .int (nI nc), .int (nI bn), .ref r10, .ref r11, .ref r12, .ref r13, .int (nI ln), .ref r15, .ref r16, .ref r17, .ref r18, .int (nI ac)])), (r2, .inl (cJ, 256, .inr (.inl mm))), (r5, .inl (cI, 6, .inl kd)), (r6, .inl (cI, 6, .inl of_)), (r7, .inl (cI, 6, .inl td))] sz)) 0 0 (va_A [(h0, .inr (6, [.int th, .int (nI mo), .ref r2, .int st, .int (nI pe), .ref r5, .ref r6, .ref r7, .int (nI nc), .int (nI bn), .ref r10, .ref r11, .ref r12, .ref r13, .int (nI ln), .ref r15, .ref r16, .ref r17, .ref r18, .int (nI ac)])), (r2, .inl (cJ, 256, .inr (.inl mm))), (r5, .inl (cI, 6, .inl kd)), (r6, .inl (cI, 6, .inl of_)), (r7, .inl (cI, 6, .inl td))] sz) := by
  refine Met.ofW (cc := cX6_read) (maxL := 4) (ret := (some .long)) (by decide) rfl ?_
  intro p e s m args below meth c s₁ B hml hv
  obtain ⟨rfl, hsz, hP, hK, hD0, hG⟩ := hv
  have hx := B.exec
  have hb := B.bytes
  have hr := B.returns
  have hts := atoms_spec (ws := wsX6_read) B.pre
  have hown : s.vm.findClass RX6 = some m.cls := findClass_of_methodNamed B.named
  have hlocks := B.notSynchronized
  subst hsz
  have hD := hD0.self (sz := s.heap.size)
  generalize hAe : va_A [(h0, .inr (6, [.int th, .int (nI mo), .ref r2, .int st, .int (nI pe), .ref r5, .ref r6, .ref r7, .int (nI nc), .int (nI bn), .ref r10, .ref r11, .ref r12, .ref r13, .int (nI ln), .ref r15, .ref r16, .ref r17, .ref r18, .int (nI ac)])), (r2, .inl (cJ, 256, .inr (.inl mm))), (r5, .inl (cI, 6, .inl kd)), (r6, .inl (cI, 6, .inl of_)), (r7, .inl (cI, 6, .inl td))] s.heap.size = A at hD ⊢
  have hA : ∀ q : Nat, s.heap.size ≤ q → A q := fun q h => by rw [← hAe]; exact Or.inr h
  have hS : va_S A s.heap s.heap [] := va_S.rf
  have hP : va_P D vwCl [(h0, .inr (6, [.int th, .int (nI mo), .ref r2, .int st, .int (nI pe), .ref r5, .ref r6, .ref r7, .int (nI nc), .int (nI bn), .ref r10, .ref r11, .ref r12, .ref r13, .int (nI ln), .ref r15, .ref r16, .ref r17, .ref r18, .int (nI ac)])), (r2, .inl (cJ, 256, .inr (.inl mm))), (r5, .inl (cI, 6, .inl kd)), (r6, .inl (cI, 6, .inl of_)), (r7, .inl (cI, 6, .inl td))] s.heap := hP
  have hl := lv_entry ([.ref h0, .int p0, .int x, .int y]) (n := 4) (Nat.le_of_ble_eq_true rfl)
  rw [lg_entry_eq]
  generalize (lg_sl ([.ref h0, .int p0, .int x, .int y]) ++ List.replicate (4 - (lg_sl ([.ref h0, .int p0, .int x, .int y])).length) Slot.unset).toArray = ls at hl ⊢
  have hl : lv_has ls 4 [(0, .ref h0), (1, .int p0), (2, .int x), (3, .int y)] := hl
  refine lv_aload_n hx hb dX6_read_0 rfl (lv_at hl 0 rfl) ?_
  refine lv_aload_n hx hb dX6_read_1 rfl (lv_at hl 0 rfl) ?_
  refine lv_iload_n hx hb dX6_read_2 rfl (lv_at hl 1 rfl) ?_
  refine gv_pi (va_runV (As := [.int p0]) (rest := [.ref h0]) ⟨hx, hb, hml, hown, hts⟩ (ct_X6_isNeedle l D cI cJ s.heap.size h0 r2 r5 r6 r7 r10 r11 r12 r13 r15 r16 r17 r18 th st (nI pe) mo nc bn ln ac p0 (by omega)) (cwV 1 hts gX6_read_X6_isNeedle rfl rfl rfl (by decide +kernel) ⟨Nat.le_of_ble_eq_true rfl, Nat.le_of_ble_eq_true rfl⟩) (gv_pV (wc := [(h0, .inr (6, [.int th, .int (nI mo), .ref r2, .int st, .int (nI pe), .ref r5, .ref r6, .ref r7, .int (nI nc), .int (nI bn), .ref r10, .ref r11, .ref r12, .ref r13, .int (nI ln), .ref r15, .ref r16, .ref r17, .ref r18, .int (nI ac)]))]) hP hK hD hG [0] rfl (by decide) 0 rfl rfl rfl) rfl rfl hl.1 rfl (lv_room (Nat.le_of_ble_eq_true rfl)) dX6_read_3 ⟨Nat.le_of_ble_eq_true rfl, Nat.le_of_ble_eq_true rfl⟩) (fun q1 h1 => ?_)
  refine gv_mg (fun v : Int32 => v = gv_01 (vp_in p0 nc ∧ vp_in x 8 ∧ vp_in y 8)) 22 [.ref h0] (fun tv hv_tv => ?_) (fun K_1 => ?_)
  · skip
    subst hv_tv
    refine gv_mi (wc := [(h0, .inr (6, [.int th, .int (nI mo), .ref r2, .int st, .int (nI pe), .ref r5, .ref r6, .ref r7, .int (nI nc), .int (nI bn), .ref r10, .ref r11, .ref r12, .ref r13, .int (nI ln), .ref r15, .ref r16, .ref r17, .ref r18, .int (nI ac)]))]) (wr := [(r2, .inl (cJ, 256, .inr (.inl mm))), (r5, .inl (cI, 6, .inl kd)), (r6, .inl (cI, 6, .inl of_)), (r7, .inl (cI, 6, .inl td))]) (w2 := (fun u => [(h0, .inr (6, [.int (gv_01 (vp_in p0 nc ∧ vp_in x 8 ∧ vp_in y 8)), .int (nI mo), .ref r2, .int st, .int (nI pe), .ref r5, .ref r6, .ref r7, .int (nI nc), .int (nI bn), .ref r10, .ref r11, .ref r12, .ref r13, .int (nI ln), .ref r15, .ref r16, .ref r17, .ref r18, .int (nI ac)])), (r2, .inl (cJ, 256, .inr (.inl mm))), (r5, .inl (cI, 6, .inl kd)), (r6, .inl (cI, 6, .inl of_)), (r7, .inl (cI, 6, .inl td))])) (va_runV (As := [.int (gv_01 (vp_in p0 nc ∧ vp_in x 8 ∧ vp_in y 8))]) (rest := []) ⟨hx, hb, hml, hown, hts⟩ (ct_X6_holds l D cI cJ s.heap.size h0 r2 r5 r6 r7 r10 r11 r12 r13 r15 r16 r17 r18 th st (nI pe) mo nc bn ln ac (gv_01 (vp_in p0 nc ∧ vp_in x 8 ∧ vp_in y 8))) (cwV 1 hts gX6_read_X6_holds rfl rfl rfl (by decide +kernel) ⟨Nat.le_of_ble_eq_true rfl, Nat.le_of_ble_eq_true rfl⟩) (gv_pV (wc := [(h0, .inr (6, [.int th, .int (nI mo), .ref r2, .int st, .int (nI pe), .ref r5, .ref r6, .ref r7, .int (nI nc), .int (nI bn), .ref r10, .ref r11, .ref r12, .ref r13, .int (nI ln), .ref r15, .ref r16, .ref r17, .ref r18, .int (nI ac)]))]) hP hK hD hG [0] rfl (by decide) 0 rfl rfl rfl) rfl rfl hl.1 rfl (lv_room (Nat.le_of_ble_eq_true rfl)) dX6_read_22 ⟨Nat.le_of_ble_eq_true rfl, Nat.le_of_ble_eq_true rfl⟩) hP hD hS hA [0] [1, 2, 3, 4] [4, 0, 1, 2, 3] rfl rfl (by decide) (by decide) (fun u => rfl) (by decide) (fun rh u H locs hrh hP hD hS => ?_)
    have hP : va_P D vwCl [(h0, .inr (6, [.int (gv_01 (vp_in p0 nc ∧ vp_in x 8 ∧ vp_in y 8)), .int (nI mo), .ref r2, .int st, .int (nI pe), .ref r5, .ref r6, .ref r7, .int (nI nc), .int (nI bn), .ref r10, .ref r11, .ref r12, .ref r13, .int (nI ln), .ref r15, .ref r16, .ref r17, .ref r18, .int (nI ac)])), (r2, .inl (cJ, 256, .inr (.inl mm))), (r5, .inl (cI, 6, .inl kd)), (r6, .inl (cI, 6, .inl of_)), (r7, .inl (cI, 6, .inl td))] H := hP
    have hD : va_D A [(h0, .inr (6, [.int (gv_01 (vp_in p0 nc ∧ vp_in x 8 ∧ vp_in y 8)), .int (nI mo), .ref r2, .int st, .int (nI pe), .ref r5, .ref r6, .ref r7, .int (nI nc), .int (nI bn), .ref r10, .ref r11, .ref r12, .ref r13, .int (nI ln), .ref r15, .ref r16, .ref r17, .ref r18, .int (nI ac)])), (r2, .inl (cJ, 256, .inr (.inl mm))), (r5, .inl (cI, 6, .inl kd)), (r6, .inl (cI, 6, .inl of_)), (r7, .inl (cI, 6, .inl td))] := hD
    refine lv_if_eq (tgt := 38) hx hb dX6_read_25 (by decide) (fun c_25 => ?_) (fun c_25 => ?_)
    · skip
      have hno := gv_if0 hrh c_25
      refine lv_lconst (v := 0) hx hb dX6_read_38 (by decide) ?_
      have hpo : ∀ i a b, i < nc → a < 8 → b < 8 → p0 = nI i → x = nI a → y = nI b → 0 = gv_PA mm a b + (if mo % pe < pe / 2 then st else -st).toInt64 + gv_off kd of_ td (nI mo) i := by
        exact fun i a b hi ha hb ei ea eb => absurd (gv_01t ⟨by rw [ei]; exact vp_in_nI hi (by omega), by rw [ea]; exact vp_in_nI ha (by decide), by rw [eb]; exact vp_in_nI hb (by decide)⟩).symm hno
      have hP9 : va_P D vwCl [(h0, .inr (6, [.int (gv_01 (vp_in p0 nc ∧ vp_in x 8 ∧ vp_in y 8)), .int (nI mo), .ref r2, .int st, .int (nI pe), .ref r5, .ref r6, .ref r7, .int (nI nc), .int (nI bn), .ref r10, .ref r11, .ref r12, .ref r13, .int (nI ln), .ref r15, .ref r16, .ref r17, .ref r18, .int (nI ac)])), (r2, .inl (cJ, 256, .inr (.inl mm))), (r5, .inl (cI, 6, .inl kd)), (r6, .inl (cI, 6, .inl of_)), (r7, .inl (cI, 6, .inl td))] H := hP
      have hD9 : va_D A [(h0, .inr (6, [.int (gv_01 (vp_in p0 nc ∧ vp_in x 8 ∧ vp_in y 8)), .int (nI mo), .ref r2, .int st, .int (nI pe), .ref r5, .ref r6, .ref r7, .int (nI nc), .int (nI bn), .ref r10, .ref r11, .ref r12, .ref r13, .int (nI ln), .ref r15, .ref r16, .ref r17, .ref r18, .int (nI ac)])), (r2, .inl (cJ, 256, .inr (.inl mm))), (r5, .inl (cI, 6, .inl kd)), (r6, .inl (cI, 6, .inl of_)), (r7, .inl (cI, 6, .inl td))] := hD
      exact W.lret (v := 0) hx hb hr (fun t9 ht9 hW9 => ⟨⟨0, (), rfl, hpo, by rw [ht9]; exact hP9, hD9⟩, hS.F ht9⟩) hS.2.2 dX6_read_39
    · skip
      have hok := gv_01z (gv_if1 hrh c_25)
      obtain ⟨i, hi, ei⟩ := vp_in_of hok.1 (by omega)
      rw [ei] at hl
      have hl : lv_has ls 4 [(0, .ref h0), (1, .int (nI i)), (2, .int x), (3, .int y)] := hl
      obtain ⟨a, ha8, ea⟩ := vp_in_of (hok.2).1 (by decide)
      obtain ⟨b, hb8, eb⟩ := vp_in_of (hok.2).2 (by decide)
      rw [ea] at hl
      have hl : lv_has ls 4 [(0, .ref h0), (1, .int (nI i)), (2, .int (nI a)), (3, .int y)] := hl
      rw [eb] at hl
      have hl : lv_has ls 4 [(0, .ref h0), (1, .int (nI i)), (2, .int (nI a)), (3, .int (nI b))] := hl
      refine lv_aload_n hx hb dX6_read_28 rfl (lv_at hl 0 rfl) ?_
      refine lv_iload_n hx hb dX6_read_29 rfl (lv_at hl 1 rfl) ?_
      refine lv_iload_n hx hb dX6_read_30 rfl (lv_at hl 2 rfl) ?_
      refine lv_iload_n hx hb dX6_read_31 rfl (lv_at hl 3 rfl) ?_
      refine gv_pl (va_runV (As := [.int (nI i), .int (nI a), .int (nI b)]) (rest := []) ⟨hx, hb, hml, hown, hts⟩ (ct_X6_readAt l D cI cJ H.size h0 r2 r5 r6 r7 r10 r11 r12 r13 r15 r16 r17 r18 (gv_01 (vp_in p0 nc ∧ vp_in x 8 ∧ vp_in y 8)) st pe mo nc bn ln ac mm kd of_ td i a b h1p h60 hmo (by omega) ha8 hb8) (cwV 3 hts gX6_read_X6_readAt rfl rfl rfl (by decide +kernel) ⟨Nat.le_of_ble_eq_true rfl, Nat.le_of_ble_eq_true rfl⟩) (gv_pV (wc := [(h0, .inr (6, [.int (gv_01 (vp_in p0 nc ∧ vp_in x 8 ∧ vp_in y 8)), .int (nI mo), .ref r2, .int st, .int (nI pe), .ref r5, .ref r6, .ref r7, .int (nI nc), .int (nI bn), .ref r10, .ref r11, .ref r12, .ref r13, .int (nI ln), .ref r15, .ref r16, .ref r17, .ref r18, .int (nI ac)])), (r2, .inl (cJ, 256, .inr (.inl mm))), (r5, .inl (cI, 6, .inl kd)), (r6, .inl (cI, 6, .inl of_)), (r7, .inl (cI, 6, .inl td))]) hP hK hD hG [0, 1, 2, 3, 4] rfl (by decide) 0 rfl rfl rfl) rfl rfl hl.1 rfl (lv_room (Nat.le_of_ble_eq_true rfl)) dX6_read_32 ⟨Nat.le_of_ble_eq_true rfl, Nat.le_of_ble_eq_true rfl⟩) (fun rc hrc => ?_)
      refine lv_goto (tgt := 39) hx hb dX6_read_35 (by decide) ?_
      have hpo : ∀ i a b, i < nc → a < 8 → b < 8 → p0 = nI i → x = nI a → y = nI b → rc = gv_PA mm a b + (if mo % pe < pe / 2 then st else -st).toInt64 + gv_off kd of_ td (nI mo) i := by
        intro i2 a2 b2 hi2 ha hb ei2 ea2 eb2
        cases gv_inj (ei2.symm.trans ei) (by omega) (by omega)
        cases gv_inj (ea2.symm.trans ea) (by omega) (by omega)
        cases gv_inj (eb2.symm.trans eb) (by omega) (by omega)
        exact hrc
      have hP9 : va_P D vwCl [(h0, .inr (6, [.int (gv_01 (vp_in p0 nc ∧ vp_in x 8 ∧ vp_in y 8)), .int (nI mo), .ref r2, .int st, .int (nI pe), .ref r5, .ref r6, .ref r7, .int (nI nc), .int (nI bn), .ref r10, .ref r11, .ref r12, .ref r13, .int (nI ln), .ref r15, .ref r16, .ref r17, .ref r18, .int (nI ac)])), (r2, .inl (cJ, 256, .inr (.inl mm))), (r5, .inl (cI, 6, .inl kd)), (r6, .inl (cI, 6, .inl of_)), (r7, .inl (cI, 6, .inl td))] H := hP
      have hD9 : va_D A [(h0, .inr (6, [.int (gv_01 (vp_in p0 nc ∧ vp_in x 8 ∧ vp_in y 8)), .int (nI mo), .ref r2, .int st, .int (nI pe), .ref r5, .ref r6, .ref r7, .int (nI nc), .int (nI bn), .ref r10, .ref r11, .ref r12, .ref r13, .int (nI ln), .ref r15, .ref r16, .ref r17, .ref r18, .int (nI ac)])), (r2, .inl (cJ, 256, .inr (.inl mm))), (r5, .inl (cI, 6, .inl kd)), (r6, .inl (cI, 6, .inl of_)), (r7, .inl (cI, 6, .inl td))] := hD
      exact W.lret (v := rc) hx hb hr (fun t9 ht9 hW9 => ⟨⟨rc, (), rfl, hpo, by rw [ht9]; exact hP9, hD9⟩, hS.F ht9⟩) hS.2.2 dX6_read_39
  · skip
    refine lv_if_eq (tgt := 21) hx hb dX6_read_6 (by decide) (fun c_6 => ?_) (fun c_6 => ?_)
    · skip
      refine lv_iconst (v := nI 1) hx hb dX6_read_21 (by decide) ?_
      exact K_1 _ (by first | exact gv_01t ⟨gv_if1 h1 c_6, gv_if1 h2 c_14⟩ | exact gv_01f (fun z => gv_if0 h1 c_6 z.1) | exact gv_01f (fun z => gv_if0 h2 c_14 z.2))
    · skip
      refine lv_iload_n hx hb dX6_read_9 rfl (lv_at hl 2 rfl) ?_
      refine lv_iload_n hx hb dX6_read_10 rfl (lv_at hl 3 rfl) ?_
      refine gv_pi (va_runS (As := [.int x, .int y]) (rest := [.ref h0]) ⟨hx, hb, hml, hown, hts⟩ (ct_X6_isCell l x y) (va_cwS 2 hts gX6_read_X6_isCell rfl rfl rfl (by decide +kernel) ⟨Nat.le_of_ble_eq_true rfl, Nat.le_of_ble_eq_true rfl⟩) gv_p0 rfl rfl hl.1 rfl (lv_room (Nat.le_of_ble_eq_true rfl)) dX6_read_11 ⟨Nat.le_of_ble_eq_true rfl, Nat.le_of_ble_eq_true rfl⟩) (fun q2 h2 => ?_)
      refine lv_if_eq (tgt := 21) hx hb dX6_read_14 (by decide) (fun c_14 => ?_) (fun c_14 => ?_)
      · skip
        refine lv_iconst (v := nI 1) hx hb dX6_read_21 (by decide) ?_
        exact K_1 _ (by first | exact gv_01t ⟨gv_if1 h1 c_6, gv_if1 h2 c_14⟩ | exact gv_01f (fun z => gv_if0 h1 c_6 z.1) | exact gv_01f (fun z => gv_if0 h2 c_14 z.2))
      · skip
        refine lv_iconst (v := nI 0) hx hb dX6_read_17 (by decide) ?_
        refine lv_goto (tgt := 22) hx hb dX6_read_18 (by decide) ?_
        exact K_1 _ (by first | exact gv_01t ⟨gv_if1 h1 c_6, gv_if1 h2 c_14⟩ | exact gv_01f (fun z => gv_if0 h1 c_6 z.1) | exact gv_01f (fun z => gv_if0 h2 c_14 z.2))
set_option maxHeartbeats 4000000 in
set_option maxRecDepth 100000 in
theorem ct_X6_benchmark (l : Launch) (D : va_G) (cI cJ : ClassId) (sz : Nat) (h0 r2 r5 r6 r7 r10 r11 r12 r13 r15 r16 r17 r18 : Nat) (th st pe : Int32) (mo nc bn ln ac : Nat) (hbn : bn ≤ 10) : Met l yX6_benchmark wsX6_benchmark ({ frames := 1, cells := 0, slots := 0, locals := 21 }) (va_Pc [.ref h0] (gv_B D cI cJ [(h0, .inr (6, [.int th, .int (nI mo), .ref r2, .int st, .int pe, .ref r5, .ref r6, .ref r7, .int (nI nc), .int (nI bn), .ref r10, .ref r11, .ref r12, .ref r13, .int (nI ln), .ref r15, .ref r16, .ref r17, .ref r18, .int (nI ac)]))] sz)) (va_Qi (fun (r9 : Int32) (u9 : Nat) => let bn9 := u9; (¬ bn = 10 → r9 = nI bn ∧ bn9 = bn + 1) ∧ (bn = 10 → bn9 = bn)) (fun (u9 : Nat) t9 => gv_W D (va_A [(h0, .inr (6, [.int th, .int (nI mo), .ref r2, .int st, .int pe, .ref r5, .ref r6, .ref r7, .int (nI nc), .int (nI bn), .ref r10, .ref r11, .ref r12, .ref r13, .int (nI ln), .ref r15, .ref r16, .ref r17, .ref r18, .int (nI ac)]))] sz) (let bn9 := u9; [(h0, .inr (6, [.int (gv_01 (¬ bn = 10)), .int (nI mo), .ref r2, .int st, .int pe, .ref r5, .ref r6, .ref r7, .int (nI nc), .int (nI bn9), .ref r10, .ref r11, .ref r12, .ref r13, .int (nI ln), .ref r15, .ref r16, .ref r17, .ref r18, .int (nI ac)]))]) t9) (va_A [(h0, .inr (6, [.int th, .int (nI mo), .ref r2, .int st, .int pe, .ref r5, .ref r6, .ref r7, .int (nI nc), .int (nI bn), .ref r10, .ref r11, .ref r12, .ref r13, .int (nI ln), .ref r15, .ref r16, .ref r17, .ref r18, .int (nI ac)]))] sz)) 0 0 (va_A [(h0, .inr (6, [.int th, .int (nI mo), .ref r2, .int st, .int pe, .ref r5, .ref r6, .ref r7, .int (nI nc), .int (nI bn), .ref r10, .ref r11, .ref r12, .ref r13, .int (nI ln), .ref r15, .ref r16, .ref r17, .ref r18, .int (nI ac)]))] sz) := by
  refine Met.ofW (cc := cX6_benchmark) (maxL := 1) (ret := (some .int)) (by decide) rfl ?_
  intro p e s m args below meth c s₁ B hml hv
  obtain ⟨rfl, hsz, hP, hK, hD0, hG⟩ := hv
  have hx := B.exec
  have hb := B.bytes
  have hr := B.returns
  have hts := atoms_spec (ws := wsX6_benchmark) B.pre
  have hown : s.vm.findClass RX6 = some m.cls := findClass_of_methodNamed B.named
  have hlocks := B.notSynchronized
  subst hsz
  have hD := hD0.self (sz := s.heap.size)
  generalize hAe : va_A [(h0, .inr (6, [.int th, .int (nI mo), .ref r2, .int st, .int pe, .ref r5, .ref r6, .ref r7, .int (nI nc), .int (nI bn), .ref r10, .ref r11, .ref r12, .ref r13, .int (nI ln), .ref r15, .ref r16, .ref r17, .ref r18, .int (nI ac)]))] s.heap.size = A at hD ⊢
  have hA : ∀ q : Nat, s.heap.size ≤ q → A q := fun q h => by rw [← hAe]; exact Or.inr h
  have hS : va_S A s.heap s.heap [] := va_S.rf
  have hP : va_P D vwCl [(h0, .inr (6, [.int th, .int (nI mo), .ref r2, .int st, .int pe, .ref r5, .ref r6, .ref r7, .int (nI nc), .int (nI bn), .ref r10, .ref r11, .ref r12, .ref r13, .int (nI ln), .ref r15, .ref r16, .ref r17, .ref r18, .int (nI ac)]))] s.heap := hP
  have hl := lv_entry ([.ref h0]) (n := 1) (Nat.le_of_ble_eq_true rfl)
  rw [lg_entry_eq]
  generalize (lg_sl ([.ref h0]) ++ List.replicate (1 - (lg_sl ([.ref h0])).length) Slot.unset).toArray = ls at hl ⊢
  have hl : lv_has ls 1 [(0, .ref h0)] := hl
  refine lv_aload_n hx hb dX6_benchmark_0 rfl (lv_at hl 0 rfl) ?_
  refine gv_mg (fun v : Int32 => v = gv_01 (¬ bn = 10)) 15 [.ref h0] (fun tv hv_tv => ?_) (fun K_1 => ?_)
  · skip
    subst hv_tv
    refine gv_mi (wc := [(h0, .inr (6, [.int th, .int (nI mo), .ref r2, .int st, .int pe, .ref r5, .ref r6, .ref r7, .int (nI nc), .int (nI bn), .ref r10, .ref r11, .ref r12, .ref r13, .int (nI ln), .ref r15, .ref r16, .ref r17, .ref r18, .int (nI ac)]))]) (wr := []) (w2 := (fun u => [(h0, .inr (6, [.int (gv_01 (¬ bn = 10)), .int (nI mo), .ref r2, .int st, .int pe, .ref r5, .ref r6, .ref r7, .int (nI nc), .int (nI bn), .ref r10, .ref r11, .ref r12, .ref r13, .int (nI ln), .ref r15, .ref r16, .ref r17, .ref r18, .int (nI ac)]))])) (va_runV (As := [.int (gv_01 (¬ bn = 10))]) (rest := []) ⟨hx, hb, hml, hown, hts⟩ (ct_X6_holds l D cI cJ s.heap.size h0 r2 r5 r6 r7 r10 r11 r12 r13 r15 r16 r17 r18 th st pe mo nc bn ln ac (gv_01 (¬ bn = 10))) (cwV 1 hts gX6_benchmark_X6_holds rfl rfl rfl (by decide +kernel) ⟨Nat.le_of_ble_eq_true rfl, Nat.le_of_ble_eq_true rfl⟩) (gv_pV (wc := [(h0, .inr (6, [.int th, .int (nI mo), .ref r2, .int st, .int pe, .ref r5, .ref r6, .ref r7, .int (nI nc), .int (nI bn), .ref r10, .ref r11, .ref r12, .ref r13, .int (nI ln), .ref r15, .ref r16, .ref r17, .ref r18, .int (nI ac)]))]) hP hK hD hG [0] rfl (by decide) 0 rfl rfl rfl) rfl rfl hl.1 rfl (lv_room (Nat.le_of_ble_eq_true rfl)) dX6_benchmark_15 ⟨Nat.le_of_ble_eq_true rfl, Nat.le_of_ble_eq_true rfl⟩) hP hD hS hA [0] [] [0] rfl rfl (by decide) (by decide) (fun u => rfl) (by decide) (fun rh u H locs hrh hP hD hS => ?_)
    have hP : va_P D vwCl [(h0, .inr (6, [.int (gv_01 (¬ bn = 10)), .int (nI mo), .ref r2, .int st, .int pe, .ref r5, .ref r6, .ref r7, .int (nI nc), .int (nI bn), .ref r10, .ref r11, .ref r12, .ref r13, .int (nI ln), .ref r15, .ref r16, .ref r17, .ref r18, .int (nI ac)]))] H := hP
    have hD : va_D A [(h0, .inr (6, [.int (gv_01 (¬ bn = 10)), .int (nI mo), .ref r2, .int st, .int pe, .ref r5, .ref r6, .ref r7, .int (nI nc), .int (nI bn), .ref r10, .ref r11, .ref r12, .ref r13, .int (nI ln), .ref r15, .ref r16, .ref r17, .ref r18, .int (nI ac)]))] := hD
    refine lv_if_ne (tgt := 23) hx hb dX6_benchmark_18 (by decide) (fun c_18 => ?_) (fun c_18 => ?_)
    · skip
      have hok := gv_01z (gv_if1 hrh c_18)
      refine lv_aload_n hx hb dX6_benchmark_23 rfl (lv_at hl 0 rfl) ?_
      refine lv_dup hx hb dX6_benchmark_24 rfl ?_
      refine va_get (D := D) (ci := 6) (v := .int (nI bn)) (C := RX6) (T := TX6) (N := 20) hx hb hts gv_in_X6_benchmark_X6 hown hK hP 0 rfl rfl 9 (by decide) (hts (.fieldLink RX6 66 "GravimereModel" "benchmarks" "I") (by decide +kernel)) (fun _ h9 => h9) rfl dX6_benchmark_25 ?_
      refine lv_iconst (v := nI 1) hx hb dX6_benchmark_28 (by decide) ?_
      refine lv_iadd hx hb dX6_benchmark_29 ?_
      refine gv_wi (nI_add bn 1) ?_
      refine va_put (D := D) (ci := 6) (v := .int (nI (bn + 1))) (ty := .int) (C := RX6) (T := TX6) (N := 20) hx hb hts gv_in_X6_benchmark_X6 tyX6 tyX6_ok nmX6 hown hK hP hD hS 0 rfl rfl 9 (by decide) (hts (.fieldLink RX6 66 "GravimereModel" "benchmarks" "I") (by decide +kernel)) (fun _ h9 => h9) rfl (by decide +kernel) rfl rfl (Nat.le_of_ble_eq_true rfl) dX6_benchmark_30 (fun H locs hP hD hS => ?_)
      have hP : va_P D vwCl [(h0, .inr (6, [.int (gv_01 (¬ bn = 10)), .int (nI mo), .ref r2, .int st, .int pe, .ref r5, .ref r6, .ref r7, .int (nI nc), .int (nI (bn + 1)), .ref r10, .ref r11, .ref r12, .ref r13, .int (nI ln), .ref r15, .ref r16, .ref r17, .ref r18, .int (nI ac)]))] H := hP
      have hD : va_D A [(h0, .inr (6, [.int (gv_01 (¬ bn = 10)), .int (nI mo), .ref r2, .int st, .int pe, .ref r5, .ref r6, .ref r7, .int (nI nc), .int (nI (bn + 1)), .ref r10, .ref r11, .ref r12, .ref r13, .int (nI ln), .ref r15, .ref r16, .ref r17, .ref r18, .int (nI ac)]))] := hD
      refine lv_aload_n hx hb dX6_benchmark_33 rfl (lv_at hl 0 rfl) ?_
      refine va_get (D := D) (ci := 6) (v := .int (nI (bn + 1))) (C := RX6) (T := TX6) (N := 20) hx hb hts gv_in_X6_benchmark_X6 hown hK hP 0 rfl rfl 9 (by decide) (hts (.fieldLink RX6 66 "GravimereModel" "benchmarks" "I") (by decide +kernel)) (fun _ h9 => h9) rfl dX6_benchmark_34 ?_
      refine lv_iconst (v := nI 1) hx hb dX6_benchmark_37 (by decide) ?_
      refine lv_isub hx hb dX6_benchmark_38 ?_
      refine gv_wi (nI_pred bn) ?_
      have hpo : let bn9 := (bn + 1); (¬ bn = 10 → (nI bn) = nI bn ∧ bn9 = bn + 1) ∧ (bn = 10 → bn9 = bn) := by
        exact ⟨fun _ => ⟨rfl, rfl⟩, fun z => absurd z hok⟩
      have hP9 : va_P D vwCl [(h0, .inr (6, [.int (gv_01 (¬ bn = 10)), .int (nI mo), .ref r2, .int st, .int pe, .ref r5, .ref r6, .ref r7, .int (nI nc), .int (nI (bn + 1)), .ref r10, .ref r11, .ref r12, .ref r13, .int (nI ln), .ref r15, .ref r16, .ref r17, .ref r18, .int (nI ac)]))] H := hP
      have hD9 : va_D A [(h0, .inr (6, [.int (gv_01 (¬ bn = 10)), .int (nI mo), .ref r2, .int st, .int pe, .ref r5, .ref r6, .ref r7, .int (nI nc), .int (nI (bn + 1)), .ref r10, .ref r11, .ref r12, .ref r13, .int (nI ln), .ref r15, .ref r16, .ref r17, .ref r18, .int (nI ac)]))] := hD
      exact W.iret (v := nI bn) hx hb hr (fun t9 ht9 hW9 => ⟨⟨(nI bn), (bn + 1), rfl, hpo, by rw [ht9]; exact hP9, hD9⟩, hS.F ht9⟩) hS.2.2 dX6_benchmark_39
    · skip
      have hno := gv_01n (gv_if0 hrh c_18)
      refine lv_iconst (v := nI 0) hx hb dX6_benchmark_21 (by decide) ?_
      have hpo : let bn9 := bn; (¬ bn = 10 → (nI 0) = nI bn ∧ bn9 = bn + 1) ∧ (bn = 10 → bn9 = bn) := by
        exact ⟨fun z => absurd z hno, fun _ => rfl⟩
      have hP9 : va_P D vwCl [(h0, .inr (6, [.int (gv_01 (¬ bn = 10)), .int (nI mo), .ref r2, .int st, .int pe, .ref r5, .ref r6, .ref r7, .int (nI nc), .int (nI bn), .ref r10, .ref r11, .ref r12, .ref r13, .int (nI ln), .ref r15, .ref r16, .ref r17, .ref r18, .int (nI ac)]))] H := hP
      have hD9 : va_D A [(h0, .inr (6, [.int (gv_01 (¬ bn = 10)), .int (nI mo), .ref r2, .int st, .int pe, .ref r5, .ref r6, .ref r7, .int (nI nc), .int (nI bn), .ref r10, .ref r11, .ref r12, .ref r13, .int (nI ln), .ref r15, .ref r16, .ref r17, .ref r18, .int (nI ac)]))] := hD
      exact W.iret (v := nI 0) hx hb hr (fun t9 ht9 hW9 => ⟨⟨(nI 0), bn, rfl, hpo, by rw [ht9]; exact hP9, hD9⟩, hS.F ht9⟩) hS.2.2 dX6_benchmark_22
  · skip
    refine lv_aload_n hx hb dX6_benchmark_1 rfl (lv_at hl 0 rfl) ?_
    refine va_get (D := D) (ci := 6) (v := .int (nI bn)) (C := RX6) (T := TX6) (N := 20) hx hb hts gv_in_X6_benchmark_X6 hown hK hP 0 rfl rfl 9 (by decide) (hts (.fieldLink RX6 66 "GravimereModel" "benchmarks" "I") (by decide +kernel)) (fun _ h9 => h9) rfl dX6_benchmark_2 ?_
    refine lv_bipush (v := nI 10) hx hb dX6_benchmark_5 (by decide) ?_
    refine lv_icmp_ne (tgt := 14) hx hb dX6_benchmark_7 (by decide) (fun c_7 => ?_) (fun c_7 => ?_)
    · skip
      have c_7 := (not_congr (nI_eq (a := bn) (b := 10) (by omega) (by omega))).mp c_7
      refine lv_iconst (v := nI 0) hx hb dX6_benchmark_14 (by decide) ?_
      exact K_1 _ (by first | exact gv_01f (fun z => z c_7) | exact gv_01t c_7)
    · skip
      have c_7 := (nI_eq (a := bn) (b := 10) (by omega) (by omega)).mp c_7
      refine lv_iconst (v := nI 1) hx hb dX6_benchmark_10 (by decide) ?_
      refine lv_goto (tgt := 15) hx hb dX6_benchmark_11 (by decide) ?_
      exact K_1 _ (by first | exact gv_01f (fun z => z c_7) | exact gv_01t c_7)
set_option maxHeartbeats 4000000 in
set_option maxRecDepth 100000 in
theorem ct_X6_line (l : Launch) (D : va_G) (cI cJ : ClassId) (sz : Nat) (h0 r2 r5 r6 r7 r10 r11 r12 r13 r15 r16 r17 r18 : Nat) (th st pe : Int32) (mo nc bn ln ac : Nat) (sa sb su : Nat → Nat) (sr : Nat → Int32) (p0 p1 p2 p3 : Int32) (hbn : bn ≤ 10) (hln : ln ≤ 24) : Met l yX6_line wsX6_line ({ frames := 2, cells := 0, slots := 0, locals := 46 }) (va_Pc [.ref h0, .int p0, .int p1, .int p2, .int p3] (gv_B D cI cJ [(h0, .inr (6, [.int th, .int (nI mo), .ref r2, .int st, .int pe, .ref r5, .ref r6, .ref r7, .int (nI nc), .int (nI bn), .ref r10, .ref r11, .ref r12, .ref r13, .int (nI ln), .ref r15, .ref r16, .ref r17, .ref r18, .int (nI ac)])), (r10, .inl (cI, 24, .inl (fun j => nI (sa j)))), (r11, .inl (cI, 24, .inl (fun j => nI (sb j)))), (r12, .inl (cI, 24, .inl sr)), (r13, .inl (cI, 24, .inl (fun j => nI (su j))))] sz)) (va_Qi (fun (r9 : Int32) (u9 : Nat × (Nat → Nat) × (Nat → Nat) × (Nat → Int32) × (Nat → Nat)) => match u9 with | (ln9, sa9, sb9, sr9, su9) => (∀ f t k, f < bn → t < bn → k ≤ 1000 → p0 = nI f → p1 = nI t → p3 = nI k → gv_okl p0 p1 p2 p3 → ln < 24 → r9 = nI ln ∧ ln9 = ln + 1 ∧ sa9 = gv_un sa ln f ∧ sb9 = gv_un sb ln t ∧ sr9 = upd sr ln p2 ∧ su9 = gv_un su ln k) ∧ (¬ gv_03 (vp_in p0 bn ∧ vp_in p1 bn) (gv_okl p0 p1 p2 p3) (¬ ln = 24) = 0 → ln9 = ln ∧ sa9 = sa ∧ sb9 = sb ∧ sr9 = sr ∧ su9 = su)) (fun (u9 : Nat × (Nat → Nat) × (Nat → Nat) × (Nat → Int32) × (Nat → Nat)) t9 => gv_W D (va_A [(h0, .inr (6, [.int th, .int (nI mo), .ref r2, .int st, .int pe, .ref r5, .ref r6, .ref r7, .int (nI nc), .int (nI bn), .ref r10, .ref r11, .ref r12, .ref r13, .int (nI ln), .ref r15, .ref r16, .ref r17, .ref r18, .int (nI ac)])), (r10, .inl (cI, 24, .inl (fun j => nI (sa j)))), (r11, .inl (cI, 24, .inl (fun j => nI (sb j)))), (r12, .inl (cI, 24, .inl sr)), (r13, .inl (cI, 24, .inl (fun j => nI (su j))))] sz) (match u9 with | (ln9, sa9, sb9, sr9, su9) => [(h0, .inr (6, [.int (gv_03 (vp_in p0 bn ∧ vp_in p1 bn) (gv_okl p0 p1 p2 p3) (¬ ln = 24)), .int (nI mo), .ref r2, .int st, .int pe, .ref r5, .ref r6, .ref r7, .int (nI nc), .int (nI bn), .ref r10, .ref r11, .ref r12, .ref r13, .int (nI ln9), .ref r15, .ref r16, .ref r17, .ref r18, .int (nI ac)])), (r10, .inl (cI, 24, .inl (fun j => nI (sa9 j)))), (r11, .inl (cI, 24, .inl (fun j => nI (sb9 j)))), (r12, .inl (cI, 24, .inl sr9)), (r13, .inl (cI, 24, .inl (fun j => nI (su9 j))))]) t9) (va_A [(h0, .inr (6, [.int th, .int (nI mo), .ref r2, .int st, .int pe, .ref r5, .ref r6, .ref r7, .int (nI nc), .int (nI bn), .ref r10, .ref r11, .ref r12, .ref r13, .int (nI ln), .ref r15, .ref r16, .ref r17, .ref r18, .int (nI ac)])), (r10, .inl (cI, 24, .inl (fun j => nI (sa j)))), (r11, .inl (cI, 24, .inl (fun j => nI (sb j)))), (r12, .inl (cI, 24, .inl sr)), (r13, .inl (cI, 24, .inl (fun j => nI (su j))))] sz)) 0 0 (va_A [(h0, .inr (6, [.int th, .int (nI mo), .ref r2, .int st, .int pe, .ref r5, .ref r6, .ref r7, .int (nI nc), .int (nI bn), .ref r10, .ref r11, .ref r12, .ref r13, .int (nI ln), .ref r15, .ref r16, .ref r17, .ref r18, .int (nI ac)])), (r10, .inl (cI, 24, .inl (fun j => nI (sa j)))), (r11, .inl (cI, 24, .inl (fun j => nI (sb j)))), (r12, .inl (cI, 24, .inl sr)), (r13, .inl (cI, 24, .inl (fun j => nI (su j))))] sz) := by
  refine Met.ofW (cc := cX6_line) (maxL := 7) (ret := (some .int)) (by decide) rfl ?_
  intro p e s m args below meth c s₁ B hml hv
  obtain ⟨rfl, hsz, hP, hK, hD0, hG⟩ := hv
  have hx := B.exec
  have hb := B.bytes
  have hr := B.returns
  have hts := atoms_spec (ws := wsX6_line) B.pre
  have hown : s.vm.findClass RX6 = some m.cls := findClass_of_methodNamed B.named
  have hlocks := B.notSynchronized
  subst hsz
  have hD := hD0.self (sz := s.heap.size)
  generalize hAe : va_A [(h0, .inr (6, [.int th, .int (nI mo), .ref r2, .int st, .int pe, .ref r5, .ref r6, .ref r7, .int (nI nc), .int (nI bn), .ref r10, .ref r11, .ref r12, .ref r13, .int (nI ln), .ref r15, .ref r16, .ref r17, .ref r18, .int (nI ac)])), (r10, .inl (cI, 24, .inl (fun j => nI (sa j)))), (r11, .inl (cI, 24, .inl (fun j => nI (sb j)))), (r12, .inl (cI, 24, .inl sr)), (r13, .inl (cI, 24, .inl (fun j => nI (su j))))] s.heap.size = A at hD ⊢
  have hA : ∀ q : Nat, s.heap.size ≤ q → A q := fun q h => by rw [← hAe]; exact Or.inr h
  have hS : va_S A s.heap s.heap [] := va_S.rf
  have hP : va_P D vwCl [(h0, .inr (6, [.int th, .int (nI mo), .ref r2, .int st, .int pe, .ref r5, .ref r6, .ref r7, .int (nI nc), .int (nI bn), .ref r10, .ref r11, .ref r12, .ref r13, .int (nI ln), .ref r15, .ref r16, .ref r17, .ref r18, .int (nI ac)])), (r10, .inl (cI, 24, .inl (fun j => nI (sa j)))), (r11, .inl (cI, 24, .inl (fun j => nI (sb j)))), (r12, .inl (cI, 24, .inl sr)), (r13, .inl (cI, 24, .inl (fun j => nI (su j))))] s.heap := hP
  have hl := lv_entry ([.ref h0, .int p0, .int p1, .int p2, .int p3]) (n := 7) (Nat.le_of_ble_eq_true rfl)
  rw [lg_entry_eq]
  generalize (lg_sl ([.ref h0, .int p0, .int p1, .int p2, .int p3]) ++ List.replicate (7 - (lg_sl ([.ref h0, .int p0, .int p1, .int p2, .int p3])).length) Slot.unset).toArray = ls at hl ⊢
  have hl : lv_has ls 7 [(0, .ref h0), (1, .int p0), (2, .int p1), (3, .int p2), (4, .int p3)] := hl
  refine lv_aload_n hx hb dX6_line_0 rfl (lv_at hl 0 rfl) ?_
  refine lv_iload_n hx hb dX6_line_1 rfl (lv_at hl 1 rfl) ?_
  refine gv_pi (va_runV (As := [.int p0]) (rest := []) ⟨hx, hb, hml, hown, hts⟩ (ct_X6_isBenchmark l D cI cJ s.heap.size h0 r2 r5 r6 r7 r10 r11 r12 r13 r15 r16 r17 r18 th st pe mo nc bn ln ac p0 (by omega)) (cwV 1 hts gX6_line_X6_isBenchmark rfl rfl rfl (by decide +kernel) ⟨Nat.le_of_ble_eq_true rfl, Nat.le_of_ble_eq_true rfl⟩) (gv_pV (wc := [(h0, .inr (6, [.int th, .int (nI mo), .ref r2, .int st, .int pe, .ref r5, .ref r6, .ref r7, .int (nI nc), .int (nI bn), .ref r10, .ref r11, .ref r12, .ref r13, .int (nI ln), .ref r15, .ref r16, .ref r17, .ref r18, .int (nI ac)]))]) hP hK hD hG [0] rfl (by decide) 0 rfl rfl rfl) rfl rfl hl.1 rfl (lv_room (Nat.le_of_ble_eq_true rfl)) dX6_line_2 ⟨Nat.le_of_ble_eq_true rfl, Nat.le_of_ble_eq_true rfl⟩) (fun q1 h1 => ?_)
  refine gv_mg (fun v : Int32 => v = gv_10 (vp_in p0 bn ∧ vp_in p1 bn)) 21 [] (fun v5 hv_v5 => ?_) (fun K_1 => ?_)
  · skip
    refine lv_istore (lv' := [(5, .int v5), (0, .ref h0), (1, .int p0), (2, .int p1), (3, .int p2), (4, .int p3)]) hx hb dX6_line_21 hl (by decide) rfl (fun ls hl => ?_)
    refine gv_mg (fun v : Int32 => v = gv_10 (gv_okl p0 p1 p2 p3)) 60 [] (fun v6 hv_v6 => ?_) (fun K_2 => ?_)
    · skip
      refine lv_istore (lv' := [(6, .int v6), (5, .int v5), (0, .ref h0), (1, .int p0), (2, .int p1), (3, .int p2), (4, .int p3)]) hx hb dX6_line_60 hl (by decide) rfl (fun ls hl => ?_)
      refine lv_aload_n hx hb dX6_line_62 rfl (lv_at hl 2 rfl) ?_
      refine gv_mg (fun v : Int32 => v = gv_03 (vp_in p0 bn ∧ vp_in p1 bn) (gv_okl p0 p1 p2 p3) (¬ ln = 24)) 95 [.ref h0] (fun tv hv_tv => ?_) (fun K_3 => ?_)
      · skip
        subst hv_tv
        refine gv_mi (wc := [(h0, .inr (6, [.int th, .int (nI mo), .ref r2, .int st, .int pe, .ref r5, .ref r6, .ref r7, .int (nI nc), .int (nI bn), .ref r10, .ref r11, .ref r12, .ref r13, .int (nI ln), .ref r15, .ref r16, .ref r17, .ref r18, .int (nI ac)]))]) (wr := [(r10, .inl (cI, 24, .inl (fun j => nI (sa j)))), (r11, .inl (cI, 24, .inl (fun j => nI (sb j)))), (r12, .inl (cI, 24, .inl sr)), (r13, .inl (cI, 24, .inl (fun j => nI (su j))))]) (w2 := (fun u => [(h0, .inr (6, [.int (gv_03 (vp_in p0 bn ∧ vp_in p1 bn) (gv_okl p0 p1 p2 p3) (¬ ln = 24)), .int (nI mo), .ref r2, .int st, .int pe, .ref r5, .ref r6, .ref r7, .int (nI nc), .int (nI bn), .ref r10, .ref r11, .ref r12, .ref r13, .int (nI ln), .ref r15, .ref r16, .ref r17, .ref r18, .int (nI ac)])), (r10, .inl (cI, 24, .inl (fun j => nI (sa j)))), (r11, .inl (cI, 24, .inl (fun j => nI (sb j)))), (r12, .inl (cI, 24, .inl sr)), (r13, .inl (cI, 24, .inl (fun j => nI (su j))))])) (va_runV (As := [.int (gv_03 (vp_in p0 bn ∧ vp_in p1 bn) (gv_okl p0 p1 p2 p3) (¬ ln = 24))]) (rest := []) ⟨hx, hb, hml, hown, hts⟩ (ct_X6_holds l D cI cJ s.heap.size h0 r2 r5 r6 r7 r10 r11 r12 r13 r15 r16 r17 r18 th st pe mo nc bn ln ac (gv_03 (vp_in p0 bn ∧ vp_in p1 bn) (gv_okl p0 p1 p2 p3) (¬ ln = 24))) (cwV 1 hts gX6_line_X6_holds rfl rfl rfl (by decide +kernel) ⟨Nat.le_of_ble_eq_true rfl, Nat.le_of_ble_eq_true rfl⟩) (gv_pV (wc := [(h0, .inr (6, [.int th, .int (nI mo), .ref r2, .int st, .int pe, .ref r5, .ref r6, .ref r7, .int (nI nc), .int (nI bn), .ref r10, .ref r11, .ref r12, .ref r13, .int (nI ln), .ref r15, .ref r16, .ref r17, .ref r18, .int (nI ac)]))]) hP hK hD hG [0] rfl (by decide) 0 rfl rfl rfl) rfl rfl hl.1 rfl (lv_room (Nat.le_of_ble_eq_true rfl)) dX6_line_95 ⟨Nat.le_of_ble_eq_true rfl, Nat.le_of_ble_eq_true rfl⟩) hP hD hS hA [0] [1, 2, 3, 4] [4, 0, 1, 2, 3] rfl rfl (by decide) (by decide) (fun u => rfl) (by decide) (fun rh u H locs hrh hP hD hS => ?_)
        have hP : va_P D vwCl [(h0, .inr (6, [.int (gv_03 (vp_in p0 bn ∧ vp_in p1 bn) (gv_okl p0 p1 p2 p3) (¬ ln = 24)), .int (nI mo), .ref r2, .int st, .int pe, .ref r5, .ref r6, .ref r7, .int (nI nc), .int (nI bn), .ref r10, .ref r11, .ref r12, .ref r13, .int (nI ln), .ref r15, .ref r16, .ref r17, .ref r18, .int (nI ac)])), (r10, .inl (cI, 24, .inl (fun j => nI (sa j)))), (r11, .inl (cI, 24, .inl (fun j => nI (sb j)))), (r12, .inl (cI, 24, .inl sr)), (r13, .inl (cI, 24, .inl (fun j => nI (su j))))] H := hP
        have hD : va_D A [(h0, .inr (6, [.int (gv_03 (vp_in p0 bn ∧ vp_in p1 bn) (gv_okl p0 p1 p2 p3) (¬ ln = 24)), .int (nI mo), .ref r2, .int st, .int pe, .ref r5, .ref r6, .ref r7, .int (nI nc), .int (nI bn), .ref r10, .ref r11, .ref r12, .ref r13, .int (nI ln), .ref r15, .ref r16, .ref r17, .ref r18, .int (nI ac)])), (r10, .inl (cI, 24, .inl (fun j => nI (sa j)))), (r11, .inl (cI, 24, .inl (fun j => nI (sb j)))), (r12, .inl (cI, 24, .inl sr)), (r13, .inl (cI, 24, .inl (fun j => nI (su j))))] := hD
        refine lv_if_ne (tgt := 103) hx hb dX6_line_98 (by decide) (fun c_98 => ?_) (fun c_98 => ?_)
        · skip
          have hok := gv_03z (gv_if1 hrh c_98)
          have hl24 : ln < 24 := by have := hok.2.2; omega
          obtain ⟨f, hf, ef⟩ := vp_in_of hok.1.1 (by omega)
          obtain ⟨t, ht, et⟩ := vp_in_of hok.1.2 (by omega)
          obtain ⟨k, -, hk, ek⟩ := gv_of64 (p := p3) (lo := 0) (hi := 1000) (by decide) (by decide) hok.2.1.2.2.1 hok.2.1.2.2.2
          rw [ef] at hl
          have hl : lv_has ls 7 [(6, .int v6), (5, .int v5), (0, .ref h0), (1, .int (nI f)), (2, .int p1), (3, .int p2), (4, .int p3)] := hl
          rw [et] at hl
          have hl : lv_has ls 7 [(6, .int v6), (5, .int v5), (0, .ref h0), (1, .int (nI f)), (2, .int (nI t)), (3, .int p2), (4, .int p3)] := hl
          rw [ek] at hl
          have hl : lv_has ls 7 [(6, .int v6), (5, .int v5), (0, .ref h0), (1, .int (nI f)), (2, .int (nI t)), (3, .int p2), (4, .int (nI k))] := hl
          refine lv_aload_n hx hb dX6_line_103 rfl (lv_at hl 2 rfl) ?_
          refine va_get (D := D) (ci := 6) (v := .ref r10) (C := RX6) (T := TX6) (N := 20) hx hb hts gv_in_X6_line_X6 hown hK hP 0 rfl rfl 10 (by decide) (hts (.fieldLink RX6 27 "GravimereModel" "from" "[I") (by decide +kernel)) (fun _ h9 => h9) rfl dX6_line_104 ?_
          refine lv_aload_n hx hb dX6_line_107 rfl (lv_at hl 2 rfl) ?_
          refine va_get (D := D) (ci := 6) (v := .int (nI ln)) (C := RX6) (T := TX6) (N := 20) hx hb hts gv_in_X6_line_X6 hown hK hP 0 rfl rfl 14 (by decide) (hts (.fieldLink RX6 123 "GravimereModel" "lines" "I") (by decide +kernel)) (fun _ h9 => h9) rfl dX6_line_108 ?_
          refine lv_iload_n hx hb dX6_line_111 rfl (lv_at hl 3 rfl) ?_
          refine gv_is hx hb hK hP hD hS 1 (k := ln) rfl (by omega) (by decide) dX6_line_112 (fun H locs hP hD hS => ?_)
          have hP : va_P D vwCl [(h0, .inr (6, [.int (gv_03 (vp_in p0 bn ∧ vp_in p1 bn) (gv_okl p0 p1 p2 p3) (¬ ln = 24)), .int (nI mo), .ref r2, .int st, .int pe, .ref r5, .ref r6, .ref r7, .int (nI nc), .int (nI bn), .ref r10, .ref r11, .ref r12, .ref r13, .int (nI ln), .ref r15, .ref r16, .ref r17, .ref r18, .int (nI ac)])), (r10, .inl (cI, 24, .inl (upd (fun j => nI (sa j)) ln (nI f)))), (r11, .inl (cI, 24, .inl (fun j => nI (sb j)))), (r12, .inl (cI, 24, .inl sr)), (r13, .inl (cI, 24, .inl (fun j => nI (su j))))] H := hP
          have hD : va_D A [(h0, .inr (6, [.int (gv_03 (vp_in p0 bn ∧ vp_in p1 bn) (gv_okl p0 p1 p2 p3) (¬ ln = 24)), .int (nI mo), .ref r2, .int st, .int pe, .ref r5, .ref r6, .ref r7, .int (nI nc), .int (nI bn), .ref r10, .ref r11, .ref r12, .ref r13, .int (nI ln), .ref r15, .ref r16, .ref r17, .ref r18, .int (nI ac)])), (r10, .inl (cI, 24, .inl (upd (fun j => nI (sa j)) ln (nI f)))), (r11, .inl (cI, 24, .inl (fun j => nI (sb j)))), (r12, .inl (cI, 24, .inl sr)), (r13, .inl (cI, 24, .inl (fun j => nI (su j))))] := hD
          have hRW : upd (fun j => nI (sa j)) ln (nI f) = fun j => nI (gv_un sa ln f j) := gv_upd_n sa ln f
          rw [hRW] at hP hD
          have hP : va_P D vwCl [(h0, .inr (6, [.int (gv_03 (vp_in p0 bn ∧ vp_in p1 bn) (gv_okl p0 p1 p2 p3) (¬ ln = 24)), .int (nI mo), .ref r2, .int st, .int pe, .ref r5, .ref r6, .ref r7, .int (nI nc), .int (nI bn), .ref r10, .ref r11, .ref r12, .ref r13, .int (nI ln), .ref r15, .ref r16, .ref r17, .ref r18, .int (nI ac)])), (r10, .inl (cI, 24, .inl (fun j => nI (gv_un sa ln f j)))), (r11, .inl (cI, 24, .inl (fun j => nI (sb j)))), (r12, .inl (cI, 24, .inl sr)), (r13, .inl (cI, 24, .inl (fun j => nI (su j))))] H := hP
          have hD : va_D A [(h0, .inr (6, [.int (gv_03 (vp_in p0 bn ∧ vp_in p1 bn) (gv_okl p0 p1 p2 p3) (¬ ln = 24)), .int (nI mo), .ref r2, .int st, .int pe, .ref r5, .ref r6, .ref r7, .int (nI nc), .int (nI bn), .ref r10, .ref r11, .ref r12, .ref r13, .int (nI ln), .ref r15, .ref r16, .ref r17, .ref r18, .int (nI ac)])), (r10, .inl (cI, 24, .inl (fun j => nI (gv_un sa ln f j)))), (r11, .inl (cI, 24, .inl (fun j => nI (sb j)))), (r12, .inl (cI, 24, .inl sr)), (r13, .inl (cI, 24, .inl (fun j => nI (su j))))] := hD
          refine lv_aload_n hx hb dX6_line_113 rfl (lv_at hl 2 rfl) ?_
          refine va_get (D := D) (ci := 6) (v := .ref r11) (C := RX6) (T := TX6) (N := 20) hx hb hts gv_in_X6_line_X6 hown hK hP 0 rfl rfl 11 (by decide) (hts (.fieldLink RX6 30 "GravimereModel" "to" "[I") (by decide +kernel)) (fun _ h9 => h9) rfl dX6_line_114 ?_
          refine lv_aload_n hx hb dX6_line_117 rfl (lv_at hl 2 rfl) ?_
          refine va_get (D := D) (ci := 6) (v := .int (nI ln)) (C := RX6) (T := TX6) (N := 20) hx hb hts gv_in_X6_line_X6 hown hK hP 0 rfl rfl 14 (by decide) (hts (.fieldLink RX6 123 "GravimereModel" "lines" "I") (by decide +kernel)) (fun _ h9 => h9) rfl dX6_line_118 ?_
          refine lv_iload_n hx hb dX6_line_121 rfl (lv_at hl 4 rfl) ?_
          refine gv_is hx hb hK hP hD hS 2 (k := ln) rfl (by omega) (by decide) dX6_line_122 (fun H locs hP hD hS => ?_)
          have hP : va_P D vwCl [(h0, .inr (6, [.int (gv_03 (vp_in p0 bn ∧ vp_in p1 bn) (gv_okl p0 p1 p2 p3) (¬ ln = 24)), .int (nI mo), .ref r2, .int st, .int pe, .ref r5, .ref r6, .ref r7, .int (nI nc), .int (nI bn), .ref r10, .ref r11, .ref r12, .ref r13, .int (nI ln), .ref r15, .ref r16, .ref r17, .ref r18, .int (nI ac)])), (r10, .inl (cI, 24, .inl (fun j => nI (gv_un sa ln f j)))), (r11, .inl (cI, 24, .inl (upd (fun j => nI (sb j)) ln (nI t)))), (r12, .inl (cI, 24, .inl sr)), (r13, .inl (cI, 24, .inl (fun j => nI (su j))))] H := hP
          have hD : va_D A [(h0, .inr (6, [.int (gv_03 (vp_in p0 bn ∧ vp_in p1 bn) (gv_okl p0 p1 p2 p3) (¬ ln = 24)), .int (nI mo), .ref r2, .int st, .int pe, .ref r5, .ref r6, .ref r7, .int (nI nc), .int (nI bn), .ref r10, .ref r11, .ref r12, .ref r13, .int (nI ln), .ref r15, .ref r16, .ref r17, .ref r18, .int (nI ac)])), (r10, .inl (cI, 24, .inl (fun j => nI (gv_un sa ln f j)))), (r11, .inl (cI, 24, .inl (upd (fun j => nI (sb j)) ln (nI t)))), (r12, .inl (cI, 24, .inl sr)), (r13, .inl (cI, 24, .inl (fun j => nI (su j))))] := hD
          have hRW : upd (fun j => nI (sb j)) ln (nI t) = fun j => nI (gv_un sb ln t j) := gv_upd_n sb ln t
          rw [hRW] at hP hD
          have hP : va_P D vwCl [(h0, .inr (6, [.int (gv_03 (vp_in p0 bn ∧ vp_in p1 bn) (gv_okl p0 p1 p2 p3) (¬ ln = 24)), .int (nI mo), .ref r2, .int st, .int pe, .ref r5, .ref r6, .ref r7, .int (nI nc), .int (nI bn), .ref r10, .ref r11, .ref r12, .ref r13, .int (nI ln), .ref r15, .ref r16, .ref r17, .ref r18, .int (nI ac)])), (r10, .inl (cI, 24, .inl (fun j => nI (gv_un sa ln f j)))), (r11, .inl (cI, 24, .inl (fun j => nI (gv_un sb ln t j)))), (r12, .inl (cI, 24, .inl sr)), (r13, .inl (cI, 24, .inl (fun j => nI (su j))))] H := hP
          have hD : va_D A [(h0, .inr (6, [.int (gv_03 (vp_in p0 bn ∧ vp_in p1 bn) (gv_okl p0 p1 p2 p3) (¬ ln = 24)), .int (nI mo), .ref r2, .int st, .int pe, .ref r5, .ref r6, .ref r7, .int (nI nc), .int (nI bn), .ref r10, .ref r11, .ref r12, .ref r13, .int (nI ln), .ref r15, .ref r16, .ref r17, .ref r18, .int (nI ac)])), (r10, .inl (cI, 24, .inl (fun j => nI (gv_un sa ln f j)))), (r11, .inl (cI, 24, .inl (fun j => nI (gv_un sb ln t j)))), (r12, .inl (cI, 24, .inl sr)), (r13, .inl (cI, 24, .inl (fun j => nI (su j))))] := hD
          refine lv_aload_n hx hb dX6_line_123 rfl (lv_at hl 2 rfl) ?_
          refine va_get (D := D) (ci := 6) (v := .ref r12) (C := RX6) (T := TX6) (N := 20) hx hb hts gv_in_X6_line_X6 hown hK hP 0 rfl rfl 12 (by decide) (hts (.fieldLink RX6 33 "GravimereModel" "higher" "[I") (by decide +kernel)) (fun _ h9 => h9) rfl dX6_line_124 ?_
          refine lv_aload_n hx hb dX6_line_127 rfl (lv_at hl 2 rfl) ?_
          refine va_get (D := D) (ci := 6) (v := .int (nI ln)) (C := RX6) (T := TX6) (N := 20) hx hb hts gv_in_X6_line_X6 hown hK hP 0 rfl rfl 14 (by decide) (hts (.fieldLink RX6 123 "GravimereModel" "lines" "I") (by decide +kernel)) (fun _ h9 => h9) rfl dX6_line_128 ?_
          refine lv_iload_n hx hb dX6_line_131 rfl (lv_at hl 5 rfl) ?_
          refine gv_is hx hb hK hP hD hS 3 (k := ln) rfl (by omega) (by decide) dX6_line_132 (fun H locs hP hD hS => ?_)
          have hP : va_P D vwCl [(h0, .inr (6, [.int (gv_03 (vp_in p0 bn ∧ vp_in p1 bn) (gv_okl p0 p1 p2 p3) (¬ ln = 24)), .int (nI mo), .ref r2, .int st, .int pe, .ref r5, .ref r6, .ref r7, .int (nI nc), .int (nI bn), .ref r10, .ref r11, .ref r12, .ref r13, .int (nI ln), .ref r15, .ref r16, .ref r17, .ref r18, .int (nI ac)])), (r10, .inl (cI, 24, .inl (fun j => nI (gv_un sa ln f j)))), (r11, .inl (cI, 24, .inl (fun j => nI (gv_un sb ln t j)))), (r12, .inl (cI, 24, .inl (upd sr ln p2))), (r13, .inl (cI, 24, .inl (fun j => nI (su j))))] H := hP
          have hD : va_D A [(h0, .inr (6, [.int (gv_03 (vp_in p0 bn ∧ vp_in p1 bn) (gv_okl p0 p1 p2 p3) (¬ ln = 24)), .int (nI mo), .ref r2, .int st, .int pe, .ref r5, .ref r6, .ref r7, .int (nI nc), .int (nI bn), .ref r10, .ref r11, .ref r12, .ref r13, .int (nI ln), .ref r15, .ref r16, .ref r17, .ref r18, .int (nI ac)])), (r10, .inl (cI, 24, .inl (fun j => nI (gv_un sa ln f j)))), (r11, .inl (cI, 24, .inl (fun j => nI (gv_un sb ln t j)))), (r12, .inl (cI, 24, .inl (upd sr ln p2))), (r13, .inl (cI, 24, .inl (fun j => nI (su j))))] := hD
          refine lv_aload_n hx hb dX6_line_133 rfl (lv_at hl 2 rfl) ?_
          refine va_get (D := D) (ci := 6) (v := .ref r13) (C := RX6) (T := TX6) (N := 20) hx hb hts gv_in_X6_line_X6 hown hK hP 0 rfl rfl 13 (by decide) (hts (.fieldLink RX6 36 "GravimereModel" "unsure" "[I") (by decide +kernel)) (fun _ h9 => h9) rfl dX6_line_134 ?_
          refine lv_aload_n hx hb dX6_line_137 rfl (lv_at hl 2 rfl) ?_
          refine va_get (D := D) (ci := 6) (v := .int (nI ln)) (C := RX6) (T := TX6) (N := 20) hx hb hts gv_in_X6_line_X6 hown hK hP 0 rfl rfl 14 (by decide) (hts (.fieldLink RX6 123 "GravimereModel" "lines" "I") (by decide +kernel)) (fun _ h9 => h9) rfl dX6_line_138 ?_
          refine lv_iload hx hb dX6_line_141 (lv_at hl 6 rfl) ?_
          refine gv_is hx hb hK hP hD hS 4 (k := ln) rfl (by omega) (by decide) dX6_line_143 (fun H locs hP hD hS => ?_)
          have hP : va_P D vwCl [(h0, .inr (6, [.int (gv_03 (vp_in p0 bn ∧ vp_in p1 bn) (gv_okl p0 p1 p2 p3) (¬ ln = 24)), .int (nI mo), .ref r2, .int st, .int pe, .ref r5, .ref r6, .ref r7, .int (nI nc), .int (nI bn), .ref r10, .ref r11, .ref r12, .ref r13, .int (nI ln), .ref r15, .ref r16, .ref r17, .ref r18, .int (nI ac)])), (r10, .inl (cI, 24, .inl (fun j => nI (gv_un sa ln f j)))), (r11, .inl (cI, 24, .inl (fun j => nI (gv_un sb ln t j)))), (r12, .inl (cI, 24, .inl (upd sr ln p2))), (r13, .inl (cI, 24, .inl (upd (fun j => nI (su j)) ln (nI k))))] H := hP
          have hD : va_D A [(h0, .inr (6, [.int (gv_03 (vp_in p0 bn ∧ vp_in p1 bn) (gv_okl p0 p1 p2 p3) (¬ ln = 24)), .int (nI mo), .ref r2, .int st, .int pe, .ref r5, .ref r6, .ref r7, .int (nI nc), .int (nI bn), .ref r10, .ref r11, .ref r12, .ref r13, .int (nI ln), .ref r15, .ref r16, .ref r17, .ref r18, .int (nI ac)])), (r10, .inl (cI, 24, .inl (fun j => nI (gv_un sa ln f j)))), (r11, .inl (cI, 24, .inl (fun j => nI (gv_un sb ln t j)))), (r12, .inl (cI, 24, .inl (upd sr ln p2))), (r13, .inl (cI, 24, .inl (upd (fun j => nI (su j)) ln (nI k))))] := hD
          have hRW : upd (fun j => nI (su j)) ln (nI k) = fun j => nI (gv_un su ln k j) := gv_upd_n su ln k
          rw [hRW] at hP hD
          have hP : va_P D vwCl [(h0, .inr (6, [.int (gv_03 (vp_in p0 bn ∧ vp_in p1 bn) (gv_okl p0 p1 p2 p3) (¬ ln = 24)), .int (nI mo), .ref r2, .int st, .int pe, .ref r5, .ref r6, .ref r7, .int (nI nc), .int (nI bn), .ref r10, .ref r11, .ref r12, .ref r13, .int (nI ln), .ref r15, .ref r16, .ref r17, .ref r18, .int (nI ac)])), (r10, .inl (cI, 24, .inl (fun j => nI (gv_un sa ln f j)))), (r11, .inl (cI, 24, .inl (fun j => nI (gv_un sb ln t j)))), (r12, .inl (cI, 24, .inl (upd sr ln p2))), (r13, .inl (cI, 24, .inl (fun j => nI (gv_un su ln k j))))] H := hP
          have hD : va_D A [(h0, .inr (6, [.int (gv_03 (vp_in p0 bn ∧ vp_in p1 bn) (gv_okl p0 p1 p2 p3) (¬ ln = 24)), .int (nI mo), .ref r2, .int st, .int pe, .ref r5, .ref r6, .ref r7, .int (nI nc), .int (nI bn), .ref r10, .ref r11, .ref r12, .ref r13, .int (nI ln), .ref r15, .ref r16, .ref r17, .ref r18, .int (nI ac)])), (r10, .inl (cI, 24, .inl (fun j => nI (gv_un sa ln f j)))), (r11, .inl (cI, 24, .inl (fun j => nI (gv_un sb ln t j)))), (r12, .inl (cI, 24, .inl (upd sr ln p2))), (r13, .inl (cI, 24, .inl (fun j => nI (gv_un su ln k j))))] := hD
          refine lv_aload_n hx hb dX6_line_144 rfl (lv_at hl 2 rfl) ?_
          refine lv_dup hx hb dX6_line_145 rfl ?_
          refine va_get (D := D) (ci := 6) (v := .int (nI ln)) (C := RX6) (T := TX6) (N := 20) hx hb hts gv_in_X6_line_X6 hown hK hP 0 rfl rfl 14 (by decide) (hts (.fieldLink RX6 123 "GravimereModel" "lines" "I") (by decide +kernel)) (fun _ h9 => h9) rfl dX6_line_146 ?_
          refine lv_iconst (v := nI 1) hx hb dX6_line_149 (by decide) ?_
          refine lv_iadd hx hb dX6_line_150 ?_
          refine gv_wi (nI_add ln 1) ?_
          refine va_put (D := D) (ci := 6) (v := .int (nI (ln + 1))) (ty := .int) (C := RX6) (T := TX6) (N := 20) hx hb hts gv_in_X6_line_X6 tyX6 tyX6_ok nmX6 hown hK hP hD hS 0 rfl rfl 14 (by decide) (hts (.fieldLink RX6 123 "GravimereModel" "lines" "I") (by decide +kernel)) (fun _ h9 => h9) rfl (by decide +kernel) rfl rfl (Nat.le_of_ble_eq_true rfl) dX6_line_151 (fun H locs hP hD hS => ?_)
          have hP : va_P D vwCl [(h0, .inr (6, [.int (gv_03 (vp_in p0 bn ∧ vp_in p1 bn) (gv_okl p0 p1 p2 p3) (¬ ln = 24)), .int (nI mo), .ref r2, .int st, .int pe, .ref r5, .ref r6, .ref r7, .int (nI nc), .int (nI bn), .ref r10, .ref r11, .ref r12, .ref r13, .int (nI (ln + 1)), .ref r15, .ref r16, .ref r17, .ref r18, .int (nI ac)])), (r10, .inl (cI, 24, .inl (fun j => nI (gv_un sa ln f j)))), (r11, .inl (cI, 24, .inl (fun j => nI (gv_un sb ln t j)))), (r12, .inl (cI, 24, .inl (upd sr ln p2))), (r13, .inl (cI, 24, .inl (fun j => nI (gv_un su ln k j))))] H := hP
          have hD : va_D A [(h0, .inr (6, [.int (gv_03 (vp_in p0 bn ∧ vp_in p1 bn) (gv_okl p0 p1 p2 p3) (¬ ln = 24)), .int (nI mo), .ref r2, .int st, .int pe, .ref r5, .ref r6, .ref r7, .int (nI nc), .int (nI bn), .ref r10, .ref r11, .ref r12, .ref r13, .int (nI (ln + 1)), .ref r15, .ref r16, .ref r17, .ref r18, .int (nI ac)])), (r10, .inl (cI, 24, .inl (fun j => nI (gv_un sa ln f j)))), (r11, .inl (cI, 24, .inl (fun j => nI (gv_un sb ln t j)))), (r12, .inl (cI, 24, .inl (upd sr ln p2))), (r13, .inl (cI, 24, .inl (fun j => nI (gv_un su ln k j))))] := hD
          refine lv_aload_n hx hb dX6_line_154 rfl (lv_at hl 2 rfl) ?_
          refine va_get (D := D) (ci := 6) (v := .int (nI (ln + 1))) (C := RX6) (T := TX6) (N := 20) hx hb hts gv_in_X6_line_X6 hown hK hP 0 rfl rfl 14 (by decide) (hts (.fieldLink RX6 123 "GravimereModel" "lines" "I") (by decide +kernel)) (fun _ h9 => h9) rfl dX6_line_155 ?_
          refine lv_iconst (v := nI 1) hx hb dX6_line_158 (by decide) ?_
          refine lv_isub hx hb dX6_line_159 ?_
          refine gv_wi (nI_pred ln) ?_
          have hpo : match (ln + 1, gv_un sa ln f, gv_un sb ln t, upd sr ln p2, gv_un su ln k) with | (ln9, sa9, sb9, sr9, su9) => (∀ f t k, f < bn → t < bn → k ≤ 1000 → p0 = nI f → p1 = nI t → p3 = nI k → gv_okl p0 p1 p2 p3 → ln < 24 → (nI ln) = nI ln ∧ ln9 = ln + 1 ∧ sa9 = gv_un sa ln f ∧ sb9 = gv_un sb ln t ∧ sr9 = upd sr ln p2 ∧ su9 = gv_un su ln k) ∧ (¬ gv_03 (vp_in p0 bn ∧ vp_in p1 bn) (gv_okl p0 p1 p2 p3) (¬ ln = 24) = 0 → ln9 = ln ∧ sa9 = sa ∧ sb9 = sb ∧ sr9 = sr ∧ su9 = su) := by
            refine ⟨fun f2 t2 k2 hf2 ht2 hk2 ef2 et2 ek2 _ _ => ?_, fun z => absurd (gv_if1 hrh c_98) z⟩
            cases gv_inj (ef2.symm.trans ef) (by omega) (by omega)
            cases gv_inj (et2.symm.trans et) (by omega) (by omega)
            cases gv_inj (ek2.symm.trans ek) (by omega) (by omega)
            exact ⟨rfl, rfl, rfl, rfl, rfl, rfl⟩
          have hP9 : va_P D vwCl [(h0, .inr (6, [.int (gv_03 (vp_in p0 bn ∧ vp_in p1 bn) (gv_okl p0 p1 p2 p3) (¬ ln = 24)), .int (nI mo), .ref r2, .int st, .int pe, .ref r5, .ref r6, .ref r7, .int (nI nc), .int (nI bn), .ref r10, .ref r11, .ref r12, .ref r13, .int (nI (ln + 1)), .ref r15, .ref r16, .ref r17, .ref r18, .int (nI ac)])), (r10, .inl (cI, 24, .inl (fun j => nI ((gv_un sa ln f) j)))), (r11, .inl (cI, 24, .inl (fun j => nI ((gv_un sb ln t) j)))), (r12, .inl (cI, 24, .inl (upd sr ln p2))), (r13, .inl (cI, 24, .inl (fun j => nI ((gv_un su ln k) j))))] H := hP
          have hD9 : va_D A [(h0, .inr (6, [.int (gv_03 (vp_in p0 bn ∧ vp_in p1 bn) (gv_okl p0 p1 p2 p3) (¬ ln = 24)), .int (nI mo), .ref r2, .int st, .int pe, .ref r5, .ref r6, .ref r7, .int (nI nc), .int (nI bn), .ref r10, .ref r11, .ref r12, .ref r13, .int (nI (ln + 1)), .ref r15, .ref r16, .ref r17, .ref r18, .int (nI ac)])), (r10, .inl (cI, 24, .inl (fun j => nI ((gv_un sa ln f) j)))), (r11, .inl (cI, 24, .inl (fun j => nI ((gv_un sb ln t) j)))), (r12, .inl (cI, 24, .inl (upd sr ln p2))), (r13, .inl (cI, 24, .inl (fun j => nI ((gv_un su ln k) j))))] := hD
          exact W.iret (v := nI ln) hx hb hr (fun t9 ht9 hW9 => ⟨⟨(nI ln), (ln + 1, gv_un sa ln f, gv_un sb ln t, upd sr ln p2, gv_un su ln k), rfl, hpo, by rw [ht9]; exact hP9, hD9⟩, hS.F ht9⟩) hS.2.2 dX6_line_160
        · skip
          have hno := gv_if0 hrh c_98
          refine lv_iconst (v := nI 0) hx hb dX6_line_101 (by decide) ?_
          have hpo : match (ln, sa, sb, sr, su) with | (ln9, sa9, sb9, sr9, su9) => (∀ f t k, f < bn → t < bn → k ≤ 1000 → p0 = nI f → p1 = nI t → p3 = nI k → gv_okl p0 p1 p2 p3 → ln < 24 → (nI 0) = nI ln ∧ ln9 = ln + 1 ∧ sa9 = gv_un sa ln f ∧ sb9 = gv_un sb ln t ∧ sr9 = upd sr ln p2 ∧ su9 = gv_un su ln k) ∧ (¬ gv_03 (vp_in p0 bn ∧ vp_in p1 bn) (gv_okl p0 p1 p2 p3) (¬ ln = 24) = 0 → ln9 = ln ∧ sa9 = sa ∧ sb9 = sb ∧ sr9 = sr ∧ su9 = su) := by
            exact ⟨fun f t k hf ht hk ef et ek hok hl => absurd (gv_03d ⟨by rw [ef]; exact vp_in_nI hf (by omega), by rw [et]; exact vp_in_nI ht (by omega)⟩ hok (by omega)).symm hno, fun _ => ⟨rfl, rfl, rfl, rfl, rfl⟩⟩
          have hP9 : va_P D vwCl [(h0, .inr (6, [.int (gv_03 (vp_in p0 bn ∧ vp_in p1 bn) (gv_okl p0 p1 p2 p3) (¬ ln = 24)), .int (nI mo), .ref r2, .int st, .int pe, .ref r5, .ref r6, .ref r7, .int (nI nc), .int (nI bn), .ref r10, .ref r11, .ref r12, .ref r13, .int (nI ln), .ref r15, .ref r16, .ref r17, .ref r18, .int (nI ac)])), (r10, .inl (cI, 24, .inl (fun j => nI (sa j)))), (r11, .inl (cI, 24, .inl (fun j => nI (sb j)))), (r12, .inl (cI, 24, .inl sr)), (r13, .inl (cI, 24, .inl (fun j => nI (su j))))] H := hP
          have hD9 : va_D A [(h0, .inr (6, [.int (gv_03 (vp_in p0 bn ∧ vp_in p1 bn) (gv_okl p0 p1 p2 p3) (¬ ln = 24)), .int (nI mo), .ref r2, .int st, .int pe, .ref r5, .ref r6, .ref r7, .int (nI nc), .int (nI bn), .ref r10, .ref r11, .ref r12, .ref r13, .int (nI ln), .ref r15, .ref r16, .ref r17, .ref r18, .int (nI ac)])), (r10, .inl (cI, 24, .inl (fun j => nI (sa j)))), (r11, .inl (cI, 24, .inl (fun j => nI (sb j)))), (r12, .inl (cI, 24, .inl sr)), (r13, .inl (cI, 24, .inl (fun j => nI (su j))))] := hD
          exact W.iret (v := nI 0) hx hb hr (fun t9 ht9 hW9 => ⟨⟨(nI 0), (ln, sa, sb, sr, su), rfl, hpo, by rw [ht9]; exact hP9, hD9⟩, hS.F ht9⟩) hS.2.2 dX6_line_102
      · skip
        refine lv_iload hx hb dX6_line_63 (lv_at hl 1 rfl) ?_
        refine lv_if_ne (tgt := 72) hx hb dX6_line_65 (by decide) (fun c_65 => ?_) (fun c_65 => ?_)
        · skip
          refine lv_iload hx hb dX6_line_72 (lv_at hl 0 rfl) ?_
          refine lv_if_ne (tgt := 81) hx hb dX6_line_74 (by decide) (fun c_74 => ?_) (fun c_74 => ?_)
          · skip
            refine lv_aload_n hx hb dX6_line_81 rfl (lv_at hl 2 rfl) ?_
            refine va_get (D := D) (ci := 6) (v := .int (nI ln)) (C := RX6) (T := TX6) (N := 20) hx hb hts gv_in_X6_line_X6 hown hK hP 0 rfl rfl 14 (by decide) (hts (.fieldLink RX6 123 "GravimereModel" "lines" "I") (by decide +kernel)) (fun _ h9 => h9) rfl dX6_line_82 ?_
            refine lv_bipush (v := nI 24) hx hb dX6_line_85 (by decide) ?_
            refine lv_icmp_ne (tgt := 94) hx hb dX6_line_87 (by decide) (fun c_87 => ?_) (fun c_87 => ?_)
            · skip
              have c_87 := (not_congr (nI_eq (a := ln) (b := 24) (by omega) (by omega))).mp c_87
              refine lv_iconst (v := nI 0) hx hb dX6_line_94 (by decide) ?_
              exact K_3 _ (by first | exact gv_03a (gv_if0 hv_v5 c_65) | exact gv_03b (gv_if1 hv_v5 c_65) (gv_if0 hv_v6 c_74) | exact gv_03c (gv_if1 hv_v5 c_65) (gv_if1 hv_v6 c_74) (fun z => z c_87) | exact gv_03d (gv_if1 hv_v5 c_65) (gv_if1 hv_v6 c_74) c_87)
            · skip
              have c_87 := (nI_eq (a := ln) (b := 24) (by omega) (by omega)).mp c_87
              refine lv_iconst (v := nI 3) hx hb dX6_line_90 (by decide) ?_
              refine lv_goto (tgt := 95) hx hb dX6_line_91 (by decide) ?_
              exact K_3 _ (by first | exact gv_03a (gv_if0 hv_v5 c_65) | exact gv_03b (gv_if1 hv_v5 c_65) (gv_if0 hv_v6 c_74) | exact gv_03c (gv_if1 hv_v5 c_65) (gv_if1 hv_v6 c_74) (fun z => z c_87) | exact gv_03d (gv_if1 hv_v5 c_65) (gv_if1 hv_v6 c_74) c_87)
          · skip
            refine lv_iconst (v := nI 2) hx hb dX6_line_77 (by decide) ?_
            refine lv_goto (tgt := 95) hx hb dX6_line_78 (by decide) ?_
            exact K_3 _ (by first | exact gv_03a (gv_if0 hv_v5 c_65) | exact gv_03b (gv_if1 hv_v5 c_65) (gv_if0 hv_v6 c_74) | exact gv_03c (gv_if1 hv_v5 c_65) (gv_if1 hv_v6 c_74) (fun z => z c_87) | exact gv_03d (gv_if1 hv_v5 c_65) (gv_if1 hv_v6 c_74) c_87)
        · skip
          refine lv_iconst (v := nI 1) hx hb dX6_line_68 (by decide) ?_
          refine lv_goto (tgt := 95) hx hb dX6_line_69 (by decide) ?_
          exact K_3 _ (by first | exact gv_03a (gv_if0 hv_v5 c_65) | exact gv_03b (gv_if1 hv_v5 c_65) (gv_if0 hv_v6 c_74) | exact gv_03c (gv_if1 hv_v5 c_65) (gv_if1 hv_v6 c_74) (fun z => z c_87) | exact gv_03d (gv_if1 hv_v5 c_65) (gv_if1 hv_v6 c_74) c_87)
    · skip
      refine lv_iload_n hx hb dX6_line_23 rfl (lv_at hl 2 rfl) ?_
      refine lv_iload_n hx hb dX6_line_24 rfl (lv_at hl 3 rfl) ?_
      refine lv_icmp_eq (tgt := 59) hx hb dX6_line_25 (by decide) (fun c_25 => ?_) (fun c_25 => ?_)
      · skip
        refine lv_iconst (v := nI 0) hx hb dX6_line_59 (by decide) ?_
        exact K_2 _ (by first | exact gv_10t ⟨c_25, gv_if1 h3 c_39, gv_if1 h4 c_52⟩ | exact gv_10f (fun z => z.1 c_25) | exact gv_10f (fun z => gv_if0 h3 c_39 z.2.1) | exact gv_10f (fun z => gv_if0 h4 c_52 z.2.2))
      · skip
        refine lv_iload_n hx hb dX6_line_28 rfl (lv_at hl 4 rfl) ?_
        refine lv_i2l (v := p2.toInt64) hx hb dX6_line_29 rfl ?_
        refine lv_ldc2 hx hb hown (hts (.constantLong RX6 121 (-1000000)) (by decide +kernel)) dX6_line_30 ?_
        refine lv_ldc2 hx hb hown (hts (.constantLong RX6 90 (1000000)) (by decide +kernel)) dX6_line_33 ?_
        refine gv_pi (va_runS (As := [.long p2.toInt64, .long (-1000000), .long 1000000]) (rest := []) ⟨hx, hb, hml, hown, hts⟩ (ct_X6_isIn l p2.toInt64 (-1000000) 1000000) (va_cwS 3 hts gX6_line_X6_isIn rfl rfl rfl (by decide +kernel) ⟨Nat.le_of_ble_eq_true rfl, Nat.le_of_ble_eq_true rfl⟩) gv_p0 rfl rfl hl.1 rfl (lv_room (Nat.le_of_ble_eq_true rfl)) dX6_line_36 ⟨Nat.le_of_ble_eq_true rfl, Nat.le_of_ble_eq_true rfl⟩) (fun q3 h3 => ?_)
        refine lv_if_eq (tgt := 59) hx hb dX6_line_39 (by decide) (fun c_39 => ?_) (fun c_39 => ?_)
        · skip
          refine lv_iconst (v := nI 0) hx hb dX6_line_59 (by decide) ?_
          exact K_2 _ (by first | exact gv_10t ⟨c_25, gv_if1 h3 c_39, gv_if1 h4 c_52⟩ | exact gv_10f (fun z => z.1 c_25) | exact gv_10f (fun z => gv_if0 h3 c_39 z.2.1) | exact gv_10f (fun z => gv_if0 h4 c_52 z.2.2))
        · skip
          refine lv_iload hx hb dX6_line_42 (lv_at hl 5 rfl) ?_
          refine lv_i2l (v := p3.toInt64) hx hb dX6_line_44 rfl ?_
          refine lv_lconst (v := 0) hx hb dX6_line_45 (by decide) ?_
          refine lv_ldc2 hx hb hown (hts (.constantLong RX6 105 (1000)) (by decide +kernel)) dX6_line_46 ?_
          refine gv_pi (va_runS (As := [.long p3.toInt64, .long 0, .long 1000]) (rest := []) ⟨hx, hb, hml, hown, hts⟩ (ct_X6_isIn l p3.toInt64 0 1000) (va_cwS 3 hts gX6_line_X6_isIn rfl rfl rfl (by decide +kernel) ⟨Nat.le_of_ble_eq_true rfl, Nat.le_of_ble_eq_true rfl⟩) gv_p0 rfl rfl hl.1 rfl (lv_room (Nat.le_of_ble_eq_true rfl)) dX6_line_49 ⟨Nat.le_of_ble_eq_true rfl, Nat.le_of_ble_eq_true rfl⟩) (fun q4 h4 => ?_)
          refine lv_if_eq (tgt := 59) hx hb dX6_line_52 (by decide) (fun c_52 => ?_) (fun c_52 => ?_)
          · skip
            refine lv_iconst (v := nI 0) hx hb dX6_line_59 (by decide) ?_
            exact K_2 _ (by first | exact gv_10t ⟨c_25, gv_if1 h3 c_39, gv_if1 h4 c_52⟩ | exact gv_10f (fun z => z.1 c_25) | exact gv_10f (fun z => gv_if0 h3 c_39 z.2.1) | exact gv_10f (fun z => gv_if0 h4 c_52 z.2.2))
          · skip
            refine lv_iconst (v := nI 1) hx hb dX6_line_55 (by decide) ?_
            refine lv_goto (tgt := 60) hx hb dX6_line_56 (by decide) ?_
            exact K_2 _ (by first | exact gv_10t ⟨c_25, gv_if1 h3 c_39, gv_if1 h4 c_52⟩ | exact gv_10f (fun z => z.1 c_25) | exact gv_10f (fun z => gv_if0 h3 c_39 z.2.1) | exact gv_10f (fun z => gv_if0 h4 c_52 z.2.2))
  · skip
    refine lv_if_eq (tgt := 20) hx hb dX6_line_5 (by decide) (fun c_5 => ?_) (fun c_5 => ?_)
    · skip
      refine lv_iconst (v := nI 0) hx hb dX6_line_20 (by decide) ?_
      exact K_1 _ (by first | exact gv_10t ⟨gv_if1 h1 c_5, gv_if1 h2 c_13⟩ | exact gv_10f (fun z => gv_if0 h1 c_5 z.1) | exact gv_10f (fun z => gv_if0 h2 c_13 z.2))
    · skip
      refine lv_aload_n hx hb dX6_line_8 rfl (lv_at hl 0 rfl) ?_
      refine lv_iload_n hx hb dX6_line_9 rfl (lv_at hl 2 rfl) ?_
      refine gv_pi (va_runV (As := [.int p1]) (rest := []) ⟨hx, hb, hml, hown, hts⟩ (ct_X6_isBenchmark l D cI cJ s.heap.size h0 r2 r5 r6 r7 r10 r11 r12 r13 r15 r16 r17 r18 th st pe mo nc bn ln ac p1 (by omega)) (cwV 1 hts gX6_line_X6_isBenchmark rfl rfl rfl (by decide +kernel) ⟨Nat.le_of_ble_eq_true rfl, Nat.le_of_ble_eq_true rfl⟩) (gv_pV (wc := [(h0, .inr (6, [.int th, .int (nI mo), .ref r2, .int st, .int pe, .ref r5, .ref r6, .ref r7, .int (nI nc), .int (nI bn), .ref r10, .ref r11, .ref r12, .ref r13, .int (nI ln), .ref r15, .ref r16, .ref r17, .ref r18, .int (nI ac)]))]) hP hK hD hG [0] rfl (by decide) 0 rfl rfl rfl) rfl rfl hl.1 rfl (lv_room (Nat.le_of_ble_eq_true rfl)) dX6_line_10 ⟨Nat.le_of_ble_eq_true rfl, Nat.le_of_ble_eq_true rfl⟩) (fun q2 h2 => ?_)
      refine lv_if_eq (tgt := 20) hx hb dX6_line_13 (by decide) (fun c_13 => ?_) (fun c_13 => ?_)
      · skip
        refine lv_iconst (v := nI 0) hx hb dX6_line_20 (by decide) ?_
        exact K_1 _ (by first | exact gv_10t ⟨gv_if1 h1 c_5, gv_if1 h2 c_13⟩ | exact gv_10f (fun z => gv_if0 h1 c_5 z.1) | exact gv_10f (fun z => gv_if0 h2 c_13 z.2))
      · skip
        refine lv_iconst (v := nI 1) hx hb dX6_line_16 (by decide) ?_
        refine lv_goto (tgt := 21) hx hb dX6_line_17 (by decide) ?_
        exact K_1 _ (by first | exact gv_10t ⟨gv_if1 h1 c_5, gv_if1 h2 c_13⟩ | exact gv_10f (fun z => gv_if0 h1 c_5 z.1) | exact gv_10f (fun z => gv_if0 h2 c_13 z.2))
