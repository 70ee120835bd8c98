theorem gv_in_X5_mass_X5 : ∀ w ∈ wsX50, w ∈ wsX5_mass := by decide +kernel
theorem gv_in_X5_water_X5 : ∀ w ∈ wsX50, w ∈ wsX5_water := by decide +kernel
theorem gv_in_X5_tide_X5 : ∀ w ∈ wsX50, w ∈ wsX5_tide := by decide +kernel
theorem gv_in_X5_pass_X5 : ∀ w ∈ wsX50, w ∈ wsX5_pass := by decide +kernel
theorem gv_in_X5_needle_X3 : ∀ w ∈ wsX30, w ∈ wsX5_needle := by decide +kernel
theorem gv_in_X5_needle_X5 : ∀ w ∈ wsX50, w ∈ wsX5_needle := by decide +kernel
theorem gv_in_X5_tie_X3 : ∀ w ∈ wsX30, w ∈ wsX5_tie := by decide +kernel
theorem gv_in_X5_tie_X5 : ∀ w ∈ wsX50, w ∈ wsX5_tie := by decide +kernel
theorem gv_in_X5_read_X3 : ∀ w ∈ wsX30, w ∈ wsX5_read := by decide +kernel
theorem gv_in_X5_read_X5 : ∀ w ∈ wsX50, w ∈ wsX5_read := by decide +kernel
set_option maxHeartbeats 4000000 in
set_option maxRecDepth 100000 in
theorem ct_X5_mass (l : Launch) (hlt : l.stackTraces = false) (D : va_G) (cI cJ : ClassId) (sz : Nat) (g0 g1 g2 g3 g4 g5 mo : Nat)(b1 b2 b3 : Nat) (fM fP : Nat → Int64) (x y la : Int32) (ms : Int64)  : vx_Met l yX5_mass wsX5_mass ({ frames := 7, cells := 1, slots := 6, locals := 115 }) (va_Pc [.ref g0, .int x, .int y, .int la, .long ms] (gv_Z D cI cJ [(g0, .inr (5, [.ref g1, .ref g2, .ref g3, .ref g4, .ref g5, .int (nI mo)])), (g1, .inr (1, [.ref b1, .ref b2, .ref b3])), (b1, .inl (cJ, 192, .inr (.inl fM))), (b3, .inl (cJ, 64, .inr (.inl fP)))] sz)) (va_Ql (fun (r9 : Int64) (u9 : Nat × Nat × Nat) => match u9 with | (a, b, k) => a < 8 ∧ b < 8 ∧ k < 3 ∧ x = nI a ∧ y = nI b ∧ la = nI k ∧ (0 ≤ ms ∧ ms ≤ 40000000000) ∧ r9 = fM (k * 64 + (b * 8 + a))) (fun (u9 : Nat × Nat × Nat) t9 => gv_W D (va_A [(g0, .inr (5, [.ref g1, .ref g2, .ref g3, .ref g4, .ref g5, .int (nI mo)])), (g1, .inr (1, [.ref b1, .ref b2, .ref b3])), (b1, .inl (cJ, 192, .inr (.inl fM))), (b3, .inl (cJ, 64, .inr (.inl fP)))] sz) (match u9 with | (a, b, k) => [(g0, .inr (5, [.ref g1, .ref g2, .ref g3, .ref g4, .ref g5, .int (nI mo)])), (g1, .inr (1, [.ref b1, .ref b2, .ref b3])), (b1, .inl (cJ, 192, .inr (.inl (vp_updL fM (k * 64 + (b * 8 + a)) ms)))), (b3, .inl (cJ, 64, .inr (.inl (gv_chg fP (fun j => gv_pt ms a b k j - gv_pt (fM (k * 64 + (b * 8 + a))) a b k j) 64))))]) t9) (va_A [(g0, .inr (5, [.ref g1, .ref g2, .ref g3, .ref g4, .ref g5, .int (nI mo)])), (g1, .inr (1, [.ref b1, .ref b2, .ref b3])), (b1, .inl (cJ, 192, .inr (.inl fM))), (b3, .inl (cJ, 64, .inr (.inl fP)))] sz)) (gv_X (fun E => (E = gv_eI ∧ ¬ (vp_in x 8 ∧ vp_in y 8 ∧ vp_in la 3)) ∨ (E = gv_eA ∧ (vp_in x 8 ∧ vp_in y 8 ∧ vp_in la 3) ∧ ¬ (0 ≤ ms ∧ ms ≤ 40000000000)))) 1 6 (va_A [(g0, .inr (5, [.ref g1, .ref g2, .ref g3, .ref g4, .ref g5, .int (nI mo)])), (g1, .inr (1, [.ref b1, .ref b2, .ref b3])), (b1, .inl (cJ, 192, .inr (.inl fM))), (b3, .inl (cJ, 64, .inr (.inl fP)))] sz) := by
  refine vx_ofW (cc := cX5_mass) (maxL := 6) (ret := (some .long)) (by decide) rfl ?_
  intro p e s m args below meth c s₁ B hml htb hv
  obtain ⟨rfl, ⟨hsz, hP, hK, hD0, hG⟩, hZ0⟩ := hv
  have hx := B.exec
  have hb := B.bytes
  have hr := B.returns
  have hts := atoms_spec (ws := wsX5_mass) B.pre
  have hown : s.vm.findClass RX5 = some m.cls := findClass_of_methodNamed B.named
  have hlocks := B.notSynchronized
  subst hsz
  have hD := hD0.self (sz := s.heap.size)
  generalize hAe : va_A [(g0, .inr (5, [.ref g1, .ref g2, .ref g3, .ref g4, .ref g5, .int (nI mo)])), (g1, .inr (1, [.ref b1, .ref b2, .ref b3])), (b1, .inl (cJ, 192, .inr (.inl fM))), (b3, .inl (cJ, 64, .inr (.inl fP)))] s.heap.size = A at hD hZ0 ⊢
  have hA : ∀ q : Nat, s.heap.size ≤ q → A q := fun q h => by rw [← hAe]; exact Or.inr h
  have hS : va_S A s.heap s.heap [] := va_S.rf
  have hP : va_P D vwCl [(g0, .inr (5, [.ref g1, .ref g2, .ref g3, .ref g4, .ref g5, .int (nI mo)])), (g1, .inr (1, [.ref b1, .ref b2, .ref b3])), (b1, .inl (cJ, 192, .inr (.inl fM))), (b3, .inl (cJ, 64, .inr (.inl fP)))] s.heap := hP
  have hl := lv_entry ([.ref g0, .int x, .int y, .int la, .long ms]) (n := 6) (Nat.le_of_ble_eq_true rfl)
  rw [lg_entry_eq]
  generalize (lg_sl ([.ref g0, .int x, .int y, .int la, .long ms]) ++ List.replicate (6 - (lg_sl ([.ref g0, .int x, .int y, .int la, .long ms])).length) Slot.unset).toArray = ls at hl ⊢
  have hl : lv_has ls 6 [(0, .ref g0), (1, .int x), (2, .int y), (3, .int la), (4, .long ms)] := hl
  refine lv_iload_n hx hb dX5_mass_0 rfl (lv_at hl 1 rfl) ?_
  refine lv_iload_n hx hb dX5_mass_1 rfl (lv_at hl 2 rfl) ?_
  refine gv_xv (vx_runS (As := [.int x, .int y]) (rest := []) ⟨hx, hb, hml, hown, hts⟩ (ct_X5_requireCell l hlt D cI cJ s.heap.size x y) (va_cwS 2 hts gX5_mass_X5_requireCell rfl rfl rfl (by decide +kernel) ⟨Nat.le_of_ble_eq_true rfl, Nat.le_of_ble_eq_true rfl⟩) (gv_pSZ (wc := []) hP hK hD hG (hZ0.kept hS.2.1) (gv_A0 (fun q h => hA q (Nat.le_trans hS.1 h))) [] rfl (by decide)) rfl rfl hl.1 rfl (lv_room (Nat.le_of_ble_eq_true rfl)) dX5_mass_2 ⟨Nat.le_of_ble_eq_true rfl, Nat.le_of_ble_eq_true rfl⟩) (fun E ce q9 H1 hBX hz1 hk1 hce hcv hcl => ?_) (fun hc => ?_)
  · skip
    refine gv_out htb hlocks hz1 hk1 hce hcv hcl (?_) (Nat.le_of_ble_eq_true rfl) (Nat.le_of_ble_eq_true rfl)
    exact Or.inl ⟨hBX.1, fun z => hBX.2 ⟨z.1, z.2.1⟩⟩
  obtain ⟨a, ha8, ea⟩ := vp_in_of hc.1 (by decide)
  obtain ⟨b, hb8, eb⟩ := vp_in_of hc.2 (by decide)
  rw [ea] at hl
  have hl : lv_has ls 6 [(0, .ref g0), (1, .int (nI a)), (2, .int y), (3, .int la), (4, .long ms)] := hl
  rw [eb] at hl
  have hl : lv_has ls 6 [(0, .ref g0), (1, .int (nI a)), (2, .int (nI b)), (3, .int la), (4, .long ms)] := hl
  refine lv_iload_n hx hb dX5_mass_5 rfl (lv_at hl 3 rfl) ?_
  refine lv_iconst (v := nI 3) hx hb dX5_mass_6 (by decide) ?_
  refine gv_xv (vx_runS (As := [.int la, .int (nI 3)]) (rest := []) ⟨hx, hb, hml, hown, hts⟩ (ct_X5_requireNumber l hlt D cI cJ s.heap.size la 3 (by decide)) (va_cwS 2 hts gX5_mass_X5_requireNumber rfl rfl rfl (by decide +kernel) ⟨Nat.le_of_ble_eq_true rfl, Nat.le_of_ble_eq_true rfl⟩) (gv_pSZ (wc := []) hP hK hD hG (hZ0.kept hS.2.1) (gv_A0 (fun q h => hA q (Nat.le_trans hS.1 h))) [] rfl (by decide)) rfl rfl hl.1 rfl (lv_room (Nat.le_of_ble_eq_true rfl)) dX5_mass_7 ⟨Nat.le_of_ble_eq_true rfl, Nat.le_of_ble_eq_true rfl⟩) (fun E ce q9 H1 hBX hz1 hk1 hce hcv hcl => ?_) (fun h3 => ?_)
  · skip
    refine gv_out htb hlocks hz1 hk1 hce hcv hcl (?_) (Nat.le_of_ble_eq_true rfl) (Nat.le_of_ble_eq_true rfl)
    exact Or.inl ⟨hBX.1, fun z => hBX.2 z.2.2⟩
  obtain ⟨k, hk3, ek⟩ := vp_in_of h3 (by decide)
  rw [ek] at hl
  have hl : lv_has ls 6 [(0, .ref g0), (1, .int (nI a)), (2, .int (nI b)), (3, .int (nI k)), (4, .long ms)] := hl
  refine lv_lload hx hb dX5_mass_10 (lv_at hl 4 rfl) ?_
  refine lv_lconst (v := 0) hx hb dX5_mass_12 (by decide) ?_
  refine lv_ldc2 hx hb hown (hts (.constantLong RX5 55 (40000000000)) (by decide +kernel)) dX5_mass_13 ?_
  refine gv_xv (vx_runS (As := [.long ms, .long 0, .long 40000000000]) (rest := []) ⟨hx, hb, hml, hown, hts⟩ (ct_X5_requireRange l hlt D cI cJ s.heap.size ms 0 40000000000) (va_cwS 3 hts gX5_mass_X5_requireRange rfl rfl rfl (by decide +kernel) ⟨Nat.le_of_ble_eq_true rfl, Nat.le_of_ble_eq_true rfl⟩) (gv_pSZ (wc := []) hP hK hD hG (hZ0.kept hS.2.1) (gv_A0 (fun q h => hA q (Nat.le_trans hS.1 h))) [] rfl (by decide)) rfl rfl hl.1 rfl (lv_room (Nat.le_of_ble_eq_true rfl)) dX5_mass_16 ⟨Nat.le_of_ble_eq_true rfl, Nat.le_of_ble_eq_true rfl⟩) (fun E ce q9 H1 hBX hz1 hk1 hce hcv hcl => ?_) (fun hrg => ?_)
  · skip
    refine gv_out htb hlocks hz1 hk1 hce hcv hcl (?_) (Nat.le_of_ble_eq_true rfl) (Nat.le_of_ble_eq_true rfl)
    exact Or.inr ⟨hBX.1, ⟨hc.1, hc.2, h3⟩, hBX.2⟩
  refine lv_aload_n hx hb dX5_mass_19 rfl (lv_at hl 0 rfl) ?_
  refine va_get (D := D) (ci := 5) (v := .ref g1) (C := RX5) (T := TX5) (N := 6) hx hb hts gv_in_X5_mass_X5 hown hK hP 0 rfl rfl 0 (by decide) (hts (.fieldLink RX5 12 "Gravimere" "body" "LGravimere$Body;") (by decide +kernel)) (fun _ h9 => h9) rfl dX5_mass_20 ?_
  refine lv_iload_n hx hb dX5_mass_23 rfl (lv_at hl 1 rfl) ?_
  refine lv_iload_n hx hb dX5_mass_24 rfl (lv_at hl 2 rfl) ?_
  refine lv_iload_n hx hb dX5_mass_25 rfl (lv_at hl 3 rfl) ?_
  refine lv_lload hx hb dX5_mass_26 (lv_at hl 4 rfl) ?_
  refine gv_ml (wc := [(g1, .inr (1, [.ref b1, .ref b2, .ref b3])), (b1, .inl (cJ, 192, .inr (.inl fM))), (b3, .inl (cJ, 64, .inr (.inl fP)))]) (wr := [(g0, .inr (5, [.ref g1, .ref g2, .ref g3, .ref g4, .ref g5, .int (nI mo)]))]) (w2 := (fun u => [(g0, .inr (5, [.ref g1, .ref g2, .ref g3, .ref g4, .ref g5, .int (nI mo)])), (g1, .inr (1, [.ref b1, .ref b2, .ref b3])), (b1, .inl (cJ, 192, .inr (.inl (vp_updL fM (k * 64 + (b * 8 + a)) ms)))), (b3, .inl (cJ, 64, .inr (.inl (gv_chg fP (fun j => gv_pt ms a b k j - gv_pt (fM (k * 64 + (b * 8 + a))) a b k j) 64))))])) (va_runVN (As := [.int (nI a), .int (nI b), .int (nI k), .long ms]) (rest := []) ⟨hx, hb, hml, hown, hts⟩ (ct_X1_putMass l D cI cJ s.heap.size g1 b1 b2 b3 fM fP a b k ms ha8 hb8 hk3) ⟨va_cnB 4 hts gX5_mass_X1_putMass_n61 rfl rfl rfl (gv_nm_X5_61 hG) (hts (.initialized RX1) (by decide +kernel)) (by decide +kernel) ⟨Nat.le_of_ble_eq_true rfl, Nat.le_of_ble_eq_true rfl⟩, (hts (.instanceMethod yX1_putMass) (by decide +kernel)), (hts (.selects RX1 yX1_putMass yX1_putMass) (by decide +kernel))⟩ (gv_pV (wc := [(g1, .inr (1, [.ref b1, .ref b2, .ref b3])), (b1, .inl (cJ, 192, .inr (.inl fM))), (b3, .inl (cJ, 64, .inr (.inl fP)))]) hP hK hD hG [1, 2, 3] rfl (by decide) 0 rfl rfl rfl) rfl rfl hl.1 rfl (lv_room (Nat.le_of_ble_eq_true rfl)) dX5_mass_28 ⟨Nat.le_of_ble_eq_true rfl, Nat.le_of_ble_eq_true rfl⟩) hP hD hS hA [1, 2, 3] [0] [0, 1, 2, 3] rfl rfl (by decide) (by decide) (fun u => rfl) (by decide) (fun rp u H locs hrp hP hD hS => ?_)
  have hP : va_P D vwCl [(g0, .inr (5, [.ref g1, .ref g2, .ref g3, .ref g4, .ref g5, .int (nI mo)])), (g1, .inr (1, [.ref b1, .ref b2, .ref b3])), (b1, .inl (cJ, 192, .inr (.inl (vp_updL fM (k * 64 + (b * 8 + a)) ms)))), (b3, .inl (cJ, 64, .inr (.inl (gv_chg fP (fun j => gv_pt ms a b k j - gv_pt (fM (k * 64 + (b * 8 + a))) a b k j) 64))))] H := hP
  have hD : va_D A [(g0, .inr (5, [.ref g1, .ref g2, .ref g3, .ref g4, .ref g5, .int (nI mo)])), (g1, .inr (1, [.ref b1, .ref b2, .ref b3])), (b1, .inl (cJ, 192, .inr (.inl (vp_updL fM (k * 64 + (b * 8 + a)) ms)))), (b3, .inl (cJ, 64, .inr (.inl (gv_chg fP (fun j => gv_pt ms a b k j - gv_pt (fM (k * 64 + (b * 8 + a))) a b k j) 64))))] := hD
  have hpo : match (a, b, k) with | (a, b, k) => a < 8 ∧ b < 8 ∧ k < 3 ∧ x = nI a ∧ y = nI b ∧ la = nI k ∧ (0 ≤ ms ∧ ms ≤ 40000000000) ∧ rp = fM (k * 64 + (b * 8 + a)) := by
    exact ⟨ha8, hb8, hk3, ea, eb, ek, hrg, hrp⟩
  have hP9 : va_P D vwCl [(g0, .inr (5, [.ref g1, .ref g2, .ref g3, .ref g4, .ref g5, .int (nI mo)])), (g1, .inr (1, [.ref b1, .ref b2, .ref b3])), (b1, .inl (cJ, 192, .inr (.inl (vp_updL fM (k * 64 + (b * 8 + a)) ms)))), (b3, .inl (cJ, 64, .inr (.inl (gv_chg fP (fun j => gv_pt ms a b k j - gv_pt (fM (k * 64 + (b * 8 + a))) a b k j) 64))))] H := hP
  have hD9 : va_D A [(g0, .inr (5, [.ref g1, .ref g2, .ref g3, .ref g4, .ref g5, .int (nI mo)])), (g1, .inr (1, [.ref b1, .ref b2, .ref b3])), (b1, .inl (cJ, 192, .inr (.inl (vp_updL fM (k * 64 + (b * 8 + a)) ms)))), (b3, .inl (cJ, 64, .inr (.inl (gv_chg fP (fun j => gv_pt ms a b k j - gv_pt (fM (k * 64 + (b * 8 + a))) a b k j) 64))))] := hD
  refine vx_ret (W.widen (k := 1) (n := 6) (Nat.le_of_ble_eq_true rfl) (Nat.le_of_ble_eq_true rfl) ?_)
  exact W.lret (v := rp) hx hb hr (fun t9 ht9 hW9 => ⟨⟨rp, (a, b, k), rfl, hpo, by rw [ht9]; exact hP9, hD9⟩, hS.F ht9⟩) hS.2.2 dX5_mass_31
set_option maxHeartbeats 4000000 in
set_option maxRecDepth 100000 in
theorem ct_X5_water (l : Launch) (hlt : l.stackTraces = false) (D : va_G) (cI cJ : ClassId) (sz : Nat) (g0 g1 g2 g3 g4 g5 mo : Nat)(b1 b2 b3 : Nat) (fW fP : Nat → Int64) (x y : Int32) (ms : Int64)  : vx_Met l yX5_water wsX5_water ({ frames := 7, cells := 1, slots := 6, locals := 115 }) (va_Pc [.ref g0, .int x, .int y, .long ms] (gv_Z D cI cJ [(g0, .inr (5, [.ref g1, .ref g2, .ref g3, .ref g4, .ref g5, .int (nI mo)])), (g1, .inr (1, [.ref b1, .ref b2, .ref b3])), (b2, .inl (cJ, 64, .inr (.inl fW))), (b3, .inl (cJ, 64, .inr (.inl fP)))] sz)) (va_Ql (fun (r9 : Int64) (u9 : Nat × Nat) => match u9 with | (a, b) => a < 8 ∧ b < 8 ∧ x = nI a ∧ y = nI b ∧ (0 ≤ ms ∧ ms ≤ 1000000000) ∧ r9 = fW (b * 8 + a)) (fun (u9 : Nat × Nat) t9 => gv_W D (va_A [(g0, .inr (5, [.ref g1, .ref g2, .ref g3, .ref g4, .ref g5, .int (nI mo)])), (g1, .inr (1, [.ref b1, .ref b2, .ref b3])), (b2, .inl (cJ, 64, .inr (.inl fW))), (b3, .inl (cJ, 64, .inr (.inl fP)))] sz) (match u9 with | (a, b) => [(g0, .inr (5, [.ref g1, .ref g2, .ref g3, .ref g4, .ref g5, .int (nI mo)])), (g1, .inr (1, [.ref b1, .ref b2, .ref b3])), (b2, .inl (cJ, 64, .inr (.inl (vp_updL fW (b * 8 + a) ms)))), (b3, .inl (cJ, 64, .inr (.inl (gv_chg fP (fun j => gv_pt ms a b 0 j - gv_pt (fW (b * 8 + a)) a b 0 j) 64))))]) t9) (va_A [(g0, .inr (5, [.ref g1, .ref g2, .ref g3, .ref g4, .ref g5, .int (nI mo)])), (g1, .inr (1, [.ref b1, .ref b2, .ref b3])), (b2, .inl (cJ, 64, .inr (.inl fW))), (b3, .inl (cJ, 64, .inr (.inl fP)))] sz)) (gv_X (fun E => (E = gv_eI ∧ ¬ (vp_in x 8 ∧ vp_in y 8)) ∨ (E = gv_eA ∧ (vp_in x 8 ∧ vp_in y 8) ∧ ¬ (0 ≤ ms ∧ ms ≤ 1000000000)))) 1 6 (va_A [(g0, .inr (5, [.ref g1, .ref g2, .ref g3, .ref g4, .ref g5, .int (nI mo)])), (g1, .inr (1, [.ref b1, .ref b2, .ref b3])), (b2, .inl (cJ, 64, .inr (.inl fW))), (b3, .inl (cJ, 64, .inr (.inl fP)))] sz) := by
  refine vx_ofW (cc := cX5_water) (maxL := 5) (ret := (some .long)) (by decide) rfl ?_
  intro p e s m args below meth c s₁ B hml htb hv
  obtain ⟨rfl, ⟨hsz, hP, hK, hD0, hG⟩, hZ0⟩ := hv
  have hx := B.exec
  have hb := B.bytes
  have hr := B.returns
  have hts := atoms_spec (ws := wsX5_water) B.pre
  have hown : s.vm.findClass RX5 = some m.cls := findClass_of_methodNamed B.named
  have hlocks := B.notSynchronized
  subst hsz
  have hD := hD0.self (sz := s.heap.size)
  generalize hAe : va_A [(g0, .inr (5, [.ref g1, .ref g2, .ref g3, .ref g4, .ref g5, .int (nI mo)])), (g1, .inr (1, [.ref b1, .ref b2, .ref b3])), (b2, .inl (cJ, 64, .inr (.inl fW))), (b3, .inl (cJ, 64, .inr (.inl fP)))] s.heap.size = A at hD hZ0 ⊢
  have hA : ∀ q : Nat, s.heap.size ≤ q → A q := fun q h => by rw [← hAe]; exact Or.inr h
  have hS : va_S A s.heap s.heap [] := va_S.rf
  have hP : va_P D vwCl [(g0, .inr (5, [.ref g1, .ref g2, .ref g3, .ref g4, .ref g5, .int (nI mo)])), (g1, .inr (1, [.ref b1, .ref b2, .ref b3])), (b2, .inl (cJ, 64, .inr (.inl fW))), (b3, .inl (cJ, 64, .inr (.inl fP)))] s.heap := hP
  have hl := lv_entry ([.ref g0, .int x, .int y, .long ms]) (n := 5) (Nat.le_of_ble_eq_true rfl)
  rw [lg_entry_eq]
  generalize (lg_sl ([.ref g0, .int x, .int y, .long ms]) ++ List.replicate (5 - (lg_sl ([.ref g0, .int x, .int y, .long ms])).length) Slot.unset).toArray = ls at hl ⊢
  have hl : lv_has ls 5 [(0, .ref g0), (1, .int x), (2, .int y), (3, .long ms)] := hl
  refine lv_iload_n hx hb dX5_water_0 rfl (lv_at hl 1 rfl) ?_
  refine lv_iload_n hx hb dX5_water_1 rfl (lv_at hl 2 rfl) ?_
  refine gv_xv (vx_runS (As := [.int x, .int y]) (rest := []) ⟨hx, hb, hml, hown, hts⟩ (ct_X5_requireCell l hlt D cI cJ s.heap.size x y) (va_cwS 2 hts gX5_water_X5_requireCell rfl rfl rfl (by decide +kernel) ⟨Nat.le_of_ble_eq_true rfl, Nat.le_of_ble_eq_true rfl⟩) (gv_pSZ (wc := []) hP hK hD hG (hZ0.kept hS.2.1) (gv_A0 (fun q h => hA q (Nat.le_trans hS.1 h))) [] rfl (by decide)) rfl rfl hl.1 rfl (lv_room (Nat.le_of_ble_eq_true rfl)) dX5_water_2 ⟨Nat.le_of_ble_eq_true rfl, Nat.le_of_ble_eq_true rfl⟩) (fun E ce q9 H1 hBX hz1 hk1 hce hcv hcl => ?_) (fun hc => ?_)
  · skip
    refine gv_out htb hlocks hz1 hk1 hce hcv hcl (?_) (Nat.le_of_ble_eq_true rfl) (Nat.le_of_ble_eq_true rfl)
    exact Or.inl hBX
  obtain ⟨a, ha8, ea⟩ := vp_in_of hc.1 (by decide)
  obtain ⟨b, hb8, eb⟩ := vp_in_of hc.2 (by decide)
  rw [ea] at hl
  have hl : lv_has ls 5 [(0, .ref g0), (1, .int (nI a)), (2, .int y), (3, .long ms)] := hl
  rw [eb] at hl
  have hl : lv_has ls 5 [(0, .ref g0), (1, .int (nI a)), (2, .int (nI b)), (3, .long ms)] := hl
  refine lv_lload_n hx hb dX5_water_5 rfl (lv_at hl 3 rfl) ?_
  refine lv_lconst (v := 0) hx hb dX5_water_6 (by decide) ?_
  refine lv_ldc2 hx hb hown (hts (.constantLong RX5 65 (1000000000)) (by decide +kernel)) dX5_water_7 ?_
  refine gv_xv (vx_runS (As := [.long ms, .long 0, .long 1000000000]) (rest := []) ⟨hx, hb, hml, hown, hts⟩ (ct_X5_requireRange l hlt D cI cJ s.heap.size ms 0 1000000000) (va_cwS 3 hts gX5_water_X5_requireRange rfl rfl rfl (by decide +kernel) ⟨Nat.le_of_ble_eq_true rfl, Nat.le_of_ble_eq_true rfl⟩) (gv_pSZ (wc := []) hP hK hD hG (hZ0.kept hS.2.1) (gv_A0 (fun q h => hA q (Nat.le_trans hS.1 h))) [] rfl (by decide)) rfl rfl hl.1 rfl (lv_room (Nat.le_of_ble_eq_true rfl)) dX5_water_10 ⟨Nat.le_of_ble_eq_true rfl, Nat.le_of_ble_eq_true rfl⟩) (fun E ce q9 H1 hBX hz1 hk1 hce hcv hcl => ?_) (fun hrg => ?_)
  · skip
    refine gv_out htb hlocks hz1 hk1 hce hcv hcl (?_) (Nat.le_of_ble_eq_true rfl) (Nat.le_of_ble_eq_true rfl)
    exact Or.inr ⟨hBX.1, hc, hBX.2⟩
  refine lv_aload_n hx hb dX5_water_13 rfl (lv_at hl 0 rfl) ?_
  refine va_get (D := D) (ci := 5) (v := .ref g1) (C := RX5) (T := TX5) (N := 6) hx hb hts gv_in_X5_water_X5 hown hK hP 0 rfl rfl 0 (by decide) (hts (.fieldLink RX5 12 "Gravimere" "body" "LGravimere$Body;") (by decide +kernel)) (fun _ h9 => h9) rfl dX5_water_14 ?_
  refine lv_iload_n hx hb dX5_water_17 rfl (lv_at hl 1 rfl) ?_
  refine lv_iload_n hx hb dX5_water_18 rfl (lv_at hl 2 rfl) ?_
  refine lv_lload_n hx hb dX5_water_19 rfl (lv_at hl 3 rfl) ?_
  refine gv_ml (wc := [(g1, .inr (1, [.ref b1, .ref b2, .ref b3])), (b2, .inl (cJ, 64, .inr (.inl fW))), (b3, .inl (cJ, 64, .inr (.inl fP)))]) (wr := [(g0, .inr (5, [.ref g1, .ref g2, .ref g3, .ref g4, .ref g5, .int (nI mo)]))]) (w2 := (fun u => [(g0, .inr (5, [.ref g1, .ref g2, .ref g3, .ref g4, .ref g5, .int (nI mo)])), (g1, .inr (1, [.ref b1, .ref b2, .ref b3])), (b2, .inl (cJ, 64, .inr (.inl (vp_updL fW (b * 8 + a) ms)))), (b3, .inl (cJ, 64, .inr (.inl (gv_chg fP (fun j => gv_pt ms a b 0 j - gv_pt (fW (b * 8 + a)) a b 0 j) 64))))])) (va_runVN (As := [.int (nI a), .int (nI b), .long ms]) (rest := []) ⟨hx, hb, hml, hown, hts⟩ (ct_X1_putWater l D cI cJ s.heap.size g1 b1 b2 b3 fW fP a b ms ha8 hb8) ⟨va_cnB 3 hts gX5_water_X1_putWater_n67 rfl rfl rfl (gv_nm_X5_67 hG) (hts (.initialized RX1) (by decide +kernel)) (by decide +kernel) ⟨Nat.le_of_ble_eq_true rfl, Nat.le_of_ble_eq_true rfl⟩, (hts (.instanceMethod yX1_putWater) (by decide +kernel)), (hts (.selects RX1 yX1_putWater yX1_putWater) (by decide +kernel))⟩ (gv_pV (wc := [(g1, .inr (1, [.ref b1, .ref b2, .ref b3])), (b2, .inl (cJ, 64, .inr (.inl fW))), (b3, .inl (cJ, 64, .inr (.inl fP)))]) hP hK hD hG [1, 2, 3] rfl (by decide) 0 rfl rfl rfl) rfl rfl hl.1 rfl (lv_room (Nat.le_of_ble_eq_true rfl)) dX5_water_20 ⟨Nat.le_of_ble_eq_true rfl, Nat.le_of_ble_eq_true rfl⟩) hP hD hS hA [1, 2, 3] [0] [0, 1, 2, 3] rfl rfl (by decide) (by decide) (fun u => rfl) (by decide) (fun rp u H locs hrp hP hD hS => ?_)
  have hP : va_P D vwCl [(g0, .inr (5, [.ref g1, .ref g2, .ref g3, .ref g4, .ref g5, .int (nI mo)])), (g1, .inr (1, [.ref b1, .ref b2, .ref b3])), (b2, .inl (cJ, 64, .inr (.inl (vp_updL fW (b * 8 + a) ms)))), (b3, .inl (cJ, 64, .inr (.inl (gv_chg fP (fun j => gv_pt ms a b 0 j - gv_pt (fW (b * 8 + a)) a b 0 j) 64))))] H := hP
  have hD : va_D A [(g0, .inr (5, [.ref g1, .ref g2, .ref g3, .ref g4, .ref g5, .int (nI mo)])), (g1, .inr (1, [.ref b1, .ref b2, .ref b3])), (b2, .inl (cJ, 64, .inr (.inl (vp_updL fW (b * 8 + a) ms)))), (b3, .inl (cJ, 64, .inr (.inl (gv_chg fP (fun j => gv_pt ms a b 0 j - gv_pt (fW (b * 8 + a)) a b 0 j) 64))))] := hD
  have hpo : match (a, b) with | (a, b) => a < 8 ∧ b < 8 ∧ x = nI a ∧ y = nI b ∧ (0 ≤ ms ∧ ms ≤ 1000000000) ∧ rp = fW (b * 8 + a) := by
    exact ⟨ha8, hb8, ea, eb, hrg, hrp⟩
  have hP9 : va_P D vwCl [(g0, .inr (5, [.ref g1, .ref g2, .ref g3, .ref g4, .ref g5, .int (nI mo)])), (g1, .inr (1, [.ref b1, .ref b2, .ref b3])), (b2, .inl (cJ, 64, .inr (.inl (vp_updL fW (b * 8 + a) ms)))), (b3, .inl (cJ, 64, .inr (.inl (gv_chg fP (fun j => gv_pt ms a b 0 j - gv_pt (fW (b * 8 + a)) a b 0 j) 64))))] H := hP
  have hD9 : va_D A [(g0, .inr (5, [.ref g1, .ref g2, .ref g3, .ref g4, .ref g5, .int (nI mo)])), (g1, .inr (1, [.ref b1, .ref b2, .ref b3])), (b2, .inl (cJ, 64, .inr (.inl (vp_updL fW (b * 8 + a) ms)))), (b3, .inl (cJ, 64, .inr (.inl (gv_chg fP (fun j => gv_pt ms a b 0 j - gv_pt (fW (b * 8 + a)) a b 0 j) 64))))] := hD
  refine vx_ret (W.widen (k := 1) (n := 6) (Nat.le_of_ble_eq_true rfl) (Nat.le_of_ble_eq_true rfl) ?_)
  exact W.lret (v := rp) hx hb hr (fun t9 ht9 hW9 => ⟨⟨rp, (a, b), rfl, hpo, by rw [ht9]; exact hP9, hD9⟩, hS.F ht9⟩) hS.2.2 dX5_water_23
set_option maxHeartbeats 4000000 in
set_option maxRecDepth 100000 in
theorem ct_X5_tide (l : Launch) (hlt : l.stackTraces = false) (D : va_G) (cI cJ : ClassId) (sz : Nat) (g0 g1 g2 g3 g4 g5 mo : Nat) (st pe p0 p1 : Int32)  : vx_Met l yX5_tide wsX5_tide ({ frames := 7, cells := 1, slots := 6, locals := 115 }) (va_Pc [.ref g0, .int p0, .int p1] (gv_Z D cI cJ [(g0, .inr (5, [.ref g1, .ref g2, .ref g3, .ref g4, .ref g5, .int (nI mo)])), (g2, .inr (2, [.int st, .int pe]))] sz)) (va_Qi (fun (r9 : Int32) (u9 : Unit) => gv_okt p0 p1 ∧ r9 = st) (fun (u9 : Unit) t9 => gv_W D (va_A [(g0, .inr (5, [.ref g1, .ref g2, .ref g3, .ref g4, .ref g5, .int (nI mo)])), (g2, .inr (2, [.int st, .int pe]))] sz) [(g0, .inr (5, [.ref g1, .ref g2, .ref g3, .ref g4, .ref g5, .int (nI mo)])), (g2, .inr (2, [.int p0, .int p1]))] t9) (va_A [(g0, .inr (5, [.ref g1, .ref g2, .ref g3, .ref g4, .ref g5, .int (nI mo)])), (g2, .inr (2, [.int st, .int pe]))] sz)) (gv_X (fun E => E = gv_eA ∧ ¬ gv_okt p0 p1)) 1 6 (va_A [(g0, .inr (5, [.ref g1, .ref g2, .ref g3, .ref g4, .ref g5, .int (nI mo)])), (g2, .inr (2, [.int st, .int pe]))] sz) := by
  refine vx_ofW (cc := cX5_tide) (maxL := 3) (ret := (some .int)) (by decide) rfl ?_
  intro p e s m args below meth c s₁ B hml htb hv
  obtain ⟨rfl, ⟨hsz, hP, hK, hD0, hG⟩, hZ0⟩ := hv
  have hx := B.exec
  have hb := B.bytes
  have hr := B.returns
  have hts := atoms_spec (ws := wsX5_tide) B.pre
  have hown : s.vm.findClass RX5 = some m.cls := findClass_of_methodNamed B.named
  have hlocks := B.notSynchronized
  subst hsz
  have hD := hD0.self (sz := s.heap.size)
  generalize hAe : va_A [(g0, .inr (5, [.ref g1, .ref g2, .ref g3, .ref g4, .ref g5, .int (nI mo)])), (g2, .inr (2, [.int st, .int pe]))] s.heap.size = A at hD hZ0 ⊢
  have hA : ∀ q : Nat, s.heap.size ≤ q → A q := fun q h => by rw [← hAe]; exact Or.inr h
  have hS : va_S A s.heap s.heap [] := va_S.rf
  have hP : va_P D vwCl [(g0, .inr (5, [.ref g1, .ref g2, .ref g3, .ref g4, .ref g5, .int (nI mo)])), (g2, .inr (2, [.int st, .int pe]))] s.heap := hP
  have hl := lv_entry ([.ref g0, .int p0, .int p1]) (n := 3) (Nat.le_of_ble_eq_true rfl)
  rw [lg_entry_eq]
  generalize (lg_sl ([.ref g0, .int p0, .int p1]) ++ List.replicate (3 - (lg_sl ([.ref g0, .int p0, .int p1])).length) Slot.unset).toArray = ls at hl ⊢
  have hl : lv_has ls 3 [(0, .ref g0), (1, .int p0), (2, .int p1)] := hl
  refine lv_iload_n hx hb dX5_tide_0 rfl (lv_at hl 1 rfl) ?_
  refine lv_i2l (v := p0.toInt64) hx hb dX5_tide_1 rfl ?_
  refine lv_lconst (v := 0) hx hb dX5_tide_2 (by decide) ?_
  refine lv_ldc2 hx hb hown (hts (.constantLong RX5 78 (1000000)) (by decide +kernel)) dX5_tide_3 ?_
  refine gv_xv (vx_runS (As := [.long p0.toInt64, .long 0, .long 1000000]) (rest := []) ⟨hx, hb, hml, hown, hts⟩ (ct_X5_requireRange l hlt D cI cJ s.heap.size p0.toInt64 0 1000000) (va_cwS 3 hts gX5_tide_X5_requireRange rfl rfl rfl (by decide +kernel) ⟨Nat.le_of_ble_eq_true rfl, Nat.le_of_ble_eq_true rfl⟩) (gv_pSZ (wc := []) hP hK hD hG (hZ0.kept hS.2.1) (gv_A0 (fun q h => hA q (Nat.le_trans hS.1 h))) [] rfl (by decide)) rfl rfl hl.1 rfl (lv_room (Nat.le_of_ble_eq_true rfl)) dX5_tide_6 ⟨Nat.le_of_ble_eq_true rfl, Nat.le_of_ble_eq_true rfl⟩) (fun E ce q9 H1 hBX hz1 hk1 hce hcv hcl => ?_) (fun h1 => ?_)
  · skip
    refine gv_out htb hlocks hz1 hk1 hce hcv hcl (?_) (Nat.le_of_ble_eq_true rfl) (Nat.le_of_ble_eq_true rfl)
    exact ⟨hBX.1, fun z => hBX.2 z.1⟩
  refine lv_iload_n hx hb dX5_tide_9 rfl (lv_at hl 2 rfl) ?_
  refine lv_i2l (v := p1.toInt64) hx hb dX5_tide_10 rfl ?_
  refine lv_lconst (v := 1) hx hb dX5_tide_11 (by decide) ?_
  refine lv_ldc2 hx hb hown (hts (.constantLong RX5 80 (60)) (by decide +kernel)) dX5_tide_12 ?_
  refine gv_xv (vx_runS (As := [.long p1.toInt64, .long 1, .long 60]) (rest := []) ⟨hx, hb, hml, hown, hts⟩ (ct_X5_requireRange l hlt D cI cJ s.heap.size p1.toInt64 1 60) (va_cwS 3 hts gX5_tide_X5_requireRange rfl rfl rfl (by decide +kernel) ⟨Nat.le_of_ble_eq_true rfl, Nat.le_of_ble_eq_true rfl⟩) (gv_pSZ (wc := []) hP hK hD hG (hZ0.kept hS.2.1) (gv_A0 (fun q h => hA q (Nat.le_trans hS.1 h))) [] rfl (by decide)) rfl rfl hl.1 rfl (lv_room (Nat.le_of_ble_eq_true rfl)) dX5_tide_15 ⟨Nat.le_of_ble_eq_true rfl, Nat.le_of_ble_eq_true rfl⟩) (fun E ce q9 H1 hBX hz1 hk1 hce hcv hcl => ?_) (fun h2 => ?_)
  · skip
    refine gv_out htb hlocks hz1 hk1 hce hcv hcl (?_) (Nat.le_of_ble_eq_true rfl) (Nat.le_of_ble_eq_true rfl)
    exact ⟨hBX.1, fun z => hBX.2 z.2⟩
  refine lv_aload_n hx hb dX5_tide_18 rfl (lv_at hl 0 rfl) ?_
  refine va_get (D := D) (ci := 5) (v := .ref g2) (C := RX5) (T := TX5) (N := 6) hx hb hts gv_in_X5_tide_X5 hown hK hP 0 rfl rfl 1 (by decide) (hts (.fieldLink RX5 19 "Gravimere" "moon" "LGravimere$Moon;") (by decide +kernel)) (fun _ h9 => h9) rfl dX5_tide_19 ?_
  refine lv_iload_n hx hb dX5_tide_22 rfl (lv_at hl 1 rfl) ?_
  refine lv_iload_n hx hb dX5_tide_23 rfl (lv_at hl 2 rfl) ?_
  refine gv_mi (wc := [(g2, .inr (2, [.int st, .int pe]))]) (wr := [(g0, .inr (5, [.ref g1, .ref g2, .ref g3, .ref g4, .ref g5, .int (nI mo)]))]) (w2 := (fun u => [(g0, .inr (5, [.ref g1, .ref g2, .ref g3, .ref g4, .ref g5, .int (nI mo)])), (g2, .inr (2, [.int p0, .int p1]))])) (va_runVN (As := [.int p0, .int p1]) (rest := []) ⟨hx, hb, hml, hown, hts⟩ (ct_X2_put l D cI cJ s.heap.size g2 st pe p0 p1) ⟨va_cnB 2 hts gX5_tide_X2_put_n82 rfl rfl rfl (gv_nm_X5_82 hG) (hts (.initialized RX2) (by decide +kernel)) (by decide +kernel) ⟨Nat.le_of_ble_eq_true rfl, Nat.le_of_ble_eq_true rfl⟩, (hts (.instanceMethod yX2_put) (by decide +kernel)), (hts (.selects RX2 yX2_put yX2_put) (by decide +kernel))⟩ (gv_pV (wc := [(g2, .inr (2, [.int st, .int pe]))]) hP hK hD hG [1] rfl (by decide) 0 rfl rfl rfl) rfl rfl hl.1 rfl (lv_room (Nat.le_of_ble_eq_true rfl)) dX5_tide_24 ⟨Nat.le_of_ble_eq_true rfl, Nat.le_of_ble_eq_true rfl⟩) hP hD hS hA [1] [0] [0, 1] rfl rfl (by decide) (by decide) (fun u => rfl) (by decide) (fun rp u H locs hrp hP hD hS => ?_)
  have hP : va_P D vwCl [(g0, .inr (5, [.ref g1, .ref g2, .ref g3, .ref g4, .ref g5, .int (nI mo)])), (g2, .inr (2, [.int p0, .int p1]))] H := hP
  have hD : va_D A [(g0, .inr (5, [.ref g1, .ref g2, .ref g3, .ref g4, .ref g5, .int (nI mo)])), (g2, .inr (2, [.int p0, .int p1]))] := hD
  have hpo : gv_okt p0 p1 ∧ rp = st := by
    exact ⟨⟨h1, h2⟩, hrp⟩
  have hP9 : va_P D vwCl [(g0, .inr (5, [.ref g1, .ref g2, .ref g3, .ref g4, .ref g5, .int (nI mo)])), (g2, .inr (2, [.int p0, .int p1]))] H := hP
  have hD9 : va_D A [(g0, .inr (5, [.ref g1, .ref g2, .ref g3, .ref g4, .ref g5, .int (nI mo)])), (g2, .inr (2, [.int p0, .int p1]))] := hD
  refine vx_ret (W.widen (k := 1) (n := 6) (Nat.le_of_ble_eq_true rfl) (Nat.le_of_ble_eq_true rfl) ?_)
  exact W.iret (v := rp) hx hb hr (fun t9 ht9 hW9 => ⟨⟨rp, (), rfl, hpo, by rw [ht9]; exact hP9, hD9⟩, hS.F ht9⟩) hS.2.2 dX5_tide_27
set_option maxHeartbeats 4000000 in
set_option maxRecDepth 100000 in
theorem ct_X5_pass (l : Launch) (hlt : l.stackTraces = false) (D : va_G) (cI cJ : ClassId) (sz : Nat) (g0 g1 g2 g3 g4 g5 mo : Nat) (p0 : Int32) (hmo : mo ≤ 3000) : vx_Met l yX5_pass wsX5_pass ({ frames := 7, cells := 1, slots := 6, locals := 115 }) (va_Pc [.ref g0, .int p0] (gv_Z D cI cJ [(g0, .inr (5, [.ref g1, .ref g2, .ref g3, .ref g4, .ref g5, .int (nI mo)]))] sz)) (va_Qi (fun (r9 : Int32) (u9 : Nat) => let k := u9; 1 ≤ k ∧ k ≤ 120 ∧ p0 = nI k ∧ mo + k ≤ 3000 ∧ r9 = nI (mo + k)) (fun (u9 : Nat) t9 => gv_W D (va_A [(g0, .inr (5, [.ref g1, .ref g2, .ref g3, .ref g4, .ref g5, .int (nI mo)]))] sz) (let k := u9; [(g0, .inr (5, [.ref g1, .ref g2, .ref g3, .ref g4, .ref g5, .int (nI (mo + k))]))]) t9) (va_A [(g0, .inr (5, [.ref g1, .ref g2, .ref g3, .ref g4, .ref g5, .int (nI mo)]))] sz)) (gv_X (fun E => (E = gv_eA ∧ ¬ gv_okp p0) ∨ (E = gv_eS ∧ ∃ k, 1 ≤ k ∧ k ≤ 120 ∧ p0 = nI k ∧ 3000 < mo + k))) 1 6 (va_A [(g0, .inr (5, [.ref g1, .ref g2, .ref g3, .ref g4, .ref g5, .int (nI mo)]))] sz) := by
  refine vx_ofW (cc := cX5_pass) (maxL := 2) (ret := (some .int)) (by decide) rfl ?_
  intro p e s m args below meth c s₁ B hml htb hv
  obtain ⟨rfl, ⟨hsz, hP, hK, hD0, hG⟩, hZ0⟩ := hv
  have hx := B.exec
  have hb := B.bytes
  have hr := B.returns
  have hts := atoms_spec (ws := wsX5_pass) B.pre
  have hown : s.vm.findClass RX5 = some m.cls := findClass_of_methodNamed B.named
  have hlocks := B.notSynchronized
  subst hsz
  have hD := hD0.self (sz := s.heap.size)
  generalize hAe : va_A [(g0, .inr (5, [.ref g1, .ref g2, .ref g3, .ref g4, .ref g5, .int (nI mo)]))] s.heap.size = A at hD hZ0 ⊢
  have hA : ∀ q : Nat, s.heap.size ≤ q → A q := fun q h => by rw [← hAe]; exact Or.inr h
  have hS : va_S A s.heap s.heap [] := va_S.rf
  have hP : va_P D vwCl [(g0, .inr (5, [.ref g1, .ref g2, .ref g3, .ref g4, .ref g5, .int (nI mo)]))] s.heap := hP
  have hl := lv_entry ([.ref g0, .int p0]) (n := 2) (Nat.le_of_ble_eq_true rfl)
  rw [lg_entry_eq]
  generalize (lg_sl ([.ref g0, .int p0]) ++ List.replicate (2 - (lg_sl ([.ref g0, .int p0])).length) Slot.unset).toArray = ls at hl ⊢
  have hl : lv_has ls 2 [(0, .ref g0), (1, .int p0)] := hl
  refine lv_iload_n hx hb dX5_pass_0 rfl (lv_at hl 1 rfl) ?_
  refine lv_i2l (v := p0.toInt64) hx hb dX5_pass_1 rfl ?_
  refine lv_lconst (v := 1) hx hb dX5_pass_2 (by decide) ?_
  refine lv_ldc2 hx hb hown (hts (.constantLong RX5 86 (120)) (by decide +kernel)) dX5_pass_3 ?_
  refine gv_xv (vx_runS (As := [.long p0.toInt64, .long 1, .long 120]) (rest := []) ⟨hx, hb, hml, hown, hts⟩ (ct_X5_requireRange l hlt D cI cJ s.heap.size p0.toInt64 1 120) (va_cwS 3 hts gX5_pass_X5_requireRange rfl rfl rfl (by decide +kernel) ⟨Nat.le_of_ble_eq_true rfl, Nat.le_of_ble_eq_true rfl⟩) (gv_pSZ (wc := []) hP hK hD hG (hZ0.kept hS.2.1) (gv_A0 (fun q h => hA q (Nat.le_trans hS.1 h))) [] rfl (by decide)) rfl rfl hl.1 rfl (lv_room (Nat.le_of_ble_eq_true rfl)) dX5_pass_6 ⟨Nat.le_of_ble_eq_true rfl, Nat.le_of_ble_eq_true rfl⟩) (fun E ce q9 H1 hBX hz1 hk1 hce hcv hcl => ?_) (fun h1 => ?_)
  · skip
    refine gv_out htb hlocks hz1 hk1 hce hcv hcl (?_) (Nat.le_of_ble_eq_true rfl) (Nat.le_of_ble_eq_true rfl)
    exact Or.inl hBX
  obtain ⟨k, hk1, hk2, ek⟩ := gv_of64 (p := p0) (lo := 1) (hi := 120) (by decide) (by decide) h1.1 h1.2
  rw [ek] at hl
  have hl : lv_has ls 2 [(0, .ref g0), (1, .int (nI k))] := hl
  refine lv_iload_n hx hb dX5_pass_9 rfl (lv_at hl 1 rfl) ?_
  refine lv_sipush (v := nI 3000) hx hb dX5_pass_10 (by decide) ?_
  refine lv_aload_n hx hb dX5_pass_13 rfl (lv_at hl 0 rfl) ?_
  refine va_get (D := D) (ci := 5) (v := .int (nI mo)) (C := RX5) (T := TX5) (N := 6) hx hb hts gv_in_X5_pass_X5 hown hK hP 0 rfl rfl 5 (by decide) (hts (.fieldLink RX5 44 "Gravimere" "month" "I") (by decide +kernel)) (fun _ h9 => h9) rfl dX5_pass_14 ?_
  refine lv_isub hx hb dX5_pass_17 ?_
  refine gv_wi (pk_sub (by omega)) ?_
  refine lv_icmp_le (tgt := 31) hx hb dX5_pass_18 (by decide) (fun c_18 => ?_) (fun c_18 => ?_)
  · skip
    have c_18 := (nI_leI (a := k) (b := 3000 - mo) (by omega) (by omega)).mp c_18
    refine lv_aload_n hx hb dX5_pass_31 rfl (lv_at hl 0 rfl) ?_
    refine lv_dup hx hb dX5_pass_32 rfl ?_
    refine va_get (D := D) (ci := 5) (v := .int (nI mo)) (C := RX5) (T := TX5) (N := 6) hx hb hts gv_in_X5_pass_X5 hown hK hP 0 rfl rfl 5 (by decide) (hts (.fieldLink RX5 44 "Gravimere" "month" "I") (by decide +kernel)) (fun _ h9 => h9) rfl dX5_pass_33 ?_
    refine lv_iload_n hx hb dX5_pass_36 rfl (lv_at hl 1 rfl) ?_
    refine lv_iadd hx hb dX5_pass_37 ?_
    refine gv_wi (nI_add mo k) ?_
    refine va_put (D := D) (ci := 5) (v := .int (nI (mo + k))) (ty := .int) (C := RX5) (T := TX5) (N := 6) hx hb hts gv_in_X5_pass_X5 tyX5 tyX5_ok nmX5 hown hK hP hD hS 0 rfl rfl 5 (by decide) (hts (.fieldLink RX5 44 "Gravimere" "month" "I") (by decide +kernel)) (fun _ h9 => h9) rfl (by decide +kernel) rfl rfl (Nat.le_of_ble_eq_true rfl) dX5_pass_38 (fun H locs hP hD hS => ?_)
    have hP : va_P D vwCl [(g0, .inr (5, [.ref g1, .ref g2, .ref g3, .ref g4, .ref g5, .int (nI (mo + k))]))] H := hP
    have hD : va_D A [(g0, .inr (5, [.ref g1, .ref g2, .ref g3, .ref g4, .ref g5, .int (nI (mo + k))]))] := hD
    refine lv_aload_n hx hb dX5_pass_41 rfl (lv_at hl 0 rfl) ?_
    refine va_get (D := D) (ci := 5) (v := .int (nI (mo + k))) (C := RX5) (T := TX5) (N := 6) hx hb hts gv_in_X5_pass_X5 hown hK hP 0 rfl rfl 5 (by decide) (hts (.fieldLink RX5 44 "Gravimere" "month" "I") (by decide +kernel)) (fun _ h9 => h9) rfl dX5_pass_42 ?_
    have hpo : let k := k; 1 ≤ k ∧ k ≤ 120 ∧ p0 = nI k ∧ mo + k ≤ 3000 ∧ (nI (mo + k)) = nI (mo + k) := by
      exact ⟨hk1, hk2, ek, by omega, rfl⟩
    have hP9 : va_P D vwCl [(g0, .inr (5, [.ref g1, .ref g2, .ref g3, .ref g4, .ref g5, .int (nI (mo + k))]))] H := hP
    have hD9 : va_D A [(g0, .inr (5, [.ref g1, .ref g2, .ref g3, .ref g4, .ref g5, .int (nI (mo + k))]))] := hD
    refine vx_ret (W.widen (k := 1) (n := 6) (Nat.le_of_ble_eq_true rfl) (Nat.le_of_ble_eq_true rfl) ?_)
    exact W.iret (v := nI (mo + k)) hx hb hr (fun t9 ht9 hW9 => ⟨⟨(nI (mo + k)), k, rfl, hpo, by rw [ht9]; exact hP9, hD9⟩, hS.F ht9⟩) hS.2.2 dX5_pass_45
  · skip
    have c_18 := (not_congr (nI_leI (a := k) (b := 3000 - mo) (by omega) (by omega))).mp c_18
    obtain ⟨sta9, hsta9⟩ := gv_st_90 hG
    have hBX : (gv_eS = gv_eA ∧ ¬ gv_okp p0) ∨ (gv_eS = gv_eS ∧ ∃ k, 1 ≤ k ∧ k ≤ 120 ∧ p0 = nI k ∧ 3000 < mo + k) := by
      exact Or.inr ⟨rfl, k, hk1, hk2, ek, by omega⟩
    exact vx_throwS (own := RX5) (cls := gv_eS) (text := "the month would be above 3000") (names := gv_nm) (ik := 88) (is := 90) (ic := 92) (sa := sta9) (A := A) hx hb hlt hown (by decide +kernel) (by decide +kernel) (hts (.classLink RX5 88 gv_eS) (by decide +kernel)) (hts (.initialized gv_eS) (by decide +kernel)) hsta9 (vx_hat (fun w h => hts w (List.mem_cons_of_mem _ (List.mem_append_left _ (List.mem_append_right _ h)))) gv_bS (gv_bwS hG)) gv_otS hZ0.1 hZ0.2 va_S.rf (hl.1.trans hml.symm) dX5_pass_21 dX5_pass_24 dX5_pass_25 dX5_pass_27 dX5_pass_30 (fun x h => (htb x h).elim) (Nat.le_of_ble_eq_true rfl) (Nat.le_of_ble_eq_true rfl) (Nat.le_of_ble_eq_true rfl) (Nat.le_of_ble_eq_true rfl) hlocks (fun _ _ h1 h2 => ⟨hBX, h1, h2⟩) (fun _ h => absurd h List.not_mem_nil) (Nat.le_of_ble_eq_true rfl) (Nat.le_of_ble_eq_true rfl)
set_option maxHeartbeats 4000000 in
set_option maxRecDepth 100000 in
theorem ct_X5_needle (l : Launch) (hlt : l.stackTraces = false) (D : va_G) (cI cJ : ClassId) (sz : Nat) (g0 g1 g2 g3 g4 g5 mo : Nat)(n1 n2 n3 nc : Nat) (kd of_ td : Nat → Int32) (p0 p1 : Int32) (hnc : nc ≤ 6) : vx_Met l yX5_needle wsX5_needle ({ frames := 7, cells := 1, slots := 6, locals := 115 }) (va_Pc [.ref g0, .int p0, .int p1] (gv_Z D cI cJ [(g0, .inr (5, [.ref g1, .ref g2, .ref g3, .ref g4, .ref g5, .int (nI mo)])), (g3, .inr (3, [.ref n1, .ref n2, .ref n3, .int (nI nc)])), (n1, .inl (cI, 6, .inl kd)), (n2, .inl (cI, 6, .inl of_)), (n3, .inl (cI, 6, .inl td))] sz)) (va_Qi (fun (r9 : Int32) (u9 : Unit) => gv_okn p0 p1 ∧ nc < 6 ∧ r9 = nI nc) (fun (u9 : Unit) t9 => gv_W D (va_A [(g0, .inr (5, [.ref g1, .ref g2, .ref g3, .ref g4, .ref g5, .int (nI mo)])), (g3, .inr (3, [.ref n1, .ref n2, .ref n3, .int (nI nc)])), (n1, .inl (cI, 6, .inl kd)), (n2, .inl (cI, 6, .inl of_)), (n3, .inl (cI, 6, .inl td))] sz) [(g0, .inr (5, [.ref g1, .ref g2, .ref g3, .ref g4, .ref g5, .int (nI mo)])), (g3, .inr (3, [.ref n1, .ref n2, .ref n3, .int (nI (nc + 1))])), (n1, .inl (cI, 6, .inl (upd kd nc p0))), (n2, .inl (cI, 6, .inl (upd of_ nc p1))), (n3, .inl (cI, 6, .inl (upd td nc (nI mo))))] t9) (va_A [(g0, .inr (5, [.ref g1, .ref g2, .ref g3, .ref g4, .ref g5, .int (nI mo)])), (g3, .inr (3, [.ref n1, .ref n2, .ref n3, .int (nI nc)])), (n1, .inl (cI, 6, .inl kd)), (n2, .inl (cI, 6, .inl of_)), (n3, .inl (cI, 6, .inl td))] sz)) (gv_X (fun E => (E = gv_eA ∧ ¬ gv_okn p0 p1) ∨ (E = gv_eS ∧ gv_okn p0 p1 ∧ ¬ nc < 6))) 1 6 (va_A [(g0, .inr (5, [.ref g1, .ref g2, .ref g3, .ref g4, .ref g5, .int (nI mo)])), (g3, .inr (3, [.ref n1, .ref n2, .ref n3, .int (nI nc)])), (n1, .inl (cI, 6, .inl kd)), (n2, .inl (cI, 6, .inl of_)), (n3, .inl (cI, 6, .inl td))] sz) := by
  refine vx_ofW (cc := cX5_needle) (maxL := 3) (ret := (some .int)) (by decide) rfl ?_
  intro p e s m args below meth c s₁ B hml htb hv
  obtain ⟨rfl, ⟨hsz, hP, hK, hD0, hG⟩, hZ0⟩ := hv
  have hx := B.exec
  have hb := B.bytes
  have hr := B.returns
  have hts := atoms_spec (ws := wsX5_needle) B.pre
  have hown : s.vm.findClass RX5 = some m.cls := findClass_of_methodNamed B.named
  have hlocks := B.notSynchronized
  subst hsz
  have hD := hD0.self (sz := s.heap.size)
  generalize hAe : va_A [(g0, .inr (5, [.ref g1, .ref g2, .ref g3, .ref g4, .ref g5, .int (nI mo)])), (g3, .inr (3, [.ref n1, .ref n2, .ref n3, .int (nI nc)])), (n1, .inl (cI, 6, .inl kd)), (n2, .inl (cI, 6, .inl of_)), (n3, .inl (cI, 6, .inl td))] s.heap.size = A at hD hZ0 ⊢
  have hA : ∀ q : Nat, s.heap.size ≤ q → A q := fun q h => by rw [← hAe]; exact Or.inr h
  have hS : va_S A s.heap s.heap [] := va_S.rf
  have hP : va_P D vwCl [(g0, .inr (5, [.ref g1, .ref g2, .ref g3, .ref g4, .ref g5, .int (nI mo)])), (g3, .inr (3, [.ref n1, .ref n2, .ref n3, .int (nI nc)])), (n1, .inl (cI, 6, .inl kd)), (n2, .inl (cI, 6, .inl of_)), (n3, .inl (cI, 6, .inl td))] s.heap := hP
  have hl := lv_entry ([.ref g0, .int p0, .int p1]) (n := 3) (Nat.le_of_ble_eq_true rfl)
  rw [lg_entry_eq]
  generalize (lg_sl ([.ref g0, .int p0, .int p1]) ++ List.replicate (3 - (lg_sl ([.ref g0, .int p0, .int p1])).length) Slot.unset).toArray = ls at hl ⊢
  have hl : lv_has ls 3 [(0, .ref g0), (1, .int p0), (2, .int p1)] := hl
  refine lv_iload_n hx hb dX5_needle_0 rfl (lv_at hl 1 rfl) ?_
  refine lv_i2l (v := p0.toInt64) hx hb dX5_needle_1 rfl ?_
  refine lv_lconst (v := 0) hx hb dX5_needle_2 (by decide) ?_
  refine lv_lconst (v := 1) hx hb dX5_needle_3 (by decide) ?_
  refine gv_xv (vx_runS (As := [.long p0.toInt64, .long 0, .long 1]) (rest := []) ⟨hx, hb, hml, hown, hts⟩ (ct_X5_requireRange l hlt D cI cJ s.heap.size p0.toInt64 0 1) (va_cwS 3 hts gX5_needle_X5_requireRange rfl rfl rfl (by decide +kernel) ⟨Nat.le_of_ble_eq_true rfl, Nat.le_of_ble_eq_true rfl⟩) (gv_pSZ (wc := []) hP hK hD hG (hZ0.kept hS.2.1) (gv_A0 (fun q h => hA q (Nat.le_trans hS.1 h))) [] rfl (by decide)) rfl rfl hl.1 rfl (lv_room (Nat.le_of_ble_eq_true rfl)) dX5_needle_4 ⟨Nat.le_of_ble_eq_true rfl, Nat.le_of_ble_eq_true rfl⟩) (fun E ce q9 H1 hBX hz1 hk1 hce hcv hcl => ?_) (fun h1 => ?_)
  · skip
    refine gv_out htb hlocks hz1 hk1 hce hcv hcl (?_) (Nat.le_of_ble_eq_true rfl) (Nat.le_of_ble_eq_true rfl)
    exact Or.inl ⟨hBX.1, fun z => hBX.2 z.1⟩
  refine lv_iload_n hx hb dX5_needle_7 rfl (lv_at hl 2 rfl) ?_
  refine lv_i2l (v := p1.toInt64) hx hb dX5_needle_8 rfl ?_
  refine lv_ldc2 hx hb hown (hts (.constantLong RX5 95 (-1000)) (by decide +kernel)) dX5_needle_9 ?_
  refine lv_ldc2 hx hb hown (hts (.constantLong RX5 97 (1000)) (by decide +kernel)) dX5_needle_12 ?_
  refine gv_xv (vx_runS (As := [.long p1.toInt64, .long (-1000), .long 1000]) (rest := []) ⟨hx, hb, hml, hown, hts⟩ (ct_X5_requireRange l hlt D cI cJ s.heap.size p1.toInt64 (-1000) 1000) (va_cwS 3 hts gX5_needle_X5_requireRange rfl rfl rfl (by decide +kernel) ⟨Nat.le_of_ble_eq_true rfl, Nat.le_of_ble_eq_true rfl⟩) (gv_pSZ (wc := []) hP hK hD hG (hZ0.kept hS.2.1) (gv_A0 (fun q h => hA q (Nat.le_trans hS.1 h))) [] rfl (by decide)) rfl rfl hl.1 rfl (lv_room (Nat.le_of_ble_eq_true rfl)) dX5_needle_15 ⟨Nat.le_of_ble_eq_true rfl, Nat.le_of_ble_eq_true rfl⟩) (fun E ce q9 H1 hBX hz1 hk1 hce hcv hcl => ?_) (fun h2 => ?_)
  · skip
    refine gv_out htb hlocks hz1 hk1 hce hcv hcl (?_) (Nat.le_of_ble_eq_true rfl) (Nat.le_of_ble_eq_true rfl)
    exact Or.inl ⟨hBX.1, fun z => hBX.2 z.2⟩
  refine lv_aload_n hx hb dX5_needle_18 rfl (lv_at hl 0 rfl) ?_
  refine va_get (D := D) (ci := 5) (v := .ref g3) (C := RX5) (T := TX5) (N := 6) hx hb hts gv_in_X5_needle_X5 hown hK hP 0 rfl rfl 2 (by decide) (hts (.fieldLink RX5 26 "Gravimere" "needles" "LGravimere$Needles;") (by decide +kernel)) (fun _ h9 => h9) rfl dX5_needle_19 ?_
  refine va_getN (D := D) (ci := 3) (v := .int (nI nc)) (C := RX3) (T := TX3) (N := 4) hx hb hts gv_in_X5_needle_X3 hown hK hP 1 rfl rfl 3 (by decide) ((gv_nf_99 hG).use rfl) (fun _ h9 => h9) rfl dX5_needle_22 ?_
  refine lv_bipush (v := nI 6) hx hb dX5_needle_25 (by decide) ?_
  refine gv_xv (vx_runS (As := [.int (nI nc), .int (nI 6)]) (rest := []) ⟨hx, hb, hml, hown, hts⟩ (ct_X5_requireRoom l hlt D cI cJ s.heap.size nc 6 (by omega) (by decide)) (va_cwS 2 hts gX5_needle_X5_requireRoom rfl rfl rfl (by decide +kernel) ⟨Nat.le_of_ble_eq_true rfl, Nat.le_of_ble_eq_true rfl⟩) (gv_pSZ (wc := []) hP hK hD hG (hZ0.kept hS.2.1) (gv_A0 (fun q h => hA q (Nat.le_trans hS.1 h))) [] rfl (by decide)) rfl rfl hl.1 rfl (lv_room (Nat.le_of_ble_eq_true rfl)) dX5_needle_27 ⟨Nat.le_of_ble_eq_true rfl, Nat.le_of_ble_eq_true rfl⟩) (fun E ce q9 H1 hBX hz1 hk1 hce hcv hcl => ?_) (fun h3 => ?_)
  · skip
    refine gv_out htb hlocks hz1 hk1 hce hcv hcl (?_) (Nat.le_of_ble_eq_true rfl) (Nat.le_of_ble_eq_true rfl)
    exact Or.inr ⟨hBX.1, ⟨h1, h2⟩, hBX.2⟩
  refine lv_aload_n hx hb dX5_needle_30 rfl (lv_at hl 0 rfl) ?_
  refine va_get (D := D) (ci := 5) (v := .ref g3) (C := RX5) (T := TX5) (N := 6) hx hb hts gv_in_X5_needle_X5 hown hK hP 0 rfl rfl 2 (by decide) (hts (.fieldLink RX5 26 "Gravimere" "needles" "LGravimere$Needles;") (by decide +kernel)) (fun _ h9 => h9) rfl dX5_needle_31 ?_
  refine lv_iload_n hx hb dX5_needle_34 rfl (lv_at hl 1 rfl) ?_
  refine lv_iload_n hx hb dX5_needle_35 rfl (lv_at hl 2 rfl) ?_
  refine lv_aload_n hx hb dX5_needle_36 rfl (lv_at hl 0 rfl) ?_
  refine va_get (D := D) (ci := 5) (v := .int (nI mo)) (C := RX5) (T := TX5) (N := 6) hx hb hts gv_in_X5_needle_X5 hown hK hP 0 rfl rfl 5 (by decide) (hts (.fieldLink RX5 44 "Gravimere" "month" "I") (by decide +kernel)) (fun _ h9 => h9) rfl dX5_needle_37 ?_
  refine gv_mi (wc := [(g3, .inr (3, [.ref n1, .ref n2, .ref n3, .int (nI nc)])), (n1, .inl (cI, 6, .inl kd)), (n2, .inl (cI, 6, .inl of_)), (n3, .inl (cI, 6, .inl td))]) (wr := [(g0, .inr (5, [.ref g1, .ref g2, .ref g3, .ref g4, .ref g5, .int (nI mo)]))]) (w2 := (fun u => [(g0, .inr (5, [.ref g1, .ref g2, .ref g3, .ref g4, .ref g5, .int (nI mo)])), (g3, .inr (3, [.ref n1, .ref n2, .ref n3, .int (nI (nc + 1))])), (n1, .inl (cI, 6, .inl (upd kd nc p0))), (n2, .inl (cI, 6, .inl (upd of_ nc p1))), (n3, .inl (cI, 6, .inl (upd td nc (nI mo))))])) (va_runVN (As := [.int p0, .int p1, .int (nI mo)]) (rest := []) ⟨hx, hb, hml, hown, hts⟩ (ct_X3_add l D cI cJ s.heap.size g3 n1 n2 n3 nc kd of_ td p0 p1 (nI mo) h3) ⟨va_cnB 3 hts gX5_needle_X3_add_n105 rfl rfl rfl (gv_nm_X5_105 hG) (hts (.initialized RX3) (by decide +kernel)) (by decide +kernel) ⟨Nat.le_of_ble_eq_true rfl, Nat.le_of_ble_eq_true rfl⟩, (hts (.instanceMethod yX3_add) (by decide +kernel)), (hts (.selects RX3 yX3_add yX3_add) (by decide +kernel))⟩ (gv_pV (wc := [(g3, .inr (3, [.ref n1, .ref n2, .ref n3, .int (nI nc)])), (n1, .inl (cI, 6, .inl kd)), (n2, .inl (cI, 6, .inl of_)), (n3, .inl (cI, 6, .inl td))]) hP hK hD hG [1, 2, 3, 4] rfl (by decide) 0 rfl rfl rfl) rfl rfl hl.1 rfl (lv_room (Nat.le_of_ble_eq_true rfl)) dX5_needle_40 ⟨Nat.le_of_ble_eq_true rfl, Nat.le_of_ble_eq_true rfl⟩) hP hD hS hA [1, 2, 3, 4] [0] [0, 1, 2, 3, 4] rfl rfl (by decide) (by decide) (fun u => rfl) (by decide) (fun rp u H locs hrp hP hD hS => ?_)
  have hP : va_P D vwCl [(g0, .inr (5, [.ref g1, .ref g2, .ref g3, .ref g4, .ref g5, .int (nI mo)])), (g3, .inr (3, [.ref n1, .ref n2, .ref n3, .int (nI (nc + 1))])), (n1, .inl (cI, 6, .inl (upd kd nc p0))), (n2, .inl (cI, 6, .inl (upd of_ nc p1))), (n3, .inl (cI, 6, .inl (upd td nc (nI mo))))] H := hP
  have hD : va_D A [(g0, .inr (5, [.ref g1, .ref g2, .ref g3, .ref g4, .ref g5, .int (nI mo)])), (g3, .inr (3, [.ref n1, .ref n2, .ref n3, .int (nI (nc + 1))])), (n1, .inl (cI, 6, .inl (upd kd nc p0))), (n2, .inl (cI, 6, .inl (upd of_ nc p1))), (n3, .inl (cI, 6, .inl (upd td nc (nI mo))))] := hD
  have hpo : gv_okn p0 p1 ∧ nc < 6 ∧ rp = nI nc := by
    exact ⟨⟨h1, h2⟩, h3, hrp⟩
  have hP9 : va_P D vwCl [(g0, .inr (5, [.ref g1, .ref g2, .ref g3, .ref g4, .ref g5, .int (nI mo)])), (g3, .inr (3, [.ref n1, .ref n2, .ref n3, .int (nI (nc + 1))])), (n1, .inl (cI, 6, .inl (upd kd nc p0))), (n2, .inl (cI, 6, .inl (upd of_ nc p1))), (n3, .inl (cI, 6, .inl (upd td nc (nI mo))))] H := hP
  have hD9 : va_D A [(g0, .inr (5, [.ref g1, .ref g2, .ref g3, .ref g4, .ref g5, .int (nI mo)])), (g3, .inr (3, [.ref n1, .ref n2, .ref n3, .int (nI (nc + 1))])), (n1, .inl (cI, 6, .inl (upd kd nc p0))), (n2, .inl (cI, 6, .inl (upd of_ nc p1))), (n3, .inl (cI, 6, .inl (upd td nc (nI mo))))] := hD
  refine vx_ret (W.widen (k := 1) (n := 6) (Nat.le_of_ble_eq_true rfl) (Nat.le_of_ble_eq_true rfl) ?_)
  exact W.iret (v := rp) hx hb hr (fun t9 ht9 hW9 => ⟨⟨rp, (), rfl, hpo, by rw [ht9]; exact hP9, hD9⟩, hS.F ht9⟩) hS.2.2 dX5_needle_43
set_option maxHeartbeats 4000000 in
set_option maxRecDepth 100000 in
theorem ct_X5_tie (l : Launch) (hlt : l.stackTraces = false) (D : va_G) (cI cJ : ClassId) (sz : Nat) (g0 g1 g2 g3 g4 g5 mo : Nat)(n1 n2 n3 nc : Nat) (kd of_ td : Nat → Int32) (p0 : Int32) (hnc : nc ≤ 6) : vx_Met l yX5_tie wsX5_tie ({ frames := 7, cells := 1, slots := 6, locals := 111 }) (va_Pc [.ref g0, .int p0] (gv_Z D cI cJ [(g0, .inr (5, [.ref g1, .ref g2, .ref g3, .ref g4, .ref g5, .int (nI mo)])), (g3, .inr (3, [.ref n1, .ref n2, .ref n3, .int (nI nc)])), (n1, .inl (cI, 6, .inl kd)), (n2, .inl (cI, 6, .inl of_)), (n3, .inl (cI, 6, .inl td))] sz)) (va_Ql (fun (r9 : Int64) (u9 : Nat) => let i := u9; i < nc ∧ p0 = nI i ∧ ¬ kd i = 0 ∧ r9 = gv_off kd of_ td (nI mo) i) (fun (u9 : Nat) t9 => gv_W D (va_A [(g0, .inr (5, [.ref g1, .ref g2, .ref g3, .ref g4, .ref g5, .int (nI mo)])), (g3, .inr (3, [.ref n1, .ref n2, .ref n3, .int (nI nc)])), (n1, .inl (cI, 6, .inl kd)), (n2, .inl (cI, 6, .inl of_)), (n3, .inl (cI, 6, .inl td))] sz) (let i := u9; [(g0, .inr (5, [.ref g1, .ref g2, .ref g3, .ref g4, .ref g5, .int (nI mo)])), (g3, .inr (3, [.ref n1, .ref n2, .ref n3, .int (nI nc)])), (n1, .inl (cI, 6, .inl kd)), (n2, .inl (cI, 6, .inl of_)), (n3, .inl (cI, 6, .inl (upd td i (nI mo))))]) t9) (va_A [(g0, .inr (5, [.ref g1, .ref g2, .ref g3, .ref g4, .ref g5, .int (nI mo)])), (g3, .inr (3, [.ref n1, .ref n2, .ref n3, .int (nI nc)])), (n1, .inl (cI, 6, .inl kd)), (n2, .inl (cI, 6, .inl of_)), (n3, .inl (cI, 6, .inl td))] sz)) (gv_X (fun E => (E = gv_eI ∧ ¬ vp_in p0 nc) ∨ (E = gv_eS ∧ ∃ i, i < nc ∧ p0 = nI i ∧ kd i = 0))) 1 6 (va_A [(g0, .inr (5, [.ref g1, .ref g2, .ref g3, .ref g4, .ref g5, .int (nI mo)])), (g3, .inr (3, [.ref n1, .ref n2, .ref n3, .int (nI nc)])), (n1, .inl (cI, 6, .inl kd)), (n2, .inl (cI, 6, .inl of_)), (n3, .inl (cI, 6, .inl td))] sz) := by
  refine vx_ofW (cc := cX5_tie) (maxL := 4) (ret := (some .long)) (by decide) rfl ?_
  intro p e s m args below meth c s₁ B hml htb hv
  obtain ⟨rfl, ⟨hsz, hP, hK, hD0, hG⟩, hZ0⟩ := hv
  have hx := B.exec
  have hb := B.bytes
  have hr := B.returns
  have hts := atoms_spec (ws := wsX5_tie) B.pre
  have hown : s.vm.findClass RX5 = some m.cls := findClass_of_methodNamed B.named
  have hlocks := B.notSynchronized
  subst hsz
  have hD := hD0.self (sz := s.heap.size)
  generalize hAe : va_A [(g0, .inr (5, [.ref g1, .ref g2, .ref g3, .ref g4, .ref g5, .int (nI mo)])), (g3, .inr (3, [.ref n1, .ref n2, .ref n3, .int (nI nc)])), (n1, .inl (cI, 6, .inl kd)), (n2, .inl (cI, 6, .inl of_)), (n3, .inl (cI, 6, .inl td))] s.heap.size = A at hD hZ0 ⊢
  have hA : ∀ q : Nat, s.heap.size ≤ q → A q := fun q h => by rw [← hAe]; exact Or.inr h
  have hS : va_S A s.heap s.heap [] := va_S.rf
  have hP : va_P D vwCl [(g0, .inr (5, [.ref g1, .ref g2, .ref g3, .ref g4, .ref g5, .int (nI mo)])), (g3, .inr (3, [.ref n1, .ref n2, .ref n3, .int (nI nc)])), (n1, .inl (cI, 6, .inl kd)), (n2, .inl (cI, 6, .inl of_)), (n3, .inl (cI, 6, .inl td))] s.heap := hP
  have hl := lv_entry ([.ref g0, .int p0]) (n := 4) (Nat.le_of_ble_eq_true rfl)
  rw [lg_entry_eq]
  generalize (lg_sl ([.ref g0, .int p0]) ++ List.replicate (4 - (lg_sl ([.ref g0, .int p0])).length) Slot.unset).toArray = ls at hl ⊢
  have hl : lv_has ls 4 [(0, .ref g0), (1, .int p0)] := hl
  refine lv_iload_n hx hb dX5_tie_0 rfl (lv_at hl 1 rfl) ?_
  refine lv_aload_n hx hb dX5_tie_1 rfl (lv_at hl 0 rfl) ?_
  refine va_get (D := D) (ci := 5) (v := .ref g3) (C := RX5) (T := TX5) (N := 6) hx hb hts gv_in_X5_tie_X5 hown hK hP 0 rfl rfl 2 (by decide) (hts (.fieldLink RX5 26 "Gravimere" "needles" "LGravimere$Needles;") (by decide +kernel)) (fun _ h9 => h9) rfl dX5_tie_2 ?_
  refine va_getN (D := D) (ci := 3) (v := .int (nI nc)) (C := RX3) (T := TX3) (N := 4) hx hb hts gv_in_X5_tie_X3 hown hK hP 1 rfl rfl 3 (by decide) ((gv_nf_99 hG).use rfl) (fun _ h9 => h9) rfl dX5_tie_5 ?_
  refine gv_xv (vx_runS (As := [.int p0, .int (nI nc)]) (rest := []) ⟨hx, hb, hml, hown, hts⟩ (ct_X5_requireNumber l hlt D cI cJ s.heap.size p0 nc (by omega)) (va_cwS 2 hts gX5_tie_X5_requireNumber rfl rfl rfl (by decide +kernel) ⟨Nat.le_of_ble_eq_true rfl, Nat.le_of_ble_eq_true rfl⟩) (gv_pSZ (wc := []) hP hK hD hG (hZ0.kept hS.2.1) (gv_A0 (fun q h => hA q (Nat.le_trans hS.1 h))) [] rfl (by decide)) rfl rfl hl.1 rfl (lv_room (Nat.le_of_ble_eq_true rfl)) dX5_tie_8 ⟨Nat.le_of_ble_eq_true rfl, Nat.le_of_ble_eq_true rfl⟩) (fun E ce q9 H1 hBX hz1 hk1 hce hcv hcl => ?_) (fun h1 => ?_)
  · skip
    refine gv_out htb hlocks hz1 hk1 hce hcv hcl (?_) (Nat.le_of_ble_eq_true rfl) (Nat.le_of_ble_eq_true rfl)
    exact Or.inl hBX
  obtain ⟨i, hi, ei⟩ := vp_in_of h1 (by omega)
  rw [ei] at hl
  have hl : lv_has ls 4 [(0, .ref g0), (1, .int (nI i))] := hl
  refine lv_aload_n hx hb dX5_tie_11 rfl (lv_at hl 0 rfl) ?_
  refine va_get (D := D) (ci := 5) (v := .ref g3) (C := RX5) (T := TX5) (N := 6) hx hb hts gv_in_X5_tie_X5 hown hK hP 0 rfl rfl 2 (by decide) (hts (.fieldLink RX5 26 "Gravimere" "needles" "LGravimere$Needles;") (by decide +kernel)) (fun _ h9 => h9) rfl dX5_tie_12 ?_
  refine va_getN (D := D) (ci := 3) (v := .ref n1) (C := RX3) (T := TX3) (N := 4) hx hb hts gv_in_X5_tie_X3 hown hK hP 1 rfl rfl 0 (by decide) ((gv_nf_109 hG).use rfl) (fun _ h9 => h9) rfl dX5_tie_15 ?_
  refine lv_iload_n hx hb dX5_tie_18 rfl (lv_at hl 1 rfl) ?_
  refine gv_il hx hb hK hP 2 (k := i) rfl (by omega) (by decide) dX5_tie_19 ?_
  refine lv_if_ne (tgt := 33) hx hb dX5_tie_20 (by decide) (fun c_20 => ?_) (fun c_20 => ?_)
  · skip
    refine lv_aload_n hx hb dX5_tie_33 rfl (lv_at hl 0 rfl) ?_
    refine va_get (D := D) (ci := 5) (v := .ref g3) (C := RX5) (T := TX5) (N := 6) hx hb hts gv_in_X5_tie_X5 hown hK hP 0 rfl rfl 2 (by decide) (hts (.fieldLink RX5 26 "Gravimere" "needles" "LGravimere$Needles;") (by decide +kernel)) (fun _ h9 => h9) rfl dX5_tie_34 ?_
    refine lv_iload_n hx hb dX5_tie_37 rfl (lv_at hl 1 rfl) ?_
    refine lv_aload_n hx hb dX5_tie_38 rfl (lv_at hl 0 rfl) ?_
    refine va_get (D := D) (ci := 5) (v := .int (nI mo)) (C := RX5) (T := TX5) (N := 6) hx hb hts gv_in_X5_tie_X5 hown hK hP 0 rfl rfl 5 (by decide) (hts (.fieldLink RX5 44 "Gravimere" "month" "I") (by decide +kernel)) (fun _ h9 => h9) rfl dX5_tie_39 ?_
    refine gv_pl (va_runVN (As := [.int (nI i), .int (nI mo)]) (rest := []) ⟨hx, hb, hml, hown, hts⟩ (ct_X3_offIn l D cI cJ s.heap.size g3 n1 n2 n3 nc kd of_ td i (nI mo) (by omega)) ⟨va_cnB 2 hts gX5_tie_X3_offIn_n115 rfl rfl rfl (gv_nm_X5_115 hG) (hts (.initialized RX3) (by decide +kernel)) (by decide +kernel) ⟨Nat.le_of_ble_eq_true rfl, Nat.le_of_ble_eq_true rfl⟩, (hts (.instanceMethod yX3_offIn) (by decide +kernel)), (hts (.selects RX3 yX3_offIn yX3_offIn) (by decide +kernel))⟩ (gv_pV (wc := [(g3, .inr (3, [.ref n1, .ref n2, .ref n3, .int (nI nc)])), (n1, .inl (cI, 6, .inl kd)), (n2, .inl (cI, 6, .inl of_)), (n3, .inl (cI, 6, .inl td))]) hP hK hD hG [1, 2, 3, 4] rfl (by decide) 0 rfl rfl rfl) rfl rfl hl.1 rfl (lv_room (Nat.le_of_ble_eq_true rfl)) dX5_tie_42 ⟨Nat.le_of_ble_eq_true rfl, Nat.le_of_ble_eq_true rfl⟩) (fun rp hrp => ?_)
    refine lv_lstore_n (lv' := [(2, .long rp), (0, .ref g0), (1, .int (nI i))]) hx hb dX5_tie_45 rfl hl (by decide) rfl (fun ls hl => ?_)
    refine lv_aload_n hx hb dX5_tie_46 rfl (lv_at hl 1 rfl) ?_
    refine va_get (D := D) (ci := 5) (v := .ref g3) (C := RX5) (T := TX5) (N := 6) hx hb hts gv_in_X5_tie_X5 hown hK hP 0 rfl rfl 2 (by decide) (hts (.fieldLink RX5 26 "Gravimere" "needles" "LGravimere$Needles;") (by decide +kernel)) (fun _ h9 => h9) rfl dX5_tie_47 ?_
    refine va_getN (D := D) (ci := 3) (v := .ref n3) (C := RX3) (T := TX3) (N := 4) hx hb hts gv_in_X5_tie_X3 hown hK hP 1 rfl rfl 2 (by decide) ((gv_nf_118 hG).use rfl) (fun _ h9 => h9) rfl dX5_tie_50 ?_
    refine lv_iload_n hx hb dX5_tie_53 rfl (lv_at hl 2 rfl) ?_
    refine lv_aload_n hx hb dX5_tie_54 rfl (lv_at hl 1 rfl) ?_
    refine va_get (D := D) (ci := 5) (v := .int (nI mo)) (C := RX5) (T := TX5) (N := 6) hx hb hts gv_in_X5_tie_X5 hown hK hP 0 rfl rfl 5 (by decide) (hts (.fieldLink RX5 44 "Gravimere" "month" "I") (by decide +kernel)) (fun _ h9 => h9) rfl dX5_tie_55 ?_
    refine gv_is hx hb hK hP hD hS 4 (k := i) rfl (by omega) (by decide) dX5_tie_58 (fun H locs hP hD hS => ?_)
    have hP : va_P D vwCl [(g0, .inr (5, [.ref g1, .ref g2, .ref g3, .ref g4, .ref g5, .int (nI mo)])), (g3, .inr (3, [.ref n1, .ref n2, .ref n3, .int (nI nc)])), (n1, .inl (cI, 6, .inl kd)), (n2, .inl (cI, 6, .inl of_)), (n3, .inl (cI, 6, .inl (upd td i (nI mo))))] H := hP
    have hD : va_D A [(g0, .inr (5, [.ref g1, .ref g2, .ref g3, .ref g4, .ref g5, .int (nI mo)])), (g3, .inr (3, [.ref n1, .ref n2, .ref n3, .int (nI nc)])), (n1, .inl (cI, 6, .inl kd)), (n2, .inl (cI, 6, .inl of_)), (n3, .inl (cI, 6, .inl (upd td i (nI mo))))] := hD
    refine lv_lload_n hx hb dX5_tie_59 rfl (lv_at hl 0 rfl) ?_
    have hpo : let i := i; i < nc ∧ p0 = nI i ∧ ¬ kd i = 0 ∧ rp = gv_off kd of_ td (nI mo) i := by
      exact ⟨hi, ei, c_20, hrp⟩
    have hP9 : va_P D vwCl [(g0, .inr (5, [.ref g1, .ref g2, .ref g3, .ref g4, .ref g5, .int (nI mo)])), (g3, .inr (3, [.ref n1, .ref n2, .ref n3, .int (nI nc)])), (n1, .inl (cI, 6, .inl kd)), (n2, .inl (cI, 6, .inl of_)), (n3, .inl (cI, 6, .inl (upd td i (nI mo))))] H := hP
    have hD9 : va_D A [(g0, .inr (5, [.ref g1, .ref g2, .ref g3, .ref g4, .ref g5, .int (nI mo)])), (g3, .inr (3, [.ref n1, .ref n2, .ref n3, .int (nI nc)])), (n1, .inl (cI, 6, .inl kd)), (n2, .inl (cI, 6, .inl of_)), (n3, .inl (cI, 6, .inl (upd td i (nI mo))))] := hD
    refine vx_ret (W.widen (k := 1) (n := 6) (Nat.le_of_ble_eq_true rfl) (Nat.le_of_ble_eq_true rfl) ?_)
    exact W.lret (v := rp) hx hb hr (fun t9 ht9 hW9 => ⟨⟨rp, i, rfl, hpo, by rw [ht9]; exact hP9, hD9⟩, hS.F ht9⟩) hS.2.2 dX5_tie_60
  · skip
    obtain ⟨sta9, hsta9⟩ := gv_st_113 hG
    have hBX : (gv_eS = gv_eI ∧ ¬ vp_in p0 nc) ∨ (gv_eS = gv_eS ∧ ∃ i, i < nc ∧ p0 = nI i ∧ kd i = 0) := by
      exact Or.inr ⟨rfl, i, hi, ei, c_20⟩
    exact vx_throwS (own := RX5) (cls := gv_eS) (text := "a MIRROR cannot be tied") (names := gv_nm) (ik := 88) (is := 113) (ic := 92) (sa := sta9) (A := A) hx hb hlt hown (by decide +kernel) (by decide +kernel) (hts (.classLink RX5 88 gv_eS) (by decide +kernel)) (hts (.initialized gv_eS) (by decide +kernel)) hsta9 (vx_hat (fun w h => hts w (List.mem_cons_of_mem _ (List.mem_append_left _ (List.mem_append_right _ h)))) gv_bS (gv_bwS hG)) gv_otS hZ0.1 hZ0.2 va_S.rf (hl.1.trans hml.symm) dX5_tie_23 dX5_tie_26 dX5_tie_27 dX5_tie_29 dX5_tie_32 (fun x h => (htb x h).elim) (Nat.le_of_ble_eq_true rfl) (Nat.le_of_ble_eq_true rfl) (Nat.le_of_ble_eq_true rfl) (Nat.le_of_ble_eq_true rfl) hlocks (fun _ _ h1 h2 => ⟨hBX, h1, h2⟩) (fun _ h => absurd h List.not_mem_nil) (Nat.le_of_ble_eq_true rfl) (Nat.le_of_ble_eq_true rfl)
set_option maxHeartbeats 4000000 in
set_option maxRecDepth 100000 in
theorem ct_X5_read (l : Launch) (hlt : l.stackTraces = false) (D : va_G) (cI cJ : ClassId) (sz : Nat) (g0 g1 g2 g3 g4 g5 mo : Nat)(b1 b2 b3 : Nat)(n1 n2 n3 nc : Nat) (kd of_ td : Nat → Int32) (fP : Nat → Int64) (st : Int32) (pe : Nat) (p0 x y : Int32) (hnc : nc ≤ 6) (h1p : 1 ≤ pe) (h60 : pe ≤ 60) (hmo : mo ≤ 3000) : vx_Met l yX5_read wsX5_read ({ frames := 7, cells := 1, slots := 6, locals := 111 }) (va_Pc [.ref g0, .int p0, .int x, .int y] (gv_Z D cI cJ [(g0, .inr (5, [.ref g1, .ref g2, .ref g3, .ref g4, .ref g5, .int (nI mo)])), (g1, .inr (1, [.ref b1, .ref b2, .ref b3])), (b3, .inl (cJ, 64, .inr (.inl fP))), (g2, .inr (2, [.int st, .int (nI pe)])), (g3, .inr (3, [.ref n1, .ref n2, .ref n3, .int (nI nc)])), (n1, .inl (cI, 6, .inl kd)), (n2, .inl (cI, 6, .inl of_)), (n3, .inl (cI, 6, .inl td))] sz)) (vp_Sl (fun r9 : Int64 => ∃ i a b, i < nc ∧ a < 8 ∧ b < 8 ∧ p0 = nI i ∧ x = nI a ∧ y = nI b ∧ r9 = fP (b * 8 + a) + (if mo % pe < pe / 2 then st else -st).toInt64 + gv_off kd of_ td (nI mo) i)) (gv_X (fun E => E = gv_eI ∧ ¬ (vp_in p0 nc ∧ vp_in x 8 ∧ vp_in y 8))) 1 6 (fun _ => False) := by
  refine vx_ofW (cc := cX5_read) (maxL := 4) (ret := (some .long)) (by decide) rfl ?_
  intro p e s m args below meth c s₁ B hml htb hv
  obtain ⟨rfl, ⟨hsz, hP, hK, hD0, hG⟩, hZ0⟩ := hv
  have hx := B.exec
  have hb := B.bytes
  have hr := B.returns
  have hts := atoms_spec (ws := wsX5_read) B.pre
  have hown : s.vm.findClass RX5 = some m.cls := findClass_of_methodNamed B.named
  have hlocks := B.notSynchronized
  subst hsz
  have hD := hD0
  have hA : ∀ q : Nat, s.heap.size ≤ q → va_A [(g0, .inr (5, [.ref g1, .ref g2, .ref g3, .ref g4, .ref g5, .int (nI mo)])), (g1, .inr (1, [.ref b1, .ref b2, .ref b3])), (b3, .inl (cJ, 64, .inr (.inl fP))), (g2, .inr (2, [.int st, .int (nI pe)])), (g3, .inr (3, [.ref n1, .ref n2, .ref n3, .int (nI nc)])), (n1, .inl (cI, 6, .inl kd)), (n2, .inl (cI, 6, .inl of_)), (n3, .inl (cI, 6, .inl td))] s.heap.size q := fun q h => Or.inr h
  have hP : va_P D vwCl [(g0, .inr (5, [.ref g1, .ref g2, .ref g3, .ref g4, .ref g5, .int (nI mo)])), (g1, .inr (1, [.ref b1, .ref b2, .ref b3])), (b3, .inl (cJ, 64, .inr (.inl fP))), (g2, .inr (2, [.int st, .int (nI pe)])), (g3, .inr (3, [.ref n1, .ref n2, .ref n3, .int (nI nc)])), (n1, .inl (cI, 6, .inl kd)), (n2, .inl (cI, 6, .inl of_)), (n3, .inl (cI, 6, .inl td))] s.heap := hP
  have hl := lv_entry ([.ref g0, .int p0, .int x, .int y]) (n := 4) (Nat.le_of_ble_eq_true rfl)
  rw [lg_entry_eq]
  generalize (lg_sl ([.ref g0, .int p0, .int x, .int y]) ++ List.replicate (4 - (lg_sl ([.ref g0, .int p0, .int x, .int y])).length) Slot.unset).toArray = ls at hl ⊢
  have hl : lv_has ls 4 [(0, .ref g0), (1, .int p0), (2, .int x), (3, .int y)] := hl
  refine lv_iload_n hx hb dX5_read_0 rfl (lv_at hl 1 rfl) ?_
  refine lv_aload_n hx hb dX5_read_1 rfl (lv_at hl 0 rfl) ?_
  refine va_get (D := D) (ci := 5) (v := .ref g3) (C := RX5) (T := TX5) (N := 6) hx hb hts gv_in_X5_read_X5 hown hK hP 0 rfl rfl 2 (by decide) (hts (.fieldLink RX5 26 "Gravimere" "needles" "LGravimere$Needles;") (by decide +kernel)) (fun _ h9 => h9) rfl dX5_read_2 ?_
  refine va_getN (D := D) (ci := 3) (v := .int (nI nc)) (C := RX3) (T := TX3) (N := 4) hx hb hts gv_in_X5_read_X3 hown hK hP 4 rfl rfl 3 (by decide) ((gv_nf_99 hG).use rfl) (fun _ h9 => h9) rfl dX5_read_5 ?_
  refine gv_xv (vx_runS (As := [.int p0, .int (nI nc)]) (rest := []) ⟨hx, hb, hml, hown, hts⟩ (ct_X5_requireNumber l hlt D cI cJ s.heap.size p0 nc (by omega)) (va_cwS 2 hts gX5_read_X5_requireNumber rfl rfl rfl (by decide +kernel) ⟨Nat.le_of_ble_eq_true rfl, Nat.le_of_ble_eq_true rfl⟩) (gv_pSZ (wc := []) hP hK hD hG hZ0 (gv_A0 (fun q h => hA q (h))) [] rfl (by decide)) rfl rfl hl.1 rfl (lv_room (Nat.le_of_ble_eq_true rfl)) dX5_read_8 ⟨Nat.le_of_ble_eq_true rfl, Nat.le_of_ble_eq_true rfl⟩) (fun E ce q9 H1 hBX hz1 hk1 hce hcv hcl => ?_) (fun h1 => ?_)
  · skip
    refine gv_out htb hlocks hz1 hk1 hce hcv hcl (?_) (Nat.le_of_ble_eq_true rfl) (Nat.le_of_ble_eq_true rfl)
    exact ⟨hBX.1, fun z => hBX.2 z.1⟩
  obtain ⟨i, hi, ei⟩ := vp_in_of h1 (by omega)
  rw [ei] at hl
  have hl : lv_has ls 4 [(0, .ref g0), (1, .int (nI i)), (2, .int x), (3, .int y)] := hl
  refine lv_iload_n hx hb dX5_read_11 rfl (lv_at hl 2 rfl) ?_
  refine lv_iload_n hx hb dX5_read_12 rfl (lv_at hl 3 rfl) ?_
  refine gv_xv (vx_runS (As := [.int x, .int y]) (rest := []) ⟨hx, hb, hml, hown, hts⟩ (ct_X5_requireCell l hlt D cI cJ s.heap.size x y) (va_cwS 2 hts gX5_read_X5_requireCell rfl rfl rfl (by decide +kernel) ⟨Nat.le_of_ble_eq_true rfl, Nat.le_of_ble_eq_true rfl⟩) (gv_pSZ (wc := []) hP hK hD hG hZ0 (gv_A0 (fun q h => hA q (h))) [] rfl (by decide)) rfl rfl hl.1 rfl (lv_room (Nat.le_of_ble_eq_true rfl)) dX5_read_13 ⟨Nat.le_of_ble_eq_true rfl, Nat.le_of_ble_eq_true rfl⟩) (fun E ce q9 H1 hBX hz1 hk1 hce hcv hcl => ?_) (fun hc => ?_)
  · skip
    refine gv_out htb hlocks hz1 hk1 hce hcv hcl (?_) (Nat.le_of_ble_eq_true rfl) (Nat.le_of_ble_eq_true rfl)
    exact ⟨hBX.1, fun z => hBX.2 z.2⟩
  obtain ⟨a, ha8, ea⟩ := vp_in_of hc.1 (by decide)
  obtain ⟨b, hb8, eb⟩ := vp_in_of hc.2 (by decide)
  rw [ea] at hl
  have hl : lv_has ls 4 [(0, .ref g0), (1, .int (nI i)), (2, .int (nI a)), (3, .int y)] := hl
  rw [eb] at hl
  have hl : lv_has ls 4 [(0, .ref g0), (1, .int (nI i)), (2, .int (nI a)), (3, .int (nI b))] := hl
  refine lv_aload_n hx hb dX5_read_16 rfl (lv_at hl 0 rfl) ?_
  refine va_get (D := D) (ci := 5) (v := .ref g1) (C := RX5) (T := TX5) (N := 6) hx hb hts gv_in_X5_read_X5 hown hK hP 0 rfl rfl 0 (by decide) (hts (.fieldLink RX5 12 "Gravimere" "body" "LGravimere$Body;") (by decide +kernel)) (fun _ h9 => h9) rfl dX5_read_17 ?_
  refine lv_iload_n hx hb dX5_read_20 rfl (lv_at hl 2 rfl) ?_
  refine lv_iload_n hx hb dX5_read_21 rfl (lv_at hl 3 rfl) ?_
  refine gv_pl (va_runVN (As := [.int (nI a), .int (nI b)]) (rest := []) ⟨hx, hb, hml, hown, hts⟩ (ct_X1_keptPull l D cI cJ s.heap.size g1 b1 b2 b3 fP a b ha8 hb8) ⟨va_cnB 2 hts gX5_read_X1_keptPull_n71 rfl rfl rfl (gv_nm_X5_71 hG) (hts (.initialized RX1) (by decide +kernel)) (by decide +kernel) ⟨Nat.le_of_ble_eq_true rfl, Nat.le_of_ble_eq_true rfl⟩, (hts (.instanceMethod yX1_keptPull) (by decide +kernel)), (hts (.selects RX1 yX1_keptPull yX1_keptPull) (by decide +kernel))⟩ (gv_pV (wc := [(g1, .inr (1, [.ref b1, .ref b2, .ref b3])), (b3, .inl (cJ, 64, .inr (.inl fP)))]) hP hK hD hG [1, 2] rfl (by decide) 0 rfl rfl rfl) rfl rfl hl.1 rfl (lv_room (Nat.le_of_ble_eq_true rfl)) dX5_read_22 ⟨Nat.le_of_ble_eq_true rfl, Nat.le_of_ble_eq_true rfl⟩) (fun rp hrp => ?_)
  refine lv_aload_n hx hb dX5_read_25 rfl (lv_at hl 0 rfl) ?_
  refine va_get (D := D) (ci := 5) (v := .ref g2) (C := RX5) (T := TX5) (N := 6) hx hb hts gv_in_X5_read_X5 hown hK hP 0 rfl rfl 1 (by decide) (hts (.fieldLink RX5 19 "Gravimere" "moon" "LGravimere$Moon;") (by decide +kernel)) (fun _ h9 => h9) rfl dX5_read_26 ?_
  refine lv_aload_n hx hb dX5_read_29 rfl (lv_at hl 0 rfl) ?_
  refine va_get (D := D) (ci := 5) (v := .int (nI mo)) (C := RX5) (T := TX5) (N := 6) hx hb hts gv_in_X5_read_X5 hown hK hP 0 rfl rfl 5 (by decide) (hts (.fieldLink RX5 44 "Gravimere" "month" "I") (by decide +kernel)) (fun _ h9 => h9) rfl dX5_read_30 ?_
  refine gv_pl (va_runVN (As := [.int (nI mo)]) (rest := [.long rp]) ⟨hx, hb, hml, hown, hts⟩ (ct_X2_tideIn l D cI cJ s.heap.size g2 st pe mo h1p h60 hmo) ⟨va_cnB 1 hts gX5_read_X2_tideIn_n121 rfl rfl rfl (gv_nm_X5_121 hG) (hts (.initialized RX2) (by decide +kernel)) (by decide +kernel) ⟨Nat.le_of_ble_eq_true rfl, Nat.le_of_ble_eq_true rfl⟩, (hts (.instanceMethod yX2_tideIn) (by decide +kernel)), (hts (.selects RX2 yX2_tideIn yX2_tideIn) (by decide +kernel))⟩ (gv_pV (wc := [(g2, .inr (2, [.int st, .int (nI pe)]))]) hP hK hD hG [3] rfl (by decide) 0 rfl rfl rfl) rfl rfl hl.1 rfl (lv_room (Nat.le_of_ble_eq_true rfl)) dX5_read_33 ⟨Nat.le_of_ble_eq_true rfl, Nat.le_of_ble_eq_true rfl⟩) (fun rt hrt => ?_)
  refine lv_ladd hx hb dX5_read_36 ?_
  refine lv_aload_n hx hb dX5_read_37 rfl (lv_at hl 0 rfl) ?_
  refine va_get (D := D) (ci := 5) (v := .ref g3) (C := RX5) (T := TX5) (N := 6) hx hb hts gv_in_X5_read_X5 hown hK hP 0 rfl rfl 2 (by decide) (hts (.fieldLink RX5 26 "Gravimere" "needles" "LGravimere$Needles;") (by decide +kernel)) (fun _ h9 => h9) rfl dX5_read_38 ?_
  refine lv_iload_n hx hb dX5_read_41 rfl (lv_at hl 1 rfl) ?_
  refine lv_aload_n hx hb dX5_read_42 rfl (lv_at hl 0 rfl) ?_
  refine va_get (D := D) (ci := 5) (v := .int (nI mo)) (C := RX5) (T := TX5) (N := 6) hx hb hts gv_in_X5_read_X5 hown hK hP 0 rfl rfl 5 (by decide) (hts (.fieldLink RX5 44 "Gravimere" "month" "I") (by decide +kernel)) (fun _ h9 => h9) rfl dX5_read_43 ?_
  refine gv_pl (va_runVN (As := [.int (nI i), .int (nI mo)]) (rest := [.long (rp + rt)]) ⟨hx, hb, hml, hown, hts⟩ (ct_X3_offIn l D cI cJ s.heap.size g3 n1 n2 n3 nc kd of_ td i (nI mo) (by omega)) ⟨va_cnB 2 hts gX5_read_X3_offIn_n115 rfl rfl rfl (gv_nm_X5_115 hG) (hts (.initialized RX3) (by decide +kernel)) (by decide +kernel) ⟨Nat.le_of_ble_eq_true rfl, Nat.le_of_ble_eq_true rfl⟩, (hts (.instanceMethod yX3_offIn) (by decide +kernel)), (hts (.selects RX3 yX3_offIn yX3_offIn) (by decide +kernel))⟩ (gv_pV (wc := [(g3, .inr (3, [.ref n1, .ref n2, .ref n3, .int (nI nc)])), (n1, .inl (cI, 6, .inl kd)), (n2, .inl (cI, 6, .inl of_)), (n3, .inl (cI, 6, .inl td))]) hP hK hD hG [4, 5, 6, 7] rfl (by decide) 0 rfl rfl rfl) rfl rfl hl.1 rfl (lv_room (Nat.le_of_ble_eq_true rfl)) dX5_read_46 ⟨Nat.le_of_ble_eq_true rfl, Nat.le_of_ble_eq_true rfl⟩) (fun ro hro => ?_)
  refine lv_ladd hx hb dX5_read_49 ?_
  have hpo : ∃ i a b, i < nc ∧ a < 8 ∧ b < 8 ∧ p0 = nI i ∧ x = nI a ∧ y = nI b ∧ ((rp + rt) + ro) = fP (b * 8 + a) + (if mo % pe < pe / 2 then st else -st).toInt64 + gv_off kd of_ td (nI mo) i := by
    exact ⟨i, a, b, hi, ha8, hb8, ei, ea, eb, by rw [hrp, hrt, hro]⟩
  refine vx_ret (W.widen (k := 1) (n := 6) (Nat.le_of_ble_eq_true rfl) (Nat.le_of_ble_eq_true rfl) ?_)
  exact W.lret (v := (rp + rt) + ro) hx hb hr (fun t9 ht9 hW9 => ⟨((rp + rt) + ro), rfl, hpo, ht9⟩) t_nil dX5_read_50
