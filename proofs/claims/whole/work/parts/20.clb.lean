theorem gv_in_X5_benchmark_X4 : ∀ w ∈ wsX40, w ∈ wsX5_benchmark := by decide +kernel
theorem gv_in_X5_benchmark_X5 : ∀ w ∈ wsX50, w ∈ wsX5_benchmark := by decide +kernel
theorem gv_in_X5_line_X4 : ∀ w ∈ wsX40, w ∈ wsX5_line := by decide +kernel
theorem gv_in_X5_line_X5 : ∀ w ∈ wsX50, w ∈ wsX5_line := by decide +kernel
theorem gv_in_X5_doubt_X4 : ∀ w ∈ wsX40, w ∈ wsX5_doubt := by decide +kernel
theorem gv_in_X5_doubt_X5 : ∀ w ∈ wsX50, w ∈ wsX5_doubt := by decide +kernel
theorem gv_in_X5_isInConflict_X4 : ∀ w ∈ wsX40, w ∈ wsX5_isInConflict := by decide +kernel
theorem gv_in_X5_isInConflict_X5 : ∀ w ∈ wsX50, w ∈ wsX5_isInConflict := by decide +kernel
theorem gv_in_X5_doubtAnew_X4 : ∀ w ∈ wsX40, w ∈ wsX5_doubtAnew := by decide +kernel
theorem gv_in_X5_doubtAnew_X5 : ∀ w ∈ wsX50, w ∈ wsX5_doubtAnew := by decide +kernel
theorem gv_in_X5_height_X4 : ∀ w ∈ wsX40, w ∈ wsX5_height := by decide +kernel
theorem gv_in_X5_height_X5 : ∀ w ∈ wsX50, w ∈ wsX5_height := by decide +kernel
theorem gv_in_X5_release_X0 : ∀ w ∈ wsX00, w ∈ wsX5_release := by decide +kernel
theorem gv_in_X5_release_X1 : ∀ w ∈ wsX10, w ∈ wsX5_release := by decide +kernel
theorem gv_in_X5_release_X5 : ∀ w ∈ wsX50, w ∈ wsX5_release := by decide +kernel
theorem gv_in_X5_trend_X0 : ∀ w ∈ wsX00, w ∈ wsX5_trend := by decide +kernel
theorem gv_in_X5_trend_X5 : ∀ w ∈ wsX50, w ∈ wsX5_trend := by decide +kernel
set_option maxHeartbeats 4000000 in
set_option maxRecDepth 100000 in
theorem ct_X5_benchmark (l : Launch) (hlt : l.stackTraces = false) (D : va_G) (cI cJ : ClassId) (sz : Nat) (g0 g1 g2 g3 g4 g5 mo : Nat)(s1 s2 s3 s4 s5 s6 s7 bn ln : Nat) (hbn : bn ≤ 10) : vx_Met l yX5_benchmark wsX5_benchmark ({ frames := 7, cells := 1, slots := 6, locals := 111 }) (va_Pc [.ref g0] (gv_Z D cI cJ [(g0, .inr (5, [.ref g1, .ref g2, .ref g3, .ref g4, .ref g5, .int (nI mo)])), (g4, .inr (4, [.ref s1, .ref s2, .ref s3, .ref s4, .ref s5, .ref s6, .ref s7, .int (nI bn), .int (nI ln)]))] sz)) (va_Qi (fun (r9 : Int32) (u9 : Unit) => bn < 10 ∧ r9 = nI bn) (fun (u9 : Unit) t9 => gv_W D (va_A [(g0, .inr (5, [.ref g1, .ref g2, .ref g3, .ref g4, .ref g5, .int (nI mo)])), (g4, .inr (4, [.ref s1, .ref s2, .ref s3, .ref s4, .ref s5, .ref s6, .ref s7, .int (nI bn), .int (nI ln)]))] sz) [(g0, .inr (5, [.ref g1, .ref g2, .ref g3, .ref g4, .ref g5, .int (nI mo)])), (g4, .inr (4, [.ref s1, .ref s2, .ref s3, .ref s4, .ref s5, .ref s6, .ref s7, .int (nI (bn + 1)), .int (nI ln)]))] t9) (va_A [(g0, .inr (5, [.ref g1, .ref g2, .ref g3, .ref g4, .ref g5, .int (nI mo)])), (g4, .inr (4, [.ref s1, .ref s2, .ref s3, .ref s4, .ref s5, .ref s6, .ref s7, .int (nI bn), .int (nI ln)]))] sz)) (gv_X (fun E => E = gv_eS ∧ ¬ bn < 10)) 1 6 (va_A [(g0, .inr (5, [.ref g1, .ref g2, .ref g3, .ref g4, .ref g5, .int (nI mo)])), (g4, .inr (4, [.ref s1, .ref s2, .ref s3, .ref s4, .ref s5, .ref s6, .ref s7, .int (nI bn), .int (nI ln)]))] sz) := by
  refine vx_ofW (cc := cX5_benchmark) (maxL := 1) (ret := (some .int)) (by decide) rfl ?_
  intro p e s m args below meth c s₁ B hml htb hv
  obtain ⟨rfl, ⟨hsz, hP, hK, hD0, hG⟩, hZ0⟩ := hv
  have hx := B.exec
  have hb := B.bytes
  have hr := B.returns
  have hts := atoms_spec (ws := wsX5_benchmark) B.pre
  have hown : s.vm.findClass RX5 = some m.cls := findClass_of_methodNamed B.named
  have hlocks := B.notSynchronized
  subst hsz
  have hD := hD0.self (sz := s.heap.size)
  generalize hAe : va_A [(g0, .inr (5, [.ref g1, .ref g2, .ref g3, .ref g4, .ref g5, .int (nI mo)])), (g4, .inr (4, [.ref s1, .ref s2, .ref s3, .ref s4, .ref s5, .ref s6, .ref s7, .int (nI bn), .int (nI ln)]))] s.heap.size = A at hD hZ0 ⊢
  have hA : ∀ q : Nat, s.heap.size ≤ q → A q := fun q h => by rw [← hAe]; exact Or.inr h
  have hS : va_S A s.heap s.heap [] := va_S.rf
  have hP : va_P D vwCl [(g0, .inr (5, [.ref g1, .ref g2, .ref g3, .ref g4, .ref g5, .int (nI mo)])), (g4, .inr (4, [.ref s1, .ref s2, .ref s3, .ref s4, .ref s5, .ref s6, .ref s7, .int (nI bn), .int (nI ln)]))] s.heap := hP
  have hl := lv_entry ([.ref g0]) (n := 1) (Nat.le_of_ble_eq_true rfl)
  rw [lg_entry_eq]
  generalize (lg_sl ([.ref g0]) ++ List.replicate (1 - (lg_sl ([.ref g0])).length) Slot.unset).toArray = ls at hl ⊢
  have hl : lv_has ls 1 [(0, .ref g0)] := hl
  refine lv_aload_n hx hb dX5_benchmark_0 rfl (lv_at hl 0 rfl) ?_
  refine va_get (D := D) (ci := 5) (v := .ref g4) (C := RX5) (T := TX5) (N := 6) hx hb hts gv_in_X5_benchmark_X5 hown hK hP 0 rfl rfl 3 (by decide) (hts (.fieldLink RX5 33 "Gravimere" "survey" "LGravimere$Survey;") (by decide +kernel)) (fun _ h9 => h9) rfl dX5_benchmark_1 ?_
  refine va_getN (D := D) (ci := 4) (v := .int (nI bn)) (C := RX4) (T := TX4) (N := 9) hx hb hts gv_in_X5_benchmark_X4 hown hK hP 1 rfl rfl 7 (by decide) ((gv_nf_125 hG).use rfl) (fun _ h9 => h9) rfl dX5_benchmark_4 ?_
  refine lv_bipush (v := nI 10) hx hb dX5_benchmark_7 (by decide) ?_
  refine gv_xv (vx_runS (As := [.int (nI bn), .int (nI 10)]) (rest := []) ⟨hx, hb, hml, hown, hts⟩ (ct_X5_requireRoom l hlt D cI cJ s.heap.size bn 10 (by omega) (by decide)) (va_cwS 2 hts gX5_benchmark_X5_requireRoom rfl rfl rfl (by decide +kernel) ⟨Nat.le_of_ble_eq_true rfl, Nat.le_of_ble_eq_true rfl⟩) (gv_pSZ (wc := []) hP hK hD hG (hZ0.kept hS.2.1) (gv_A0 (fun q h => hA q (Nat.le_trans hS.1 h))) [] rfl (by decide)) rfl rfl hl.1 rfl (lv_room (Nat.le_of_ble_eq_true rfl)) dX5_benchmark_9 ⟨Nat.le_of_ble_eq_true rfl, Nat.le_of_ble_eq_true rfl⟩) (fun E ce q9 H1 hBX hz1 hk1 hce hcv hcl => ?_) (fun h1 => ?_)
  · skip
    refine gv_out htb hlocks hz1 hk1 hce hcv hcl (?_) (Nat.le_of_ble_eq_true rfl) (Nat.le_of_ble_eq_true rfl)
    exact hBX
  refine lv_aload_n hx hb dX5_benchmark_12 rfl (lv_at hl 0 rfl) ?_
  refine va_get (D := D) (ci := 5) (v := .ref g4) (C := RX5) (T := TX5) (N := 6) hx hb hts gv_in_X5_benchmark_X5 hown hK hP 0 rfl rfl 3 (by decide) (hts (.fieldLink RX5 33 "Gravimere" "survey" "LGravimere$Survey;") (by decide +kernel)) (fun _ h9 => h9) rfl dX5_benchmark_13 ?_
  refine gv_mi (wc := [(g4, .inr (4, [.ref s1, .ref s2, .ref s3, .ref s4, .ref s5, .ref s6, .ref s7, .int (nI bn), .int (nI ln)]))]) (wr := [(g0, .inr (5, [.ref g1, .ref g2, .ref g3, .ref g4, .ref g5, .int (nI mo)]))]) (w2 := (fun u => [(g0, .inr (5, [.ref g1, .ref g2, .ref g3, .ref g4, .ref g5, .int (nI mo)])), (g4, .inr (4, [.ref s1, .ref s2, .ref s3, .ref s4, .ref s5, .ref s6, .ref s7, .int (nI (bn + 1)), .int (nI ln)]))])) (va_runVN (As := []) (rest := []) ⟨hx, hb, hml, hown, hts⟩ (ct_X4_addBenchmark l D cI cJ s.heap.size g4 s1 s2 s3 s4 s5 s6 s7 bn ln) ⟨va_cnB 0 hts gX5_benchmark_X4_addBenchmark_n128 rfl rfl rfl (gv_nm_X5_128 hG) (hts (.initialized RX4) (by decide +kernel)) (by decide +kernel) ⟨Nat.le_of_ble_eq_true rfl, Nat.le_of_ble_eq_true rfl⟩, (hts (.instanceMethod yX4_addBenchmark) (by decide +kernel)), (hts (.selects RX4 yX4_addBenchmark yX4_addBenchmark) (by decide +kernel))⟩ (gv_pV (wc := [(g4, .inr (4, [.ref s1, .ref s2, .ref s3, .ref s4, .ref s5, .ref s6, .ref s7, .int (nI bn), .int (nI ln)]))]) hP hK hD hG [1] rfl (by decide) 0 rfl rfl rfl) rfl rfl hl.1 rfl (lv_room (Nat.le_of_ble_eq_true rfl)) dX5_benchmark_16 ⟨Nat.le_of_ble_eq_true rfl, Nat.le_of_ble_eq_true rfl⟩) hP hD hS hA [1] [0] [0, 1] rfl rfl (by decide) (by decide) (fun u => rfl) (by decide) (fun rp u H locs hrp hP hD hS => ?_)
  have hP : va_P D vwCl [(g0, .inr (5, [.ref g1, .ref g2, .ref g3, .ref g4, .ref g5, .int (nI mo)])), (g4, .inr (4, [.ref s1, .ref s2, .ref s3, .ref s4, .ref s5, .ref s6, .ref s7, .int (nI (bn + 1)), .int (nI ln)]))] H := hP
  have hD : va_D A [(g0, .inr (5, [.ref g1, .ref g2, .ref g3, .ref g4, .ref g5, .int (nI mo)])), (g4, .inr (4, [.ref s1, .ref s2, .ref s3, .ref s4, .ref s5, .ref s6, .ref s7, .int (nI (bn + 1)), .int (nI ln)]))] := hD
  have hpo : bn < 10 ∧ rp = nI bn := by
    exact ⟨h1, hrp⟩
  have hP9 : va_P D vwCl [(g0, .inr (5, [.ref g1, .ref g2, .ref g3, .ref g4, .ref g5, .int (nI mo)])), (g4, .inr (4, [.ref s1, .ref s2, .ref s3, .ref s4, .ref s5, .ref s6, .ref s7, .int (nI (bn + 1)), .int (nI ln)]))] H := hP
  have hD9 : va_D A [(g0, .inr (5, [.ref g1, .ref g2, .ref g3, .ref g4, .ref g5, .int (nI mo)])), (g4, .inr (4, [.ref s1, .ref s2, .ref s3, .ref s4, .ref s5, .ref s6, .ref s7, .int (nI (bn + 1)), .int (nI ln)]))] := hD
  refine vx_ret (W.widen (k := 1) (n := 6) (Nat.le_of_ble_eq_true rfl) (Nat.le_of_ble_eq_true rfl) ?_)
  exact W.iret (v := rp) hx hb hr (fun t9 ht9 hW9 => ⟨⟨rp, (), rfl, hpo, by rw [ht9]; exact hP9, hD9⟩, hS.F ht9⟩) hS.2.2 dX5_benchmark_19
set_option maxHeartbeats 4000000 in
set_option maxRecDepth 100000 in
theorem ct_X5_line (l : Launch) (hlt : l.stackTraces = false) (D : va_G) (cI cJ : ClassId) (sz : Nat) (g0 g1 g2 g3 g4 g5 mo : Nat)(s1 s2 s3 s4 s5 s6 s7 bn ln : Nat) (sa sb su : Nat → Nat) (sr : Nat → Int32) (p0 p1 p2 p3 : Int32) (hbn : bn ≤ 10) (hln : ln ≤ 24) : vx_Met l yX5_line wsX5_line ({ frames := 7, cells := 1, slots := 6, locals := 115 }) (va_Pc [.ref g0, .int p0, .int p1, .int p2, .int p3] (gv_Z D cI cJ [(g0, .inr (5, [.ref g1, .ref g2, .ref g3, .ref g4, .ref g5, .int (nI mo)])), (g4, .inr (4, [.ref s1, .ref s2, .ref s3, .ref s4, .ref s5, .ref s6, .ref s7, .int (nI bn), .int (nI ln)])), (s1, .inl (cI, 24, .inl (fun j => nI (sa j)))), (s2, .inl (cI, 24, .inl (fun j => nI (sb j)))), (s3, .inl (cI, 24, .inl sr)), (s4, .inl (cI, 24, .inl (fun j => nI (su j))))] sz)) (va_Qi (fun (r9 : Int32) (u9 : Nat × Nat × Nat) => match u9 with | (f, t, k) => f < bn ∧ t < bn ∧ k ≤ 1000 ∧ p0 = nI f ∧ p1 = nI t ∧ p3 = nI k ∧ gv_okl p0 p1 p2 p3 ∧ ln < 24 ∧ r9 = nI ln) (fun (u9 : Nat × Nat × Nat) t9 => gv_W D (va_A [(g0, .inr (5, [.ref g1, .ref g2, .ref g3, .ref g4, .ref g5, .int (nI mo)])), (g4, .inr (4, [.ref s1, .ref s2, .ref s3, .ref s4, .ref s5, .ref s6, .ref s7, .int (nI bn), .int (nI ln)])), (s1, .inl (cI, 24, .inl (fun j => nI (sa j)))), (s2, .inl (cI, 24, .inl (fun j => nI (sb j)))), (s3, .inl (cI, 24, .inl sr)), (s4, .inl (cI, 24, .inl (fun j => nI (su j))))] sz) (match u9 with | (f, t, k) => [(g0, .inr (5, [.ref g1, .ref g2, .ref g3, .ref g4, .ref g5, .int (nI mo)])), (g4, .inr (4, [.ref s1, .ref s2, .ref s3, .ref s4, .ref s5, .ref s6, .ref s7, .int (nI bn), .int (nI (ln + 1))])), (s1, .inl (cI, 24, .inl (fun j => nI (gv_un sa ln f j)))), (s2, .inl (cI, 24, .inl (fun j => nI (gv_un sb ln t j)))), (s3, .inl (cI, 24, .inl (upd sr ln p2))), (s4, .inl (cI, 24, .inl (fun j => nI (gv_un su ln k j))))]) t9) (va_A [(g0, .inr (5, [.ref g1, .ref g2, .ref g3, .ref g4, .ref g5, .int (nI mo)])), (g4, .inr (4, [.ref s1, .ref s2, .ref s3, .ref s4, .ref s5, .ref s6, .ref s7, .int (nI bn), .int (nI ln)])), (s1, .inl (cI, 24, .inl (fun j => nI (sa j)))), (s2, .inl (cI, 24, .inl (fun j => nI (sb j)))), (s3, .inl (cI, 24, .inl sr)), (s4, .inl (cI, 24, .inl (fun j => nI (su j))))] sz)) (gv_X (fun E => (E = gv_eI ∧ ¬ (vp_in p0 bn ∧ vp_in p1 bn)) ∨ (E = gv_eA ∧ (vp_in p0 bn ∧ vp_in p1 bn) ∧ ¬ gv_okl p0 p1 p2 p3) ∨ (E = gv_eS ∧ (vp_in p0 bn ∧ vp_in p1 bn) ∧ gv_okl p0 p1 p2 p3 ∧ ¬ ln < 24))) 1 6 (va_A [(g0, .inr (5, [.ref g1, .ref g2, .ref g3, .ref g4, .ref g5, .int (nI mo)])), (g4, .inr (4, [.ref s1, .ref s2, .ref s3, .ref s4, .ref s5, .ref s6, .ref s7, .int (nI bn), .int (nI ln)])), (s1, .inl (cI, 24, .inl (fun j => nI (sa j)))), (s2, .inl (cI, 24, .inl (fun j => nI (sb j)))), (s3, .inl (cI, 24, .inl sr)), (s4, .inl (cI, 24, .inl (fun j => nI (su j))))] sz) := by
  refine vx_ofW (cc := cX5_line) (maxL := 5) (ret := (some .int)) (by decide) rfl ?_
  intro p e s m args below meth c s₁ B hml htb hv
  obtain ⟨rfl, ⟨hsz, hP, hK, hD0, hG⟩, hZ0⟩ := hv
  have hx := B.exec
  have hb := B.bytes
  have hr := B.returns
  have hts := atoms_spec (ws := wsX5_line) B.pre
  have hown : s.vm.findClass RX5 = some m.cls := findClass_of_methodNamed B.named
  have hlocks := B.notSynchronized
  subst hsz
  have hD := hD0.self (sz := s.heap.size)
  generalize hAe : va_A [(g0, .inr (5, [.ref g1, .ref g2, .ref g3, .ref g4, .ref g5, .int (nI mo)])), (g4, .inr (4, [.ref s1, .ref s2, .ref s3, .ref s4, .ref s5, .ref s6, .ref s7, .int (nI bn), .int (nI ln)])), (s1, .inl (cI, 24, .inl (fun j => nI (sa j)))), (s2, .inl (cI, 24, .inl (fun j => nI (sb j)))), (s3, .inl (cI, 24, .inl sr)), (s4, .inl (cI, 24, .inl (fun j => nI (su j))))] s.heap.size = A at hD hZ0 ⊢
  have hA : ∀ q : Nat, s.heap.size ≤ q → A q := fun q h => by rw [← hAe]; exact Or.inr h
  have hS : va_S A s.heap s.heap [] := va_S.rf
  have hP : va_P D vwCl [(g0, .inr (5, [.ref g1, .ref g2, .ref g3, .ref g4, .ref g5, .int (nI mo)])), (g4, .inr (4, [.ref s1, .ref s2, .ref s3, .ref s4, .ref s5, .ref s6, .ref s7, .int (nI bn), .int (nI ln)])), (s1, .inl (cI, 24, .inl (fun j => nI (sa j)))), (s2, .inl (cI, 24, .inl (fun j => nI (sb j)))), (s3, .inl (cI, 24, .inl sr)), (s4, .inl (cI, 24, .inl (fun j => nI (su j))))] s.heap := hP
  have hl := lv_entry ([.ref g0, .int p0, .int p1, .int p2, .int p3]) (n := 5) (Nat.le_of_ble_eq_true rfl)
  rw [lg_entry_eq]
  generalize (lg_sl ([.ref g0, .int p0, .int p1, .int p2, .int p3]) ++ List.replicate (5 - (lg_sl ([.ref g0, .int p0, .int p1, .int p2, .int p3])).length) Slot.unset).toArray = ls at hl ⊢
  have hl : lv_has ls 5 [(0, .ref g0), (1, .int p0), (2, .int p1), (3, .int p2), (4, .int p3)] := hl
  refine lv_iload_n hx hb dX5_line_0 rfl (lv_at hl 1 rfl) ?_
  refine lv_aload_n hx hb dX5_line_1 rfl (lv_at hl 0 rfl) ?_
  refine va_get (D := D) (ci := 5) (v := .ref g4) (C := RX5) (T := TX5) (N := 6) hx hb hts gv_in_X5_line_X5 hown hK hP 0 rfl rfl 3 (by decide) (hts (.fieldLink RX5 33 "Gravimere" "survey" "LGravimere$Survey;") (by decide +kernel)) (fun _ h9 => h9) rfl dX5_line_2 ?_
  refine va_getN (D := D) (ci := 4) (v := .int (nI bn)) (C := RX4) (T := TX4) (N := 9) hx hb hts gv_in_X5_line_X4 hown hK hP 1 rfl rfl 7 (by decide) ((gv_nf_125 hG).use rfl) (fun _ h9 => h9) rfl dX5_line_5 ?_
  refine gv_xv (vx_runS (As := [.int p0, .int (nI bn)]) (rest := []) ⟨hx, hb, hml, hown, hts⟩ (ct_X5_requireNumber l hlt D cI cJ s.heap.size p0 bn (by omega)) (va_cwS 2 hts gX5_line_X5_requireNumber rfl rfl rfl (by decide +kernel) ⟨Nat.le_of_ble_eq_true rfl, Nat.le_of_ble_eq_true rfl⟩) (gv_pSZ (wc := []) hP hK hD hG (hZ0.kept hS.2.1) (gv_A0 (fun q h => hA q (Nat.le_trans hS.1 h))) [] rfl (by decide)) rfl rfl hl.1 rfl (lv_room (Nat.le_of_ble_eq_true rfl)) dX5_line_8 ⟨Nat.le_of_ble_eq_true rfl, Nat.le_of_ble_eq_true rfl⟩) (fun E ce q9 H1 hBX hz1 hk1 hce hcv hcl => ?_) (fun h1 => ?_)
  · skip
    refine gv_out htb hlocks hz1 hk1 hce hcv hcl (?_) (Nat.le_of_ble_eq_true rfl) (Nat.le_of_ble_eq_true rfl)
    exact Or.inl ⟨hBX.1, fun z => hBX.2 z.1⟩
  obtain ⟨f, hf, ef⟩ := vp_in_of h1 (by omega)
  rw [ef] at hl
  have hl : lv_has ls 5 [(0, .ref g0), (1, .int (nI f)), (2, .int p1), (3, .int p2), (4, .int p3)] := hl
  refine lv_iload_n hx hb dX5_line_11 rfl (lv_at hl 2 rfl) ?_
  refine lv_aload_n hx hb dX5_line_12 rfl (lv_at hl 0 rfl) ?_
  refine va_get (D := D) (ci := 5) (v := .ref g4) (C := RX5) (T := TX5) (N := 6) hx hb hts gv_in_X5_line_X5 hown hK hP 0 rfl rfl 3 (by decide) (hts (.fieldLink RX5 33 "Gravimere" "survey" "LGravimere$Survey;") (by decide +kernel)) (fun _ h9 => h9) rfl dX5_line_13 ?_
  refine va_getN (D := D) (ci := 4) (v := .int (nI bn)) (C := RX4) (T := TX4) (N := 9) hx hb hts gv_in_X5_line_X4 hown hK hP 1 rfl rfl 7 (by decide) ((gv_nf_125 hG).use rfl) (fun _ h9 => h9) rfl dX5_line_16 ?_
  refine gv_xv (vx_runS (As := [.int p1, .int (nI bn)]) (rest := []) ⟨hx, hb, hml, hown, hts⟩ (ct_X5_requireNumber l hlt D cI cJ s.heap.size p1 bn (by omega)) (va_cwS 2 hts gX5_line_X5_requireNumber rfl rfl rfl (by decide +kernel) ⟨Nat.le_of_ble_eq_true rfl, Nat.le_of_ble_eq_true rfl⟩) (gv_pSZ (wc := []) hP hK hD hG (hZ0.kept hS.2.1) (gv_A0 (fun q h => hA q (Nat.le_trans hS.1 h))) [] rfl (by decide)) rfl rfl hl.1 rfl (lv_room (Nat.le_of_ble_eq_true rfl)) dX5_line_19 ⟨Nat.le_of_ble_eq_true rfl, Nat.le_of_ble_eq_true rfl⟩) (fun E ce q9 H1 hBX hz1 hk1 hce hcv hcl => ?_) (fun h2 => ?_)
  · skip
    refine gv_out htb hlocks hz1 hk1 hce hcv hcl (?_) (Nat.le_of_ble_eq_true rfl) (Nat.le_of_ble_eq_true rfl)
    exact Or.inl ⟨hBX.1, fun z => hBX.2 z.2⟩
  obtain ⟨t, ht, et⟩ := vp_in_of h2 (by omega)
  rw [et] at hl
  have hl : lv_has ls 5 [(0, .ref g0), (1, .int (nI f)), (2, .int (nI t)), (3, .int p2), (4, .int p3)] := hl
  refine lv_iload_n hx hb dX5_line_22 rfl (lv_at hl 1 rfl) ?_
  refine lv_iload_n hx hb dX5_line_23 rfl (lv_at hl 2 rfl) ?_
  refine lv_icmp_ne (tgt := 37) hx hb dX5_line_24 (by decide) (fun c_24 => ?_) (fun c_24 => ?_)
  · skip
    have c_24 := (not_congr (nI_eq (a := f) (b := t) (by omega) (by omega))).mp c_24
    have hne : ¬ p0 = p1 := fun z => c_24 ((nI_eq (a := f) (b := t) (by omega) (by omega)).mp (by rw [← ef, ← et]; exact z))
    refine lv_iload_n hx hb dX5_line_37 rfl (lv_at hl 3 rfl) ?_
    refine lv_i2l (v := p2.toInt64) hx hb dX5_line_38 rfl ?_
    refine lv_ldc2 hx hb hown (hts (.constantLong RX5 137 (-1000000)) (by decide +kernel)) dX5_line_39 ?_
    refine lv_ldc2 hx hb hown (hts (.constantLong RX5 78 (1000000)) (by decide +kernel)) dX5_line_42 ?_
    refine gv_xv (vx_runS (As := [.long p2.toInt64, .long (-1000000), .long 1000000]) (rest := []) ⟨hx, hb, hml, hown, hts⟩ (ct_X5_requireRange l hlt D cI cJ s.heap.size p2.toInt64 (-1000000) 1000000) (va_cwS 3 hts gX5_line_X5_requireRange rfl rfl rfl (by decide +kernel) ⟨Nat.le_of_ble_eq_true rfl, Nat.le_of_ble_eq_true rfl⟩) (gv_pSZ (wc := []) hP hK hD hG (hZ0.kept hS.2.1) (gv_A0 (fun q h => hA q (Nat.le_trans hS.1 h))) [] rfl (by decide)) rfl rfl hl.1 rfl (lv_room (Nat.le_of_ble_eq_true rfl)) dX5_line_45 ⟨Nat.le_of_ble_eq_true rfl, Nat.le_of_ble_eq_true rfl⟩) (fun E ce q9 H1 hBX hz1 hk1 hce hcv hcl => ?_) (fun h3 => ?_)
    · skip
      refine gv_out htb hlocks hz1 hk1 hce hcv hcl (?_) (Nat.le_of_ble_eq_true rfl) (Nat.le_of_ble_eq_true rfl)
      exact Or.inr (Or.inl ⟨hBX.1, ⟨h1, h2⟩, fun z => hBX.2 z.2.1⟩)
    refine lv_iload hx hb dX5_line_48 (lv_at hl 4 rfl) ?_
    refine lv_i2l (v := p3.toInt64) hx hb dX5_line_50 rfl ?_
    refine lv_lconst (v := 0) hx hb dX5_line_51 (by decide) ?_
    refine lv_ldc2 hx hb hown (hts (.constantLong RX5 97 (1000)) (by decide +kernel)) dX5_line_52 ?_
    refine gv_xv (vx_runS (As := [.long p3.toInt64, .long 0, .long 1000]) (rest := []) ⟨hx, hb, hml, hown, hts⟩ (ct_X5_requireRange l hlt D cI cJ s.heap.size p3.toInt64 0 1000) (va_cwS 3 hts gX5_line_X5_requireRange rfl rfl rfl (by decide +kernel) ⟨Nat.le_of_ble_eq_true rfl, Nat.le_of_ble_eq_true rfl⟩) (gv_pSZ (wc := []) hP hK hD hG (hZ0.kept hS.2.1) (gv_A0 (fun q h => hA q (Nat.le_trans hS.1 h))) [] rfl (by decide)) rfl rfl hl.1 rfl (lv_room (Nat.le_of_ble_eq_true rfl)) dX5_line_55 ⟨Nat.le_of_ble_eq_true rfl, Nat.le_of_ble_eq_true rfl⟩) (fun E ce q9 H1 hBX hz1 hk1 hce hcv hcl => ?_) (fun h4 => ?_)
    · skip
      refine gv_out htb hlocks hz1 hk1 hce hcv hcl (?_) (Nat.le_of_ble_eq_true rfl) (Nat.le_of_ble_eq_true rfl)
      exact Or.inr (Or.inl ⟨hBX.1, ⟨h1, h2⟩, fun z => hBX.2 z.2.2⟩)
    obtain ⟨k, -, hk, ek⟩ := gv_of64 (p := p3) (lo := 0) (hi := 1000) (by decide) (by decide) h4.1 h4.2
    rw [ek] at hl
    have hl : lv_has ls 5 [(0, .ref g0), (1, .int (nI f)), (2, .int (nI t)), (3, .int p2), (4, .int (nI k))] := hl
    have hokl : gv_okl p0 p1 p2 p3 := ⟨hne, h3, h4⟩
    refine lv_aload_n hx hb dX5_line_58 rfl (lv_at hl 0 rfl) ?_
    refine va_get (D := D) (ci := 5) (v := .ref g4) (C := RX5) (T := TX5) (N := 6) hx hb hts gv_in_X5_line_X5 hown hK hP 0 rfl rfl 3 (by decide) (hts (.fieldLink RX5 33 "Gravimere" "survey" "LGravimere$Survey;") (by decide +kernel)) (fun _ h9 => h9) rfl dX5_line_59 ?_
    refine va_getN (D := D) (ci := 4) (v := .int (nI ln)) (C := RX4) (T := TX4) (N := 9) hx hb hts gv_in_X5_line_X4 hown hK hP 1 rfl rfl 8 (by decide) ((gv_nf_139 hG).use rfl) (fun _ h9 => h9) rfl dX5_line_62 ?_
    refine lv_bipush (v := nI 24) hx hb dX5_line_65 (by decide) ?_
    refine gv_xv (vx_runS (As := [.int (nI ln), .int (nI 24)]) (rest := []) ⟨hx, hb, hml, hown, hts⟩ (ct_X5_requireRoom l hlt D cI cJ s.heap.size ln 24 (by omega) (by decide)) (va_cwS 2 hts gX5_line_X5_requireRoom rfl rfl rfl (by decide +kernel) ⟨Nat.le_of_ble_eq_true rfl, Nat.le_of_ble_eq_true rfl⟩) (gv_pSZ (wc := []) hP hK hD hG (hZ0.kept hS.2.1) (gv_A0 (fun q h => hA q (Nat.le_trans hS.1 h))) [] rfl (by decide)) rfl rfl hl.1 rfl (lv_room (Nat.le_of_ble_eq_true rfl)) dX5_line_67 ⟨Nat.le_of_ble_eq_true rfl, Nat.le_of_ble_eq_true rfl⟩) (fun E ce q9 H1 hBX hz1 hk1 hce hcv hcl => ?_) (fun h5 => ?_)
    · skip
      refine gv_out htb hlocks hz1 hk1 hce hcv hcl (?_) (Nat.le_of_ble_eq_true rfl) (Nat.le_of_ble_eq_true rfl)
      exact Or.inr (Or.inr ⟨hBX.1, ⟨h1, h2⟩, hokl, hBX.2⟩)
    refine lv_aload_n hx hb dX5_line_70 rfl (lv_at hl 0 rfl) ?_
    refine va_get (D := D) (ci := 5) (v := .ref g4) (C := RX5) (T := TX5) (N := 6) hx hb hts gv_in_X5_line_X5 hown hK hP 0 rfl rfl 3 (by decide) (hts (.fieldLink RX5 33 "Gravimere" "survey" "LGravimere$Survey;") (by decide +kernel)) (fun _ h9 => h9) rfl dX5_line_71 ?_
    refine lv_iload_n hx hb dX5_line_74 rfl (lv_at hl 1 rfl) ?_
    refine lv_iload_n hx hb dX5_line_75 rfl (lv_at hl 2 rfl) ?_
    refine lv_iload_n hx hb dX5_line_76 rfl (lv_at hl 3 rfl) ?_
    refine lv_iload hx hb dX5_line_77 (lv_at hl 4 rfl) ?_
    refine gv_mi (wc := [(g4, .inr (4, [.ref s1, .ref s2, .ref s3, .ref s4, .ref s5, .ref s6, .ref s7, .int (nI bn), .int (nI ln)])), (s1, .inl (cI, 24, .inl (fun j => nI (sa j)))), (s2, .inl (cI, 24, .inl (fun j => nI (sb j)))), (s3, .inl (cI, 24, .inl sr)), (s4, .inl (cI, 24, .inl (fun j => nI (su j))))]) (wr := [(g0, .inr (5, [.ref g1, .ref g2, .ref g3, .ref g4, .ref g5, .int (nI mo)]))]) (w2 := (fun u => [(g0, .inr (5, [.ref g1, .ref g2, .ref g3, .ref g4, .ref g5, .int (nI mo)])), (g4, .inr (4, [.ref s1, .ref s2, .ref s3, .ref s4, .ref s5, .ref s6, .ref s7, .int (nI bn), .int (nI (ln + 1))])), (s1, .inl (cI, 24, .inl (fun j => nI (gv_un sa ln f j)))), (s2, .inl (cI, 24, .inl (fun j => nI (gv_un sb ln t j)))), (s3, .inl (cI, 24, .inl (upd sr ln p2))), (s4, .inl (cI, 24, .inl (fun j => nI (gv_un su ln k j))))])) (va_runVN (As := [.int (nI f), .int (nI t), .int p2, .int (nI k)]) (rest := []) ⟨hx, hb, hml, hown, hts⟩ (ct_X4_addLine l D cI cJ s.heap.size g4 s1 s2 s3 s4 s5 s6 s7 bn ln sa sb su sr f t k p2 h5) ⟨va_cnB 4 hts gX5_line_X4_addLine_n142 rfl rfl rfl (gv_nm_X5_142 hG) (hts (.initialized RX4) (by decide +kernel)) (by decide +kernel) ⟨Nat.le_of_ble_eq_true rfl, Nat.le_of_ble_eq_true rfl⟩, (hts (.instanceMethod yX4_addLine) (by decide +kernel)), (hts (.selects RX4 yX4_addLine yX4_addLine) (by decide +kernel))⟩ (gv_pV (wc := [(g4, .inr (4, [.ref s1, .ref s2, .ref s3, .ref s4, .ref s5, .ref s6, .ref s7, .int (nI bn), .int (nI ln)])), (s1, .inl (cI, 24, .inl (fun j => nI (sa j)))), (s2, .inl (cI, 24, .inl (fun j => nI (sb j)))), (s3, .inl (cI, 24, .inl sr)), (s4, .inl (cI, 24, .inl (fun j => nI (su j))))]) hP hK hD hG [1, 2, 3, 4, 5] rfl (by decide) 0 rfl rfl rfl) rfl rfl hl.1 rfl (lv_room (Nat.le_of_ble_eq_true rfl)) dX5_line_79 ⟨Nat.le_of_ble_eq_true rfl, Nat.le_of_ble_eq_true rfl⟩) hP hD hS hA [1, 2, 3, 4, 5] [0] [0, 1, 2, 3, 4, 5] rfl rfl (by decide) (by decide) (fun u => rfl) (by decide) (fun rp u H locs hrp hP hD hS => ?_)
    have hP : va_P D vwCl [(g0, .inr (5, [.ref g1, .ref g2, .ref g3, .ref g4, .ref g5, .int (nI mo)])), (g4, .inr (4, [.ref s1, .ref s2, .ref s3, .ref s4, .ref s5, .ref s6, .ref s7, .int (nI bn), .int (nI (ln + 1))])), (s1, .inl (cI, 24, .inl (fun j => nI (gv_un sa ln f j)))), (s2, .inl (cI, 24, .inl (fun j => nI (gv_un sb ln t j)))), (s3, .inl (cI, 24, .inl (upd sr ln p2))), (s4, .inl (cI, 24, .inl (fun j => nI (gv_un su ln k j))))] H := hP
    have hD : va_D A [(g0, .inr (5, [.ref g1, .ref g2, .ref g3, .ref g4, .ref g5, .int (nI mo)])), (g4, .inr (4, [.ref s1, .ref s2, .ref s3, .ref s4, .ref s5, .ref s6, .ref s7, .int (nI bn), .int (nI (ln + 1))])), (s1, .inl (cI, 24, .inl (fun j => nI (gv_un sa ln f j)))), (s2, .inl (cI, 24, .inl (fun j => nI (gv_un sb ln t j)))), (s3, .inl (cI, 24, .inl (upd sr ln p2))), (s4, .inl (cI, 24, .inl (fun j => nI (gv_un su ln k j))))] := hD
    have hpo : match (f, t, k) with | (f, t, k) => f < bn ∧ t < bn ∧ k ≤ 1000 ∧ p0 = nI f ∧ p1 = nI t ∧ p3 = nI k ∧ gv_okl p0 p1 p2 p3 ∧ ln < 24 ∧ rp = nI ln := by
      exact ⟨hf, ht, hk, ef, et, ek, hokl, h5, hrp⟩
    have hP9 : va_P D vwCl [(g0, .inr (5, [.ref g1, .ref g2, .ref g3, .ref g4, .ref g5, .int (nI mo)])), (g4, .inr (4, [.ref s1, .ref s2, .ref s3, .ref s4, .ref s5, .ref s6, .ref s7, .int (nI bn), .int (nI (ln + 1))])), (s1, .inl (cI, 24, .inl (fun j => nI (gv_un sa ln f j)))), (s2, .inl (cI, 24, .inl (fun j => nI (gv_un sb ln t j)))), (s3, .inl (cI, 24, .inl (upd sr ln p2))), (s4, .inl (cI, 24, .inl (fun j => nI (gv_un su ln k j))))] H := hP
    have hD9 : va_D A [(g0, .inr (5, [.ref g1, .ref g2, .ref g3, .ref g4, .ref g5, .int (nI mo)])), (g4, .inr (4, [.ref s1, .ref s2, .ref s3, .ref s4, .ref s5, .ref s6, .ref s7, .int (nI bn), .int (nI (ln + 1))])), (s1, .inl (cI, 24, .inl (fun j => nI (gv_un sa ln f j)))), (s2, .inl (cI, 24, .inl (fun j => nI (gv_un sb ln t j)))), (s3, .inl (cI, 24, .inl (upd sr ln p2))), (s4, .inl (cI, 24, .inl (fun j => nI (gv_un su ln k j))))] := hD
    refine vx_ret (W.widen (k := 1) (n := 6) (Nat.le_of_ble_eq_true rfl) (Nat.le_of_ble_eq_true rfl) ?_)
    exact W.iret (v := rp) hx hb hr (fun t9 ht9 hW9 => ⟨⟨rp, (f, t, k), rfl, hpo, by rw [ht9]; exact hP9, hD9⟩, hS.F ht9⟩) hS.2.2 dX5_line_82
  · skip
    have c_24 := (nI_eq (a := f) (b := t) (by omega) (by omega)).mp c_24
    obtain ⟨sta9, hsta9⟩ := gv_st_134 hG
    have hBX : (gv_eA = gv_eI ∧ ¬ (vp_in p0 bn ∧ vp_in p1 bn)) ∨ (gv_eA = gv_eA ∧ (vp_in p0 bn ∧ vp_in p1 bn) ∧ ¬ gv_okl p0 p1 p2 p3) ∨ (gv_eA = gv_eS ∧ (vp_in p0 bn ∧ vp_in p1 bn) ∧ gv_okl p0 p1 p2 p3 ∧ ¬ ln < 24) := by
      exact Or.inr (Or.inl ⟨rfl, ⟨h1, h2⟩, fun z => z.1 (by rw [ef, et, c_24])⟩)
    exact vx_throwS (own := RX5) (cls := gv_eA) (text := "a line goes to another benchmark") (names := gv_nm) (ik := 132) (is := 134) (ic := 136) (sa := sta9) (A := A) hx hb hlt hown (by decide +kernel) (by decide +kernel) (hts (.classLink RX5 132 gv_eA) (by decide +kernel)) (hts (.initialized gv_eA) (by decide +kernel)) hsta9 (vx_hat (fun w h => hts w (List.mem_cons_of_mem _ (List.mem_append_left _ (List.mem_append_left _ (List.mem_append_right _ h))))) gv_bA (gv_bwA hG)) gv_otA hZ0.1 hZ0.2 va_S.rf (hl.1.trans hml.symm) dX5_line_27 dX5_line_30 dX5_line_31 dX5_line_33 dX5_line_36 (fun x h => (htb x h).elim) (Nat.le_of_ble_eq_true rfl) (Nat.le_of_ble_eq_true rfl) (Nat.le_of_ble_eq_true rfl) (Nat.le_of_ble_eq_true rfl) hlocks (fun _ _ h1 h2 => ⟨hBX, h1, h2⟩) (fun _ h => absurd h List.not_mem_nil) (Nat.le_of_ble_eq_true rfl) (Nat.le_of_ble_eq_true rfl)
set_option maxHeartbeats 4000000 in
set_option maxRecDepth 100000 in
theorem ct_X5_doubt (l : Launch) (hlt : l.stackTraces = false) (D : va_G) (cI cJ : ClassId) (sz : Nat) (g0 g1 g2 g3 g4 g5 mo : Nat)(s1 s2 s3 s4 s5 s6 s7 bn ln : Nat) (sa sb su : Nat → Nat) (sr dd hh : Nat → Int32) (p0 : Int32) (hsa : ∀ j, sa j < 10) (hsb : ∀ j, sb j < 10) (hln : ln ≤ 24) (hbn : bn ≤ 10) : vx_Met l yX5_doubt wsX5_doubt ({ frames := 7, cells := 1, slots := 6, locals := 111 }) (va_Pc [.ref g0, .int p0] (gv_Z D cI cJ [(g0, .inr (5, [.ref g1, .ref g2, .ref g3, .ref g4, .ref g5, .int (nI mo)])), (g4, .inr (4, [.ref s1, .ref s2, .ref s3, .ref s4, .ref s5, .ref s6, .ref s7, .int (nI bn), .int (nI ln)])), (s1, .inl (cI, 24, .inl (fun j => nI (sa j)))), (s2, .inl (cI, 24, .inl (fun j => nI (sb j)))), (s3, .inl (cI, 24, .inl sr)), (s4, .inl (cI, 24, .inl (fun j => nI (su j)))), (s5, .inl (cI, 10, .inl hh)), (s6, .inl (cI, 10, .inl dd))] sz)) (va_Qi (fun (r9 : Int32) (u9 : Nat) => let i := u9; i < bn ∧ p0 = nI i ∧ r9 = (gv_itr sa sb su sr ln (bn - 1) (gv_ko dd, upd hh 0 (nI 0))).1 i) (fun (u9 : Nat) t9 => gv_W D (va_A [(g0, .inr (5, [.ref g1, .ref g2, .ref g3, .ref g4, .ref g5, .int (nI mo)])), (g4, .inr (4, [.ref s1, .ref s2, .ref s3, .ref s4, .ref s5, .ref s6, .ref s7, .int (nI bn), .int (nI ln)])), (s1, .inl (cI, 24, .inl (fun j => nI (sa j)))), (s2, .inl (cI, 24, .inl (fun j => nI (sb j)))), (s3, .inl (cI, 24, .inl sr)), (s4, .inl (cI, 24, .inl (fun j => nI (su j)))), (s5, .inl (cI, 10, .inl hh)), (s6, .inl (cI, 10, .inl dd))] sz) (let i := u9; [(g0, .inr (5, [.ref g1, .ref g2, .ref g3, .ref g4, .ref g5, .int (nI mo)])), (g4, .inr (4, [.ref s1, .ref s2, .ref s3, .ref s4, .ref s5, .ref s6, .ref s7, .int (nI bn), .int (nI ln)])), (s1, .inl (cI, 24, .inl (fun j => nI (sa j)))), (s2, .inl (cI, 24, .inl (fun j => nI (sb j)))), (s3, .inl (cI, 24, .inl sr)), (s4, .inl (cI, 24, .inl (fun j => nI (su j)))), (s5, .inl (cI, 10, .inl ((gv_itr sa sb su sr ln (bn - 1) (gv_ko dd, upd hh 0 (nI 0))).2))), (s6, .inl (cI, 10, .inl ((gv_itr sa sb su sr ln (bn - 1) (gv_ko dd, upd hh 0 (nI 0))).1)))]) t9) (va_A [(g0, .inr (5, [.ref g1, .ref g2, .ref g3, .ref g4, .ref g5, .int (nI mo)])), (g4, .inr (4, [.ref s1, .ref s2, .ref s3, .ref s4, .ref s5, .ref s6, .ref s7, .int (nI bn), .int (nI ln)])), (s1, .inl (cI, 24, .inl (fun j => nI (sa j)))), (s2, .inl (cI, 24, .inl (fun j => nI (sb j)))), (s3, .inl (cI, 24, .inl sr)), (s4, .inl (cI, 24, .inl (fun j => nI (su j)))), (s5, .inl (cI, 10, .inl hh)), (s6, .inl (cI, 10, .inl dd))] sz)) (gv_X (fun E => E = gv_eI ∧ ¬ vp_in p0 bn)) 1 6 (va_A [(g0, .inr (5, [.ref g1, .ref g2, .ref g3, .ref g4, .ref g5, .int (nI mo)])), (g4, .inr (4, [.ref s1, .ref s2, .ref s3, .ref s4, .ref s5, .ref s6, .ref s7, .int (nI bn), .int (nI ln)])), (s1, .inl (cI, 24, .inl (fun j => nI (sa j)))), (s2, .inl (cI, 24, .inl (fun j => nI (sb j)))), (s3, .inl (cI, 24, .inl sr)), (s4, .inl (cI, 24, .inl (fun j => nI (su j)))), (s5, .inl (cI, 10, .inl hh)), (s6, .inl (cI, 10, .inl dd))] sz) := by
  refine vx_ofW (cc := cX5_doubt) (maxL := 2) (ret := (some .int)) (by decide) rfl ?_
  intro p e s m args below meth c s₁ B hml htb hv
  obtain ⟨rfl, ⟨hsz, hP, hK, hD0, hG⟩, hZ0⟩ := hv
  have hx := B.exec
  have hb := B.bytes
  have hr := B.returns
  have hts := atoms_spec (ws := wsX5_doubt) B.pre
  have hown : s.vm.findClass RX5 = some m.cls := findClass_of_methodNamed B.named
  have hlocks := B.notSynchronized
  subst hsz
  have hD := hD0.self (sz := s.heap.size)
  generalize hAe : va_A [(g0, .inr (5, [.ref g1, .ref g2, .ref g3, .ref g4, .ref g5, .int (nI mo)])), (g4, .inr (4, [.ref s1, .ref s2, .ref s3, .ref s4, .ref s5, .ref s6, .ref s7, .int (nI bn), .int (nI ln)])), (s1, .inl (cI, 24, .inl (fun j => nI (sa j)))), (s2, .inl (cI, 24, .inl (fun j => nI (sb j)))), (s3, .inl (cI, 24, .inl sr)), (s4, .inl (cI, 24, .inl (fun j => nI (su j)))), (s5, .inl (cI, 10, .inl hh)), (s6, .inl (cI, 10, .inl dd))] s.heap.size = A at hD hZ0 ⊢
  have hA : ∀ q : Nat, s.heap.size ≤ q → A q := fun q h => by rw [← hAe]; exact Or.inr h
  have hS : va_S A s.heap s.heap [] := va_S.rf
  have hP : va_P D vwCl [(g0, .inr (5, [.ref g1, .ref g2, .ref g3, .ref g4, .ref g5, .int (nI mo)])), (g4, .inr (4, [.ref s1, .ref s2, .ref s3, .ref s4, .ref s5, .ref s6, .ref s7, .int (nI bn), .int (nI ln)])), (s1, .inl (cI, 24, .inl (fun j => nI (sa j)))), (s2, .inl (cI, 24, .inl (fun j => nI (sb j)))), (s3, .inl (cI, 24, .inl sr)), (s4, .inl (cI, 24, .inl (fun j => nI (su j)))), (s5, .inl (cI, 10, .inl hh)), (s6, .inl (cI, 10, .inl dd))] s.heap := hP
  have hl := lv_entry ([.ref g0, .int p0]) (n := 2) (Nat.le_of_ble_eq_true rfl)
  rw [lg_entry_eq]
  generalize (lg_sl ([.ref g0, .int p0]) ++ List.replicate (2 - (lg_sl ([.ref g0, .int p0])).length) Slot.unset).toArray = ls at hl ⊢
  have hl : lv_has ls 2 [(0, .ref g0), (1, .int p0)] := hl
  refine lv_iload_n hx hb dX5_doubt_0 rfl (lv_at hl 1 rfl) ?_
  refine lv_aload_n hx hb dX5_doubt_1 rfl (lv_at hl 0 rfl) ?_
  refine va_get (D := D) (ci := 5) (v := .ref g4) (C := RX5) (T := TX5) (N := 6) hx hb hts gv_in_X5_doubt_X5 hown hK hP 0 rfl rfl 3 (by decide) (hts (.fieldLink RX5 33 "Gravimere" "survey" "LGravimere$Survey;") (by decide +kernel)) (fun _ h9 => h9) rfl dX5_doubt_2 ?_
  refine va_getN (D := D) (ci := 4) (v := .int (nI bn)) (C := RX4) (T := TX4) (N := 9) hx hb hts gv_in_X5_doubt_X4 hown hK hP 1 rfl rfl 7 (by decide) ((gv_nf_125 hG).use rfl) (fun _ h9 => h9) rfl dX5_doubt_5 ?_
  refine gv_xv (vx_runS (As := [.int p0, .int (nI bn)]) (rest := []) ⟨hx, hb, hml, hown, hts⟩ (ct_X5_requireNumber l hlt D cI cJ s.heap.size p0 bn (by omega)) (va_cwS 2 hts gX5_doubt_X5_requireNumber rfl rfl rfl (by decide +kernel) ⟨Nat.le_of_ble_eq_true rfl, Nat.le_of_ble_eq_true rfl⟩) (gv_pSZ (wc := []) hP hK hD hG (hZ0.kept hS.2.1) (gv_A0 (fun q h => hA q (Nat.le_trans hS.1 h))) [] rfl (by decide)) rfl rfl hl.1 rfl (lv_room (Nat.le_of_ble_eq_true rfl)) dX5_doubt_8 ⟨Nat.le_of_ble_eq_true rfl, Nat.le_of_ble_eq_true rfl⟩) (fun E ce q9 H1 hBX hz1 hk1 hce hcv hcl => ?_) (fun h1 => ?_)
  · skip
    refine gv_out htb hlocks hz1 hk1 hce hcv hcl (?_) (Nat.le_of_ble_eq_true rfl) (Nat.le_of_ble_eq_true rfl)
    exact hBX
  obtain ⟨i, hi, ei⟩ := vp_in_of h1 (by omega)
  rw [ei] at hl
  have hl : lv_has ls 2 [(0, .ref g0), (1, .int (nI i))] := hl
  refine lv_aload_n hx hb dX5_doubt_11 rfl (lv_at hl 0 rfl) ?_
  refine va_get (D := D) (ci := 5) (v := .ref g4) (C := RX5) (T := TX5) (N := 6) hx hb hts gv_in_X5_doubt_X5 hown hK hP 0 rfl rfl 3 (by decide) (hts (.fieldLink RX5 33 "Gravimere" "survey" "LGravimere$Survey;") (by decide +kernel)) (fun _ h9 => h9) rfl dX5_doubt_12 ?_
  refine gv_mv (wc := [(g4, .inr (4, [.ref s1, .ref s2, .ref s3, .ref s4, .ref s5, .ref s6, .ref s7, .int (nI bn), .int (nI ln)])), (s1, .inl (cI, 24, .inl (fun j => nI (sa j)))), (s2, .inl (cI, 24, .inl (fun j => nI (sb j)))), (s3, .inl (cI, 24, .inl sr)), (s4, .inl (cI, 24, .inl (fun j => nI (su j)))), (s5, .inl (cI, 10, .inl hh)), (s6, .inl (cI, 10, .inl dd))]) (wr := [(g0, .inr (5, [.ref g1, .ref g2, .ref g3, .ref g4, .ref g5, .int (nI mo)]))]) (w2 := (fun u => [(g0, .inr (5, [.ref g1, .ref g2, .ref g3, .ref g4, .ref g5, .int (nI mo)])), (g4, .inr (4, [.ref s1, .ref s2, .ref s3, .ref s4, .ref s5, .ref s6, .ref s7, .int (nI bn), .int (nI ln)])), (s1, .inl (cI, 24, .inl (fun j => nI (sa j)))), (s2, .inl (cI, 24, .inl (fun j => nI (sb j)))), (s3, .inl (cI, 24, .inl sr)), (s4, .inl (cI, 24, .inl (fun j => nI (su j)))), (s5, .inl (cI, 10, .inl ((gv_itr sa sb su sr ln (bn - 1) (gv_ko dd, upd hh 0 (nI 0))).2))), (s6, .inl (cI, 10, .inl ((gv_itr sa sb su sr ln (bn - 1) (gv_ko dd, upd hh 0 (nI 0))).1)))])) (va_runVN (As := []) (rest := []) ⟨hx, hb, hml, hown, hts⟩ (ct_X4_findHeights l D cI cJ s.heap.size g4 s1 s2 s3 s4 s5 s6 s7 bn ln sa sb su sr dd hh hsa hsb hln hbn) ⟨va_cnB 0 hts gX5_doubt_X4_findHeights_n146 rfl rfl rfl (gv_nm_X5_146 hG) (hts (.initialized RX4) (by decide +kernel)) (by decide +kernel) ⟨Nat.le_of_ble_eq_true rfl, Nat.le_of_ble_eq_true rfl⟩, (hts (.instanceMethod yX4_findHeights) (by decide +kernel)), (hts (.selects RX4 yX4_findHeights yX4_findHeights) (by decide +kernel))⟩ (gv_pV (wc := [(g4, .inr (4, [.ref s1, .ref s2, .ref s3, .ref s4, .ref s5, .ref s6, .ref s7, .int (nI bn), .int (nI ln)])), (s1, .inl (cI, 24, .inl (fun j => nI (sa j)))), (s2, .inl (cI, 24, .inl (fun j => nI (sb j)))), (s3, .inl (cI, 24, .inl sr)), (s4, .inl (cI, 24, .inl (fun j => nI (su j)))), (s5, .inl (cI, 10, .inl hh)), (s6, .inl (cI, 10, .inl dd))]) hP hK hD hG [1, 2, 3, 4, 5, 6, 7] rfl (by decide) 0 rfl rfl rfl) rfl rfl hl.1 rfl (lv_room (Nat.le_of_ble_eq_true rfl)) dX5_doubt_15 ⟨Nat.le_of_ble_eq_true rfl, Nat.le_of_ble_eq_true rfl⟩) hP hD hS hA [1, 2, 3, 4, 5, 6, 7] [0] [0, 1, 2, 3, 4, 5, 6, 7] rfl rfl (by decide) (by decide) (fun u => rfl) (by decide) (fun u H locs hr_3 hP hD hS => ?_)
  have hP : va_P D vwCl [(g0, .inr (5, [.ref g1, .ref g2, .ref g3, .ref g4, .ref g5, .int (nI mo)])), (g4, .inr (4, [.ref s1, .ref s2, .ref s3, .ref s4, .ref s5, .ref s6, .ref s7, .int (nI bn), .int (nI ln)])), (s1, .inl (cI, 24, .inl (fun j => nI (sa j)))), (s2, .inl (cI, 24, .inl (fun j => nI (sb j)))), (s3, .inl (cI, 24, .inl sr)), (s4, .inl (cI, 24, .inl (fun j => nI (su j)))), (s5, .inl (cI, 10, .inl ((gv_itr sa sb su sr ln (bn - 1) (gv_ko dd, upd hh 0 (nI 0))).2))), (s6, .inl (cI, 10, .inl ((gv_itr sa sb su sr ln (bn - 1) (gv_ko dd, upd hh 0 (nI 0))).1)))] H := hP
  have hD : va_D A [(g0, .inr (5, [.ref g1, .ref g2, .ref g3, .ref g4, .ref g5, .int (nI mo)])), (g4, .inr (4, [.ref s1, .ref s2, .ref s3, .ref s4, .ref s5, .ref s6, .ref s7, .int (nI bn), .int (nI ln)])), (s1, .inl (cI, 24, .inl (fun j => nI (sa j)))), (s2, .inl (cI, 24, .inl (fun j => nI (sb j)))), (s3, .inl (cI, 24, .inl sr)), (s4, .inl (cI, 24, .inl (fun j => nI (su j)))), (s5, .inl (cI, 10, .inl ((gv_itr sa sb su sr ln (bn - 1) (gv_ko dd, upd hh 0 (nI 0))).2))), (s6, .inl (cI, 10, .inl ((gv_itr sa sb su sr ln (bn - 1) (gv_ko dd, upd hh 0 (nI 0))).1)))] := hD
  refine lv_aload_n hx hb dX5_doubt_18 rfl (lv_at hl 0 rfl) ?_
  refine va_get (D := D) (ci := 5) (v := .ref g4) (C := RX5) (T := TX5) (N := 6) hx hb hts gv_in_X5_doubt_X5 hown hK hP 0 rfl rfl 3 (by decide) (hts (.fieldLink RX5 33 "Gravimere" "survey" "LGravimere$Survey;") (by decide +kernel)) (fun _ h9 => h9) rfl dX5_doubt_19 ?_
  refine va_getN (D := D) (ci := 4) (v := .ref s6) (C := RX4) (T := TX4) (N := 9) hx hb hts gv_in_X5_doubt_X4 hown hK hP 1 rfl rfl 5 (by decide) ((gv_nf_149 hG).use rfl) (fun _ h9 => h9) rfl dX5_doubt_22 ?_
  refine lv_iload_n hx hb dX5_doubt_25 rfl (lv_at hl 1 rfl) ?_
  refine gv_il hx hb hK hP 7 (k := i) rfl (by omega) (by decide) dX5_doubt_26 ?_
  have hpo : let i := i; i < bn ∧ p0 = nI i ∧ (((gv_itr sa sb su sr ln (bn - 1) (gv_ko dd, upd hh 0 (nI 0))).1) i) = (gv_itr sa sb su sr ln (bn - 1) (gv_ko dd, upd hh 0 (nI 0))).1 i := by
    exact ⟨hi, ei, rfl⟩
  have hP9 : va_P D vwCl [(g0, .inr (5, [.ref g1, .ref g2, .ref g3, .ref g4, .ref g5, .int (nI mo)])), (g4, .inr (4, [.ref s1, .ref s2, .ref s3, .ref s4, .ref s5, .ref s6, .ref s7, .int (nI bn), .int (nI ln)])), (s1, .inl (cI, 24, .inl (fun j => nI (sa j)))), (s2, .inl (cI, 24, .inl (fun j => nI (sb j)))), (s3, .inl (cI, 24, .inl sr)), (s4, .inl (cI, 24, .inl (fun j => nI (su j)))), (s5, .inl (cI, 10, .inl ((gv_itr sa sb su sr ln (bn - 1) (gv_ko dd, upd hh 0 (nI 0))).2))), (s6, .inl (cI, 10, .inl ((gv_itr sa sb su sr ln (bn - 1) (gv_ko dd, upd hh 0 (nI 0))).1)))] H := hP
  have hD9 : va_D A [(g0, .inr (5, [.ref g1, .ref g2, .ref g3, .ref g4, .ref g5, .int (nI mo)])), (g4, .inr (4, [.ref s1, .ref s2, .ref s3, .ref s4, .ref s5, .ref s6, .ref s7, .int (nI bn), .int (nI ln)])), (s1, .inl (cI, 24, .inl (fun j => nI (sa j)))), (s2, .inl (cI, 24, .inl (fun j => nI (sb j)))), (s3, .inl (cI, 24, .inl sr)), (s4, .inl (cI, 24, .inl (fun j => nI (su j)))), (s5, .inl (cI, 10, .inl ((gv_itr sa sb su sr ln (bn - 1) (gv_ko dd, upd hh 0 (nI 0))).2))), (s6, .inl (cI, 10, .inl ((gv_itr sa sb su sr ln (bn - 1) (gv_ko dd, upd hh 0 (nI 0))).1)))] := hD
  refine vx_ret (W.widen (k := 1) (n := 6) (Nat.le_of_ble_eq_true rfl) (Nat.le_of_ble_eq_true rfl) ?_)
  exact W.iret (v := ((gv_itr sa sb su sr ln (bn - 1) (gv_ko dd, upd hh 0 (nI 0))).1) i) hx hb hr (fun t9 ht9 hW9 => ⟨⟨(((gv_itr sa sb su sr ln (bn - 1) (gv_ko dd, upd hh 0 (nI 0))).1) i), i, rfl, hpo, by rw [ht9]; exact hP9, hD9⟩, hS.F ht9⟩) hS.2.2 dX5_doubt_27
set_option maxHeartbeats 4000000 in
set_option maxRecDepth 100000 in
theorem ct_X5_isInConflict (l : Launch) (hlt : l.stackTraces = false) (D : va_G) (cI cJ : ClassId) (sz : Nat) (g0 g1 g2 g3 g4 g5 mo : Nat)(s1 s2 s3 s4 s5 s6 s7 bn ln : Nat) (sa sb su : Nat → Nat) (sr dd hh : Nat → Int32) (p0 : Int32) (hsa : ∀ j, sa j < 10) (hsb : ∀ j, sb j < 10) (hln : ln ≤ 24) (hbn : bn ≤ 10) : vx_Met l yX5_isInConflict wsX5_isInConflict ({ frames := 7, cells := 1, slots := 6, locals := 111 }) (va_Pc [.ref g0, .int p0] (gv_Z D cI cJ [(g0, .inr (5, [.ref g1, .ref g2, .ref g3, .ref g4, .ref g5, .int (nI mo)])), (g4, .inr (4, [.ref s1, .ref s2, .ref s3, .ref s4, .ref s5, .ref s6, .ref s7, .int (nI bn), .int (nI ln)])), (s1, .inl (cI, 24, .inl (fun j => nI (sa j)))), (s2, .inl (cI, 24, .inl (fun j => nI (sb j)))), (s3, .inl (cI, 24, .inl sr)), (s4, .inl (cI, 24, .inl (fun j => nI (su j)))), (s5, .inl (cI, 10, .inl hh)), (s6, .inl (cI, 10, .inl dd))] sz)) (va_Qi (fun (r9 : Int32) (u9 : Nat) => let i := u9; i < ln ∧ p0 = nI i ∧ (gv_con sa sb su sr (gv_itr sa sb su sr ln (bn - 1) (gv_ko dd, upd hh 0 (nI 0))).1 (gv_itr sa sb su sr ln (bn - 1) (gv_ko dd, upd hh 0 (nI 0))).2 i → r9 = nI 1) ∧ (¬ gv_con sa sb su sr (gv_itr sa sb su sr ln (bn - 1) (gv_ko dd, upd hh 0 (nI 0))).1 (gv_itr sa sb su sr ln (bn - 1) (gv_ko dd, upd hh 0 (nI 0))).2 i → r9 = nI 0)) (fun (u9 : Nat) t9 => gv_W D (va_A [(g0, .inr (5, [.ref g1, .ref g2, .ref g3, .ref g4, .ref g5, .int (nI mo)])), (g4, .inr (4, [.ref s1, .ref s2, .ref s3, .ref s4, .ref s5, .ref s6, .ref s7, .int (nI bn), .int (nI ln)])), (s1, .inl (cI, 24, .inl (fun j => nI (sa j)))), (s2, .inl (cI, 24, .inl (fun j => nI (sb j)))), (s3, .inl (cI, 24, .inl sr)), (s4, .inl (cI, 24, .inl (fun j => nI (su j)))), (s5, .inl (cI, 10, .inl hh)), (s6, .inl (cI, 10, .inl dd))] sz) (let i := u9; [(g0, .inr (5, [.ref g1, .ref g2, .ref g3, .ref g4, .ref g5, .int (nI mo)])), (g4, .inr (4, [.ref s1, .ref s2, .ref s3, .ref s4, .ref s5, .ref s6, .ref s7, .int (nI bn), .int (nI ln)])), (s1, .inl (cI, 24, .inl (fun j => nI (sa j)))), (s2, .inl (cI, 24, .inl (fun j => nI (sb j)))), (s3, .inl (cI, 24, .inl sr)), (s4, .inl (cI, 24, .inl (fun j => nI (su j)))), (s5, .inl (cI, 10, .inl ((gv_itr sa sb su sr ln (bn - 1) (gv_ko dd, upd hh 0 (nI 0))).2))), (s6, .inl (cI, 10, .inl ((gv_itr sa sb su sr ln (bn - 1) (gv_ko dd, upd hh 0 (nI 0))).1)))]) t9) (va_A [(g0, .inr (5, [.ref g1, .ref g2, .ref g3, .ref g4, .ref g5, .int (nI mo)])), (g4, .inr (4, [.ref s1, .ref s2, .ref s3, .ref s4, .ref s5, .ref s6, .ref s7, .int (nI bn), .int (nI ln)])), (s1, .inl (cI, 24, .inl (fun j => nI (sa j)))), (s2, .inl (cI, 24, .inl (fun j => nI (sb j)))), (s3, .inl (cI, 24, .inl sr)), (s4, .inl (cI, 24, .inl (fun j => nI (su j)))), (s5, .inl (cI, 10, .inl hh)), (s6, .inl (cI, 10, .inl dd))] sz)) (gv_X (fun E => E = gv_eI ∧ ¬ vp_in p0 ln)) 1 6 (va_A [(g0, .inr (5, [.ref g1, .ref g2, .ref g3, .ref g4, .ref g5, .int (nI mo)])), (g4, .inr (4, [.ref s1, .ref s2, .ref s3, .ref s4, .ref s5, .ref s6, .ref s7, .int (nI bn), .int (nI ln)])), (s1, .inl (cI, 24, .inl (fun j => nI (sa j)))), (s2, .inl (cI, 24, .inl (fun j => nI (sb j)))), (s3, .inl (cI, 24, .inl sr)), (s4, .inl (cI, 24, .inl (fun j => nI (su j)))), (s5, .inl (cI, 10, .inl hh)), (s6, .inl (cI, 10, .inl dd))] sz) := by
  refine vx_ofW (cc := cX5_isInConflict) (maxL := 2) (ret := (some .boolean)) (by decide) rfl ?_
  intro p e s m args below meth c s₁ B hml htb hv
  obtain ⟨rfl, ⟨hsz, hP, hK, hD0, hG⟩, hZ0⟩ := hv
  have hx := B.exec
  have hb := B.bytes
  have hr := B.returns
  have hts := atoms_spec (ws := wsX5_isInConflict) B.pre
  have hown : s.vm.findClass RX5 = some m.cls := findClass_of_methodNamed B.named
  have hlocks := B.notSynchronized
  subst hsz
  have hD := hD0.self (sz := s.heap.size)
  generalize hAe : va_A [(g0, .inr (5, [.ref g1, .ref g2, .ref g3, .ref g4, .ref g5, .int (nI mo)])), (g4, .inr (4, [.ref s1, .ref s2, .ref s3, .ref s4, .ref s5, .ref s6, .ref s7, .int (nI bn), .int (nI ln)])), (s1, .inl (cI, 24, .inl (fun j => nI (sa j)))), (s2, .inl (cI, 24, .inl (fun j => nI (sb j)))), (s3, .inl (cI, 24, .inl sr)), (s4, .inl (cI, 24, .inl (fun j => nI (su j)))), (s5, .inl (cI, 10, .inl hh)), (s6, .inl (cI, 10, .inl dd))] s.heap.size = A at hD hZ0 ⊢
  have hA : ∀ q : Nat, s.heap.size ≤ q → A q := fun q h => by rw [← hAe]; exact Or.inr h
  have hS : va_S A s.heap s.heap [] := va_S.rf
  have hP : va_P D vwCl [(g0, .inr (5, [.ref g1, .ref g2, .ref g3, .ref g4, .ref g5, .int (nI mo)])), (g4, .inr (4, [.ref s1, .ref s2, .ref s3, .ref s4, .ref s5, .ref s6, .ref s7, .int (nI bn), .int (nI ln)])), (s1, .inl (cI, 24, .inl (fun j => nI (sa j)))), (s2, .inl (cI, 24, .inl (fun j => nI (sb j)))), (s3, .inl (cI, 24, .inl sr)), (s4, .inl (cI, 24, .inl (fun j => nI (su j)))), (s5, .inl (cI, 10, .inl hh)), (s6, .inl (cI, 10, .inl dd))] s.heap := hP
  have hl := lv_entry ([.ref g0, .int p0]) (n := 2) (Nat.le_of_ble_eq_true rfl)
  rw [lg_entry_eq]
  generalize (lg_sl ([.ref g0, .int p0]) ++ List.replicate (2 - (lg_sl ([.ref g0, .int p0])).length) Slot.unset).toArray = ls at hl ⊢
  have hl : lv_has ls 2 [(0, .ref g0), (1, .int p0)] := hl
  refine lv_iload_n hx hb dX5_isInConflict_0 rfl (lv_at hl 1 rfl) ?_
  refine lv_aload_n hx hb dX5_isInConflict_1 rfl (lv_at hl 0 rfl) ?_
  refine va_get (D := D) (ci := 5) (v := .ref g4) (C := RX5) (T := TX5) (N := 6) hx hb hts gv_in_X5_isInConflict_X5 hown hK hP 0 rfl rfl 3 (by decide) (hts (.fieldLink RX5 33 "Gravimere" "survey" "LGravimere$Survey;") (by decide +kernel)) (fun _ h9 => h9) rfl dX5_isInConflict_2 ?_
  refine va_getN (D := D) (ci := 4) (v := .int (nI ln)) (C := RX4) (T := TX4) (N := 9) hx hb hts gv_in_X5_isInConflict_X4 hown hK hP 1 rfl rfl 8 (by decide) ((gv_nf_139 hG).use rfl) (fun _ h9 => h9) rfl dX5_isInConflict_5 ?_
  refine gv_xv (vx_runS (As := [.int p0, .int (nI ln)]) (rest := []) ⟨hx, hb, hml, hown, hts⟩ (ct_X5_requireNumber l hlt D cI cJ s.heap.size p0 ln (by omega)) (va_cwS 2 hts gX5_isInConflict_X5_requireNumber rfl rfl rfl (by decide +kernel) ⟨Nat.le_of_ble_eq_true rfl, Nat.le_of_ble_eq_true rfl⟩) (gv_pSZ (wc := []) hP hK hD hG (hZ0.kept hS.2.1) (gv_A0 (fun q h => hA q (Nat.le_trans hS.1 h))) [] rfl (by decide)) rfl rfl hl.1 rfl (lv_room (Nat.le_of_ble_eq_true rfl)) dX5_isInConflict_8 ⟨Nat.le_of_ble_eq_true rfl, Nat.le_of_ble_eq_true rfl⟩) (fun E ce q9 H1 hBX hz1 hk1 hce hcv hcl => ?_) (fun h1 => ?_)
  · skip
    refine gv_out htb hlocks hz1 hk1 hce hcv hcl (?_) (Nat.le_of_ble_eq_true rfl) (Nat.le_of_ble_eq_true rfl)
    exact hBX
  obtain ⟨i, hi, ei⟩ := vp_in_of h1 (by omega)
  rw [ei] at hl
  have hl : lv_has ls 2 [(0, .ref g0), (1, .int (nI i))] := hl
  refine lv_aload_n hx hb dX5_isInConflict_11 rfl (lv_at hl 0 rfl) ?_
  refine va_get (D := D) (ci := 5) (v := .ref g4) (C := RX5) (T := TX5) (N := 6) hx hb hts gv_in_X5_isInConflict_X5 hown hK hP 0 rfl rfl 3 (by decide) (hts (.fieldLink RX5 33 "Gravimere" "survey" "LGravimere$Survey;") (by decide +kernel)) (fun _ h9 => h9) rfl dX5_isInConflict_12 ?_
  refine gv_mv (wc := [(g4, .inr (4, [.ref s1, .ref s2, .ref s3, .ref s4, .ref s5, .ref s6, .ref s7, .int (nI bn), .int (nI ln)])), (s1, .inl (cI, 24, .inl (fun j => nI (sa j)))), (s2, .inl (cI, 24, .inl (fun j => nI (sb j)))), (s3, .inl (cI, 24, .inl sr)), (s4, .inl (cI, 24, .inl (fun j => nI (su j)))), (s5, .inl (cI, 10, .inl hh)), (s6, .inl (cI, 10, .inl dd))]) (wr := [(g0, .inr (5, [.ref g1, .ref g2, .ref g3, .ref g4, .ref g5, .int (nI mo)]))]) (w2 := (fun u => [(g0, .inr (5, [.ref g1, .ref g2, .ref g3, .ref g4, .ref g5, .int (nI mo)])), (g4, .inr (4, [.ref s1, .ref s2, .ref s3, .ref s4, .ref s5, .ref s6, .ref s7, .int (nI bn), .int (nI ln)])), (s1, .inl (cI, 24, .inl (fun j => nI (sa j)))), (s2, .inl (cI, 24, .inl (fun j => nI (sb j)))), (s3, .inl (cI, 24, .inl sr)), (s4, .inl (cI, 24, .inl (fun j => nI (su j)))), (s5, .inl (cI, 10, .inl ((gv_itr sa sb su sr ln (bn - 1) (gv_ko dd, upd hh 0 (nI 0))).2))), (s6, .inl (cI, 10, .inl ((gv_itr sa sb su sr ln (bn - 1) (gv_ko dd, upd hh 0 (nI 0))).1)))])) (va_runVN (As := []) (rest := []) ⟨hx, hb, hml, hown, hts⟩ (ct_X4_findHeights l D cI cJ s.heap.size g4 s1 s2 s3 s4 s5 s6 s7 bn ln sa sb su sr dd hh hsa hsb hln hbn) ⟨va_cnB 0 hts gX5_isInConflict_X4_findHeights_n146 rfl rfl rfl (gv_nm_X5_146 hG) (hts (.initialized RX4) (by decide +kernel)) (by decide +kernel) ⟨Nat.le_of_ble_eq_true rfl, Nat.le_of_ble_eq_true rfl⟩, (hts (.instanceMethod yX4_findHeights) (by decide +kernel)), (hts (.selects RX4 yX4_findHeights yX4_findHeights) (by decide +kernel))⟩ (gv_pV (wc := [(g4, .inr (4, [.ref s1, .ref s2, .ref s3, .ref s4, .ref s5, .ref s6, .ref s7, .int (nI bn), .int (nI ln)])), (s1, .inl (cI, 24, .inl (fun j => nI (sa j)))), (s2, .inl (cI, 24, .inl (fun j => nI (sb j)))), (s3, .inl (cI, 24, .inl sr)), (s4, .inl (cI, 24, .inl (fun j => nI (su j)))), (s5, .inl (cI, 10, .inl hh)), (s6, .inl (cI, 10, .inl dd))]) hP hK hD hG [1, 2, 3, 4, 5, 6, 7] rfl (by decide) 0 rfl rfl rfl) rfl rfl hl.1 rfl (lv_room (Nat.le_of_ble_eq_true rfl)) dX5_isInConflict_15 ⟨Nat.le_of_ble_eq_true rfl, Nat.le_of_ble_eq_true rfl⟩) hP hD hS hA [1, 2, 3, 4, 5, 6, 7] [0] [0, 1, 2, 3, 4, 5, 6, 7] rfl rfl (by decide) (by decide) (fun u => rfl) (by decide) (fun u H locs hr_3 hP hD hS => ?_)
  have hP : va_P D vwCl [(g0, .inr (5, [.ref g1, .ref g2, .ref g3, .ref g4, .ref g5, .int (nI mo)])), (g4, .inr (4, [.ref s1, .ref s2, .ref s3, .ref s4, .ref s5, .ref s6, .ref s7, .int (nI bn), .int (nI ln)])), (s1, .inl (cI, 24, .inl (fun j => nI (sa j)))), (s2, .inl (cI, 24, .inl (fun j => nI (sb j)))), (s3, .inl (cI, 24, .inl sr)), (s4, .inl (cI, 24, .inl (fun j => nI (su j)))), (s5, .inl (cI, 10, .inl ((gv_itr sa sb su sr ln (bn - 1) (gv_ko dd, upd hh 0 (nI 0))).2))), (s6, .inl (cI, 10, .inl ((gv_itr sa sb su sr ln (bn - 1) (gv_ko dd, upd hh 0 (nI 0))).1)))] H := hP
  have hD : va_D A [(g0, .inr (5, [.ref g1, .ref g2, .ref g3, .ref g4, .ref g5, .int (nI mo)])), (g4, .inr (4, [.ref s1, .ref s2, .ref s3, .ref s4, .ref s5, .ref s6, .ref s7, .int (nI bn), .int (nI ln)])), (s1, .inl (cI, 24, .inl (fun j => nI (sa j)))), (s2, .inl (cI, 24, .inl (fun j => nI (sb j)))), (s3, .inl (cI, 24, .inl sr)), (s4, .inl (cI, 24, .inl (fun j => nI (su j)))), (s5, .inl (cI, 10, .inl ((gv_itr sa sb su sr ln (bn - 1) (gv_ko dd, upd hh 0 (nI 0))).2))), (s6, .inl (cI, 10, .inl ((gv_itr sa sb su sr ln (bn - 1) (gv_ko dd, upd hh 0 (nI 0))).1)))] := hD
  refine lv_aload_n hx hb dX5_isInConflict_18 rfl (lv_at hl 0 rfl) ?_
  refine va_get (D := D) (ci := 5) (v := .ref g4) (C := RX5) (T := TX5) (N := 6) hx hb hts gv_in_X5_isInConflict_X5 hown hK hP 0 rfl rfl 3 (by decide) (hts (.fieldLink RX5 33 "Gravimere" "survey" "LGravimere$Survey;") (by decide +kernel)) (fun _ h9 => h9) rfl dX5_isInConflict_19 ?_
  refine lv_iload_n hx hb dX5_isInConflict_22 rfl (lv_at hl 1 rfl) ?_
  refine gv_pi (va_runVN (As := [.int (nI i)]) (rest := []) ⟨hx, hb, hml, hown, hts⟩ (ct_X4_contradicts l D cI cJ H.size g4 s1 s2 s3 s4 s5 s6 s7 bn ln sa sb su sr (gv_itr sa sb su sr ln (bn - 1) (gv_ko dd, upd hh 0 (nI 0))).1 (gv_itr sa sb su sr ln (bn - 1) (gv_ko dd, upd hh 0 (nI 0))).2 i hsa hsb (by omega)) ⟨va_cnB 1 hts gX5_isInConflict_X4_contradicts_n163 rfl rfl rfl (gv_nm_X5_163 hG) (hts (.initialized RX4) (by decide +kernel)) (by decide +kernel) ⟨Nat.le_of_ble_eq_true rfl, Nat.le_of_ble_eq_true rfl⟩, (hts (.instanceMethod yX4_contradicts) (by decide +kernel)), (hts (.selects RX4 yX4_contradicts yX4_contradicts) (by decide +kernel))⟩ (gv_pV (wc := [(g4, .inr (4, [.ref s1, .ref s2, .ref s3, .ref s4, .ref s5, .ref s6, .ref s7, .int (nI bn), .int (nI ln)])), (s1, .inl (cI, 24, .inl (fun j => nI (sa j)))), (s2, .inl (cI, 24, .inl (fun j => nI (sb j)))), (s3, .inl (cI, 24, .inl sr)), (s4, .inl (cI, 24, .inl (fun j => nI (su j)))), (s5, .inl (cI, 10, .inl ((gv_itr sa sb su sr ln (bn - 1) (gv_ko dd, upd hh 0 (nI 0))).2))), (s6, .inl (cI, 10, .inl ((gv_itr sa sb su sr ln (bn - 1) (gv_ko dd, upd hh 0 (nI 0))).1)))]) hP hK hD hG [1, 2, 3, 4, 5, 6, 7] rfl (by decide) 0 rfl rfl rfl) rfl rfl hl.1 rfl (lv_room (Nat.le_of_ble_eq_true rfl)) dX5_isInConflict_23 ⟨Nat.le_of_ble_eq_true rfl, Nat.le_of_ble_eq_true rfl⟩) (fun rp hrp => ?_)
  have hpo : let i := i; i < ln ∧ p0 = nI i ∧ (gv_con sa sb su sr (gv_itr sa sb su sr ln (bn - 1) (gv_ko dd, upd hh 0 (nI 0))).1 (gv_itr sa sb su sr ln (bn - 1) (gv_ko dd, upd hh 0 (nI 0))).2 i → rp = nI 1) ∧ (¬ gv_con sa sb su sr (gv_itr sa sb su sr ln (bn - 1) (gv_ko dd, upd hh 0 (nI 0))).1 (gv_itr sa sb su sr ln (bn - 1) (gv_ko dd, upd hh 0 (nI 0))).2 i → rp = nI 0) := by
    exact ⟨hi, ei, hrp⟩
  have hP9 : va_P D vwCl [(g0, .inr (5, [.ref g1, .ref g2, .ref g3, .ref g4, .ref g5, .int (nI mo)])), (g4, .inr (4, [.ref s1, .ref s2, .ref s3, .ref s4, .ref s5, .ref s6, .ref s7, .int (nI bn), .int (nI ln)])), (s1, .inl (cI, 24, .inl (fun j => nI (sa j)))), (s2, .inl (cI, 24, .inl (fun j => nI (sb j)))), (s3, .inl (cI, 24, .inl sr)), (s4, .inl (cI, 24, .inl (fun j => nI (su j)))), (s5, .inl (cI, 10, .inl ((gv_itr sa sb su sr ln (bn - 1) (gv_ko dd, upd hh 0 (nI 0))).2))), (s6, .inl (cI, 10, .inl ((gv_itr sa sb su sr ln (bn - 1) (gv_ko dd, upd hh 0 (nI 0))).1)))] H := hP
  have hD9 : va_D A [(g0, .inr (5, [.ref g1, .ref g2, .ref g3, .ref g4, .ref g5, .int (nI mo)])), (g4, .inr (4, [.ref s1, .ref s2, .ref s3, .ref s4, .ref s5, .ref s6, .ref s7, .int (nI bn), .int (nI ln)])), (s1, .inl (cI, 24, .inl (fun j => nI (sa j)))), (s2, .inl (cI, 24, .inl (fun j => nI (sb j)))), (s3, .inl (cI, 24, .inl sr)), (s4, .inl (cI, 24, .inl (fun j => nI (su j)))), (s5, .inl (cI, 10, .inl ((gv_itr sa sb su sr ln (bn - 1) (gv_ko dd, upd hh 0 (nI 0))).2))), (s6, .inl (cI, 10, .inl ((gv_itr sa sb su sr ln (bn - 1) (gv_ko dd, upd hh 0 (nI 0))).1)))] := hD
  refine vx_ret (W.widen (k := 1) (n := 6) (Nat.le_of_ble_eq_true rfl) (Nat.le_of_ble_eq_true rfl) ?_)
  exact W.zret (v := rp) (ty := .boolean) hx hb hr (gv_nzc hrp) (fun t9 ht9 hW9 => ⟨⟨rp, i, rfl, hpo, by rw [ht9]; exact hP9, hD9⟩, hS.F ht9⟩) hS.2.2 dX5_isInConflict_26
set_option maxHeartbeats 4000000 in
set_option maxRecDepth 100000 in
theorem ct_X5_doubtAnew (l : Launch) (hlt : l.stackTraces = false) (D : va_G) (cI cJ : ClassId) (sz : Nat) (g0 g1 g2 g3 g4 g5 mo : Nat)(s1 s2 s3 s4 s5 s6 s7 bn ln : Nat) (sa sb su : Nat → Nat) (tt : Nat → Int32) (p0 : Int32) (hsa : ∀ j, sa j < 10) (hsb : ∀ j, sb j < 10) (hln : ln ≤ 24) (hbn : bn ≤ 10) : vx_Met l yX5_doubtAnew wsX5_doubtAnew ({ frames := 7, cells := 1, slots := 6, locals := 111 }) (va_Pc [.ref g0, .int p0] (gv_Z D cI cJ [(g0, .inr (5, [.ref g1, .ref g2, .ref g3, .ref g4, .ref g5, .int (nI mo)])), (g4, .inr (4, [.ref s1, .ref s2, .ref s3, .ref s4, .ref s5, .ref s6, .ref s7, .int (nI bn), .int (nI ln)])), (s1, .inl (cI, 24, .inl (fun j => nI (sa j)))), (s2, .inl (cI, 24, .inl (fun j => nI (sb j)))), (s4, .inl (cI, 24, .inl (fun j => nI (su j)))), (s7, .inl (cI, 10, .inl tt))] sz)) (va_Qi (fun (r9 : Int32) (u9 : Nat) => let i := u9; i < bn ∧ p0 = nI i ∧ r9 = gv_tal sa sb su ln bn (gv_ko tt, nI 1) i) (fun (u9 : Nat) t9 => gv_W D (va_A [(g0, .inr (5, [.ref g1, .ref g2, .ref g3, .ref g4, .ref g5, .int (nI mo)])), (g4, .inr (4, [.ref s1, .ref s2, .ref s3, .ref s4, .ref s5, .ref s6, .ref s7, .int (nI bn), .int (nI ln)])), (s1, .inl (cI, 24, .inl (fun j => nI (sa j)))), (s2, .inl (cI, 24, .inl (fun j => nI (sb j)))), (s4, .inl (cI, 24, .inl (fun j => nI (su j)))), (s7, .inl (cI, 10, .inl tt))] sz) (let i := u9; [(g0, .inr (5, [.ref g1, .ref g2, .ref g3, .ref g4, .ref g5, .int (nI mo)])), (g4, .inr (4, [.ref s1, .ref s2, .ref s3, .ref s4, .ref s5, .ref s6, .ref s7, .int (nI bn), .int (nI ln)])), (s1, .inl (cI, 24, .inl (fun j => nI (sa j)))), (s2, .inl (cI, 24, .inl (fun j => nI (sb j)))), (s4, .inl (cI, 24, .inl (fun j => nI (su j)))), (s7, .inl (cI, 10, .inl (gv_tal sa sb su ln bn (gv_ko tt, nI 1))))]) t9) (va_A [(g0, .inr (5, [.ref g1, .ref g2, .ref g3, .ref g4, .ref g5, .int (nI mo)])), (g4, .inr (4, [.ref s1, .ref s2, .ref s3, .ref s4, .ref s5, .ref s6, .ref s7, .int (nI bn), .int (nI ln)])), (s1, .inl (cI, 24, .inl (fun j => nI (sa j)))), (s2, .inl (cI, 24, .inl (fun j => nI (sb j)))), (s4, .inl (cI, 24, .inl (fun j => nI (su j)))), (s7, .inl (cI, 10, .inl tt))] sz)) (gv_X (fun E => E = gv_eI ∧ ¬ vp_in p0 bn)) 1 6 (va_A [(g0, .inr (5, [.ref g1, .ref g2, .ref g3, .ref g4, .ref g5, .int (nI mo)])), (g4, .inr (4, [.ref s1, .ref s2, .ref s3, .ref s4, .ref s5, .ref s6, .ref s7, .int (nI bn), .int (nI ln)])), (s1, .inl (cI, 24, .inl (fun j => nI (sa j)))), (s2, .inl (cI, 24, .inl (fun j => nI (sb j)))), (s4, .inl (cI, 24, .inl (fun j => nI (su j)))), (s7, .inl (cI, 10, .inl tt))] sz) := by
  refine vx_ofW (cc := cX5_doubtAnew) (maxL := 2) (ret := (some .int)) (by decide) rfl ?_
  intro p e s m args below meth c s₁ B hml htb hv
  obtain ⟨rfl, ⟨hsz, hP, hK, hD0, hG⟩, hZ0⟩ := hv
  have hx := B.exec
  have hb := B.bytes
  have hr := B.returns
  have hts := atoms_spec (ws := wsX5_doubtAnew) B.pre
  have hown : s.vm.findClass RX5 = some m.cls := findClass_of_methodNamed B.named
  have hlocks := B.notSynchronized
  subst hsz
  have hD := hD0.self (sz := s.heap.size)
  generalize hAe : va_A [(g0, .inr (5, [.ref g1, .ref g2, .ref g3, .ref g4, .ref g5, .int (nI mo)])), (g4, .inr (4, [.ref s1, .ref s2, .ref s3, .ref s4, .ref s5, .ref s6, .ref s7, .int (nI bn), .int (nI ln)])), (s1, .inl (cI, 24, .inl (fun j => nI (sa j)))), (s2, .inl (cI, 24, .inl (fun j => nI (sb j)))), (s4, .inl (cI, 24, .inl (fun j => nI (su j)))), (s7, .inl (cI, 10, .inl tt))] s.heap.size = A at hD hZ0 ⊢
  have hA : ∀ q : Nat, s.heap.size ≤ q → A q := fun q h => by rw [← hAe]; exact Or.inr h
  have hS : va_S A s.heap s.heap [] := va_S.rf
  have hP : va_P D vwCl [(g0, .inr (5, [.ref g1, .ref g2, .ref g3, .ref g4, .ref g5, .int (nI mo)])), (g4, .inr (4, [.ref s1, .ref s2, .ref s3, .ref s4, .ref s5, .ref s6, .ref s7, .int (nI bn), .int (nI ln)])), (s1, .inl (cI, 24, .inl (fun j => nI (sa j)))), (s2, .inl (cI, 24, .inl (fun j => nI (sb j)))), (s4, .inl (cI, 24, .inl (fun j => nI (su j)))), (s7, .inl (cI, 10, .inl tt))] s.heap := hP
  have hl := lv_entry ([.ref g0, .int p0]) (n := 2) (Nat.le_of_ble_eq_true rfl)
  rw [lg_entry_eq]
  generalize (lg_sl ([.ref g0, .int p0]) ++ List.replicate (2 - (lg_sl ([.ref g0, .int p0])).length) Slot.unset).toArray = ls at hl ⊢
  have hl : lv_has ls 2 [(0, .ref g0), (1, .int p0)] := hl
  refine lv_iload_n hx hb dX5_doubtAnew_0 rfl (lv_at hl 1 rfl) ?_
  refine lv_aload_n hx hb dX5_doubtAnew_1 rfl (lv_at hl 0 rfl) ?_
  refine va_get (D := D) (ci := 5) (v := .ref g4) (C := RX5) (T := TX5) (N := 6) hx hb hts gv_in_X5_doubtAnew_X5 hown hK hP 0 rfl rfl 3 (by decide) (hts (.fieldLink RX5 33 "Gravimere" "survey" "LGravimere$Survey;") (by decide +kernel)) (fun _ h9 => h9) rfl dX5_doubtAnew_2 ?_
  refine va_getN (D := D) (ci := 4) (v := .int (nI bn)) (C := RX4) (T := TX4) (N := 9) hx hb hts gv_in_X5_doubtAnew_X4 hown hK hP 1 rfl rfl 7 (by decide) ((gv_nf_125 hG).use rfl) (fun _ h9 => h9) rfl dX5_doubtAnew_5 ?_
  refine gv_xv (vx_runS (As := [.int p0, .int (nI bn)]) (rest := []) ⟨hx, hb, hml, hown, hts⟩ (ct_X5_requireNumber l hlt D cI cJ s.heap.size p0 bn (by omega)) (va_cwS 2 hts gX5_doubtAnew_X5_requireNumber rfl rfl rfl (by decide +kernel) ⟨Nat.le_of_ble_eq_true rfl, Nat.le_of_ble_eq_true rfl⟩) (gv_pSZ (wc := []) hP hK hD hG (hZ0.kept hS.2.1) (gv_A0 (fun q h => hA q (Nat.le_trans hS.1 h))) [] rfl (by decide)) rfl rfl hl.1 rfl (lv_room (Nat.le_of_ble_eq_true rfl)) dX5_doubtAnew_8 ⟨Nat.le_of_ble_eq_true rfl, Nat.le_of_ble_eq_true rfl⟩) (fun E ce q9 H1 hBX hz1 hk1 hce hcv hcl => ?_) (fun h1 => ?_)
  · skip
    refine gv_out htb hlocks hz1 hk1 hce hcv hcl (?_) (Nat.le_of_ble_eq_true rfl) (Nat.le_of_ble_eq_true rfl)
    exact hBX
  obtain ⟨i, hi, ei⟩ := vp_in_of h1 (by omega)
  rw [ei] at hl
  have hl : lv_has ls 2 [(0, .ref g0), (1, .int (nI i))] := hl
  refine lv_aload_n hx hb dX5_doubtAnew_11 rfl (lv_at hl 0 rfl) ?_
  refine va_get (D := D) (ci := 5) (v := .ref g4) (C := RX5) (T := TX5) (N := 6) hx hb hts gv_in_X5_doubtAnew_X5 hown hK hP 0 rfl rfl 3 (by decide) (hts (.fieldLink RX5 33 "Gravimere" "survey" "LGravimere$Survey;") (by decide +kernel)) (fun _ h9 => h9) rfl dX5_doubtAnew_12 ?_
  refine gv_mv (wc := [(g4, .inr (4, [.ref s1, .ref s2, .ref s3, .ref s4, .ref s5, .ref s6, .ref s7, .int (nI bn), .int (nI ln)])), (s1, .inl (cI, 24, .inl (fun j => nI (sa j)))), (s2, .inl (cI, 24, .inl (fun j => nI (sb j)))), (s4, .inl (cI, 24, .inl (fun j => nI (su j)))), (s7, .inl (cI, 10, .inl tt))]) (wr := [(g0, .inr (5, [.ref g1, .ref g2, .ref g3, .ref g4, .ref g5, .int (nI mo)]))]) (w2 := (fun u => [(g0, .inr (5, [.ref g1, .ref g2, .ref g3, .ref g4, .ref g5, .int (nI mo)])), (g4, .inr (4, [.ref s1, .ref s2, .ref s3, .ref s4, .ref s5, .ref s6, .ref s7, .int (nI bn), .int (nI ln)])), (s1, .inl (cI, 24, .inl (fun j => nI (sa j)))), (s2, .inl (cI, 24, .inl (fun j => nI (sb j)))), (s4, .inl (cI, 24, .inl (fun j => nI (su j)))), (s7, .inl (cI, 10, .inl (gv_tal sa sb su ln bn (gv_ko tt, nI 1))))])) (va_runVN (As := []) (rest := []) ⟨hx, hb, hml, hown, hts⟩ (ct_X4_tryAllLines l D cI cJ s.heap.size g4 s1 s2 s3 s4 s5 s6 s7 bn ln sa sb su tt hsa hsb hln hbn) ⟨va_cnB 0 hts gX5_doubtAnew_X4_tryAllLines_n157 rfl rfl rfl (gv_nm_X5_157 hG) (hts (.initialized RX4) (by decide +kernel)) (by decide +kernel) ⟨Nat.le_of_ble_eq_true rfl, Nat.le_of_ble_eq_true rfl⟩, (hts (.instanceMethod yX4_tryAllLines) (by decide +kernel)), (hts (.selects RX4 yX4_tryAllLines yX4_tryAllLines) (by decide +kernel))⟩ (gv_pV (wc := [(g4, .inr (4, [.ref s1, .ref s2, .ref s3, .ref s4, .ref s5, .ref s6, .ref s7, .int (nI bn), .int (nI ln)])), (s1, .inl (cI, 24, .inl (fun j => nI (sa j)))), (s2, .inl (cI, 24, .inl (fun j => nI (sb j)))), (s4, .inl (cI, 24, .inl (fun j => nI (su j)))), (s7, .inl (cI, 10, .inl tt))]) hP hK hD hG [1, 2, 3, 4, 5] rfl (by decide) 0 rfl rfl rfl) rfl rfl hl.1 rfl (lv_room (Nat.le_of_ble_eq_true rfl)) dX5_doubtAnew_15 ⟨Nat.le_of_ble_eq_true rfl, Nat.le_of_ble_eq_true rfl⟩) hP hD hS hA [1, 2, 3, 4, 5] [0] [0, 1, 2, 3, 4, 5] rfl rfl (by decide) (by decide) (fun u => rfl) (by decide) (fun u H locs hr_3 hP hD hS => ?_)
  have hP : va_P D vwCl [(g0, .inr (5, [.ref g1, .ref g2, .ref g3, .ref g4, .ref g5, .int (nI mo)])), (g4, .inr (4, [.ref s1, .ref s2, .ref s3, .ref s4, .ref s5, .ref s6, .ref s7, .int (nI bn), .int (nI ln)])), (s1, .inl (cI, 24, .inl (fun j => nI (sa j)))), (s2, .inl (cI, 24, .inl (fun j => nI (sb j)))), (s4, .inl (cI, 24, .inl (fun j => nI (su j)))), (s7, .inl (cI, 10, .inl (gv_tal sa sb su ln bn (gv_ko tt, nI 1))))] H := hP
  have hD : va_D A [(g0, .inr (5, [.ref g1, .ref g2, .ref g3, .ref g4, .ref g5, .int (nI mo)])), (g4, .inr (4, [.ref s1, .ref s2, .ref s3, .ref s4, .ref s5, .ref s6, .ref s7, .int (nI bn), .int (nI ln)])), (s1, .inl (cI, 24, .inl (fun j => nI (sa j)))), (s2, .inl (cI, 24, .inl (fun j => nI (sb j)))), (s4, .inl (cI, 24, .inl (fun j => nI (su j)))), (s7, .inl (cI, 10, .inl (gv_tal sa sb su ln bn (gv_ko tt, nI 1))))] := hD
  refine lv_aload_n hx hb dX5_doubtAnew_18 rfl (lv_at hl 0 rfl) ?_
  refine va_get (D := D) (ci := 5) (v := .ref g4) (C := RX5) (T := TX5) (N := 6) hx hb hts gv_in_X5_doubtAnew_X5 hown hK hP 0 rfl rfl 3 (by decide) (hts (.fieldLink RX5 33 "Gravimere" "survey" "LGravimere$Survey;") (by decide +kernel)) (fun _ h9 => h9) rfl dX5_doubtAnew_19 ?_
  refine va_getN (D := D) (ci := 4) (v := .ref s7) (C := RX4) (T := TX4) (N := 9) hx hb hts gv_in_X5_doubtAnew_X4 hown hK hP 1 rfl rfl 6 (by decide) ((gv_nf_160 hG).use rfl) (fun _ h9 => h9) rfl dX5_doubtAnew_22 ?_
  refine lv_iload_n hx hb dX5_doubtAnew_25 rfl (lv_at hl 1 rfl) ?_
  refine gv_il hx hb hK hP 5 (k := i) rfl (by omega) (by decide) dX5_doubtAnew_26 ?_
  have hpo : let i := i; i < bn ∧ p0 = nI i ∧ ((gv_tal sa sb su ln bn (gv_ko tt, nI 1)) i) = gv_tal sa sb su ln bn (gv_ko tt, nI 1) i := by
    exact ⟨hi, ei, rfl⟩
  have hP9 : va_P D vwCl [(g0, .inr (5, [.ref g1, .ref g2, .ref g3, .ref g4, .ref g5, .int (nI mo)])), (g4, .inr (4, [.ref s1, .ref s2, .ref s3, .ref s4, .ref s5, .ref s6, .ref s7, .int (nI bn), .int (nI ln)])), (s1, .inl (cI, 24, .inl (fun j => nI (sa j)))), (s2, .inl (cI, 24, .inl (fun j => nI (sb j)))), (s4, .inl (cI, 24, .inl (fun j => nI (su j)))), (s7, .inl (cI, 10, .inl (gv_tal sa sb su ln bn (gv_ko tt, nI 1))))] H := hP
  have hD9 : va_D A [(g0, .inr (5, [.ref g1, .ref g2, .ref g3, .ref g4, .ref g5, .int (nI mo)])), (g4, .inr (4, [.ref s1, .ref s2, .ref s3, .ref s4, .ref s5, .ref s6, .ref s7, .int (nI bn), .int (nI ln)])), (s1, .inl (cI, 24, .inl (fun j => nI (sa j)))), (s2, .inl (cI, 24, .inl (fun j => nI (sb j)))), (s4, .inl (cI, 24, .inl (fun j => nI (su j)))), (s7, .inl (cI, 10, .inl (gv_tal sa sb su ln bn (gv_ko tt, nI 1))))] := hD
  refine vx_ret (W.widen (k := 1) (n := 6) (Nat.le_of_ble_eq_true rfl) (Nat.le_of_ble_eq_true rfl) ?_)
  exact W.iret (v := (gv_tal sa sb su ln bn (gv_ko tt, nI 1)) i) hx hb hr (fun t9 ht9 hW9 => ⟨⟨((gv_tal sa sb su ln bn (gv_ko tt, nI 1)) i), i, rfl, hpo, by rw [ht9]; exact hP9, hD9⟩, hS.F ht9⟩) hS.2.2 dX5_doubtAnew_27
set_option maxHeartbeats 4000000 in
set_option maxRecDepth 100000 in
theorem ct_X5_height (l : Launch) (hlt : l.stackTraces = false) (D : va_G) (cI cJ : ClassId) (sz : Nat) (g0 g1 g2 g3 g4 g5 mo : Nat)(s1 s2 s3 s4 s5 s6 s7 bn ln : Nat) (sa sb su : Nat → Nat) (sr dd hh : Nat → Int32) (p0 : Int32) (hsa : ∀ j, sa j < 10) (hsb : ∀ j, sb j < 10) (hln : ln ≤ 24) (hbn : bn ≤ 10) : vx_Met l yX5_height wsX5_height ({ frames := 7, cells := 1, slots := 6, locals := 111 }) (va_Pc [.ref g0, .int p0] (gv_Z D cI cJ [(g0, .inr (5, [.ref g1, .ref g2, .ref g3, .ref g4, .ref g5, .int (nI mo)])), (g4, .inr (4, [.ref s1, .ref s2, .ref s3, .ref s4, .ref s5, .ref s6, .ref s7, .int (nI bn), .int (nI ln)])), (s1, .inl (cI, 24, .inl (fun j => nI (sa j)))), (s2, .inl (cI, 24, .inl (fun j => nI (sb j)))), (s3, .inl (cI, 24, .inl sr)), (s4, .inl (cI, 24, .inl (fun j => nI (su j)))), (s5, .inl (cI, 10, .inl hh)), (s6, .inl (cI, 10, .inl dd))] sz)) (va_Qi (fun (r9 : Int32) (u9 : Nat) => let i := u9; i < bn ∧ p0 = nI i ∧ ¬ (gv_itr sa sb su sr ln (bn - 1) (gv_ko dd, upd hh 0 (nI 0))).1 i = -1 ∧ r9 = (gv_itr sa sb su sr ln (bn - 1) (gv_ko dd, upd hh 0 (nI 0))).2 i) (fun (u9 : Nat) t9 => gv_W D (va_A [(g0, .inr (5, [.ref g1, .ref g2, .ref g3, .ref g4, .ref g5, .int (nI mo)])), (g4, .inr (4, [.ref s1, .ref s2, .ref s3, .ref s4, .ref s5, .ref s6, .ref s7, .int (nI bn), .int (nI ln)])), (s1, .inl (cI, 24, .inl (fun j => nI (sa j)))), (s2, .inl (cI, 24, .inl (fun j => nI (sb j)))), (s3, .inl (cI, 24, .inl sr)), (s4, .inl (cI, 24, .inl (fun j => nI (su j)))), (s5, .inl (cI, 10, .inl hh)), (s6, .inl (cI, 10, .inl dd))] sz) (let i := u9; [(g0, .inr (5, [.ref g1, .ref g2, .ref g3, .ref g4, .ref g5, .int (nI mo)])), (g4, .inr (4, [.ref s1, .ref s2, .ref s3, .ref s4, .ref s5, .ref s6, .ref s7, .int (nI bn), .int (nI ln)])), (s1, .inl (cI, 24, .inl (fun j => nI (sa j)))), (s2, .inl (cI, 24, .inl (fun j => nI (sb j)))), (s3, .inl (cI, 24, .inl sr)), (s4, .inl (cI, 24, .inl (fun j => nI (su j)))), (s5, .inl (cI, 10, .inl ((gv_itr sa sb su sr ln (bn - 1) (gv_ko dd, upd hh 0 (nI 0))).2))), (s6, .inl (cI, 10, .inl ((gv_itr sa sb su sr ln (bn - 1) (gv_ko dd, upd hh 0 (nI 0))).1)))]) t9) (va_A [(g0, .inr (5, [.ref g1, .ref g2, .ref g3, .ref g4, .ref g5, .int (nI mo)])), (g4, .inr (4, [.ref s1, .ref s2, .ref s3, .ref s4, .ref s5, .ref s6, .ref s7, .int (nI bn), .int (nI ln)])), (s1, .inl (cI, 24, .inl (fun j => nI (sa j)))), (s2, .inl (cI, 24, .inl (fun j => nI (sb j)))), (s3, .inl (cI, 24, .inl sr)), (s4, .inl (cI, 24, .inl (fun j => nI (su j)))), (s5, .inl (cI, 10, .inl hh)), (s6, .inl (cI, 10, .inl dd))] sz)) (vx_X (fun _ : (Nat → Int32) × (Nat → Int32) => True) (fun E u9 t9 => match u9 with | (h9, d9) => ((E = gv_eI ∧ ¬ vp_in p0 bn) ∨ (E = gv_eS ∧ ∃ i, i < bn ∧ p0 = nI i ∧ (gv_itr sa sb su sr ln (bn - 1) (gv_ko dd, upd hh 0 (nI 0))).1 i = -1)) ∧ gv_W D (va_A [(g0, .inr (5, [.ref g1, .ref g2, .ref g3, .ref g4, .ref g5, .int (nI mo)])), (g4, .inr (4, [.ref s1, .ref s2, .ref s3, .ref s4, .ref s5, .ref s6, .ref s7, .int (nI bn), .int (nI ln)])), (s1, .inl (cI, 24, .inl (fun j => nI (sa j)))), (s2, .inl (cI, 24, .inl (fun j => nI (sb j)))), (s3, .inl (cI, 24, .inl sr)), (s4, .inl (cI, 24, .inl (fun j => nI (su j)))), (s5, .inl (cI, 10, .inl hh)), (s6, .inl (cI, 10, .inl dd))] sz) [(g0, .inr (5, [.ref g1, .ref g2, .ref g3, .ref g4, .ref g5, .int (nI mo)])), (g4, .inr (4, [.ref s1, .ref s2, .ref s3, .ref s4, .ref s5, .ref s6, .ref s7, .int (nI bn), .int (nI ln)])), (s1, .inl (cI, 24, .inl (fun j => nI (sa j)))), (s2, .inl (cI, 24, .inl (fun j => nI (sb j)))), (s3, .inl (cI, 24, .inl sr)), (s4, .inl (cI, 24, .inl (fun j => nI (su j)))), (s5, .inl (cI, 10, .inl h9)), (s6, .inl (cI, 10, .inl d9))] t9) (va_A [(g0, .inr (5, [.ref g1, .ref g2, .ref g3, .ref g4, .ref g5, .int (nI mo)])), (g4, .inr (4, [.ref s1, .ref s2, .ref s3, .ref s4, .ref s5, .ref s6, .ref s7, .int (nI bn), .int (nI ln)])), (s1, .inl (cI, 24, .inl (fun j => nI (sa j)))), (s2, .inl (cI, 24, .inl (fun j => nI (sb j)))), (s3, .inl (cI, 24, .inl sr)), (s4, .inl (cI, 24, .inl (fun j => nI (su j)))), (s5, .inl (cI, 10, .inl hh)), (s6, .inl (cI, 10, .inl dd))] sz)) 1 6 (va_A [(g0, .inr (5, [.ref g1, .ref g2, .ref g3, .ref g4, .ref g5, .int (nI mo)])), (g4, .inr (4, [.ref s1, .ref s2, .ref s3, .ref s4, .ref s5, .ref s6, .ref s7, .int (nI bn), .int (nI ln)])), (s1, .inl (cI, 24, .inl (fun j => nI (sa j)))), (s2, .inl (cI, 24, .inl (fun j => nI (sb j)))), (s3, .inl (cI, 24, .inl sr)), (s4, .inl (cI, 24, .inl (fun j => nI (su j)))), (s5, .inl (cI, 10, .inl hh)), (s6, .inl (cI, 10, .inl dd))] sz) := by
  refine vx_ofW (cc := cX5_height) (maxL := 2) (ret := (some .int)) (by decide) rfl ?_
  intro p e s m args below meth c s₁ B hml htb hv
  obtain ⟨rfl, ⟨hsz, hP, hK, hD0, hG⟩, hZ0⟩ := hv
  have hx := B.exec
  have hb := B.bytes
  have hr := B.returns
  have hts := atoms_spec (ws := wsX5_height) B.pre
  have hown : s.vm.findClass RX5 = some m.cls := findClass_of_methodNamed B.named
  have hlocks := B.notSynchronized
  subst hsz
  have hD := hD0.self (sz := s.heap.size)
  generalize hAe : va_A [(g0, .inr (5, [.ref g1, .ref g2, .ref g3, .ref g4, .ref g5, .int (nI mo)])), (g4, .inr (4, [.ref s1, .ref s2, .ref s3, .ref s4, .ref s5, .ref s6, .ref s7, .int (nI bn), .int (nI ln)])), (s1, .inl (cI, 24, .inl (fun j => nI (sa j)))), (s2, .inl (cI, 24, .inl (fun j => nI (sb j)))), (s3, .inl (cI, 24, .inl sr)), (s4, .inl (cI, 24, .inl (fun j => nI (su j)))), (s5, .inl (cI, 10, .inl hh)), (s6, .inl (cI, 10, .inl dd))] s.heap.size = A at hD hZ0 ⊢
  have hA : ∀ q : Nat, s.heap.size ≤ q → A q := fun q h => by rw [← hAe]; exact Or.inr h
  have hS : va_S A s.heap s.heap [] := va_S.rf
  have hP : va_P D vwCl [(g0, .inr (5, [.ref g1, .ref g2, .ref g3, .ref g4, .ref g5, .int (nI mo)])), (g4, .inr (4, [.ref s1, .ref s2, .ref s3, .ref s4, .ref s5, .ref s6, .ref s7, .int (nI bn), .int (nI ln)])), (s1, .inl (cI, 24, .inl (fun j => nI (sa j)))), (s2, .inl (cI, 24, .inl (fun j => nI (sb j)))), (s3, .inl (cI, 24, .inl sr)), (s4, .inl (cI, 24, .inl (fun j => nI (su j)))), (s5, .inl (cI, 10, .inl hh)), (s6, .inl (cI, 10, .inl dd))] s.heap := hP
  have hl := lv_entry ([.ref g0, .int p0]) (n := 2) (Nat.le_of_ble_eq_true rfl)
  rw [lg_entry_eq]
  generalize (lg_sl ([.ref g0, .int p0]) ++ List.replicate (2 - (lg_sl ([.ref g0, .int p0])).length) Slot.unset).toArray = ls at hl ⊢
  have hl : lv_has ls 2 [(0, .ref g0), (1, .int p0)] := hl
  refine lv_iload_n hx hb dX5_height_0 rfl (lv_at hl 1 rfl) ?_
  refine lv_aload_n hx hb dX5_height_1 rfl (lv_at hl 0 rfl) ?_
  refine va_get (D := D) (ci := 5) (v := .ref g4) (C := RX5) (T := TX5) (N := 6) hx hb hts gv_in_X5_height_X5 hown hK hP 0 rfl rfl 3 (by decide) (hts (.fieldLink RX5 33 "Gravimere" "survey" "LGravimere$Survey;") (by decide +kernel)) (fun _ h9 => h9) rfl dX5_height_2 ?_
  refine va_getN (D := D) (ci := 4) (v := .int (nI bn)) (C := RX4) (T := TX4) (N := 9) hx hb hts gv_in_X5_height_X4 hown hK hP 1 rfl rfl 7 (by decide) ((gv_nf_125 hG).use rfl) (fun _ h9 => h9) rfl dX5_height_5 ?_
  refine gv_xv (vx_runS (As := [.int p0, .int (nI bn)]) (rest := []) ⟨hx, hb, hml, hown, hts⟩ (ct_X5_requireNumber l hlt D cI cJ s.heap.size p0 bn (by omega)) (va_cwS 2 hts gX5_height_X5_requireNumber rfl rfl rfl (by decide +kernel) ⟨Nat.le_of_ble_eq_true rfl, Nat.le_of_ble_eq_true rfl⟩) (gv_pSZ (wc := []) hP hK hD hG (hZ0.kept hS.2.1) (gv_A0 (fun q h => hA q (Nat.le_trans hS.1 h))) [] rfl (by decide)) rfl rfl hl.1 rfl (lv_room (Nat.le_of_ble_eq_true rfl)) dX5_height_8 ⟨Nat.le_of_ble_eq_true rfl, Nat.le_of_ble_eq_true rfl⟩) (fun E ce q9 H1 hBX hz1 hk1 hce hcv hcl => ?_) (fun h1 => ?_)
  · skip
    refine vx_out (fun x h => (htb x h).elim) hlocks hce hcv hcl (fun t9 ht9 _ => ⟨(hh, dd), trivial, ⟨?_, by rw [ht9]; exact gv_Pk hP hk1, hD⟩, (gv_Sk hS hz1 hk1).F ht9⟩) hS.2.2 (Nat.le_of_ble_eq_true rfl) (Nat.le_of_ble_eq_true rfl)
    exact Or.inl hBX
  obtain ⟨i, hi, ei⟩ := vp_in_of h1 (by omega)
  rw [ei] at hl
  have hl : lv_has ls 2 [(0, .ref g0), (1, .int (nI i))] := hl
  refine lv_aload_n hx hb dX5_height_11 rfl (lv_at hl 0 rfl) ?_
  refine va_get (D := D) (ci := 5) (v := .ref g4) (C := RX5) (T := TX5) (N := 6) hx hb hts gv_in_X5_height_X5 hown hK hP 0 rfl rfl 3 (by decide) (hts (.fieldLink RX5 33 "Gravimere" "survey" "LGravimere$Survey;") (by decide +kernel)) (fun _ h9 => h9) rfl dX5_height_12 ?_
  refine gv_mv (wc := [(g4, .inr (4, [.ref s1, .ref s2, .ref s3, .ref s4, .ref s5, .ref s6, .ref s7, .int (nI bn), .int (nI ln)])), (s1, .inl (cI, 24, .inl (fun j => nI (sa j)))), (s2, .inl (cI, 24, .inl (fun j => nI (sb j)))), (s3, .inl (cI, 24, .inl sr)), (s4, .inl (cI, 24, .inl (fun j => nI (su j)))), (s5, .inl (cI, 10, .inl hh)), (s6, .inl (cI, 10, .inl dd))]) (wr := [(g0, .inr (5, [.ref g1, .ref g2, .ref g3, .ref g4, .ref g5, .int (nI mo)]))]) (w2 := (fun u => [(g0, .inr (5, [.ref g1, .ref g2, .ref g3, .ref g4, .ref g5, .int (nI mo)])), (g4, .inr (4, [.ref s1, .ref s2, .ref s3, .ref s4, .ref s5, .ref s6, .ref s7, .int (nI bn), .int (nI ln)])), (s1, .inl (cI, 24, .inl (fun j => nI (sa j)))), (s2, .inl (cI, 24, .inl (fun j => nI (sb j)))), (s3, .inl (cI, 24, .inl sr)), (s4, .inl (cI, 24, .inl (fun j => nI (su j)))), (s5, .inl (cI, 10, .inl ((gv_itr sa sb su sr ln (bn - 1) (gv_ko dd, upd hh 0 (nI 0))).2))), (s6, .inl (cI, 10, .inl ((gv_itr sa sb su sr ln (bn - 1) (gv_ko dd, upd hh 0 (nI 0))).1)))])) (va_runVN (As := []) (rest := []) ⟨hx, hb, hml, hown, hts⟩ (ct_X4_findHeights l D cI cJ s.heap.size g4 s1 s2 s3 s4 s5 s6 s7 bn ln sa sb su sr dd hh hsa hsb hln hbn) ⟨va_cnB 0 hts gX5_height_X4_findHeights_n146 rfl rfl rfl (gv_nm_X5_146 hG) (hts (.initialized RX4) (by decide +kernel)) (by decide +kernel) ⟨Nat.le_of_ble_eq_true rfl, Nat.le_of_ble_eq_true rfl⟩, (hts (.instanceMethod yX4_findHeights) (by decide +kernel)), (hts (.selects RX4 yX4_findHeights yX4_findHeights) (by decide +kernel))⟩ (gv_pV (wc := [(g4, .inr (4, [.ref s1, .ref s2, .ref s3, .ref s4, .ref s5, .ref s6, .ref s7, .int (nI bn), .int (nI ln)])), (s1, .inl (cI, 24, .inl (fun j => nI (sa j)))), (s2, .inl (cI, 24, .inl (fun j => nI (sb j)))), (s3, .inl (cI, 24, .inl sr)), (s4, .inl (cI, 24, .inl (fun j => nI (su j)))), (s5, .inl (cI, 10, .inl hh)), (s6, .inl (cI, 10, .inl dd))]) hP hK hD hG [1, 2, 3, 4, 5, 6, 7] rfl (by decide) 0 rfl rfl rfl) rfl rfl hl.1 rfl (lv_room (Nat.le_of_ble_eq_true rfl)) dX5_height_15 ⟨Nat.le_of_ble_eq_true rfl, Nat.le_of_ble_eq_true rfl⟩) hP hD hS hA [1, 2, 3, 4, 5, 6, 7] [0] [0, 1, 2, 3, 4, 5, 6, 7] rfl rfl (by decide) (by decide) (fun u => rfl) (by decide) (fun u H locs hr_3 hP hD hS => ?_)
  have hP : va_P D vwCl [(g0, .inr (5, [.ref g1, .ref g2, .ref g3, .ref g4, .ref g5, .int (nI mo)])), (g4, .inr (4, [.ref s1, .ref s2, .ref s3, .ref s4, .ref s5, .ref s6, .ref s7, .int (nI bn), .int (nI ln)])), (s1, .inl (cI, 24, .inl (fun j => nI (sa j)))), (s2, .inl (cI, 24, .inl (fun j => nI (sb j)))), (s3, .inl (cI, 24, .inl sr)), (s4, .inl (cI, 24, .inl (fun j => nI (su j)))), (s5, .inl (cI, 10, .inl ((gv_itr sa sb su sr ln (bn - 1) (gv_ko dd, upd hh 0 (nI 0))).2))), (s6, .inl (cI, 10, .inl ((gv_itr sa sb su sr ln (bn - 1) (gv_ko dd, upd hh 0 (nI 0))).1)))] H := hP
  have hD : va_D A [(g0, .inr (5, [.ref g1, .ref g2, .ref g3, .ref g4, .ref g5, .int (nI mo)])), (g4, .inr (4, [.ref s1, .ref s2, .ref s3, .ref s4, .ref s5, .ref s6, .ref s7, .int (nI bn), .int (nI ln)])), (s1, .inl (cI, 24, .inl (fun j => nI (sa j)))), (s2, .inl (cI, 24, .inl (fun j => nI (sb j)))), (s3, .inl (cI, 24, .inl sr)), (s4, .inl (cI, 24, .inl (fun j => nI (su j)))), (s5, .inl (cI, 10, .inl ((gv_itr sa sb su sr ln (bn - 1) (gv_ko dd, upd hh 0 (nI 0))).2))), (s6, .inl (cI, 10, .inl ((gv_itr sa sb su sr ln (bn - 1) (gv_ko dd, upd hh 0 (nI 0))).1)))] := hD
  refine lv_aload_n hx hb dX5_height_18 rfl (lv_at hl 0 rfl) ?_
  refine va_get (D := D) (ci := 5) (v := .ref g4) (C := RX5) (T := TX5) (N := 6) hx hb hts gv_in_X5_height_X5 hown hK hP 0 rfl rfl 3 (by decide) (hts (.fieldLink RX5 33 "Gravimere" "survey" "LGravimere$Survey;") (by decide +kernel)) (fun _ h9 => h9) rfl dX5_height_19 ?_
  refine va_getN (D := D) (ci := 4) (v := .ref s6) (C := RX4) (T := TX4) (N := 9) hx hb hts gv_in_X5_height_X4 hown hK hP 1 rfl rfl 5 (by decide) ((gv_nf_149 hG).use rfl) (fun _ h9 => h9) rfl dX5_height_22 ?_
  refine lv_iload_n hx hb dX5_height_25 rfl (lv_at hl 1 rfl) ?_
  refine gv_il hx hb hK hP 7 (k := i) rfl (by omega) (by decide) dX5_height_26 ?_
  refine lv_iconst (v := -1) hx hb dX5_height_27 (by decide) ?_
  refine lv_icmp_ne (tgt := 41) hx hb dX5_height_28 (by decide) (fun c_28 => ?_) (fun c_28 => ?_)
  · skip
    refine lv_aload_n hx hb dX5_height_41 rfl (lv_at hl 0 rfl) ?_
    refine va_get (D := D) (ci := 5) (v := .ref g4) (C := RX5) (T := TX5) (N := 6) hx hb hts gv_in_X5_height_X5 hown hK hP 0 rfl rfl 3 (by decide) (hts (.fieldLink RX5 33 "Gravimere" "survey" "LGravimere$Survey;") (by decide +kernel)) (fun _ h9 => h9) rfl dX5_height_42 ?_
    refine va_getN (D := D) (ci := 4) (v := .ref s5) (C := RX4) (T := TX4) (N := 9) hx hb hts gv_in_X5_height_X4 hown hK hP 1 rfl rfl 4 (by decide) ((gv_nf_154 hG).use rfl) (fun _ h9 => h9) rfl dX5_height_45 ?_
    refine lv_iload_n hx hb dX5_height_48 rfl (lv_at hl 1 rfl) ?_
    refine gv_il hx hb hK hP 6 (k := i) rfl (by omega) (by decide) dX5_height_49 ?_
    have hpo : let i := i; i < bn ∧ p0 = nI i ∧ ¬ (gv_itr sa sb su sr ln (bn - 1) (gv_ko dd, upd hh 0 (nI 0))).1 i = -1 ∧ (((gv_itr sa sb su sr ln (bn - 1) (gv_ko dd, upd hh 0 (nI 0))).2) i) = (gv_itr sa sb su sr ln (bn - 1) (gv_ko dd, upd hh 0 (nI 0))).2 i := by
      exact ⟨hi, ei, c_28, rfl⟩
    have hP9 : va_P D vwCl [(g0, .inr (5, [.ref g1, .ref g2, .ref g3, .ref g4, .ref g5, .int (nI mo)])), (g4, .inr (4, [.ref s1, .ref s2, .ref s3, .ref s4, .ref s5, .ref s6, .ref s7, .int (nI bn), .int (nI ln)])), (s1, .inl (cI, 24, .inl (fun j => nI (sa j)))), (s2, .inl (cI, 24, .inl (fun j => nI (sb j)))), (s3, .inl (cI, 24, .inl sr)), (s4, .inl (cI, 24, .inl (fun j => nI (su j)))), (s5, .inl (cI, 10, .inl ((gv_itr sa sb su sr ln (bn - 1) (gv_ko dd, upd hh 0 (nI 0))).2))), (s6, .inl (cI, 10, .inl ((gv_itr sa sb su sr ln (bn - 1) (gv_ko dd, upd hh 0 (nI 0))).1)))] H := hP
    have hD9 : va_D A [(g0, .inr (5, [.ref g1, .ref g2, .ref g3, .ref g4, .ref g5, .int (nI mo)])), (g4, .inr (4, [.ref s1, .ref s2, .ref s3, .ref s4, .ref s5, .ref s6, .ref s7, .int (nI bn), .int (nI ln)])), (s1, .inl (cI, 24, .inl (fun j => nI (sa j)))), (s2, .inl (cI, 24, .inl (fun j => nI (sb j)))), (s3, .inl (cI, 24, .inl sr)), (s4, .inl (cI, 24, .inl (fun j => nI (su j)))), (s5, .inl (cI, 10, .inl ((gv_itr sa sb su sr ln (bn - 1) (gv_ko dd, upd hh 0 (nI 0))).2))), (s6, .inl (cI, 10, .inl ((gv_itr sa sb su sr ln (bn - 1) (gv_ko dd, upd hh 0 (nI 0))).1)))] := hD
    refine vx_ret (W.widen (k := 1) (n := 6) (Nat.le_of_ble_eq_true rfl) (Nat.le_of_ble_eq_true rfl) ?_)
    exact W.iret (v := ((gv_itr sa sb su sr ln (bn - 1) (gv_ko dd, upd hh 0 (nI 0))).2) i) hx hb hr (fun t9 ht9 hW9 => ⟨⟨(((gv_itr sa sb su sr ln (bn - 1) (gv_ko dd, upd hh 0 (nI 0))).2) i), i, rfl, hpo, by rw [ht9]; exact hP9, hD9⟩, hS.F ht9⟩) hS.2.2 dX5_height_50
  · skip
    obtain ⟨sta9, hsta9⟩ := gv_st_152 hG
    have hBX : (gv_eS = gv_eI ∧ ¬ vp_in p0 bn) ∨ (gv_eS = gv_eS ∧ ∃ i, i < bn ∧ p0 = nI i ∧ (gv_itr sa sb su sr ln (bn - 1) (gv_ko dd, upd hh 0 (nI 0))).1 i = -1) := by
      exact Or.inr ⟨rfl, i, hi, ei, c_28⟩
    exact vx_throwS (own := RX5) (cls := gv_eS) (text := "the benchmark has no height") (names := gv_nm) (ik := 88) (is := 152) (ic := 92) (sa := sta9) (A := A) hx hb hlt hown (by decide +kernel) (by decide +kernel) (hts (.classLink RX5 88 gv_eS) (by decide +kernel)) (hts (.initialized gv_eS) (by decide +kernel)) hsta9 (vx_hat (fun w h => hts w (List.mem_cons_of_mem _ (List.mem_append_left _ (List.mem_append_right _ h)))) gv_bS (gv_bwS hG)) gv_otS hZ0.1 hZ0.2 hS (hl.1.trans hml.symm) dX5_height_31 dX5_height_34 dX5_height_35 dX5_height_37 dX5_height_40 (fun x h => (htb x h).elim) (Nat.le_of_ble_eq_true rfl) (Nat.le_of_ble_eq_true rfl) (Nat.le_of_ble_eq_true rfl) (Nat.le_of_ble_eq_true rfl) hlocks (fun t9 _ h1 h2 => ⟨((gv_itr sa sb su sr ln (bn - 1) (gv_ko dd, upd hh 0 (nI 0))).2, (gv_itr sa sb su sr ln (bn - 1) (gv_ko dd, upd hh 0 (nI 0))).1), trivial, ⟨hBX, gv_Pk hP h2, hD⟩, (gv_Sk hS h1 h2).F rfl⟩) hS.2.2 (Nat.le_of_ble_eq_true rfl) (Nat.le_of_ble_eq_true rfl)
set_option maxHeartbeats 4000000 in
set_option maxRecDepth 100000 in
theorem ct_X5_release (l : Launch) (hlt : l.stackTraces = false) (D : va_G) (cI cJ : ClassId) (sz : Nat) (g0 g1 g2 g3 g4 g5 mo : Nat)(b1 b2 b3 : Nat)(a1 a2 ac : Nat) (kp : Nat → Int64) (am : Nat → Nat) (fP : Nat → Int64) (hac : ac ≤ 12) : vx_Met l yX5_release wsX5_release ({ frames := 7, cells := 1, slots := 6, locals := 111 }) (va_Pc [.ref g0] (gv_Z D cI cJ [(g0, .inr (5, [.ref g1, .ref g2, .ref g3, .ref g4, .ref g5, .int (nI mo)])), (g1, .inr (1, [.ref b1, .ref b2, .ref b3])), (b3, .inl (cJ, 64, .inr (.inl fP))), (g5, .inr (0, [.ref a1, .ref a2, .int (nI ac)])), (a1, .inl (cJ, 768, .inr (.inl kp))), (a2, .inl (cI, 12, .inl (fun j => nI (am j))))] sz)) (va_Qi (fun (r9 : Int32) (u9 : Unit) => ac < 12 ∧ r9 = nI ac) (fun (u9 : Unit) t9 => gv_W D (va_A [(g0, .inr (5, [.ref g1, .ref g2, .ref g3, .ref g4, .ref g5, .int (nI mo)])), (g1, .inr (1, [.ref b1, .ref b2, .ref b3])), (b3, .inl (cJ, 64, .inr (.inl fP))), (g5, .inr (0, [.ref a1, .ref a2, .int (nI ac)])), (a1, .inl (cJ, 768, .inr (.inl kp))), (a2, .inl (cI, 12, .inl (fun j => nI (am j))))] sz) [(g0, .inr (5, [.ref g1, .ref g2, .ref g3, .ref g4, .ref g5, .int (nI mo)])), (g1, .inr (1, [.ref b1, .ref b2, .ref b3])), (b3, .inl (cJ, 64, .inr (.inl fP))), (g5, .inr (0, [.ref a1, .ref a2, .int (nI (ac + 1))])), (a1, .inl (cJ, 768, .inr (.inl (va_cpy fP kp 0 (ac * 64) 64)))), (a2, .inl (cI, 12, .inl (fun j => nI (gv_un am ac mo j))))] t9) (va_A [(g0, .inr (5, [.ref g1, .ref g2, .ref g3, .ref g4, .ref g5, .int (nI mo)])), (g1, .inr (1, [.ref b1, .ref b2, .ref b3])), (b3, .inl (cJ, 64, .inr (.inl fP))), (g5, .inr (0, [.ref a1, .ref a2, .int (nI ac)])), (a1, .inl (cJ, 768, .inr (.inl kp))), (a2, .inl (cI, 12, .inl (fun j => nI (am j))))] sz)) (gv_X (fun E => E = gv_eS ∧ ¬ ac < 12)) 1 6 (va_A [(g0, .inr (5, [.ref g1, .ref g2, .ref g3, .ref g4, .ref g5, .int (nI mo)])), (g1, .inr (1, [.ref b1, .ref b2, .ref b3])), (b3, .inl (cJ, 64, .inr (.inl fP))), (g5, .inr (0, [.ref a1, .ref a2, .int (nI ac)])), (a1, .inl (cJ, 768, .inr (.inl kp))), (a2, .inl (cI, 12, .inl (fun j => nI (am j))))] sz) := by
  refine vx_ofW (cc := cX5_release) (maxL := 1) (ret := (some .int)) (by decide) rfl ?_
  intro p e s m args below meth c s₁ B hml htb hv
  obtain ⟨rfl, ⟨hsz, hP, hK, hD0, hG⟩, hZ0⟩ := hv
  have hx := B.exec
  have hb := B.bytes
  have hr := B.returns
  have hts := atoms_spec (ws := wsX5_release) B.pre
  have hown : s.vm.findClass RX5 = some m.cls := findClass_of_methodNamed B.named
  have hlocks := B.notSynchronized
  subst hsz
  have hD := hD0.self (sz := s.heap.size)
  generalize hAe : va_A [(g0, .inr (5, [.ref g1, .ref g2, .ref g3, .ref g4, .ref g5, .int (nI mo)])), (g1, .inr (1, [.ref b1, .ref b2, .ref b3])), (b3, .inl (cJ, 64, .inr (.inl fP))), (g5, .inr (0, [.ref a1, .ref a2, .int (nI ac)])), (a1, .inl (cJ, 768, .inr (.inl kp))), (a2, .inl (cI, 12, .inl (fun j => nI (am j))))] s.heap.size = A at hD hZ0 ⊢
  have hA : ∀ q : Nat, s.heap.size ≤ q → A q := fun q h => by rw [← hAe]; exact Or.inr h
  have hS : va_S A s.heap s.heap [] := va_S.rf
  have hP : va_P D vwCl [(g0, .inr (5, [.ref g1, .ref g2, .ref g3, .ref g4, .ref g5, .int (nI mo)])), (g1, .inr (1, [.ref b1, .ref b2, .ref b3])), (b3, .inl (cJ, 64, .inr (.inl fP))), (g5, .inr (0, [.ref a1, .ref a2, .int (nI ac)])), (a1, .inl (cJ, 768, .inr (.inl kp))), (a2, .inl (cI, 12, .inl (fun j => nI (am j))))] s.heap := hP
  have hl := lv_entry ([.ref g0]) (n := 1) (Nat.le_of_ble_eq_true rfl)
  rw [lg_entry_eq]
  generalize (lg_sl ([.ref g0]) ++ List.replicate (1 - (lg_sl ([.ref g0])).length) Slot.unset).toArray = ls at hl ⊢
  have hl : lv_has ls 1 [(0, .ref g0)] := hl
  refine lv_aload_n hx hb dX5_release_0 rfl (lv_at hl 0 rfl) ?_
  refine va_get (D := D) (ci := 5) (v := .ref g5) (C := RX5) (T := TX5) (N := 6) hx hb hts gv_in_X5_release_X5 hown hK hP 0 rfl rfl 4 (by decide) (hts (.fieldLink RX5 40 "Gravimere" "archive" "LGravimere$Archive;") (by decide +kernel)) (fun _ h9 => h9) rfl dX5_release_1 ?_
  refine va_getN (D := D) (ci := 0) (v := .int (nI ac)) (C := RX0) (T := TX0) (N := 3) hx hb hts gv_in_X5_release_X0 hown hK hP 3 rfl rfl 2 (by decide) ((gv_nf_167 hG).use rfl) (fun _ h9 => h9) rfl dX5_release_4 ?_
  refine lv_bipush (v := nI 12) hx hb dX5_release_7 (by decide) ?_
  refine gv_xv (vx_runS (As := [.int (nI ac), .int (nI 12)]) (rest := []) ⟨hx, hb, hml, hown, hts⟩ (ct_X5_requireRoom l hlt D cI cJ s.heap.size ac 12 (by omega) (by decide)) (va_cwS 2 hts gX5_release_X5_requireRoom rfl rfl rfl (by decide +kernel) ⟨Nat.le_of_ble_eq_true rfl, Nat.le_of_ble_eq_true rfl⟩) (gv_pSZ (wc := []) hP hK hD hG (hZ0.kept hS.2.1) (gv_A0 (fun q h => hA q (Nat.le_trans hS.1 h))) [] rfl (by decide)) rfl rfl hl.1 rfl (lv_room (Nat.le_of_ble_eq_true rfl)) dX5_release_9 ⟨Nat.le_of_ble_eq_true rfl, Nat.le_of_ble_eq_true rfl⟩) (fun E ce q9 H1 hBX hz1 hk1 hce hcv hcl => ?_) (fun h1 => ?_)
  · skip
    refine gv_out htb hlocks hz1 hk1 hce hcv hcl (?_) (Nat.le_of_ble_eq_true rfl) (Nat.le_of_ble_eq_true rfl)
    exact hBX
  refine lv_aload_n hx hb dX5_release_12 rfl (lv_at hl 0 rfl) ?_
  refine va_get (D := D) (ci := 5) (v := .ref g5) (C := RX5) (T := TX5) (N := 6) hx hb hts gv_in_X5_release_X5 hown hK hP 0 rfl rfl 4 (by decide) (hts (.fieldLink RX5 40 "Gravimere" "archive" "LGravimere$Archive;") (by decide +kernel)) (fun _ h9 => h9) rfl dX5_release_13 ?_
  refine lv_aload_n hx hb dX5_release_16 rfl (lv_at hl 0 rfl) ?_
  refine va_get (D := D) (ci := 5) (v := .ref g1) (C := RX5) (T := TX5) (N := 6) hx hb hts gv_in_X5_release_X5 hown hK hP 0 rfl rfl 0 (by decide) (hts (.fieldLink RX5 12 "Gravimere" "body" "LGravimere$Body;") (by decide +kernel)) (fun _ h9 => h9) rfl dX5_release_17 ?_
  refine va_getN (D := D) (ci := 1) (v := .ref b3) (C := RX1) (T := TX1) (N := 3) hx hb hts gv_in_X5_release_X1 hown hK hP 1 rfl rfl 2 (by decide) ((gv_nf_168 hG).use rfl) (fun _ h9 => h9) rfl dX5_release_20 ?_
  refine lv_aload_n hx hb dX5_release_23 rfl (lv_at hl 0 rfl) ?_
  refine va_get (D := D) (ci := 5) (v := .int (nI mo)) (C := RX5) (T := TX5) (N := 6) hx hb hts gv_in_X5_release_X5 hown hK hP 0 rfl rfl 5 (by decide) (hts (.fieldLink RX5 44 "Gravimere" "month" "I") (by decide +kernel)) (fun _ h9 => h9) rfl dX5_release_24 ?_
  refine gv_mi (wc := [(g5, .inr (0, [.ref a1, .ref a2, .int (nI ac)])), (a1, .inl (cJ, 768, .inr (.inl kp))), (a2, .inl (cI, 12, .inl (fun j => nI (am j)))), (b3, .inl (cJ, 64, .inr (.inl fP)))]) (wr := [(g0, .inr (5, [.ref g1, .ref g2, .ref g3, .ref g4, .ref g5, .int (nI mo)])), (g1, .inr (1, [.ref b1, .ref b2, .ref b3]))]) (w2 := (fun u => [(g0, .inr (5, [.ref g1, .ref g2, .ref g3, .ref g4, .ref g5, .int (nI mo)])), (g1, .inr (1, [.ref b1, .ref b2, .ref b3])), (b3, .inl (cJ, 64, .inr (.inl fP))), (g5, .inr (0, [.ref a1, .ref a2, .int (nI (ac + 1))])), (a1, .inl (cJ, 768, .inr (.inl (va_cpy fP kp 0 (ac * 64) 64)))), (a2, .inl (cI, 12, .inl (fun j => nI (gv_un am ac mo j))))])) (va_runVN (As := [.ref b3, .int (nI mo)]) (rest := []) ⟨hx, hb, hml, hown, hts⟩ (ct_X0_keep l D cI cJ s.heap.size g5 a1 a2 ac b3 kp fP am mo h1) ⟨va_cnB 2 hts gX5_release_X0_keep_n172 rfl rfl rfl (gv_nm_X5_172 hG) (hts (.initialized RX0) (by decide +kernel)) (by decide +kernel) ⟨Nat.le_of_ble_eq_true rfl, Nat.le_of_ble_eq_true rfl⟩, (hts (.instanceMethod yX0_keep) (by decide +kernel)), (hts (.selects RX0 yX0_keep yX0_keep) (by decide +kernel))⟩ (gv_pV (wc := [(g5, .inr (0, [.ref a1, .ref a2, .int (nI ac)])), (a1, .inl (cJ, 768, .inr (.inl kp))), (a2, .inl (cI, 12, .inl (fun j => nI (am j)))), (b3, .inl (cJ, 64, .inr (.inl fP)))]) hP hK hD hG [3, 4, 5, 2] rfl (by decide) 0 rfl rfl rfl) rfl rfl hl.1 rfl (lv_room (Nat.le_of_ble_eq_true rfl)) dX5_release_27 ⟨Nat.le_of_ble_eq_true rfl, Nat.le_of_ble_eq_true rfl⟩) hP hD hS hA [3, 4, 5, 2] [0, 1] [0, 1, 5, 2, 3, 4] rfl rfl (by decide) (by decide) (fun u => rfl) (by decide) (fun rp u H locs hrp hP hD hS => ?_)
  have hP : va_P D vwCl [(g0, .inr (5, [.ref g1, .ref g2, .ref g3, .ref g4, .ref g5, .int (nI mo)])), (g1, .inr (1, [.ref b1, .ref b2, .ref b3])), (b3, .inl (cJ, 64, .inr (.inl fP))), (g5, .inr (0, [.ref a1, .ref a2, .int (nI (ac + 1))])), (a1, .inl (cJ, 768, .inr (.inl (va_cpy fP kp 0 (ac * 64) 64)))), (a2, .inl (cI, 12, .inl (fun j => nI (gv_un am ac mo j))))] H := hP
  have hD : va_D A [(g0, .inr (5, [.ref g1, .ref g2, .ref g3, .ref g4, .ref g5, .int (nI mo)])), (g1, .inr (1, [.ref b1, .ref b2, .ref b3])), (b3, .inl (cJ, 64, .inr (.inl fP))), (g5, .inr (0, [.ref a1, .ref a2, .int (nI (ac + 1))])), (a1, .inl (cJ, 768, .inr (.inl (va_cpy fP kp 0 (ac * 64) 64)))), (a2, .inl (cI, 12, .inl (fun j => nI (gv_un am ac mo j))))] := hD
  have hpo : ac < 12 ∧ rp = nI ac := by
    exact ⟨h1, hrp⟩
  have hP9 : va_P D vwCl [(g0, .inr (5, [.ref g1, .ref g2, .ref g3, .ref g4, .ref g5, .int (nI mo)])), (g1, .inr (1, [.ref b1, .ref b2, .ref b3])), (b3, .inl (cJ, 64, .inr (.inl fP))), (g5, .inr (0, [.ref a1, .ref a2, .int (nI (ac + 1))])), (a1, .inl (cJ, 768, .inr (.inl (va_cpy fP kp 0 (ac * 64) 64)))), (a2, .inl (cI, 12, .inl (fun j => nI (gv_un am ac mo j))))] H := hP
  have hD9 : va_D A [(g0, .inr (5, [.ref g1, .ref g2, .ref g3, .ref g4, .ref g5, .int (nI mo)])), (g1, .inr (1, [.ref b1, .ref b2, .ref b3])), (b3, .inl (cJ, 64, .inr (.inl fP))), (g5, .inr (0, [.ref a1, .ref a2, .int (nI (ac + 1))])), (a1, .inl (cJ, 768, .inr (.inl (va_cpy fP kp 0 (ac * 64) 64)))), (a2, .inl (cI, 12, .inl (fun j => nI (gv_un am ac mo j))))] := hD
  refine vx_ret (W.widen (k := 1) (n := 6) (Nat.le_of_ble_eq_true rfl) (Nat.le_of_ble_eq_true rfl) ?_)
  exact W.iret (v := rp) hx hb hr (fun t9 ht9 hW9 => ⟨⟨rp, (), rfl, hpo, by rw [ht9]; exact hP9, hD9⟩, hS.F ht9⟩) hS.2.2 dX5_release_30
set_option maxHeartbeats 4000000 in
set_option maxRecDepth 100000 in
theorem ct_X5_trend (l : Launch) (hlt : l.stackTraces = false) (D : va_G) (cI cJ : ClassId) (sz : Nat) (g0 g1 g2 g3 g4 g5 mo : Nat)(a1 a2 ac : Nat) (kp : Nat → Int64) (am : Nat → Nat) (p0 p1 x y : Int32) (hac : ac ≤ 12) (ham : ∀ j, am j ≤ 3000) : vx_Met l yX5_trend wsX5_trend ({ frames := 7, cells := 1, slots := 6, locals := 111 }) (va_Pc [.ref g0, .int p0, .int p1, .int x, .int y] (gv_Z D cI cJ [(g0, .inr (5, [.ref g1, .ref g2, .ref g3, .ref g4, .ref g5, .int (nI mo)])), (g5, .inr (0, [.ref a1, .ref a2, .int (nI ac)])), (a1, .inl (cJ, 768, .inr (.inl kp))), (a2, .inl (cI, 12, .inl (fun j => nI (am j))))] sz)) (vp_Sl (fun r9 : Int64 => ∃ i j a b, i < ac ∧ j < ac ∧ a < 8 ∧ b < 8 ∧ p0 = nI i ∧ p1 = nI j ∧ x = nI a ∧ y = nI b ∧ ¬ am i = am j ∧ r9 = if am j < am i then gv_fdiv (kp (i * 64 + (b * 8 + a)) - kp (j * 64 + (b * 8 + a))) ((nI (am i - am j)).toInt64) else gv_fdiv (kp (j * 64 + (b * 8 + a)) - kp (i * 64 + (b * 8 + a))) ((nI (am j - am i)).toInt64))) (gv_X (fun E => (E = gv_eI ∧ ¬ (vp_in p0 ac ∧ vp_in p1 ac ∧ vp_in x 8 ∧ vp_in y 8)) ∨ (E = gv_eS ∧ ∃ i j, i < ac ∧ j < ac ∧ p0 = nI i ∧ p1 = nI j ∧ am i = am j ∧ vp_in x 8 ∧ vp_in y 8))) 1 6 (fun _ => False) := by
  refine vx_ofW (cc := cX5_trend) (maxL := 6) (ret := (some .long)) (by decide) rfl ?_
  intro p e s m args below meth c s₁ B hml htb hv
  obtain ⟨rfl, ⟨hsz, hP, hK, hD0, hG⟩, hZ0⟩ := hv
  have hx := B.exec
  have hb := B.bytes
  have hr := B.returns
  have hts := atoms_spec (ws := wsX5_trend) B.pre
  have hown : s.vm.findClass RX5 = some m.cls := findClass_of_methodNamed B.named
  have hlocks := B.notSynchronized
  subst hsz
  have hD := hD0
  have hA : ∀ q : Nat, s.heap.size ≤ q → va_A [(g0, .inr (5, [.ref g1, .ref g2, .ref g3, .ref g4, .ref g5, .int (nI mo)])), (g5, .inr (0, [.ref a1, .ref a2, .int (nI ac)])), (a1, .inl (cJ, 768, .inr (.inl kp))), (a2, .inl (cI, 12, .inl (fun j => nI (am j))))] s.heap.size q := fun q h => Or.inr h
  have hP : va_P D vwCl [(g0, .inr (5, [.ref g1, .ref g2, .ref g3, .ref g4, .ref g5, .int (nI mo)])), (g5, .inr (0, [.ref a1, .ref a2, .int (nI ac)])), (a1, .inl (cJ, 768, .inr (.inl kp))), (a2, .inl (cI, 12, .inl (fun j => nI (am j))))] s.heap := hP
  have hl := lv_entry ([.ref g0, .int p0, .int p1, .int x, .int y]) (n := 6) (Nat.le_of_ble_eq_true rfl)
  rw [lg_entry_eq]
  generalize (lg_sl ([.ref g0, .int p0, .int p1, .int x, .int y]) ++ List.replicate (6 - (lg_sl ([.ref g0, .int p0, .int p1, .int x, .int y])).length) Slot.unset).toArray = ls at hl ⊢
  have hl : lv_has ls 6 [(0, .ref g0), (1, .int p0), (2, .int p1), (3, .int x), (4, .int y)] := hl
  refine lv_iload_n hx hb dX5_trend_0 rfl (lv_at hl 1 rfl) ?_
  refine lv_aload_n hx hb dX5_trend_1 rfl (lv_at hl 0 rfl) ?_
  refine va_get (D := D) (ci := 5) (v := .ref g5) (C := RX5) (T := TX5) (N := 6) hx hb hts gv_in_X5_trend_X5 hown hK hP 0 rfl rfl 4 (by decide) (hts (.fieldLink RX5 40 "Gravimere" "archive" "LGravimere$Archive;") (by decide +kernel)) (fun _ h9 => h9) rfl dX5_trend_2 ?_
  refine va_getN (D := D) (ci := 0) (v := .int (nI ac)) (C := RX0) (T := TX0) (N := 3) hx hb hts gv_in_X5_trend_X0 hown hK hP 1 rfl rfl 2 (by decide) ((gv_nf_167 hG).use rfl) (fun _ h9 => h9) rfl dX5_trend_5 ?_
  refine gv_xv (vx_runS (As := [.int p0, .int (nI ac)]) (rest := []) ⟨hx, hb, hml, hown, hts⟩ (ct_X5_requireNumber l hlt D cI cJ s.heap.size p0 ac (by omega)) (va_cwS 2 hts gX5_trend_X5_requireNumber rfl rfl rfl (by decide +kernel) ⟨Nat.le_of_ble_eq_true rfl, Nat.le_of_ble_eq_true rfl⟩) (gv_pSZ (wc := []) hP hK hD hG hZ0 (gv_A0 (fun q h => hA q (h))) [] rfl (by decide)) rfl rfl hl.1 rfl (lv_room (Nat.le_of_ble_eq_true rfl)) dX5_trend_8 ⟨Nat.le_of_ble_eq_true rfl, Nat.le_of_ble_eq_true rfl⟩) (fun E ce q9 H1 hBX hz1 hk1 hce hcv hcl => ?_) (fun h1 => ?_)
  · skip
    refine gv_out htb hlocks hz1 hk1 hce hcv hcl (?_) (Nat.le_of_ble_eq_true rfl) (Nat.le_of_ble_eq_true rfl)
    exact Or.inl ⟨hBX.1, fun z => hBX.2 z.1⟩
  obtain ⟨i, hi, ei⟩ := vp_in_of h1 (by omega)
  rw [ei] at hl
  have hl : lv_has ls 6 [(0, .ref g0), (1, .int (nI i)), (2, .int p1), (3, .int x), (4, .int y)] := hl
  have hami := ham i
  refine lv_iload_n hx hb dX5_trend_11 rfl (lv_at hl 2 rfl) ?_
  refine lv_aload_n hx hb dX5_trend_12 rfl (lv_at hl 0 rfl) ?_
  refine va_get (D := D) (ci := 5) (v := .ref g5) (C := RX5) (T := TX5) (N := 6) hx hb hts gv_in_X5_trend_X5 hown hK hP 0 rfl rfl 4 (by decide) (hts (.fieldLink RX5 40 "Gravimere" "archive" "LGravimere$Archive;") (by decide +kernel)) (fun _ h9 => h9) rfl dX5_trend_13 ?_
  refine va_getN (D := D) (ci := 0) (v := .int (nI ac)) (C := RX0) (T := TX0) (N := 3) hx hb hts gv_in_X5_trend_X0 hown hK hP 1 rfl rfl 2 (by decide) ((gv_nf_167 hG).use rfl) (fun _ h9 => h9) rfl dX5_trend_16 ?_
  refine gv_xv (vx_runS (As := [.int p1, .int (nI ac)]) (rest := []) ⟨hx, hb, hml, hown, hts⟩ (ct_X5_requireNumber l hlt D cI cJ s.heap.size p1 ac (by omega)) (va_cwS 2 hts gX5_trend_X5_requireNumber rfl rfl rfl (by decide +kernel) ⟨Nat.le_of_ble_eq_true rfl, Nat.le_of_ble_eq_true rfl⟩) (gv_pSZ (wc := []) hP hK hD hG hZ0 (gv_A0 (fun q h => hA q (h))) [] rfl (by decide)) rfl rfl hl.1 rfl (lv_room (Nat.le_of_ble_eq_true rfl)) dX5_trend_19 ⟨Nat.le_of_ble_eq_true rfl, Nat.le_of_ble_eq_true rfl⟩) (fun E ce q9 H1 hBX hz1 hk1 hce hcv hcl => ?_) (fun h2 => ?_)
  · skip
    refine gv_out htb hlocks hz1 hk1 hce hcv hcl (?_) (Nat.le_of_ble_eq_true rfl) (Nat.le_of_ble_eq_true rfl)
    exact Or.inl ⟨hBX.1, fun z => hBX.2 z.2.1⟩
  obtain ⟨j, hj, ej⟩ := vp_in_of h2 (by omega)
  rw [ej] at hl
  have hl : lv_has ls 6 [(0, .ref g0), (1, .int (nI i)), (2, .int (nI j)), (3, .int x), (4, .int y)] := hl
  have hamj := ham j
  refine lv_iload_n hx hb dX5_trend_22 rfl (lv_at hl 3 rfl) ?_
  refine lv_iload hx hb dX5_trend_23 (lv_at hl 4 rfl) ?_
  refine gv_xv (vx_runS (As := [.int x, .int y]) (rest := []) ⟨hx, hb, hml, hown, hts⟩ (ct_X5_requireCell l hlt D cI cJ s.heap.size x y) (va_cwS 2 hts gX5_trend_X5_requireCell rfl rfl rfl (by decide +kernel) ⟨Nat.le_of_ble_eq_true rfl, Nat.le_of_ble_eq_true rfl⟩) (gv_pSZ (wc := []) hP hK hD hG hZ0 (gv_A0 (fun q h => hA q (h))) [] rfl (by decide)) rfl rfl hl.1 rfl (lv_room (Nat.le_of_ble_eq_true rfl)) dX5_trend_25 ⟨Nat.le_of_ble_eq_true rfl, Nat.le_of_ble_eq_true rfl⟩) (fun E ce q9 H1 hBX hz1 hk1 hce hcv hcl => ?_) (fun hc => ?_)
  · skip
    refine gv_out htb hlocks hz1 hk1 hce hcv hcl (?_) (Nat.le_of_ble_eq_true rfl) (Nat.le_of_ble_eq_true rfl)
    exact Or.inl ⟨hBX.1, fun z => hBX.2 z.2.2⟩
  obtain ⟨a, ha8, ea⟩ := vp_in_of hc.1 (by decide)
  obtain ⟨b, hb8, eb⟩ := vp_in_of hc.2 (by decide)
  rw [ea] at hl
  have hl : lv_has ls 6 [(0, .ref g0), (1, .int (nI i)), (2, .int (nI j)), (3, .int (nI a)), (4, .int y)] := hl
  rw [eb] at hl
  have hl : lv_has ls 6 [(0, .ref g0), (1, .int (nI i)), (2, .int (nI j)), (3, .int (nI a)), (4, .int (nI b))] := hl
  refine lv_aload_n hx hb dX5_trend_28 rfl (lv_at hl 0 rfl) ?_
  refine va_get (D := D) (ci := 5) (v := .ref g5) (C := RX5) (T := TX5) (N := 6) hx hb hts gv_in_X5_trend_X5 hown hK hP 0 rfl rfl 4 (by decide) (hts (.fieldLink RX5 40 "Gravimere" "archive" "LGravimere$Archive;") (by decide +kernel)) (fun _ h9 => h9) rfl dX5_trend_29 ?_
  refine va_getN (D := D) (ci := 0) (v := .ref a2) (C := RX0) (T := TX0) (N := 3) hx hb hts gv_in_X5_trend_X0 hown hK hP 1 rfl rfl 1 (by decide) ((gv_nf_176 hG).use rfl) (fun _ h9 => h9) rfl dX5_trend_32 ?_
  refine lv_iload_n hx hb dX5_trend_35 rfl (lv_at hl 1 rfl) ?_
  refine gv_il hx hb hK hP 3 (k := i) rfl (by omega) (by decide) dX5_trend_36 ?_
  refine gv_wi (rfl) ?_
  refine lv_aload_n hx hb dX5_trend_37 rfl (lv_at hl 0 rfl) ?_
  refine va_get (D := D) (ci := 5) (v := .ref g5) (C := RX5) (T := TX5) (N := 6) hx hb hts gv_in_X5_trend_X5 hown hK hP 0 rfl rfl 4 (by decide) (hts (.fieldLink RX5 40 "Gravimere" "archive" "LGravimere$Archive;") (by decide +kernel)) (fun _ h9 => h9) rfl dX5_trend_38 ?_
  refine va_getN (D := D) (ci := 0) (v := .ref a2) (C := RX0) (T := TX0) (N := 3) hx hb hts gv_in_X5_trend_X0 hown hK hP 1 rfl rfl 1 (by decide) ((gv_nf_176 hG).use rfl) (fun _ h9 => h9) rfl dX5_trend_41 ?_
  refine lv_iload_n hx hb dX5_trend_44 rfl (lv_at hl 2 rfl) ?_
  refine gv_il hx hb hK hP 3 (k := j) rfl (by omega) (by decide) dX5_trend_45 ?_
  refine gv_wi (rfl) ?_
  refine lv_icmp_ne (tgt := 59) hx hb dX5_trend_46 (by decide) (fun c_46 => ?_) (fun c_46 => ?_)
  · skip
    have c_46 := (not_congr (nI_eq (a := am i) (b := am j) (by omega) (by omega))).mp c_46
    refine lv_aload_n hx hb dX5_trend_59 rfl (lv_at hl 0 rfl) ?_
    refine va_get (D := D) (ci := 5) (v := .ref g5) (C := RX5) (T := TX5) (N := 6) hx hb hts gv_in_X5_trend_X5 hown hK hP 0 rfl rfl 4 (by decide) (hts (.fieldLink RX5 40 "Gravimere" "archive" "LGravimere$Archive;") (by decide +kernel)) (fun _ h9 => h9) rfl dX5_trend_60 ?_
    refine va_getN (D := D) (ci := 0) (v := .ref a2) (C := RX0) (T := TX0) (N := 3) hx hb hts gv_in_X5_trend_X0 hown hK hP 1 rfl rfl 1 (by decide) ((gv_nf_176 hG).use rfl) (fun _ h9 => h9) rfl dX5_trend_63 ?_
    refine lv_iload_n hx hb dX5_trend_66 rfl (lv_at hl 1 rfl) ?_
    refine gv_il hx hb hK hP 3 (k := i) rfl (by omega) (by decide) dX5_trend_67 ?_
    refine gv_wi (rfl) ?_
    refine lv_aload_n hx hb dX5_trend_68 rfl (lv_at hl 0 rfl) ?_
    refine va_get (D := D) (ci := 5) (v := .ref g5) (C := RX5) (T := TX5) (N := 6) hx hb hts gv_in_X5_trend_X5 hown hK hP 0 rfl rfl 4 (by decide) (hts (.fieldLink RX5 40 "Gravimere" "archive" "LGravimere$Archive;") (by decide +kernel)) (fun _ h9 => h9) rfl dX5_trend_69 ?_
    refine va_getN (D := D) (ci := 0) (v := .ref a2) (C := RX0) (T := TX0) (N := 3) hx hb hts gv_in_X5_trend_X0 hown hK hP 1 rfl rfl 1 (by decide) ((gv_nf_176 hG).use rfl) (fun _ h9 => h9) rfl dX5_trend_72 ?_
    refine lv_iload_n hx hb dX5_trend_75 rfl (lv_at hl 2 rfl) ?_
    refine gv_il hx hb hK hP 3 (k := j) rfl (by omega) (by decide) dX5_trend_76 ?_
    refine gv_wi (rfl) ?_
    refine lv_icmp_le (tgt := 84) hx hb dX5_trend_77 (by decide) (fun c_77 => ?_) (fun c_77 => ?_)
    · skip
      have c_77 := (nI_leI (a := am i) (b := am j) (by omega) (by omega)).mp c_77
      refine lv_iconst (v := nI 0) hx hb dX5_trend_84 (by decide) ?_
      refine lv_istore (lv' := [(5, .int (nI 0)), (0, .ref g0), (1, .int (nI i)), (2, .int (nI j)), (3, .int (nI a)), (4, .int (nI b))]) hx hb dX5_trend_85 hl (by decide) rfl (fun ls hl => ?_)
      refine lv_iload hx hb dX5_trend_87 (lv_at hl 0 rfl) ?_
      refine lv_if_eq (tgt := 107) hx hb dX5_trend_89 (by decide) (fun c_89 => ?_) (fun c_89 => ?_)
      · skip
        refine lv_aload_n hx hb dX5_trend_107 rfl (lv_at hl 1 rfl) ?_
        refine va_get (D := D) (ci := 5) (v := .ref g5) (C := RX5) (T := TX5) (N := 6) hx hb hts gv_in_X5_trend_X5 hown hK hP 0 rfl rfl 4 (by decide) (hts (.fieldLink RX5 40 "Gravimere" "archive" "LGravimere$Archive;") (by decide +kernel)) (fun _ h9 => h9) rfl dX5_trend_108 ?_
        refine lv_iload_n hx hb dX5_trend_111 rfl (lv_at hl 2 rfl) ?_
        refine lv_iload_n hx hb dX5_trend_112 rfl (lv_at hl 3 rfl) ?_
        refine lv_iload_n hx hb dX5_trend_113 rfl (lv_at hl 4 rfl) ?_
        refine lv_iload hx hb dX5_trend_114 (lv_at hl 5 rfl) ?_
        refine gv_pl (va_runVN (As := [.int (nI i), .int (nI j), .int (nI a), .int (nI b)]) (rest := []) ⟨hx, hb, hml, hown, hts⟩ (ct_X0_trendFrom l D cI cJ s.heap.size g5 a1 a2 ac kp am i j a b (by omega) (by omega) ha8 hb8 (by omega) (by omega)) ⟨va_cnB 4 hts gX5_trend_X0_trendFrom_n181 rfl rfl rfl (gv_nm_X5_181 hG) (hts (.initialized RX0) (by decide +kernel)) (by decide +kernel) ⟨Nat.le_of_ble_eq_true rfl, Nat.le_of_ble_eq_true rfl⟩, (hts (.instanceMethod yX0_trendFrom) (by decide +kernel)), (hts (.selects RX0 yX0_trendFrom yX0_trendFrom) (by decide +kernel))⟩ (gv_pV (wc := [(g5, .inr (0, [.ref a1, .ref a2, .int (nI ac)])), (a1, .inl (cJ, 768, .inr (.inl kp))), (a2, .inl (cI, 12, .inl (fun j => nI (am j))))]) hP hK hD hG [1, 2, 3] rfl (by decide) 0 rfl rfl rfl) rfl rfl hl.1 rfl (lv_room (Nat.le_of_ble_eq_true rfl)) dX5_trend_116 ⟨Nat.le_of_ble_eq_true rfl, Nat.le_of_ble_eq_true rfl⟩) (fun rq hrq => ?_)
        have hpo : ∃ i j a b, i < ac ∧ j < ac ∧ a < 8 ∧ b < 8 ∧ p0 = nI i ∧ p1 = nI j ∧ x = nI a ∧ y = nI b ∧ ¬ am i = am j ∧ rq = if am j < am i then gv_fdiv (kp (i * 64 + (b * 8 + a)) - kp (j * 64 + (b * 8 + a))) ((nI (am i - am j)).toInt64) else gv_fdiv (kp (j * 64 + (b * 8 + a)) - kp (i * 64 + (b * 8 + a))) ((nI (am j - am i)).toInt64) := by
          exact ⟨i, j, a, b, hi, hj, ha8, hb8, ei, ej, ea, eb, c_46, by rw [if_neg (by omega)]; exact hrq⟩
        refine vx_ret (W.widen (k := 1) (n := 6) (Nat.le_of_ble_eq_true rfl) (Nat.le_of_ble_eq_true rfl) ?_)
        exact W.lret (v := rq) hx hb hr (fun t9 ht9 hW9 => ⟨rq, rfl, hpo, ht9⟩) t_nil dX5_trend_119
      · skip
        exact absurd (by decide) c_89
    · skip
      have c_77 := (not_congr (nI_leI (a := am i) (b := am j) (by omega) (by omega))).mp c_77
      refine lv_iconst (v := nI 1) hx hb dX5_trend_80 (by decide) ?_
      refine lv_goto (tgt := 85) hx hb dX5_trend_81 (by decide) ?_
      refine lv_istore (lv' := [(5, .int (nI 1)), (0, .ref g0), (1, .int (nI i)), (2, .int (nI j)), (3, .int (nI a)), (4, .int (nI b))]) hx hb dX5_trend_85 hl (by decide) rfl (fun ls hl => ?_)
      refine lv_iload hx hb dX5_trend_87 (lv_at hl 0 rfl) ?_
      refine lv_if_eq (tgt := 107) hx hb dX5_trend_89 (by decide) (fun c_89 => ?_) (fun c_89 => ?_)
      · skip
        exact absurd c_89 (by decide)
      · skip
        refine lv_aload_n hx hb dX5_trend_92 rfl (lv_at hl 1 rfl) ?_
        refine va_get (D := D) (ci := 5) (v := .ref g5) (C := RX5) (T := TX5) (N := 6) hx hb hts gv_in_X5_trend_X5 hown hK hP 0 rfl rfl 4 (by decide) (hts (.fieldLink RX5 40 "Gravimere" "archive" "LGravimere$Archive;") (by decide +kernel)) (fun _ h9 => h9) rfl dX5_trend_93 ?_
        refine lv_iload_n hx hb dX5_trend_96 rfl (lv_at hl 3 rfl) ?_
        refine lv_iload_n hx hb dX5_trend_97 rfl (lv_at hl 2 rfl) ?_
        refine lv_iload_n hx hb dX5_trend_98 rfl (lv_at hl 4 rfl) ?_
        refine lv_iload hx hb dX5_trend_99 (lv_at hl 5 rfl) ?_
        refine gv_pl (va_runVN (As := [.int (nI j), .int (nI i), .int (nI a), .int (nI b)]) (rest := []) ⟨hx, hb, hml, hown, hts⟩ (ct_X0_trendFrom l D cI cJ s.heap.size g5 a1 a2 ac kp am j i a b (by omega) (by omega) ha8 hb8 (by omega) (by omega)) ⟨va_cnB 4 hts gX5_trend_X0_trendFrom_n181 rfl rfl rfl (gv_nm_X5_181 hG) (hts (.initialized RX0) (by decide +kernel)) (by decide +kernel) ⟨Nat.le_of_ble_eq_true rfl, Nat.le_of_ble_eq_true rfl⟩, (hts (.instanceMethod yX0_trendFrom) (by decide +kernel)), (hts (.selects RX0 yX0_trendFrom yX0_trendFrom) (by decide +kernel))⟩ (gv_pV (wc := [(g5, .inr (0, [.ref a1, .ref a2, .int (nI ac)])), (a1, .inl (cJ, 768, .inr (.inl kp))), (a2, .inl (cI, 12, .inl (fun j => nI (am j))))]) hP hK hD hG [1, 2, 3] rfl (by decide) 0 rfl rfl rfl) rfl rfl hl.1 rfl (lv_room (Nat.le_of_ble_eq_true rfl)) dX5_trend_101 ⟨Nat.le_of_ble_eq_true rfl, Nat.le_of_ble_eq_true rfl⟩) (fun rp hrp => ?_)
        refine lv_goto (tgt := 119) hx hb dX5_trend_104 (by decide) ?_
        have hpo : ∃ i j a b, i < ac ∧ j < ac ∧ a < 8 ∧ b < 8 ∧ p0 = nI i ∧ p1 = nI j ∧ x = nI a ∧ y = nI b ∧ ¬ am i = am j ∧ rp = if am j < am i then gv_fdiv (kp (i * 64 + (b * 8 + a)) - kp (j * 64 + (b * 8 + a))) ((nI (am i - am j)).toInt64) else gv_fdiv (kp (j * 64 + (b * 8 + a)) - kp (i * 64 + (b * 8 + a))) ((nI (am j - am i)).toInt64) := by
          exact ⟨i, j, a, b, hi, hj, ha8, hb8, ei, ej, ea, eb, c_46, by rw [if_pos (by omega)]; exact hrp⟩
        refine vx_ret (W.widen (k := 1) (n := 6) (Nat.le_of_ble_eq_true rfl) (Nat.le_of_ble_eq_true rfl) ?_)
        exact W.lret (v := rp) hx hb hr (fun t9 ht9 hW9 => ⟨rp, rfl, hpo, ht9⟩) t_nil dX5_trend_119
  · skip
    have c_46 := (nI_eq (a := am i) (b := am j) (by omega) (by omega)).mp c_46
    obtain ⟨sta9, hsta9⟩ := gv_st_179 hG
    have hBX : (gv_eS = gv_eI ∧ ¬ (vp_in p0 ac ∧ vp_in p1 ac ∧ vp_in x 8 ∧ vp_in y 8)) ∨ (gv_eS = gv_eS ∧ ∃ i j, i < ac ∧ j < ac ∧ p0 = nI i ∧ p1 = nI j ∧ am i = am j ∧ vp_in x 8 ∧ vp_in y 8) := by
      exact Or.inr ⟨rfl, i, j, hi, hj, ei, ej, c_46, hc⟩
    exact vx_throwS (own := RX5) (cls := gv_eS) (text := "both releases are of one month") (names := gv_nm) (ik := 88) (is := 179) (ic := 92) (sa := sta9) (A := va_A [(g0, .inr (5, [.ref g1, .ref g2, .ref g3, .ref g4, .ref g5, .int (nI mo)])), (g5, .inr (0, [.ref a1, .ref a2, .int (nI ac)])), (a1, .inl (cJ, 768, .inr (.inl kp))), (a2, .inl (cI, 12, .inl (fun j => nI (am j))))] s.heap.size) hx hb hlt hown (by decide +kernel) (by decide +kernel) (hts (.classLink RX5 88 gv_eS) (by decide +kernel)) (hts (.initialized gv_eS) (by decide +kernel)) hsta9 (vx_hat (fun w h => hts w (List.mem_cons_of_mem _ (List.mem_append_left _ (List.mem_append_right _ h)))) gv_bS (gv_bwS hG)) gv_otS hZ0.1 hZ0.2 va_S.rf (hl.1.trans hml.symm) dX5_trend_49 dX5_trend_52 dX5_trend_53 dX5_trend_55 dX5_trend_58 (fun x h => (htb x h).elim) (Nat.le_of_ble_eq_true rfl) (Nat.le_of_ble_eq_true rfl) (Nat.le_of_ble_eq_true rfl) (Nat.le_of_ble_eq_true rfl) hlocks (fun _ _ h1 h2 => ⟨hBX, h1, h2⟩) (fun _ h => absurd h List.not_mem_nil) (Nat.le_of_ble_eq_true rfl) (Nat.le_of_ble_eq_true rfl)
