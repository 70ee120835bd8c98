/-! the functions that the contracts speak of -/
def gv_acc (s : Int64) (g : Nat → Int64) : Nat → Int64
  | 0 => s
  | n + 1 => gv_acc s g n + g n
def gv_sq (x y la j : Nat) : Int64 := ((nI (j % 8) - nI x) * (nI (j % 8) - nI x) + (nI (j / 8) - nI y) * (nI (j / 8) - nI y) + nI ((la + 1) * (la + 1))).toInt64
/-- what a mass of the layer la at (x, y) pulls at the cell j, and the other way about -/
def gv_pt (m : Int64) (x y la j : Nat) : Int64 := gv_plo m (gv_sq x y la j)
def gv_chg (f g : Nat → Int64) (n : Nat) : Nat → Int64 := fun j => if j < n then f j + g j else f j
theorem gv_chg_0 (f g : Nat → Int64) : gv_chg f g 0 = f := by funext j; simp [gv_chg]
theorem gv_chg_s {f g : Nat → Int64} {n k : Nat} {v : Int64} (hk : k = n) (hv : v = g n) : vp_updL (gv_chg f g n) k (gv_chg f g n k + v) = gv_chg f g (n + 1) := by
  subst hk; subst hv
  funext j
  unfold vp_updL gv_chg
  by_cases h : j = k
  · subst h; rw [if_pos rfl, if_neg (Nat.lt_irrefl _), if_pos (Nat.lt_succ_self _)]
  · rw [if_neg h]
    by_cases h2 : j < k
    · rw [if_pos h2, if_pos (Nat.lt_succ_of_lt h2)]
    · rw [if_neg h2, if_neg (by omega)]
theorem gv_sq_eq {x y la a b : Nat} (ha : a < 8) : gv_sq x y la (8 * b + a) = ((nI a - nI x) * (nI a - nI x) + (nI b - nI y) * (nI b - nI y) + nI ((la + 1) * (la + 1))).toInt64 := by
  unfold gv_sq
  rw [show (8 * b + a) % 8 = a by omega, show (8 * b + a) / 8 = b by omega]
def gv_sumC (fM fW : Nat → Int64) (x y : Nat) : Nat → Int64
  | 0 => 0
  | c + 1 => gv_acc (gv_sumC fM fW x y c + gv_pt (fW c) x y 0 c) (fun la => gv_pt (fM (la * 64 + c)) x y la c) 3
theorem gv_in_X1_keptPull_X1 : ∀ w ∈ wsX10, w ∈ wsX1_keptPull := by decide +kernel
theorem gv_in_X1_changePulls_X1 : ∀ w ∈ wsX10, w ∈ wsX1_changePulls := by decide +kernel
theorem gv_in_X1_putMass_X1 : ∀ w ∈ wsX10, w ∈ wsX1_putMass := by decide +kernel
theorem gv_in_X1_putWater_X1 : ∀ w ∈ wsX10, w ∈ wsX1_putWater := by decide +kernel
theorem gv_in_X1_summedPull_X1 : ∀ w ∈ wsX10, w ∈ wsX1_summedPull := by decide +kernel
set_option maxHeartbeats 4000000 in
set_option maxRecDepth 100000 in
theorem ct_X1_keptPull (l : Launch) (D : va_G) (cI cJ : ClassId) (sz : Nat) (b0 b1 b2 b3 : Nat) (fP : Nat → Int64) (x y : Nat) (hx8 : x < 8) (hy8 : y < 8) : Met l yX1_keptPull wsX1_keptPull ({ frames := 1, cells := 0, slots := 0, locals := 21 }) (va_Pc [.ref b0, .int (nI x), .int (nI y)] (gv_B D cI cJ [(b0, .inr (1, [.ref b1, .ref b2, .ref b3])), (b3, .inl (cJ, 64, .inr (.inl fP)))] sz)) (vp_Sl (fun r9 : Int64 => r9 = fP (y * 8 + x))) 0 0 (fun _ => False) := by
  refine Met.ofW (cc := cX1_keptPull) (maxL := 3) (ret := (some .long)) (by decide) rfl ?_
  intro p e s m args below meth c s₁ B hml hv
  obtain ⟨rfl, hsz, hP, hK, hD0, hG⟩ := hv
  have hx := B.exec
  have hb := B.bytes
  have hr := B.returns
  have hts := atoms_spec (ws := wsX1_keptPull) B.pre
  have hown : s.vm.findClass RX1 = some m.cls := findClass_of_methodNamed B.named
  have hlocks := B.notSynchronized
  subst hsz
  have hD := hD0
  have hP : va_P D vwCl [(b0, .inr (1, [.ref b1, .ref b2, .ref b3])), (b3, .inl (cJ, 64, .inr (.inl fP)))] s.heap := hP
  have hl := lv_entry ([.ref b0, .int (nI x), .int (nI y)]) (n := 3) (Nat.le_of_ble_eq_true rfl)
  rw [lg_entry_eq]
  generalize (lg_sl ([.ref b0, .int (nI x), .int (nI y)]) ++ List.replicate (3 - (lg_sl ([.ref b0, .int (nI x), .int (nI y)])).length) Slot.unset).toArray = ls at hl ⊢
  have hl : lv_has ls 3 [(0, .ref b0), (1, .int (nI x)), (2, .int (nI y))] := hl
  refine lv_aload_n hx hb dX1_keptPull_0 rfl (lv_at hl 0 rfl) ?_
  refine va_get (D := D) (ci := 1) (v := .ref b3) (C := RX1) (T := TX1) (N := 3) hx hb hts gv_in_X1_keptPull_X1 hown hK hP 0 rfl rfl 2 (by decide) (hts (.fieldLink RX1 18 "Gravimere$Body" "pulls" "[J") (by decide +kernel)) (fun _ h9 => h9) rfl dX1_keptPull_1 ?_
  refine lv_iload_n hx hb dX1_keptPull_4 rfl (lv_at hl 1 rfl) ?_
  refine lv_iload_n hx hb dX1_keptPull_5 rfl (lv_at hl 2 rfl) ?_
  refine gv_pi (va_runSN (As := [.int (nI x), .int (nI y)]) (rest := [.ref b3]) ⟨hx, hb, hml, hown, hts⟩ (ct_X5_cellNumber l x y) ⟨va_cnB 2 hts gX1_keptPull_X5_cellNumber_n21 rfl rfl rfl (gv_nm_X1_21 hG) (hts (.initialized RX5) (by decide +kernel)) (by decide +kernel) ⟨Nat.le_of_ble_eq_true rfl, Nat.le_of_ble_eq_true rfl⟩, (hts (.static yX5_cellNumber) (by decide +kernel)), trivial⟩ gv_p0 rfl rfl hl.1 rfl (lv_room (Nat.le_of_ble_eq_true rfl)) dX1_keptPull_6 ⟨Nat.le_of_ble_eq_true rfl, Nat.le_of_ble_eq_true rfl⟩) (fun r hr_ => ?_)
  subst hr_
  refine gv_ll hx hb hK hP 1 (k := y * 8 + x) rfl (by omega) (by decide) dX1_keptPull_9 ?_
  have hpo : (fP (y * 8 + x)) = fP (y * 8 + x) := by
    rfl
  exact W.lret (v := fP (y * 8 + x)) hx hb hr (fun t9 ht9 hW9 => ⟨(fP (y * 8 + x)), rfl, hpo, ht9⟩) t_nil dX1_keptPull_10
set_option maxHeartbeats 4000000 in
set_option maxRecDepth 100000 in
theorem ct_X1_changePulls (l : Launch) (D : va_G) (cI cJ : ClassId) (sz : Nat) (b0 b1 b2 b3 : Nat) (fP : Nat → Int64) (x y la : Nat) (bef now : Int64)  : Met l yX1_changePulls wsX1_changePulls ({ frames := 1, cells := 0, slots := 0, locals := 23 }) (va_Pc [.ref b0, .int (nI x), .int (nI y), .int (nI la), .long bef, .long now] (gv_B D cI cJ [(b0, .inr (1, [.ref b1, .ref b2, .ref b3])), (b3, .inl (cJ, 64, .inr (.inl fP)))] sz)) (va_Qv (fun (u9 : Unit) => True) (fun (u9 : Unit) t9 => gv_W D (va_A [(b0, .inr (1, [.ref b1, .ref b2, .ref b3])), (b3, .inl (cJ, 64, .inr (.inl fP)))] sz) [(b0, .inr (1, [.ref b1, .ref b2, .ref b3])), (b3, .inl (cJ, 64, .inr (.inl (gv_chg fP (fun j => gv_pt now x y la j - gv_pt bef x y la j) 64))))] t9) (va_A [(b0, .inr (1, [.ref b1, .ref b2, .ref b3])), (b3, .inl (cJ, 64, .inr (.inl fP)))] sz)) 0 0 (va_A [(b0, .inr (1, [.ref b1, .ref b2, .ref b3])), (b3, .inl (cJ, 64, .inr (.inl fP)))] sz) := by
  refine Met.ofW (cc := cX1_changePulls) (maxL := 12) (ret := none) (by decide) rfl ?_
  intro p e s m args below meth c s₁ B hml hv
  obtain ⟨rfl, hsz, hP, hK, hD0, hG⟩ := hv
  have hx := B.exec
  have hb := B.bytes
  have hr := B.returns
  have hts := atoms_spec (ws := wsX1_changePulls) B.pre
  have hown : s.vm.findClass RX1 = some m.cls := findClass_of_methodNamed B.named
  have hlocks := B.notSynchronized
  subst hsz
  have hD := hD0.self (sz := s.heap.size)
  generalize hAe : va_A [(b0, .inr (1, [.ref b1, .ref b2, .ref b3])), (b3, .inl (cJ, 64, .inr (.inl fP)))] s.heap.size = A at hD ⊢
  have hA : ∀ q : Nat, s.heap.size ≤ q → A q := fun q h => by rw [← hAe]; exact Or.inr h
  have hS : va_S A s.heap s.heap [] := va_S.rf
  have hP : va_P D vwCl [(b0, .inr (1, [.ref b1, .ref b2, .ref b3])), (b3, .inl (cJ, 64, .inr (.inl fP)))] s.heap := hP
  have hl := lv_entry ([.ref b0, .int (nI x), .int (nI y), .int (nI la), .long bef, .long now]) (n := 12) (Nat.le_of_ble_eq_true rfl)
  rw [lg_entry_eq]
  generalize (lg_sl ([.ref b0, .int (nI x), .int (nI y), .int (nI la), .long bef, .long now]) ++ List.replicate (12 - (lg_sl ([.ref b0, .int (nI x), .int (nI y), .int (nI la), .long bef, .long now])).length) Slot.unset).toArray = ls at hl ⊢
  have hl : lv_has ls 12 [(0, .ref b0), (1, .int (nI x)), (2, .int (nI y)), (3, .int (nI la)), (4, .long bef), (6, .long now)] := hl
  refine lv_iconst (v := nI 0) hx hb dX1_changePulls_0 (by decide) ?_
  refine lv_istore (lv' := [(8, .int (nI 0)), (0, .ref b0), (1, .int (nI x)), (2, .int (nI y)), (3, .int (nI la)), (4, .long bef), (6, .long now)]) hx hb dX1_changePulls_1 hl (by decide) rfl (fun ls hl => ?_)
  rw [← gv_chg_0 fP (fun j => gv_pt now x y la j - gv_pt bef x y la j)] at hP hD
  have hP : va_P D vwCl [(b0, .inr (1, [.ref b1, .ref b2, .ref b3])), (b3, .inl (cJ, 64, .inr (.inl (gv_chg fP (fun j => gv_pt now x y la j - gv_pt bef x y la j) (8 * 0)))))] s.heap := hP
  have hD : va_D A [(b0, .inr (1, [.ref b1, .ref b2, .ref b3])), (b3, .inl (cJ, 64, .inr (.inl (gv_chg fP (fun j => gv_pt now x y la j - gv_pt bef x y la j) (8 * 0)))))] := hD
  refine gv_lm (σ := Nat) (fun zq H locs ls => match zq with | b => b ≤ 8 ∧ va_P D vwCl [(b0, .inr (1, [.ref b1, .ref b2, .ref b3])), (b3, .inl (cJ, 64, .inr (.inl (gv_chg fP (fun j => gv_pt now x y la j - gv_pt bef x y la j) (8 * b)))))] H ∧ va_D A [(b0, .inr (1, [.ref b1, .ref b2, .ref b3])), (b3, .inl (cJ, 64, .inr (.inl (gv_chg fP (fun j => gv_pt now x y la j - gv_pt bef x y la j) (8 * b)))))] ∧ va_S A s.heap H locs ∧ lv_has ls 12 [(0, .ref b0), (1, .int (nI x)), (2, .int (nI y)), (3, .int (nI la)), (4, .long bef), (6, .long now), (8, .int (nI b))]) (fun zq => match zq with | b => 8 - b) 0 ⟨by omega, hP, hD, hS, lv_sub hl [1, 2, 3, 4, 5, 6, 0] rfl⟩ (fun b H locs ls hI ih_3 => ?_)
  obtain ⟨hb8, hP, hD, hS, hl⟩ := hI
  refine lv_iload hx hb dX1_changePulls_3 (lv_at hl 6 rfl) ?_
  refine lv_bipush (v := nI 8) hx hb dX1_changePulls_5 (by decide) ?_
  refine lv_icmp_ge (tgt := 76) hx hb dX1_changePulls_7 (by decide) (fun c_7 => ?_) (fun c_7 => ?_)
  · skip
    have c_7 := (nI_leI (a := 8) (b := b) (by omega) (by omega)).mp c_7
    have hpo : True := by
      trivial
    have hP9 : va_P D vwCl [(b0, .inr (1, [.ref b1, .ref b2, .ref b3])), (b3, .inl (cJ, 64, .inr (.inl (gv_chg fP (fun j => gv_pt now x y la j - gv_pt bef x y la j) 64))))] H := by rw [show 8 * b = 64 by omega] at hP; exact hP
    have hD9 : va_D A [(b0, .inr (1, [.ref b1, .ref b2, .ref b3])), (b3, .inl (cJ, 64, .inr (.inl (gv_chg fP (fun j => gv_pt now x y la j - gv_pt bef x y la j) 64))))] := by rw [show 8 * b = 64 by omega] at hD; exact hD
    exact W.vret hx hb hr (fun t9 ht9 hW9 => ⟨⟨(), rfl, hpo, by rw [ht9]; exact hP9, hD9⟩, hS.F ht9⟩) hS.2.2 dX1_changePulls_76
  · skip
    have c_7 := (not_congr (nI_leI (a := 8) (b := b) (by omega) (by omega))).mp c_7
    refine lv_iconst (v := nI 0) hx hb dX1_changePulls_10 (by decide) ?_
    refine lv_istore (lv' := [(9, .int (nI 0)), (0, .ref b0), (1, .int (nI x)), (2, .int (nI y)), (3, .int (nI la)), (4, .long bef), (6, .long now), (8, .int (nI b))]) hx hb dX1_changePulls_11 hl (by decide) rfl (fun ls hl => ?_)
    refine gv_lm (σ := Nat) (fun zq H locs ls => match zq with | a => a ≤ 8 ∧ va_P D vwCl [(b0, .inr (1, [.ref b1, .ref b2, .ref b3])), (b3, .inl (cJ, 64, .inr (.inl (gv_chg fP (fun j => gv_pt now x y la j - gv_pt bef x y la j) (8 * b + a)))))] H ∧ va_D A [(b0, .inr (1, [.ref b1, .ref b2, .ref b3])), (b3, .inl (cJ, 64, .inr (.inl (gv_chg fP (fun j => gv_pt now x y la j - gv_pt bef x y la j) (8 * b + a)))))] ∧ va_S A s.heap H locs ∧ lv_has ls 12 [(0, .ref b0), (1, .int (nI x)), (2, .int (nI y)), (3, .int (nI la)), (4, .long bef), (6, .long now), (8, .int (nI b)), (9, .int (nI a))]) (fun zq => match zq with | a => 8 - a) 0 ⟨by omega, hP, hD, hS, lv_sub hl [1, 2, 3, 4, 5, 6, 7, 0] rfl⟩ (fun a H locs ls hI ih_13 => ?_)
    obtain ⟨ha8, hP, hD, hS, hl⟩ := hI
    refine lv_iload hx hb dX1_changePulls_13 (lv_at hl 7 rfl) ?_
    refine lv_bipush (v := nI 8) hx hb dX1_changePulls_15 (by decide) ?_
    refine lv_icmp_ge (tgt := 70) hx hb dX1_changePulls_17 (by decide) (fun c_17 => ?_) (fun c_17 => ?_)
    · skip
      have c_17 := (nI_leI (a := 8) (b := a) (by omega) (by omega)).mp c_17
      refine lv_iinc (v := nI (b + 1)) (lv' := [(8, .int (nI (b + 1))), (0, .ref b0), (1, .int (nI x)), (2, .int (nI y)), (3, .int (nI la)), (4, .long bef), (6, .long now), (9, .int (nI a))]) hx hb dX1_changePulls_70 hl (k := 6) rfl (nI_add b 1) (by decide) rfl (fun ls hl => ?_)
      refine lv_goto (tgt := 3) hx hb dX1_changePulls_73 (by decide) ?_
      have hRW : gv_chg fP (fun j => gv_pt now x y la j - gv_pt bef x y la j) (8 * b + a) = gv_chg fP (fun j => gv_pt now x y la j - gv_pt bef x y la j) (8 * (b + 1)) := by rw [show 8 * b + a = 8 * (b + 1) by omega]
      rw [hRW] at hP hD
      have hP : va_P D vwCl [(b0, .inr (1, [.ref b1, .ref b2, .ref b3])), (b3, .inl (cJ, 64, .inr (.inl (gv_chg fP (fun j => gv_pt now x y la j - gv_pt bef x y la j) (8 * (b + 1))))))] H := hP
      have hD : va_D A [(b0, .inr (1, [.ref b1, .ref b2, .ref b3])), (b3, .inl (cJ, 64, .inr (.inl (gv_chg fP (fun j => gv_pt now x y la j - gv_pt bef x y la j) (8 * (b + 1))))))] := hD
      exact ih_3 (b + 1) _ _ _ ⟨by omega, hP, hD, hS, lv_sub hl [1, 2, 3, 4, 5, 6, 0] rfl⟩ (by simp only; omega)
    · skip
      have c_17 := (not_congr (nI_leI (a := 8) (b := a) (by omega) (by omega))).mp c_17
      refine lv_iload hx hb dX1_changePulls_20 (lv_at hl 7 rfl) ?_
      refine lv_iload_n hx hb dX1_changePulls_22 rfl (lv_at hl 1 rfl) ?_
      refine lv_isub hx hb dX1_changePulls_23 ?_
      refine lv_iload hx hb dX1_changePulls_24 (lv_at hl 6 rfl) ?_
      refine lv_iload_n hx hb dX1_changePulls_26 rfl (lv_at hl 2 rfl) ?_
      refine lv_isub hx hb dX1_changePulls_27 ?_
      refine lv_iload_n hx hb dX1_changePulls_28 rfl (lv_at hl 3 rfl) ?_
      refine gv_pl (va_runS (As := [.int ((nI a) - (nI x)), .int ((nI b) - (nI y)), .int (nI la)]) (rest := []) ⟨hx, hb, hml, hown, hts⟩ (ct_X1_squareOf l (nI a - nI x) (nI b - nI y) la) (va_cwS 3 hts gX1_changePulls_X1_squareOf rfl rfl rfl (by decide +kernel) ⟨Nat.le_of_ble_eq_true rfl, Nat.le_of_ble_eq_true rfl⟩) gv_p0 rfl rfl hl.1 rfl (lv_room (Nat.le_of_ble_eq_true rfl)) dX1_changePulls_29 ⟨Nat.le_of_ble_eq_true rfl, Nat.le_of_ble_eq_true rfl⟩) (fun r1 hr1 => ?_)
      refine lv_lstore (lv' := [(10, .long r1), (0, .ref b0), (1, .int (nI x)), (2, .int (nI y)), (3, .int (nI la)), (4, .long bef), (6, .long now), (8, .int (nI b)), (9, .int (nI a))]) hx hb dX1_changePulls_32 hl (by decide) rfl (fun ls hl => ?_)
      refine lv_aload_n hx hb dX1_changePulls_34 rfl (lv_at hl 1 rfl) ?_
      refine va_get (D := D) (ci := 1) (v := .ref b3) (C := RX1) (T := TX1) (N := 3) hx hb hts gv_in_X1_changePulls_X1 hown hK hP 0 rfl rfl 2 (by decide) (hts (.fieldLink RX1 18 "Gravimere$Body" "pulls" "[J") (by decide +kernel)) (fun _ h9 => h9) rfl dX1_changePulls_35 ?_
      refine lv_iload hx hb dX1_changePulls_38 (lv_at hl 8 rfl) ?_
      refine lv_iload hx hb dX1_changePulls_40 (lv_at hl 7 rfl) ?_
      refine gv_pi (va_runSN (As := [.int (nI a), .int (nI b)]) (rest := [.ref b3]) ⟨hx, hb, hml, hown, hts⟩ (ct_X5_cellNumber l a b) ⟨va_cnB 2 hts gX1_changePulls_X5_cellNumber_n21 rfl rfl rfl (gv_nm_X1_21 hG) (hts (.initialized RX5) (by decide +kernel)) (by decide +kernel) ⟨Nat.le_of_ble_eq_true rfl, Nat.le_of_ble_eq_true rfl⟩, (hts (.static yX5_cellNumber) (by decide +kernel)), trivial⟩ gv_p0 rfl rfl hl.1 rfl (lv_room (Nat.le_of_ble_eq_true rfl)) dX1_changePulls_42 ⟨Nat.le_of_ble_eq_true rfl, Nat.le_of_ble_eq_true rfl⟩) (fun r4 hr4 => ?_)
      subst hr4
      refine lv_dup2_11 hx hb dX1_changePulls_45 rfl rfl ?_
      refine gv_ll hx hb hK hP 1 (k := b * 8 + a) rfl (by omega) (by decide) dX1_changePulls_46 ?_
      refine lv_lload hx hb dX1_changePulls_47 (lv_at hl 6 rfl) ?_
      refine lv_lload hx hb dX1_changePulls_49 (lv_at hl 0 rfl) ?_
      refine gv_pl (va_runS (As := [.long now, .long r1]) (rest := [.long ((gv_chg fP (fun j => gv_pt now x y la j - gv_pt bef x y la j) (8 * b + a)) (b * 8 + a)), .int (nI (b * 8 + a)), .ref b3]) ⟨hx, hb, hml, hown, hts⟩ (ct_X1_pullOf l now r1) (va_cwS 2 hts gX1_changePulls_X1_pullOf rfl rfl rfl (by decide +kernel) ⟨Nat.le_of_ble_eq_true rfl, Nat.le_of_ble_eq_true rfl⟩) gv_p0 rfl rfl hl.1 rfl (lv_room (Nat.le_of_ble_eq_true rfl)) dX1_changePulls_51 ⟨Nat.le_of_ble_eq_true rfl, Nat.le_of_ble_eq_true rfl⟩) (fun r2 hr2 => ?_)
      refine lv_lload hx hb dX1_changePulls_54 (lv_at hl 5 rfl) ?_
      refine lv_lload hx hb dX1_changePulls_56 (lv_at hl 0 rfl) ?_
      refine gv_pl (va_runS (As := [.long bef, .long r1]) (rest := [.long r2, .long ((gv_chg fP (fun j => gv_pt now x y la j - gv_pt bef x y la j) (8 * b + a)) (b * 8 + a)), .int (nI (b * 8 + a)), .ref b3]) ⟨hx, hb, hml, hown, hts⟩ (ct_X1_pullOf l bef r1) (va_cwS 2 hts gX1_changePulls_X1_pullOf rfl rfl rfl (by decide +kernel) ⟨Nat.le_of_ble_eq_true rfl, Nat.le_of_ble_eq_true rfl⟩) gv_p0 rfl rfl hl.1 rfl (lv_room (Nat.le_of_ble_eq_true rfl)) dX1_changePulls_58 ⟨Nat.le_of_ble_eq_true rfl, Nat.le_of_ble_eq_true rfl⟩) (fun r3 hr3 => ?_)
      refine lv_lsub hx hb dX1_changePulls_61 ?_
      refine lv_ladd hx hb dX1_changePulls_62 ?_
      refine gv_ls hx hb hK hP hD hS 1 (k := b * 8 + a) rfl (by omega) (by decide) dX1_changePulls_63 (fun H locs hP hD hS => ?_)
      have hP : va_P D vwCl [(b0, .inr (1, [.ref b1, .ref b2, .ref b3])), (b3, .inl (cJ, 64, .inr (.inl (vp_updL (gv_chg fP (fun j => gv_pt now x y la j - gv_pt bef x y la j) (8 * b + a)) (b * 8 + a) (((gv_chg fP (fun j => gv_pt now x y la j - gv_pt bef x y la j) (8 * b + a)) (b * 8 + a)) + (r2 - r3))))))] H := hP
      have hD : va_D A [(b0, .inr (1, [.ref b1, .ref b2, .ref b3])), (b3, .inl (cJ, 64, .inr (.inl (vp_updL (gv_chg fP (fun j => gv_pt now x y la j - gv_pt bef x y la j) (8 * b + a)) (b * 8 + a) (((gv_chg fP (fun j => gv_pt now x y la j - gv_pt bef x y la j) (8 * b + a)) (b * 8 + a)) + (r2 - r3))))))] := hD
      refine lv_iinc (v := nI (a + 1)) (lv' := [(9, .int (nI (a + 1))), (10, .long r1), (0, .ref b0), (1, .int (nI x)), (2, .int (nI y)), (3, .int (nI la)), (4, .long bef), (6, .long now), (8, .int (nI b))]) hx hb dX1_changePulls_64 hl (k := 8) rfl (nI_add a 1) (by decide) rfl (fun ls hl => ?_)
      refine lv_goto (tgt := 13) hx hb dX1_changePulls_67 (by decide) ?_
      have hRW : vp_updL (gv_chg fP (fun j => gv_pt now x y la j - gv_pt bef x y la j) (8 * b + a)) (b * 8 + a) (((gv_chg fP (fun j => gv_pt now x y la j - gv_pt bef x y la j) (8 * b + a)) (b * 8 + a)) + (r2 - r3)) = gv_chg fP (fun j => gv_pt now x y la j - gv_pt bef x y la j) (8 * b + a + 1) := gv_chg_s (by omega) (by rw [hr2, hr3, hr1]; unfold gv_pt; rw [gv_sq_eq (by omega)])
      rw [hRW] at hP hD
      have hP : va_P D vwCl [(b0, .inr (1, [.ref b1, .ref b2, .ref b3])), (b3, .inl (cJ, 64, .inr (.inl (gv_chg fP (fun j => gv_pt now x y la j - gv_pt bef x y la j) (8 * b + a + 1)))))] H := hP
      have hD : va_D A [(b0, .inr (1, [.ref b1, .ref b2, .ref b3])), (b3, .inl (cJ, 64, .inr (.inl (gv_chg fP (fun j => gv_pt now x y la j - gv_pt bef x y la j) (8 * b + a + 1)))))] := hD
      exact ih_13 (a + 1) _ _ _ ⟨by omega, hP, hD, hS, lv_sub hl [2, 3, 4, 5, 6, 7, 8, 0] rfl⟩ (by simp only; omega)
set_option maxHeartbeats 4000000 in
set_option maxRecDepth 100000 in
theorem ct_X1_putMass (l : Launch) (D : va_G) (cI cJ : ClassId) (sz : Nat) (b0 b1 b2 b3 : Nat) (fM fP : Nat → Int64) (x y la : Nat) (ms : Int64) (hx8 : x < 8) (hy8 : y < 8) (hla : la < 3) : Met l yX1_putMass wsX1_putMass ({ frames := 2, cells := 0, slots := 0, locals := 54 }) (va_Pc [.ref b0, .int (nI x), .int (nI y), .int (nI la), .long ms] (gv_B D cI cJ [(b0, .inr (1, [.ref b1, .ref b2, .ref b3])), (b1, .inl (cJ, 192, .inr (.inl fM))), (b3, .inl (cJ, 64, .inr (.inl fP)))] sz)) (va_Ql (fun (r9 : Int64) (u9 : Unit) => r9 = fM (la * 64 + (y * 8 + x))) (fun (u9 : Unit) t9 => gv_W D (va_A [(b0, .inr (1, [.ref b1, .ref b2, .ref b3])), (b1, .inl (cJ, 192, .inr (.inl fM))), (b3, .inl (cJ, 64, .inr (.inl fP)))] sz) [(b0, .inr (1, [.ref b1, .ref b2, .ref b3])), (b1, .inl (cJ, 192, .inr (.inl (vp_updL fM (la * 64 + (y * 8 + x)) ms)))), (b3, .inl (cJ, 64, .inr (.inl (gv_chg fP (fun j => gv_pt ms x y la j - gv_pt (fM (la * 64 + (y * 8 + x))) x y la j) 64))))] t9) (va_A [(b0, .inr (1, [.ref b1, .ref b2, .ref b3])), (b1, .inl (cJ, 192, .inr (.inl fM))), (b3, .inl (cJ, 64, .inr (.inl fP)))] sz)) 0 0 (va_A [(b0, .inr (1, [.ref b1, .ref b2, .ref b3])), (b1, .inl (cJ, 192, .inr (.inl fM))), (b3, .inl (cJ, 64, .inr (.inl fP)))] sz) := by
  refine Met.ofW (cc := cX1_putMass) (maxL := 9) (ret := (some .long)) (by decide) rfl ?_
  intro p e s m args below meth c s₁ B hml hv
  obtain ⟨rfl, hsz, hP, hK, hD0, hG⟩ := hv
  have hx := B.exec
  have hb := B.bytes
  have hr := B.returns
  have hts := atoms_spec (ws := wsX1_putMass) B.pre
  have hown : s.vm.findClass RX1 = some m.cls := findClass_of_methodNamed B.named
  have hlocks := B.notSynchronized
  subst hsz
  have hD := hD0.self (sz := s.heap.size)
  generalize hAe : va_A [(b0, .inr (1, [.ref b1, .ref b2, .ref b3])), (b1, .inl (cJ, 192, .inr (.inl fM))), (b3, .inl (cJ, 64, .inr (.inl fP)))] s.heap.size = A at hD ⊢
  have hA : ∀ q : Nat, s.heap.size ≤ q → A q := fun q h => by rw [← hAe]; exact Or.inr h
  have hS : va_S A s.heap s.heap [] := va_S.rf
  have hP : va_P D vwCl [(b0, .inr (1, [.ref b1, .ref b2, .ref b3])), (b1, .inl (cJ, 192, .inr (.inl fM))), (b3, .inl (cJ, 64, .inr (.inl fP)))] s.heap := hP
  have hl := lv_entry ([.ref b0, .int (nI x), .int (nI y), .int (nI la), .long ms]) (n := 9) (Nat.le_of_ble_eq_true rfl)
  rw [lg_entry_eq]
  generalize (lg_sl ([.ref b0, .int (nI x), .int (nI y), .int (nI la), .long ms]) ++ List.replicate (9 - (lg_sl ([.ref b0, .int (nI x), .int (nI y), .int (nI la), .long ms])).length) Slot.unset).toArray = ls at hl ⊢
  have hl : lv_has ls 9 [(0, .ref b0), (1, .int (nI x)), (2, .int (nI y)), (3, .int (nI la)), (4, .long ms)] := hl
  refine lv_iload_n hx hb dX1_putMass_0 rfl (lv_at hl 3 rfl) ?_
  refine lv_bipush (v := nI 64) hx hb dX1_putMass_1 (by decide) ?_
  refine lv_imul hx hb dX1_putMass_3 ?_
  refine gv_wi (pk_mul la 64) ?_
  refine lv_iload_n hx hb dX1_putMass_4 rfl (lv_at hl 1 rfl) ?_
  refine lv_iload_n hx hb dX1_putMass_5 rfl (lv_at hl 2 rfl) ?_
  refine gv_pi (va_runSN (As := [.int (nI x), .int (nI y)]) (rest := [.int (nI (la * 64))]) ⟨hx, hb, hml, hown, hts⟩ (ct_X5_cellNumber l x y) ⟨va_cnB 2 hts gX1_putMass_X5_cellNumber_n21 rfl rfl rfl (gv_nm_X1_21 hG) (hts (.initialized RX5) (by decide +kernel)) (by decide +kernel) ⟨Nat.le_of_ble_eq_true rfl, Nat.le_of_ble_eq_true rfl⟩, (hts (.static yX5_cellNumber) (by decide +kernel)), trivial⟩ gv_p0 rfl rfl hl.1 rfl (lv_room (Nat.le_of_ble_eq_true rfl)) dX1_putMass_6 ⟨Nat.le_of_ble_eq_true rfl, Nat.le_of_ble_eq_true rfl⟩) (fun r hr_ => ?_)
  subst hr_
  refine lv_iadd hx hb dX1_putMass_9 ?_
  refine gv_wi (nI_add (la * 64) (y * 8 + x)) ?_
  refine lv_istore (lv' := [(6, .int (nI (la * 64 + (y * 8 + x)))), (0, .ref b0), (1, .int (nI x)), (2, .int (nI y)), (3, .int (nI la)), (4, .long ms)]) hx hb dX1_putMass_10 hl (by decide) rfl (fun ls hl => ?_)
  refine lv_aload_n hx hb dX1_putMass_12 rfl (lv_at hl 1 rfl) ?_
  refine va_get (D := D) (ci := 1) (v := .ref b1) (C := RX1) (T := TX1) (N := 3) hx hb hts gv_in_X1_putMass_X1 hown hK hP 0 rfl rfl 0 (by decide) (hts (.fieldLink RX1 9 "Gravimere$Body" "masses" "[J") (by decide +kernel)) (fun _ h9 => h9) rfl dX1_putMass_13 ?_
  refine lv_iload hx hb dX1_putMass_16 (lv_at hl 0 rfl) ?_
  refine gv_ll hx hb hK hP 1 (k := la * 64 + (y * 8 + x)) rfl (by omega) (by decide) dX1_putMass_18 ?_
  refine lv_lstore (lv' := [(7, .long (fM (la * 64 + (y * 8 + x)))), (6, .int (nI (la * 64 + (y * 8 + x)))), (0, .ref b0), (1, .int (nI x)), (2, .int (nI y)), (3, .int (nI la)), (4, .long ms)]) hx hb dX1_putMass_19 hl (by decide) rfl (fun ls hl => ?_)
  refine lv_aload_n hx hb dX1_putMass_21 rfl (lv_at hl 2 rfl) ?_
  refine va_get (D := D) (ci := 1) (v := .ref b1) (C := RX1) (T := TX1) (N := 3) hx hb hts gv_in_X1_putMass_X1 hown hK hP 0 rfl rfl 0 (by decide) (hts (.fieldLink RX1 9 "Gravimere$Body" "masses" "[J") (by decide +kernel)) (fun _ h9 => h9) rfl dX1_putMass_22 ?_
  refine lv_iload hx hb dX1_putMass_25 (lv_at hl 1 rfl) ?_
  refine lv_lload hx hb dX1_putMass_27 (lv_at hl 6 rfl) ?_
  refine gv_ls hx hb hK hP hD hS 1 (k := la * 64 + (y * 8 + x)) rfl (by omega) (by decide) dX1_putMass_29 (fun H locs hP hD hS => ?_)
  have hP : va_P D vwCl [(b0, .inr (1, [.ref b1, .ref b2, .ref b3])), (b1, .inl (cJ, 192, .inr (.inl (vp_updL fM (la * 64 + (y * 8 + x)) ms)))), (b3, .inl (cJ, 64, .inr (.inl fP)))] H := hP
  have hD : va_D A [(b0, .inr (1, [.ref b1, .ref b2, .ref b3])), (b1, .inl (cJ, 192, .inr (.inl (vp_updL fM (la * 64 + (y * 8 + x)) ms)))), (b3, .inl (cJ, 64, .inr (.inl fP)))] := hD
  refine lv_aload_n hx hb dX1_putMass_30 rfl (lv_at hl 2 rfl) ?_
  refine lv_iload_n hx hb dX1_putMass_31 rfl (lv_at hl 3 rfl) ?_
  refine lv_iload_n hx hb dX1_putMass_32 rfl (lv_at hl 4 rfl) ?_
  refine lv_iload_n hx hb dX1_putMass_33 rfl (lv_at hl 5 rfl) ?_
  refine lv_lload hx hb dX1_putMass_34 (lv_at hl 0 rfl) ?_
  refine lv_lload hx hb dX1_putMass_36 (lv_at hl 6 rfl) ?_
  refine gv_mv (wc := [(b0, .inr (1, [.ref b1, .ref b2, .ref b3])), (b3, .inl (cJ, 64, .inr (.inl fP)))]) (wr := [(b1, .inl (cJ, 192, .inr (.inl (vp_updL fM (la * 64 + (y * 8 + x)) ms))))]) (w2 := (fun u => [(b0, .inr (1, [.ref b1, .ref b2, .ref b3])), (b1, .inl (cJ, 192, .inr (.inl (vp_updL fM (la * 64 + (y * 8 + x)) ms)))), (b3, .inl (cJ, 64, .inr (.inl (gv_chg fP (fun j => gv_pt ms x y la j - gv_pt (fM (la * 64 + (y * 8 + x))) x y la j) 64))))])) (va_runV (As := [.int (nI x), .int (nI y), .int (nI la), .long (fM (la * 64 + (y * 8 + x))), .long ms]) (rest := []) ⟨hx, hb, hml, hown, hts⟩ (ct_X1_changePulls l D cI cJ H.size b0 b1 b2 b3 fP x y la (fM (la * 64 + (y * 8 + x))) ms) (cwV 5 hts gX1_putMass_X1_changePulls rfl rfl rfl (by decide +kernel) ⟨Nat.le_of_ble_eq_true rfl, Nat.le_of_ble_eq_true rfl⟩) (gv_pV (wc := [(b0, .inr (1, [.ref b1, .ref b2, .ref b3])), (b3, .inl (cJ, 64, .inr (.inl fP)))]) hP hK hD hG [0, 2] rfl (by decide) 0 rfl rfl rfl) rfl rfl hl.1 rfl (lv_room (Nat.le_of_ble_eq_true rfl)) dX1_putMass_38 ⟨Nat.le_of_ble_eq_true rfl, Nat.le_of_ble_eq_true rfl⟩) hP hD hS hA [0, 2] [1] [1, 0, 2] rfl rfl (by decide) (by decide) (fun u => rfl) (by decide) (fun u H locs hr_2 hP hD hS => ?_)
  have hP : va_P D vwCl [(b0, .inr (1, [.ref b1, .ref b2, .ref b3])), (b1, .inl (cJ, 192, .inr (.inl (vp_updL fM (la * 64 + (y * 8 + x)) ms)))), (b3, .inl (cJ, 64, .inr (.inl (gv_chg fP (fun j => gv_pt ms x y la j - gv_pt (fM (la * 64 + (y * 8 + x))) x y la j) 64))))] H := hP
  have hD : va_D A [(b0, .inr (1, [.ref b1, .ref b2, .ref b3])), (b1, .inl (cJ, 192, .inr (.inl (vp_updL fM (la * 64 + (y * 8 + x)) ms)))), (b3, .inl (cJ, 64, .inr (.inl (gv_chg fP (fun j => gv_pt ms x y la j - gv_pt (fM (la * 64 + (y * 8 + x))) x y la j) 64))))] := hD
  refine lv_lload hx hb dX1_putMass_41 (lv_at hl 0 rfl) ?_
  have hpo : (fM (la * 64 + (y * 8 + x))) = fM (la * 64 + (y * 8 + x)) := by
    rfl
  have hP9 : va_P D vwCl [(b0, .inr (1, [.ref b1, .ref b2, .ref b3])), (b1, .inl (cJ, 192, .inr (.inl (vp_updL fM (la * 64 + (y * 8 + x)) ms)))), (b3, .inl (cJ, 64, .inr (.inl (gv_chg fP (fun j => gv_pt ms x y la j - gv_pt (fM (la * 64 + (y * 8 + x))) x y la j) 64))))] H := hP
  have hD9 : va_D A [(b0, .inr (1, [.ref b1, .ref b2, .ref b3])), (b1, .inl (cJ, 192, .inr (.inl (vp_updL fM (la * 64 + (y * 8 + x)) ms)))), (b3, .inl (cJ, 64, .inr (.inl (gv_chg fP (fun j => gv_pt ms x y la j - gv_pt (fM (la * 64 + (y * 8 + x))) x y la j) 64))))] := hD
  exact W.lret (v := fM (la * 64 + (y * 8 + x))) hx hb hr (fun t9 ht9 hW9 => ⟨⟨(fM (la * 64 + (y * 8 + x))), (), rfl, hpo, by rw [ht9]; exact hP9, hD9⟩, hS.F ht9⟩) hS.2.2 dX1_putMass_43
set_option maxHeartbeats 4000000 in
set_option maxRecDepth 100000 in
theorem ct_X1_putWater (l : Launch) (D : va_G) (cI cJ : ClassId) (sz : Nat) (b0 b1 b2 b3 : Nat) (fW fP : Nat → Int64) (x y : Nat) (ms : Int64) (hx8 : x < 8) (hy8 : y < 8) : Met l yX1_putWater wsX1_putWater ({ frames := 2, cells := 0, slots := 0, locals := 54 }) (va_Pc [.ref b0, .int (nI x), .int (nI y), .long ms] (gv_B D cI cJ [(b0, .inr (1, [.ref b1, .ref b2, .ref b3])), (b2, .inl (cJ, 64, .inr (.inl fW))), (b3, .inl (cJ, 64, .inr (.inl fP)))] sz)) (va_Ql (fun (r9 : Int64) (u9 : Unit) => r9 = fW (y * 8 + x)) (fun (u9 : Unit) t9 => gv_W D (va_A [(b0, .inr (1, [.ref b1, .ref b2, .ref b3])), (b2, .inl (cJ, 64, .inr (.inl fW))), (b3, .inl (cJ, 64, .inr (.inl fP)))] sz) [(b0, .inr (1, [.ref b1, .ref b2, .ref b3])), (b2, .inl (cJ, 64, .inr (.inl (vp_updL fW (y * 8 + x) ms)))), (b3, .inl (cJ, 64, .inr (.inl (gv_chg fP (fun j => gv_pt ms x y 0 j - gv_pt (fW (y * 8 + x)) x y 0 j) 64))))] t9) (va_A [(b0, .inr (1, [.ref b1, .ref b2, .ref b3])), (b2, .inl (cJ, 64, .inr (.inl fW))), (b3, .inl (cJ, 64, .inr (.inl fP)))] sz)) 0 0 (va_A [(b0, .inr (1, [.ref b1, .ref b2, .ref b3])), (b2, .inl (cJ, 64, .inr (.inl fW))), (b3, .inl (cJ, 64, .inr (.inl fP)))] sz) := by
  refine Met.ofW (cc := cX1_putWater) (maxL := 8) (ret := (some .long)) (by decide) rfl ?_
  intro p e s m args below meth c s₁ B hml hv
  obtain ⟨rfl, hsz, hP, hK, hD0, hG⟩ := hv
  have hx := B.exec
  have hb := B.bytes
  have hr := B.returns
  have hts := atoms_spec (ws := wsX1_putWater) B.pre
  have hown : s.vm.findClass RX1 = some m.cls := findClass_of_methodNamed B.named
  have hlocks := B.notSynchronized
  subst hsz
  have hD := hD0.self (sz := s.heap.size)
  generalize hAe : va_A [(b0, .inr (1, [.ref b1, .ref b2, .ref b3])), (b2, .inl (cJ, 64, .inr (.inl fW))), (b3, .inl (cJ, 64, .inr (.inl fP)))] s.heap.size = A at hD ⊢
  have hA : ∀ q : Nat, s.heap.size ≤ q → A q := fun q h => by rw [← hAe]; exact Or.inr h
  have hS : va_S A s.heap s.heap [] := va_S.rf
  have hP : va_P D vwCl [(b0, .inr (1, [.ref b1, .ref b2, .ref b3])), (b2, .inl (cJ, 64, .inr (.inl fW))), (b3, .inl (cJ, 64, .inr (.inl fP)))] s.heap := hP
  have hl := lv_entry ([.ref b0, .int (nI x), .int (nI y), .long ms]) (n := 8) (Nat.le_of_ble_eq_true rfl)
  rw [lg_entry_eq]
  generalize (lg_sl ([.ref b0, .int (nI x), .int (nI y), .long ms]) ++ List.replicate (8 - (lg_sl ([.ref b0, .int (nI x), .int (nI y), .long ms])).length) Slot.unset).toArray = ls at hl ⊢
  have hl : lv_has ls 8 [(0, .ref b0), (1, .int (nI x)), (2, .int (nI y)), (3, .long ms)] := hl
  refine lv_iload_n hx hb dX1_putWater_0 rfl (lv_at hl 1 rfl) ?_
  refine lv_iload_n hx hb dX1_putWater_1 rfl (lv_at hl 2 rfl) ?_
  refine gv_pi (va_runSN (As := [.int (nI x), .int (nI y)]) (rest := []) ⟨hx, hb, hml, hown, hts⟩ (ct_X5_cellNumber l x y) ⟨va_cnB 2 hts gX1_putWater_X5_cellNumber_n21 rfl rfl rfl (gv_nm_X1_21 hG) (hts (.initialized RX5) (by decide +kernel)) (by decide +kernel) ⟨Nat.le_of_ble_eq_true rfl, Nat.le_of_ble_eq_true rfl⟩, (hts (.static yX5_cellNumber) (by decide +kernel)), trivial⟩ gv_p0 rfl rfl hl.1 rfl (lv_room (Nat.le_of_ble_eq_true rfl)) dX1_putWater_2 ⟨Nat.le_of_ble_eq_true rfl, Nat.le_of_ble_eq_true rfl⟩) (fun r hr_ => ?_)
  subst hr_
  refine lv_istore (lv' := [(5, .int (nI (y * 8 + x))), (0, .ref b0), (1, .int (nI x)), (2, .int (nI y)), (3, .long ms)]) hx hb dX1_putWater_5 hl (by decide) rfl (fun ls hl => ?_)
  refine lv_aload_n hx hb dX1_putWater_7 rfl (lv_at hl 1 rfl) ?_
  refine va_get (D := D) (ci := 1) (v := .ref b2) (C := RX1) (T := TX1) (N := 3) hx hb hts gv_in_X1_putWater_X1 hown hK hP 0 rfl rfl 1 (by decide) (hts (.fieldLink RX1 15 "Gravimere$Body" "waters" "[J") (by decide +kernel)) (fun _ h9 => h9) rfl dX1_putWater_8 ?_
  refine lv_iload hx hb dX1_putWater_11 (lv_at hl 0 rfl) ?_
  refine gv_ll hx hb hK hP 1 (k := y * 8 + x) rfl (by omega) (by decide) dX1_putWater_13 ?_
  refine lv_lstore (lv' := [(6, .long (fW (y * 8 + x))), (5, .int (nI (y * 8 + x))), (0, .ref b0), (1, .int (nI x)), (2, .int (nI y)), (3, .long ms)]) hx hb dX1_putWater_14 hl (by decide) rfl (fun ls hl => ?_)
  refine lv_aload_n hx hb dX1_putWater_16 rfl (lv_at hl 2 rfl) ?_
  refine va_get (D := D) (ci := 1) (v := .ref b2) (C := RX1) (T := TX1) (N := 3) hx hb hts gv_in_X1_putWater_X1 hown hK hP 0 rfl rfl 1 (by decide) (hts (.fieldLink RX1 15 "Gravimere$Body" "waters" "[J") (by decide +kernel)) (fun _ h9 => h9) rfl dX1_putWater_17 ?_
  refine lv_iload hx hb dX1_putWater_20 (lv_at hl 1 rfl) ?_
  refine lv_lload_n hx hb dX1_putWater_22 rfl (lv_at hl 5 rfl) ?_
  refine gv_ls hx hb hK hP hD hS 1 (k := y * 8 + x) rfl (by omega) (by decide) dX1_putWater_23 (fun H locs hP hD hS => ?_)
  have hP : va_P D vwCl [(b0, .inr (1, [.ref b1, .ref b2, .ref b3])), (b2, .inl (cJ, 64, .inr (.inl (vp_updL fW (y * 8 + x) ms)))), (b3, .inl (cJ, 64, .inr (.inl fP)))] H := hP
  have hD : va_D A [(b0, .inr (1, [.ref b1, .ref b2, .ref b3])), (b2, .inl (cJ, 64, .inr (.inl (vp_updL fW (y * 8 + x) ms)))), (b3, .inl (cJ, 64, .inr (.inl fP)))] := hD
  refine lv_aload_n hx hb dX1_putWater_24 rfl (lv_at hl 2 rfl) ?_
  refine lv_iload_n hx hb dX1_putWater_25 rfl (lv_at hl 3 rfl) ?_
  refine lv_iload_n hx hb dX1_putWater_26 rfl (lv_at hl 4 rfl) ?_
  refine lv_iconst (v := nI 0) hx hb dX1_putWater_27 (by decide) ?_
  refine lv_lload hx hb dX1_putWater_28 (lv_at hl 0 rfl) ?_
  refine lv_lload_n hx hb dX1_putWater_30 rfl (lv_at hl 5 rfl) ?_
  refine gv_mv (wc := [(b0, .inr (1, [.ref b1, .ref b2, .ref b3])), (b3, .inl (cJ, 64, .inr (.inl fP)))]) (wr := [(b2, .inl (cJ, 64, .inr (.inl (vp_updL fW (y * 8 + x) ms))))]) (w2 := (fun u => [(b0, .inr (1, [.ref b1, .ref b2, .ref b3])), (b2, .inl (cJ, 64, .inr (.inl (vp_updL fW (y * 8 + x) ms)))), (b3, .inl (cJ, 64, .inr (.inl (gv_chg fP (fun j => gv_pt ms x y 0 j - gv_pt (fW (y * 8 + x)) x y 0 j) 64))))])) (va_runV (As := [.int (nI x), .int (nI y), .int (nI 0), .long (fW (y * 8 + x)), .long ms]) (rest := []) ⟨hx, hb, hml, hown, hts⟩ (ct_X1_changePulls l D cI cJ H.size b0 b1 b2 b3 fP x y 0 (fW (y * 8 + x)) ms) (cwV 5 hts gX1_putWater_X1_changePulls rfl rfl rfl (by decide +kernel) ⟨Nat.le_of_ble_eq_true rfl, Nat.le_of_ble_eq_true rfl⟩) (gv_pV (wc := [(b0, .inr (1, [.ref b1, .ref b2, .ref b3])), (b3, .inl (cJ, 64, .inr (.inl fP)))]) hP hK hD hG [0, 2] rfl (by decide) 0 rfl rfl rfl) rfl rfl hl.1 rfl (lv_room (Nat.le_of_ble_eq_true rfl)) dX1_putWater_31 ⟨Nat.le_of_ble_eq_true rfl, Nat.le_of_ble_eq_true rfl⟩) hP hD hS hA [0, 2] [1] [1, 0, 2] rfl rfl (by decide) (by decide) (fun u => rfl) (by decide) (fun u H locs hr_2 hP hD hS => ?_)
  have hP : va_P D vwCl [(b0, .inr (1, [.ref b1, .ref b2, .ref b3])), (b2, .inl (cJ, 64, .inr (.inl (vp_updL fW (y * 8 + x) ms)))), (b3, .inl (cJ, 64, .inr (.inl (gv_chg fP (fun j => gv_pt ms x y 0 j - gv_pt (fW (y * 8 + x)) x y 0 j) 64))))] H := hP
  have hD : va_D A [(b0, .inr (1, [.ref b1, .ref b2, .ref b3])), (b2, .inl (cJ, 64, .inr (.inl (vp_updL fW (y * 8 + x) ms)))), (b3, .inl (cJ, 64, .inr (.inl (gv_chg fP (fun j => gv_pt ms x y 0 j - gv_pt (fW (y * 8 + x)) x y 0 j) 64))))] := hD
  refine lv_lload hx hb dX1_putWater_34 (lv_at hl 0 rfl) ?_
  have hpo : (fW (y * 8 + x)) = fW (y * 8 + x) := by
    rfl
  have hP9 : va_P D vwCl [(b0, .inr (1, [.ref b1, .ref b2, .ref b3])), (b2, .inl (cJ, 64, .inr (.inl (vp_updL fW (y * 8 + x) ms)))), (b3, .inl (cJ, 64, .inr (.inl (gv_chg fP (fun j => gv_pt ms x y 0 j - gv_pt (fW (y * 8 + x)) x y 0 j) 64))))] H := hP
  have hD9 : va_D A [(b0, .inr (1, [.ref b1, .ref b2, .ref b3])), (b2, .inl (cJ, 64, .inr (.inl (vp_updL fW (y * 8 + x) ms)))), (b3, .inl (cJ, 64, .inr (.inl (gv_chg fP (fun j => gv_pt ms x y 0 j - gv_pt (fW (y * 8 + x)) x y 0 j) 64))))] := hD
  exact W.lret (v := fW (y * 8 + x)) hx hb hr (fun t9 ht9 hW9 => ⟨⟨(fW (y * 8 + x)), (), rfl, hpo, by rw [ht9]; exact hP9, hD9⟩, hS.F ht9⟩) hS.2.2 dX1_putWater_36
set_option maxHeartbeats 4000000 in
set_option maxRecDepth 100000 in
theorem ct_X1_summedPull (l : Launch) (D : va_G) (cI cJ : ClassId) (sz : Nat) (b0 b1 b2 b3 : Nat) (fM fW : Nat → Int64) (x y : Nat)  : Met l yX1_summedPull wsX1_summedPull ({ frames := 1, cells := 0, slots := 0, locals := 23 }) (va_Pc [.ref b0, .int (nI x), .int (nI y)] (gv_B D cI cJ [(b0, .inr (1, [.ref b1, .ref b2, .ref b3])), (b1, .inl (cJ, 192, .inr (.inl fM))), (b2, .inl (cJ, 64, .inr (.inl fW)))] sz)) (vp_Sl (fun r9 : Int64 => r9 = gv_sumC fM fW x y 64)) 0 0 (fun _ => False) := by
  refine Met.ofW (cc := cX1_summedPull) (maxL := 9) (ret := (some .long)) (by decide) rfl ?_
  intro p e s m args below meth c s₁ B hml hv
  obtain ⟨rfl, hsz, hP, hK, hD0, hG⟩ := hv
  have hx := B.exec
  have hb := B.bytes
  have hr := B.returns
  have hts := atoms_spec (ws := wsX1_summedPull) B.pre
  have hown : s.vm.findClass RX1 = some m.cls := findClass_of_methodNamed B.named
  have hlocks := B.notSynchronized
  subst hsz
  have hD := hD0
  have hP : va_P D vwCl [(b0, .inr (1, [.ref b1, .ref b2, .ref b3])), (b1, .inl (cJ, 192, .inr (.inl fM))), (b2, .inl (cJ, 64, .inr (.inl fW)))] s.heap := hP
  have hl := lv_entry ([.ref b0, .int (nI x), .int (nI y)]) (n := 9) (Nat.le_of_ble_eq_true rfl)
  rw [lg_entry_eq]
  generalize (lg_sl ([.ref b0, .int (nI x), .int (nI y)]) ++ List.replicate (9 - (lg_sl ([.ref b0, .int (nI x), .int (nI y)])).length) Slot.unset).toArray = ls at hl ⊢
  have hl : lv_has ls 9 [(0, .ref b0), (1, .int (nI x)), (2, .int (nI y))] := hl
  refine lv_lconst (v := 0) hx hb dX1_summedPull_0 (by decide) ?_
  refine lv_lstore_n (lv' := [(3, .long 0), (0, .ref b0), (1, .int (nI x)), (2, .int (nI y))]) hx hb dX1_summedPull_1 rfl hl (by decide) rfl (fun ls hl => ?_)
  refine lv_iconst (v := nI 0) hx hb dX1_summedPull_2 (by decide) ?_
  refine lv_istore (lv' := [(5, .int (nI 0)), (3, .long 0), (0, .ref b0), (1, .int (nI x)), (2, .int (nI y))]) hx hb dX1_summedPull_3 hl (by decide) rfl (fun ls hl => ?_)
  refine gv_lp (σ := Nat × Int64) (fun zq ls => match zq with | (b, sm) => b ≤ 8 ∧ sm = gv_sumC fM fW x y (8 * b) ∧ lv_has ls 9 [(0, .ref b0), (1, .int (nI x)), (2, .int (nI y)), (3, .long sm), (5, .int (nI b))]) (fun zq => match zq with | (b, sm) => 8 - b) (0, 0) ⟨by omega, rfl, lv_sub hl [2, 3, 4, 1, 0] rfl⟩ (fun zq ls hI ih_5 => ?_)
  obtain ⟨b, sm⟩ := zq
  obtain ⟨hb8, hsm, hl⟩ := hI
  refine lv_iload hx hb dX1_summedPull_5 (lv_at hl 4 rfl) ?_
  refine lv_bipush (v := nI 8) hx hb dX1_summedPull_7 (by decide) ?_
  refine lv_icmp_ge (tgt := 115) hx hb dX1_summedPull_9 (by decide) (fun c_9 => ?_) (fun c_9 => ?_)
  · skip
    have c_9 := (nI_leI (a := 8) (b := b) (by omega) (by omega)).mp c_9
    refine lv_lload_n hx hb dX1_summedPull_115 rfl (lv_at hl 3 rfl) ?_
    have hpo : sm = gv_sumC fM fW x y 64 := by
      rw [hsm, show 8 * b = 64 by omega]
    exact W.lret (v := sm) hx hb hr (fun t9 ht9 hW9 => ⟨sm, rfl, hpo, ht9⟩) t_nil dX1_summedPull_116
  · skip
    have c_9 := (not_congr (nI_leI (a := 8) (b := b) (by omega) (by omega))).mp c_9
    refine lv_iconst (v := nI 0) hx hb dX1_summedPull_12 (by decide) ?_
    refine lv_istore (lv' := [(6, .int (nI 0)), (0, .ref b0), (1, .int (nI x)), (2, .int (nI y)), (3, .long sm), (5, .int (nI b))]) hx hb dX1_summedPull_13 hl (by decide) rfl (fun ls hl => ?_)
    refine gv_lp (σ := Nat × Int64) (fun zq ls => match zq with | (a, sm2) => a ≤ 8 ∧ sm2 = gv_sumC fM fW x y (8 * b + a) ∧ lv_has ls 9 [(0, .ref b0), (1, .int (nI x)), (2, .int (nI y)), (3, .long sm2), (5, .int (nI b)), (6, .int (nI a))]) (fun zq => match zq with | (a, sm2) => 8 - a) (0, sm) ⟨by omega, hsm, lv_sub hl [1, 2, 3, 4, 5, 0] rfl⟩ (fun zq ls hI ih_15 => ?_)
    obtain ⟨a, sm2⟩ := zq
    obtain ⟨ha8, hsm2, hl⟩ := hI
    refine lv_iload hx hb dX1_summedPull_15 (lv_at hl 5 rfl) ?_
    refine lv_bipush (v := nI 8) hx hb dX1_summedPull_17 (by decide) ?_
    refine lv_icmp_ge (tgt := 109) hx hb dX1_summedPull_19 (by decide) (fun c_19 => ?_) (fun c_19 => ?_)
    · skip
      have c_19 := (nI_leI (a := 8) (b := a) (by omega) (by omega)).mp c_19
      refine lv_iinc (v := nI (b + 1)) (lv' := [(5, .int (nI (b + 1))), (0, .ref b0), (1, .int (nI x)), (2, .int (nI y)), (3, .long sm2), (6, .int (nI a))]) hx hb dX1_summedPull_109 hl (k := 4) rfl (nI_add b 1) (by decide) rfl (fun ls hl => ?_)
      refine lv_goto (tgt := 5) hx hb dX1_summedPull_112 (by decide) ?_
      exact ih_5 (b + 1, sm2) _ ⟨by omega, by rw [hsm2, show 8 * b + a = 8 * (b + 1) by omega], lv_sub hl [1, 2, 3, 4, 0] rfl⟩ (by simp only; omega)
    · skip
      have c_19 := (not_congr (nI_leI (a := 8) (b := a) (by omega) (by omega))).mp c_19
      refine lv_iload hx hb dX1_summedPull_22 (lv_at hl 5 rfl) ?_
      refine lv_iload hx hb dX1_summedPull_24 (lv_at hl 4 rfl) ?_
      refine gv_pi (va_runSN (As := [.int (nI a), .int (nI b)]) (rest := []) ⟨hx, hb, hml, hown, hts⟩ (ct_X5_cellNumber l a b) ⟨va_cnB 2 hts gX1_summedPull_X5_cellNumber_n21 rfl rfl rfl (gv_nm_X1_21 hG) (hts (.initialized RX5) (by decide +kernel)) (by decide +kernel) ⟨Nat.le_of_ble_eq_true rfl, Nat.le_of_ble_eq_true rfl⟩, (hts (.static yX5_cellNumber) (by decide +kernel)), trivial⟩ gv_p0 rfl rfl hl.1 rfl (lv_room (Nat.le_of_ble_eq_true rfl)) dX1_summedPull_26 ⟨Nat.le_of_ble_eq_true rfl, Nat.le_of_ble_eq_true rfl⟩) (fun r0 hr0 => ?_)
      subst hr0
      refine lv_istore (lv' := [(7, .int (nI (b * 8 + a))), (0, .ref b0), (1, .int (nI x)), (2, .int (nI y)), (3, .long sm2), (5, .int (nI b)), (6, .int (nI a))]) hx hb dX1_summedPull_29 hl (by decide) rfl (fun ls hl => ?_)
      refine lv_lload_n hx hb dX1_summedPull_31 rfl (lv_at hl 4 rfl) ?_
      refine lv_aload_n hx hb dX1_summedPull_32 rfl (lv_at hl 1 rfl) ?_
      refine va_get (D := D) (ci := 1) (v := .ref b2) (C := RX1) (T := TX1) (N := 3) hx hb hts gv_in_X1_summedPull_X1 hown hK hP 0 rfl rfl 1 (by decide) (hts (.fieldLink RX1 15 "Gravimere$Body" "waters" "[J") (by decide +kernel)) (fun _ h9 => h9) rfl dX1_summedPull_33 ?_
      refine lv_iload hx hb dX1_summedPull_36 (lv_at hl 0 rfl) ?_
      refine gv_ll hx hb hK hP 2 (k := b * 8 + a) rfl (by omega) (by decide) dX1_summedPull_38 ?_
      refine lv_iload hx hb dX1_summedPull_39 (lv_at hl 6 rfl) ?_
      refine lv_iload_n hx hb dX1_summedPull_41 rfl (lv_at hl 2 rfl) ?_
      refine lv_isub hx hb dX1_summedPull_42 ?_
      refine lv_iload hx hb dX1_summedPull_43 (lv_at hl 5 rfl) ?_
      refine lv_iload_n hx hb dX1_summedPull_45 rfl (lv_at hl 3 rfl) ?_
      refine lv_isub hx hb dX1_summedPull_46 ?_
      refine lv_iconst (v := nI 0) hx hb dX1_summedPull_47 (by decide) ?_
      refine gv_pl (va_runS (As := [.int ((nI a) - (nI x)), .int ((nI b) - (nI y)), .int (nI 0)]) (rest := [.long (fW (b * 8 + a)), .long sm2]) ⟨hx, hb, hml, hown, hts⟩ (ct_X1_squareOf l (nI a - nI x) (nI b - nI y) 0) (va_cwS 3 hts gX1_summedPull_X1_squareOf rfl rfl rfl (by decide +kernel) ⟨Nat.le_of_ble_eq_true rfl, Nat.le_of_ble_eq_true rfl⟩) gv_p0 rfl rfl hl.1 rfl (lv_room (Nat.le_of_ble_eq_true rfl)) dX1_summedPull_48 ⟨Nat.le_of_ble_eq_true rfl, Nat.le_of_ble_eq_true rfl⟩) (fun w1 hw1 => ?_)
      refine gv_pl (va_runS (As := [.long (fW (b * 8 + a)), .long w1]) (rest := [.long sm2]) ⟨hx, hb, hml, hown, hts⟩ (ct_X1_pullOf l (fW (b * 8 + a)) w1) (va_cwS 2 hts gX1_summedPull_X1_pullOf rfl rfl rfl (by decide +kernel) ⟨Nat.le_of_ble_eq_true rfl, Nat.le_of_ble_eq_true rfl⟩) gv_p0 rfl rfl hl.1 rfl (lv_room (Nat.le_of_ble_eq_true rfl)) dX1_summedPull_51 ⟨Nat.le_of_ble_eq_true rfl, Nat.le_of_ble_eq_true rfl⟩) (fun w2 hw2 => ?_)
      refine lv_ladd hx hb dX1_summedPull_54 ?_
      refine lv_lstore_n (lv' := [(3, .long (sm2 + w2)), (7, .int (nI (b * 8 + a))), (0, .ref b0), (1, .int (nI x)), (2, .int (nI y)), (5, .int (nI b)), (6, .int (nI a))]) hx hb dX1_summedPull_55 rfl hl (by decide) rfl (fun ls hl => ?_)
      refine lv_iconst (v := nI 0) hx hb dX1_summedPull_56 (by decide) ?_
      refine lv_istore (lv' := [(8, .int (nI 0)), (3, .long (sm2 + w2)), (7, .int (nI (b * 8 + a))), (0, .ref b0), (1, .int (nI x)), (2, .int (nI y)), (5, .int (nI b)), (6, .int (nI a))]) hx hb dX1_summedPull_57 hl (by decide) rfl (fun ls hl => ?_)
      refine gv_lp (σ := Nat × Int64) (fun zq ls => match zq with | (la, sm3) => la ≤ 3 ∧ sm3 = gv_acc (gv_sumC fM fW x y (8 * b + a) + gv_pt (fW (8 * b + a)) x y 0 (8 * b + a)) (fun la => gv_pt (fM (la * 64 + (8 * b + a))) x y la (8 * b + a)) la ∧ lv_has ls 9 [(0, .ref b0), (1, .int (nI x)), (2, .int (nI y)), (3, .long sm3), (5, .int (nI b)), (6, .int (nI a)), (7, .int (nI (b * 8 + a))), (8, .int (nI la))]) (fun zq => match zq with | (la, sm3) => 3 - la) (0, sm2 + w2) ⟨by omega, by rw [hw2, hw1, hsm2]; unfold gv_pt; rw [gv_sq_eq (by omega), show b * 8 + a = 8 * b + a by omega]; rfl, lv_sub hl [3, 4, 5, 1, 6, 7, 2, 0] rfl⟩ (fun zq ls hI ih_59 => ?_)
      obtain ⟨la, sm3⟩ := zq
      obtain ⟨hl3, hsm3, hl⟩ := hI
      refine lv_iload hx hb dX1_summedPull_59 (lv_at hl 7 rfl) ?_
      refine lv_iconst (v := nI 3) hx hb dX1_summedPull_61 (by decide) ?_
      refine lv_icmp_ge (tgt := 103) hx hb dX1_summedPull_62 (by decide) (fun c_62 => ?_) (fun c_62 => ?_)
      · skip
        have c_62 := (nI_leI (a := 3) (b := la) (by omega) (by omega)).mp c_62
        have hla3 : la = 3 := by omega
        rw [hla3] at hsm3
        refine lv_iinc (v := nI (a + 1)) (lv' := [(6, .int (nI (a + 1))), (0, .ref b0), (1, .int (nI x)), (2, .int (nI y)), (3, .long sm3), (5, .int (nI b)), (7, .int (nI (b * 8 + a))), (8, .int (nI la))]) hx hb dX1_summedPull_103 hl (k := 5) rfl (nI_add a 1) (by decide) rfl (fun ls hl => ?_)
        refine lv_goto (tgt := 15) hx hb dX1_summedPull_106 (by decide) ?_
        exact ih_15 (a + 1, sm3) _ ⟨by omega, by rw [hsm3, show 8 * b + (a + 1) = (8 * b + a) + 1 by omega, gv_sumC], lv_sub hl [1, 2, 3, 4, 5, 0] rfl⟩ (by simp only; omega)
      · skip
        have c_62 := (not_congr (nI_leI (a := 3) (b := la) (by omega) (by omega))).mp c_62
        refine lv_lload_n hx hb dX1_summedPull_65 rfl (lv_at hl 3 rfl) ?_
        refine lv_aload_n hx hb dX1_summedPull_66 rfl (lv_at hl 0 rfl) ?_
        refine va_get (D := D) (ci := 1) (v := .ref b1) (C := RX1) (T := TX1) (N := 3) hx hb hts gv_in_X1_summedPull_X1 hown hK hP 0 rfl rfl 0 (by decide) (hts (.fieldLink RX1 9 "Gravimere$Body" "masses" "[J") (by decide +kernel)) (fun _ h9 => h9) rfl dX1_summedPull_67 ?_
        refine lv_iload hx hb dX1_summedPull_70 (lv_at hl 7 rfl) ?_
        refine lv_bipush (v := nI 64) hx hb dX1_summedPull_72 (by decide) ?_
        refine lv_imul hx hb dX1_summedPull_74 ?_
        refine gv_wi (pk_mul la 64) ?_
        refine lv_iload hx hb dX1_summedPull_75 (lv_at hl 6 rfl) ?_
        refine lv_iadd hx hb dX1_summedPull_77 ?_
        refine gv_wi (nI_add (la * 64) (b * 8 + a)) ?_
        refine gv_ll hx hb hK hP 1 (k := la * 64 + (b * 8 + a)) rfl (by omega) (by decide) dX1_summedPull_78 ?_
        refine lv_iload hx hb dX1_summedPull_79 (lv_at hl 5 rfl) ?_
        refine lv_iload_n hx hb dX1_summedPull_81 rfl (lv_at hl 1 rfl) ?_
        refine lv_isub hx hb dX1_summedPull_82 ?_
        refine lv_iload hx hb dX1_summedPull_83 (lv_at hl 4 rfl) ?_
        refine lv_iload_n hx hb dX1_summedPull_85 rfl (lv_at hl 2 rfl) ?_
        refine lv_isub hx hb dX1_summedPull_86 ?_
        refine lv_iload hx hb dX1_summedPull_87 (lv_at hl 7 rfl) ?_
        refine gv_pl (va_runS (As := [.int ((nI a) - (nI x)), .int ((nI b) - (nI y)), .int (nI la)]) (rest := [.long (fM (la * 64 + (b * 8 + a))), .long sm3]) ⟨hx, hb, hml, hown, hts⟩ (ct_X1_squareOf l (nI a - nI x) (nI b - nI y) la) (va_cwS 3 hts gX1_summedPull_X1_squareOf rfl rfl rfl (by decide +kernel) ⟨Nat.le_of_ble_eq_true rfl, Nat.le_of_ble_eq_true rfl⟩) gv_p0 rfl rfl hl.1 rfl (lv_room (Nat.le_of_ble_eq_true rfl)) dX1_summedPull_89 ⟨Nat.le_of_ble_eq_true rfl, Nat.le_of_ble_eq_true rfl⟩) (fun m1 hm1 => ?_)
        refine gv_pl (va_runS (As := [.long (fM (la * 64 + (b * 8 + a))), .long m1]) (rest := [.long sm3]) ⟨hx, hb, hml, hown, hts⟩ (ct_X1_pullOf l (fM (la * 64 + (b * 8 + a))) m1) (va_cwS 2 hts gX1_summedPull_X1_pullOf rfl rfl rfl (by decide +kernel) ⟨Nat.le_of_ble_eq_true rfl, Nat.le_of_ble_eq_true rfl⟩) gv_p0 rfl rfl hl.1 rfl (lv_room (Nat.le_of_ble_eq_true rfl)) dX1_summedPull_92 ⟨Nat.le_of_ble_eq_true rfl, Nat.le_of_ble_eq_true rfl⟩) (fun m2 hm2 => ?_)
        refine lv_ladd hx hb dX1_summedPull_95 ?_
        refine lv_lstore_n (lv' := [(3, .long (sm3 + m2)), (0, .ref b0), (1, .int (nI x)), (2, .int (nI y)), (5, .int (nI b)), (6, .int (nI a)), (7, .int (nI (b * 8 + a))), (8, .int (nI la))]) hx hb dX1_summedPull_96 rfl hl (by decide) rfl (fun ls hl => ?_)
        refine lv_iinc (v := nI (la + 1)) (lv' := [(8, .int (nI (la + 1))), (3, .long (sm3 + m2)), (0, .ref b0), (1, .int (nI x)), (2, .int (nI y)), (5, .int (nI b)), (6, .int (nI a)), (7, .int (nI (b * 8 + a)))]) hx hb dX1_summedPull_97 hl (k := 7) rfl (nI_add la 1) (by decide) rfl (fun ls hl => ?_)
        refine lv_goto (tgt := 59) hx hb dX1_summedPull_100 (by decide) ?_
        exact ih_59 (la + 1, sm3 + m2) _ ⟨by omega, by rw [hm2, hm1, hsm3, gv_acc]; rw [show b * 8 + a = 8 * b + a by omega]; unfold gv_pt; rw [gv_sq_eq (x := x) (y := y) (la := la) (b := b) (a := a) (by omega)], lv_sub hl [2, 3, 4, 1, 5, 6, 7, 0] rfl⟩ (by simp only; omega)
