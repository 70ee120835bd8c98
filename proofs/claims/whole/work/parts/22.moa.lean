/-! the reference: what its methods answer -/
theorem gv_isin {x : Int32} {k : Nat} (hk : k + 1 < 2 ^ 31) : (0 ≤ x.toInt64 ∧ x.toInt64 ≤ lN k) ↔ vp_in x (k + 1) := by
  rw [vp_in_iff, Int64.le_iff_toInt_le, Int64.le_iff_toInt_le, lN_toInt (by omega), Int32.toInt_toInt64]
  have h0 : (0 : Int64).toInt = 0 := rfl
  omega
theorem gv_is8 (x : Int32) : (0 ≤ x.toInt64 ∧ x.toInt64 ≤ 7) ↔ vp_in x 8 := gv_isin (k := 7) (by decide)
theorem gv_is3 (x : Int32) : (0 ≤ x.toInt64 ∧ x.toInt64 ≤ 2) ↔ vp_in x 3 := gv_isin (k := 2) (by decide)
theorem gv_isnc {n : Int32} {c : Nat} (hc : c < 2 ^ 31) : (0 ≤ n.toInt64 ∧ n.toInt64 ≤ (nI c - nI 1).toInt64) ↔ vp_in n c := by
  have e : (nI c - nI 1).toInt = (c : Int) - 1 := by
    cases c with
    | zero => rfl
    | succ c =>
      have h1 : nI (c + 1) - nI 1 = nI c := nI_pred c
      rw [h1, nI_toInt (by omega)]
      omega
  rw [vp_in_iff, Int64.le_iff_toInt_le, Int64.le_iff_toInt_le, Int32.toInt_toInt64, Int32.toInt_toInt64, e]
  have h0 : (0 : Int64).toInt = 0 := rfl
  omega
theorem gv_inj {a b : Nat} (h : nI a = nI b) (ha : a < 2 ^ 31) (hb : b < 2 ^ 31) : a = b := (nI_eq ha hb).mp h
def gv_dp (k : Nat) : Nat := if k = 3 then 1 else (k + 1) * (k + 1)
def gv_sqm (k x y : Nat) : Int64 := ((nI (k % 8) - nI x) * (nI (k % 8) - nI x) + (nI (k % 64 / 8) - nI y) * (nI (k % 64 / 8) - nI y) + nI (gv_dp (k / 64))).toInt64
theorem gv_d2 : ∀ a, a < 8 → ∀ b, b < 8 → ∃ n, n ≤ 49 ∧ (nI a - nI b) * (nI a - nI b) = nI n := by decide +kernel
theorem gv_sqn {a b x y d : Nat} (ha : a < 8) (hb : b < 8) (hx : x < 8) (hy : y < 8) (hd : 1 ≤ d) (hd2 : d ≤ 16) : ∃ n, 1 ≤ n ∧ n ≤ 200 ∧ ((nI a - nI x) * (nI a - nI x) + (nI b - nI y) * (nI b - nI y) + nI d).toInt64 = lN n := by
  obtain ⟨n1, h1, e1⟩ := gv_d2 a ha x hx
  obtain ⟨n2, h2, e2⟩ := gv_d2 b hb y hy
  exact ⟨n1 + n2 + d, by omega, by omega, by rw [e1, e2, nI_add, nI_add, nI_l (by omega)]⟩
theorem gv_dp_in {k : Nat} (h : k < 4) : 1 ≤ gv_dp k ∧ gv_dp k ≤ 16 := by
  have : k = 0 ∨ k = 1 ∨ k = 2 ∨ k = 3 := by omega
  rcases this with rfl | rfl | rfl | rfl <;> decide
theorem gv_sqm_n {k x y : Nat} (hk : k < 256) (hx : x < 8) (hy : y < 8) : ∃ n, 1 ≤ n ∧ n ≤ 200 ∧ gv_sqm k x y = lN n :=
  gv_sqn (by omega) (by omega) hx hy (gv_dp_in (by omega)).1 (gv_dp_in (by omega)).2
theorem gv_sqm_ne {k x y : Nat} (hk : k < 256) (hx : x < 8) (hy : y < 8) : ¬ gv_sqm k x y = 0 := by
  obtain ⟨n, h1, h2, e⟩ := gv_sqm_n hk hx hy
  rw [e]
  intro h3
  have h4 := (lN_eq (a := n) (b := 0) (by omega) (by omega)).mp h3
  omega
def gv_tm (m : Int64) (k x y : Nat) : Int64 := m * 1000000 / gv_sqm k x y
def gv_PA (mm : Nat → Int64) (x y : Nat) : Int64 := gv_acc 0 (fun k => gv_tm (mm k) k x y) 256
def gv_down (v b : Int64) : Int64 := if v - v / b * b < 0 then v / b - 1 else v / b
def gv_hz (f : Nat → Int32) : Nat → Int32 := fun j => if j < 10 then 0 else f j
noncomputable def gv_01 (p : Prop) : Int32 := @ite Int32 p (Classical.propDecidable p) (nI 0) (nI 1)
theorem gv_01t {p : Prop} (h : p) : nI 0 = gv_01 p := (if_pos h).symm
theorem gv_01f {p : Prop} (h : ¬ p) : nI 1 = gv_01 p := (if_neg h).symm
theorem gv_01z {p : Prop} (h : gv_01 p = 0) : p := by
  by_cases hp : p
  · exact hp
  · rw [← gv_01f hp] at h; exact absurd h (by decide)
theorem gv_01n {p : Prop} (h : ¬ gv_01 p = 0) : ¬ p := fun hp => h (by rw [← gv_01t hp]; rfl)
noncomputable def gv_02 (p q : Prop) : Int32 := @ite Int32 p (Classical.propDecidable p) (@ite Int32 q (Classical.propDecidable q) (nI 0) (nI 2)) (nI 1)
theorem gv_02a {p q : Prop} (h : ¬ p) : nI 1 = gv_02 p q := (if_neg h).symm
theorem gv_02b {p q : Prop} (h : p) (h2 : ¬ q) : nI 2 = gv_02 p q := by unfold gv_02; rw [if_pos h, if_neg h2]
theorem gv_02c {p q : Prop} (h : p) (h2 : q) : nI 0 = gv_02 p q := by unfold gv_02; rw [if_pos h, if_pos h2]
theorem gv_02z {p q : Prop} (h : gv_02 p q = 0) : p ∧ q := by
  by_cases hp : p
  · by_cases hq : q
    · exact ⟨hp, hq⟩
    · rw [← gv_02b hp hq] at h; exact absurd h (by decide)
  · rw [← gv_02a hp] at h; exact absurd h (by decide)
noncomputable def gv_03 (p q r : Prop) : Int32 := @ite Int32 p (Classical.propDecidable p) (@ite Int32 q (Classical.propDecidable q) (@ite Int32 r (Classical.propDecidable r) (nI 0) (nI 3)) (nI 2)) (nI 1)
theorem gv_03a {p q r : Prop} (h : ¬ p) : nI 1 = gv_03 p q r := (if_neg h).symm
theorem gv_03b {p q r : Prop} (h : p) (h2 : ¬ q) : nI 2 = gv_03 p q r := by unfold gv_03; rw [if_pos h, if_neg h2]
theorem gv_03c {p q r : Prop} (h : p) (h2 : q) (h3 : ¬ r) : nI 3 = gv_03 p q r := by unfold gv_03; rw [if_pos h, if_pos h2, if_neg h3]
theorem gv_03d {p q r : Prop} (h : p) (h2 : q) (h3 : r) : nI 0 = gv_03 p q r := by unfold gv_03; rw [if_pos h, if_pos h2, if_pos h3]
theorem gv_03z {p q r : Prop} (h : gv_03 p q r = 0) : p ∧ q ∧ r := by
  by_cases hp : p
  · by_cases hq : q
    · by_cases hr : r
      · exact ⟨hp, hq, hr⟩
      · rw [← gv_03c hp hq hr] at h; exact absurd h (by decide)
    · rw [← gv_03b hp hq] at h; exact absurd h (by decide)
  · rw [← gv_03a hp] at h; exact absurd h (by decide)
theorem gv_in_X6_thrown_X6 : ∀ w ∈ wsX60, w ∈ wsX6_thrown := by decide +kernel
theorem gv_in_X6_holds_X6 : ∀ w ∈ wsX60, w ∈ wsX6_holds := by decide +kernel
theorem gv_in_X6_isNeedle_X6 : ∀ w ∈ wsX60, w ∈ wsX6_isNeedle := by decide +kernel
theorem gv_in_X6_isBenchmark_X6 : ∀ w ∈ wsX60, w ∈ wsX6_isBenchmark := by decide +kernel
theorem gv_in_X6_isRelease_X6 : ∀ w ∈ wsX60, w ∈ wsX6_isRelease := by decide +kernel
theorem gv_in_X6_changed_X6 : ∀ w ∈ wsX60, w ∈ wsX6_changed := by decide +kernel
theorem gv_in_X6_pullAt_X6 : ∀ w ∈ wsX60, w ∈ wsX6_pullAt := by decide +kernel
set_option maxHeartbeats 4000000 in
set_option maxRecDepth 100000 in
theorem ct_X6_thrown (l : Launch) (D : va_G) (cI cJ : ClassId) (sz : Nat) (h0 r2 r5 r6 r7 r10 r11 r12 r13 r15 r16 r17 r18 : Nat) (th st pe : Int32) (mo nc bn ln ac : Nat)  : Met l yX6_thrown wsX6_thrown ({ frames := 0, cells := 0, slots := 0, locals := 0 }) (va_Pc [.ref h0] (gv_B D cI cJ [(h0, .inr (6, [.int th, .int (nI mo), .ref r2, .int st, .int pe, .ref r5, .ref r6, .ref r7, .int (nI nc), .int (nI bn), .ref r10, .ref r11, .ref r12, .ref r13, .int (nI ln), .ref r15, .ref r16, .ref r17, .ref r18, .int (nI ac)]))] sz)) (vp_Si (fun r9 : Int32 => r9 = th)) 0 0 (fun _ => False) := by
  refine Met.ofW (cc := cX6_thrown) (maxL := 1) (ret := (some .int)) (by decide) rfl ?_
  intro p e s m args below meth c s₁ B hml hv
  obtain ⟨rfl, hsz, hP, hK, hD0, hG⟩ := hv
  have hx := B.exec
  have hb := B.bytes
  have hr := B.returns
  have hts := atoms_spec (ws := wsX6_thrown) B.pre
  have hown : s.vm.findClass RX6 = some m.cls := findClass_of_methodNamed B.named
  have hlocks := B.notSynchronized
  subst hsz
  have hD := hD0
  have hP : va_P D vwCl [(h0, .inr (6, [.int th, .int (nI mo), .ref r2, .int st, .int pe, .ref r5, .ref r6, .ref r7, .int (nI nc), .int (nI bn), .ref r10, .ref r11, .ref r12, .ref r13, .int (nI ln), .ref r15, .ref r16, .ref r17, .ref r18, .int (nI ac)]))] s.heap := hP
  have hl := lv_entry ([.ref h0]) (n := 1) (Nat.le_of_ble_eq_true rfl)
  rw [lg_entry_eq]
  generalize (lg_sl ([.ref h0]) ++ List.replicate (1 - (lg_sl ([.ref h0])).length) Slot.unset).toArray = ls at hl ⊢
  have hl : lv_has ls 1 [(0, .ref h0)] := hl
  refine lv_aload_n hx hb dX6_thrown_0 rfl (lv_at hl 0 rfl) ?_
  refine va_get (D := D) (ci := 6) (v := .int th) (C := RX6) (T := TX6) (N := 20) hx hb hts gv_in_X6_thrown_X6 hown hK hP 0 rfl rfl 0 (by decide) (hts (.fieldLink RX6 54 "GravimereModel" "thrown" "I") (by decide +kernel)) (fun _ h9 => h9) rfl dX6_thrown_1 ?_
  have hpo : th = th := by
    rfl
  exact W.iret (v := th) hx hb hr (fun t9 ht9 hW9 => ⟨th, rfl, hpo, ht9⟩) t_nil dX6_thrown_4
set_option maxHeartbeats 4000000 in
set_option maxRecDepth 100000 in
theorem ct_X6_holds (l : Launch) (D : va_G) (cI cJ : ClassId) (sz : Nat) (h0 r2 r5 r6 r7 r10 r11 r12 r13 r15 r16 r17 r18 : Nat) (th st pe : Int32) (mo nc bn ln ac : Nat) (ec : Int32)  : Met l yX6_holds wsX6_holds ({ frames := 0, cells := 0, slots := 0, locals := 0 }) (va_Pc [.ref h0, .int ec] (gv_B D cI cJ [(h0, .inr (6, [.int th, .int (nI mo), .ref r2, .int st, .int pe, .ref r5, .ref r6, .ref r7, .int (nI nc), .int (nI bn), .ref r10, .ref r11, .ref r12, .ref r13, .int (nI ln), .ref r15, .ref r16, .ref r17, .ref r18, .int (nI ac)]))] sz)) (va_Qi (fun (r9 : Int32) (u9 : Unit) => r9 = gv_10 (ec = 0)) (fun (u9 : Unit) t9 => gv_W D (va_A [(h0, .inr (6, [.int th, .int (nI mo), .ref r2, .int st, .int pe, .ref r5, .ref r6, .ref r7, .int (nI nc), .int (nI bn), .ref r10, .ref r11, .ref r12, .ref r13, .int (nI ln), .ref r15, .ref r16, .ref r17, .ref r18, .int (nI ac)]))] sz) [(h0, .inr (6, [.int ec, .int (nI mo), .ref r2, .int st, .int pe, .ref r5, .ref r6, .ref r7, .int (nI nc), .int (nI bn), .ref r10, .ref r11, .ref r12, .ref r13, .int (nI ln), .ref r15, .ref r16, .ref r17, .ref r18, .int (nI ac)]))] t9) (va_A [(h0, .inr (6, [.int th, .int (nI mo), .ref r2, .int st, .int pe, .ref r5, .ref r6, .ref r7, .int (nI nc), .int (nI bn), .ref r10, .ref r11, .ref r12, .ref r13, .int (nI ln), .ref r15, .ref r16, .ref r17, .ref r18, .int (nI ac)]))] sz)) 0 0 (va_A [(h0, .inr (6, [.int th, .int (nI mo), .ref r2, .int st, .int pe, .ref r5, .ref r6, .ref r7, .int (nI nc), .int (nI bn), .ref r10, .ref r11, .ref r12, .ref r13, .int (nI ln), .ref r15, .ref r16, .ref r17, .ref r18, .int (nI ac)]))] sz) := by
  refine Met.ofW (cc := cX6_holds) (maxL := 2) (ret := (some .boolean)) (by decide) rfl ?_
  intro p e s m args below meth c s₁ B hml hv
  obtain ⟨rfl, hsz, hP, hK, hD0, hG⟩ := hv
  have hx := B.exec
  have hb := B.bytes
  have hr := B.returns
  have hts := atoms_spec (ws := wsX6_holds) B.pre
  have hown : s.vm.findClass RX6 = some m.cls := findClass_of_methodNamed B.named
  have hlocks := B.notSynchronized
  subst hsz
  have hD := hD0.self (sz := s.heap.size)
  generalize hAe : va_A [(h0, .inr (6, [.int th, .int (nI mo), .ref r2, .int st, .int pe, .ref r5, .ref r6, .ref r7, .int (nI nc), .int (nI bn), .ref r10, .ref r11, .ref r12, .ref r13, .int (nI ln), .ref r15, .ref r16, .ref r17, .ref r18, .int (nI ac)]))] s.heap.size = A at hD ⊢
  have hA : ∀ q : Nat, s.heap.size ≤ q → A q := fun q h => by rw [← hAe]; exact Or.inr h
  have hS : va_S A s.heap s.heap [] := va_S.rf
  have hP : va_P D vwCl [(h0, .inr (6, [.int th, .int (nI mo), .ref r2, .int st, .int pe, .ref r5, .ref r6, .ref r7, .int (nI nc), .int (nI bn), .ref r10, .ref r11, .ref r12, .ref r13, .int (nI ln), .ref r15, .ref r16, .ref r17, .ref r18, .int (nI ac)]))] s.heap := hP
  have hl := lv_entry ([.ref h0, .int ec]) (n := 2) (Nat.le_of_ble_eq_true rfl)
  rw [lg_entry_eq]
  generalize (lg_sl ([.ref h0, .int ec]) ++ List.replicate (2 - (lg_sl ([.ref h0, .int ec])).length) Slot.unset).toArray = ls at hl ⊢
  have hl : lv_has ls 2 [(0, .ref h0), (1, .int ec)] := hl
  refine lv_aload_n hx hb dX6_holds_0 rfl (lv_at hl 0 rfl) ?_
  refine lv_iload_n hx hb dX6_holds_1 rfl (lv_at hl 1 rfl) ?_
  refine va_put (D := D) (ci := 6) (v := .int ec) (ty := .int) (C := RX6) (T := TX6) (N := 20) hx hb hts gv_in_X6_holds_X6 tyX6 tyX6_ok nmX6 hown hK hP hD hS 0 rfl rfl 0 (by decide) (hts (.fieldLink RX6 54 "GravimereModel" "thrown" "I") (by decide +kernel)) (fun _ h9 => h9) rfl (by decide +kernel) rfl rfl (Nat.le_of_ble_eq_true rfl) dX6_holds_2 (fun H locs hP hD hS => ?_)
  have hP : va_P D vwCl [(h0, .inr (6, [.int ec, .int (nI mo), .ref r2, .int st, .int pe, .ref r5, .ref r6, .ref r7, .int (nI nc), .int (nI bn), .ref r10, .ref r11, .ref r12, .ref r13, .int (nI ln), .ref r15, .ref r16, .ref r17, .ref r18, .int (nI ac)]))] H := hP
  have hD : va_D A [(h0, .inr (6, [.int ec, .int (nI mo), .ref r2, .int st, .int pe, .ref r5, .ref r6, .ref r7, .int (nI nc), .int (nI bn), .ref r10, .ref r11, .ref r12, .ref r13, .int (nI ln), .ref r15, .ref r16, .ref r17, .ref r18, .int (nI ac)]))] := hD
  refine lv_iload_n hx hb dX6_holds_5 rfl (lv_at hl 1 rfl) ?_
  refine lv_if_ne (tgt := 13) hx hb dX6_holds_6 (by decide) (fun c_6 => ?_) (fun c_6 => ?_)
  · skip
    refine lv_iconst (v := nI 0) hx hb dX6_holds_13 (by decide) ?_
    have hpo : (nI 0) = gv_10 (ec = 0) := by
      exact gv_10f c_6
    have hP9 : va_P D vwCl [(h0, .inr (6, [.int ec, .int (nI mo), .ref r2, .int st, .int pe, .ref r5, .ref r6, .ref r7, .int (nI nc), .int (nI bn), .ref r10, .ref r11, .ref r12, .ref r13, .int (nI ln), .ref r15, .ref r16, .ref r17, .ref r18, .int (nI ac)]))] H := hP
    have hD9 : va_D A [(h0, .inr (6, [.int ec, .int (nI mo), .ref r2, .int st, .int pe, .ref r5, .ref r6, .ref r7, .int (nI nc), .int (nI bn), .ref r10, .ref r11, .ref r12, .ref r13, .int (nI ln), .ref r15, .ref r16, .ref r17, .ref r18, .int (nI ac)]))] := hD
    exact W.zret (v := nI 0) (ty := .boolean) hx hb hr rfl (fun t9 ht9 hW9 => ⟨⟨(nI 0), (), rfl, hpo, by rw [ht9]; exact hP9, hD9⟩, hS.F ht9⟩) hS.2.2 dX6_holds_14
  · skip
    refine lv_iconst (v := nI 1) hx hb dX6_holds_9 (by decide) ?_
    refine lv_goto (tgt := 14) hx hb dX6_holds_10 (by decide) ?_
    have hpo : (nI 1) = gv_10 (ec = 0) := by
      exact gv_10t c_6
    have hP9 : va_P D vwCl [(h0, .inr (6, [.int ec, .int (nI mo), .ref r2, .int st, .int pe, .ref r5, .ref r6, .ref r7, .int (nI nc), .int (nI bn), .ref r10, .ref r11, .ref r12, .ref r13, .int (nI ln), .ref r15, .ref r16, .ref r17, .ref r18, .int (nI ac)]))] H := hP
    have hD9 : va_D A [(h0, .inr (6, [.int ec, .int (nI mo), .ref r2, .int st, .int pe, .ref r5, .ref r6, .ref r7, .int (nI nc), .int (nI bn), .ref r10, .ref r11, .ref r12, .ref r13, .int (nI ln), .ref r15, .ref r16, .ref r17, .ref r18, .int (nI ac)]))] := hD
    exact W.zret (v := nI 1) (ty := .boolean) hx hb hr rfl (fun t9 ht9 hW9 => ⟨⟨(nI 1), (), rfl, hpo, by rw [ht9]; exact hP9, hD9⟩, hS.F ht9⟩) hS.2.2 dX6_holds_14
set_option maxHeartbeats 4000000 in
set_option maxRecDepth 100000 in
theorem ct_X6_isCell (l : Launch) (x y : Int32)  : Met l yX6_isCell wsX6_isCell ({ frames := 1, cells := 0, slots := 0, locals := 25 }) (va_Pc [.int x, .int y] (fun _ => True)) (vp_Si (fun r9 : Int32 => r9 = gv_10 (vp_in x 8 ∧ vp_in y 8))) 0 0 (fun _ => False) := by
  refine Met.ofW (cc := cX6_isCell) (maxL := 2) (ret := (some .boolean)) (by decide) rfl ?_
  intro p e s m args below meth c s₁ B hml hv
  obtain ⟨rfl, -⟩ := hv
  have hx := B.exec
  have hb := B.bytes
  have hr := B.returns
  have hts := atoms_spec (ws := wsX6_isCell) B.pre
  have hown : s.vm.findClass RX6 = some m.cls := findClass_of_methodNamed B.named
  have hlocks := B.notSynchronized
  have hl := lv_entry ([.int x, .int y]) (n := 2) (Nat.le_of_ble_eq_true rfl)
  rw [lg_entry_eq]
  generalize (lg_sl ([.int x, .int y]) ++ List.replicate (2 - (lg_sl ([.int x, .int y])).length) Slot.unset).toArray = ls at hl ⊢
  have hl : lv_has ls 2 [(0, .int x), (1, .int y)] := hl
  refine lv_iload_n hx hb dX6_isCell_0 rfl (lv_at hl 0 rfl) ?_
  refine lv_i2l (v := x.toInt64) hx hb dX6_isCell_1 rfl ?_
  refine lv_lconst (v := 0) hx hb dX6_isCell_2 (by decide) ?_
  refine lv_ldc2 hx hb hown (hts (.constantLong RX6 57 (7)) (by decide +kernel)) dX6_isCell_3 ?_
  refine gv_pi (va_runS (As := [.long x.toInt64, .long 0, .long 7]) (rest := []) ⟨hx, hb, hml, hown, hts⟩ (ct_X6_isIn l x.toInt64 0 7) (va_cwS 3 hts gX6_isCell_X6_isIn rfl rfl rfl (by decide +kernel) ⟨Nat.le_of_ble_eq_true rfl, Nat.le_of_ble_eq_true rfl⟩) gv_p0 rfl rfl hl.1 rfl (lv_room (Nat.le_of_ble_eq_true rfl)) dX6_isCell_6 ⟨Nat.le_of_ble_eq_true rfl, Nat.le_of_ble_eq_true rfl⟩) (fun q1 h1 => ?_)
  refine lv_if_eq (tgt := 28) hx hb dX6_isCell_9 (by decide) (fun c_9 => ?_) (fun c_9 => ?_)
  · skip
    refine lv_iconst (v := nI 0) hx hb dX6_isCell_28 (by decide) ?_
    have hpo : (nI 0) = gv_10 (vp_in x 8 ∧ vp_in y 8) := by
      exact gv_10f (fun z => by first | exact gv_if0 h1 c_9 ((gv_is8 x).mpr z.1) | exact gv_if0 h2 c_21 ((gv_is8 y).mpr z.2))
    exact W.zret (v := nI 0) (ty := .boolean) hx hb hr rfl (fun t9 ht9 hW9 => ⟨(nI 0), rfl, hpo, ht9⟩) t_nil dX6_isCell_29
  · skip
    refine lv_iload_n hx hb dX6_isCell_12 rfl (lv_at hl 1 rfl) ?_
    refine lv_i2l (v := y.toInt64) hx hb dX6_isCell_13 rfl ?_
    refine lv_lconst (v := 0) hx hb dX6_isCell_14 (by decide) ?_
    refine lv_ldc2 hx hb hown (hts (.constantLong RX6 57 (7)) (by decide +kernel)) dX6_isCell_15 ?_
    refine gv_pi (va_runS (As := [.long y.toInt64, .long 0, .long 7]) (rest := []) ⟨hx, hb, hml, hown, hts⟩ (ct_X6_isIn l y.toInt64 0 7) (va_cwS 3 hts gX6_isCell_X6_isIn rfl rfl rfl (by decide +kernel) ⟨Nat.le_of_ble_eq_true rfl, Nat.le_of_ble_eq_true rfl⟩) gv_p0 rfl rfl hl.1 rfl (lv_room (Nat.le_of_ble_eq_true rfl)) dX6_isCell_18 ⟨Nat.le_of_ble_eq_true rfl, Nat.le_of_ble_eq_true rfl⟩) (fun q2 h2 => ?_)
    refine lv_if_eq (tgt := 28) hx hb dX6_isCell_21 (by decide) (fun c_21 => ?_) (fun c_21 => ?_)
    · skip
      refine lv_iconst (v := nI 0) hx hb dX6_isCell_28 (by decide) ?_
      have hpo : (nI 0) = gv_10 (vp_in x 8 ∧ vp_in y 8) := by
        exact gv_10f (fun z => by first | exact gv_if0 h1 c_9 ((gv_is8 x).mpr z.1) | exact gv_if0 h2 c_21 ((gv_is8 y).mpr z.2))
      exact W.zret (v := nI 0) (ty := .boolean) hx hb hr rfl (fun t9 ht9 hW9 => ⟨(nI 0), rfl, hpo, ht9⟩) t_nil dX6_isCell_29
    · skip
      refine lv_iconst (v := nI 1) hx hb dX6_isCell_24 (by decide) ?_
      refine lv_goto (tgt := 29) hx hb dX6_isCell_25 (by decide) ?_
      have hpo : (nI 1) = gv_10 (vp_in x 8 ∧ vp_in y 8) := by
        exact gv_10t ⟨(gv_is8 x).mp (gv_if1 h1 c_9), (gv_is8 y).mp (gv_if1 h2 c_21)⟩
      exact W.zret (v := nI 1) (ty := .boolean) hx hb hr rfl (fun t9 ht9 hW9 => ⟨(nI 1), rfl, hpo, ht9⟩) t_nil dX6_isCell_29
set_option maxHeartbeats 4000000 in
set_option maxRecDepth 100000 in
theorem ct_X6_isNeedle (l : Launch) (D : va_G) (cI cJ : ClassId) (sz : Nat) (h0 r2 r5 r6 r7 r10 r11 r12 r13 r15 r16 r17 r18 : Nat) (th st pe : Int32) (mo nc bn ln ac : Nat) (p0 : Int32) (hc9 : nc < 2 ^ 31) : Met l yX6_isNeedle wsX6_isNeedle ({ frames := 1, cells := 0, slots := 0, locals := 25 }) (va_Pc [.ref h0, .int p0] (gv_B D cI cJ [(h0, .inr (6, [.int th, .int (nI mo), .ref r2, .int st, .int pe, .ref r5, .ref r6, .ref r7, .int (nI nc), .int (nI bn), .ref r10, .ref r11, .ref r12, .ref r13, .int (nI ln), .ref r15, .ref r16, .ref r17, .ref r18, .int (nI ac)]))] sz)) (vp_Si (fun r9 : Int32 => r9 = gv_10 (vp_in p0 nc))) 0 0 (fun _ => False) := by
  refine Met.ofW (cc := cX6_isNeedle) (maxL := 2) (ret := (some .boolean)) (by decide) rfl ?_
  intro p e s m args below meth c s₁ B hml hv
  obtain ⟨rfl, hsz, hP, hK, hD0, hG⟩ := hv
  have hx := B.exec
  have hb := B.bytes
  have hr := B.returns
  have hts := atoms_spec (ws := wsX6_isNeedle) B.pre
  have hown : s.vm.findClass RX6 = some m.cls := findClass_of_methodNamed B.named
  have hlocks := B.notSynchronized
  subst hsz
  have hD := hD0
  have hP : va_P D vwCl [(h0, .inr (6, [.int th, .int (nI mo), .ref r2, .int st, .int pe, .ref r5, .ref r6, .ref r7, .int (nI nc), .int (nI bn), .ref r10, .ref r11, .ref r12, .ref r13, .int (nI ln), .ref r15, .ref r16, .ref r17, .ref r18, .int (nI ac)]))] s.heap := hP
  have hl := lv_entry ([.ref h0, .int p0]) (n := 2) (Nat.le_of_ble_eq_true rfl)
  rw [lg_entry_eq]
  generalize (lg_sl ([.ref h0, .int p0]) ++ List.replicate (2 - (lg_sl ([.ref h0, .int p0])).length) Slot.unset).toArray = ls at hl ⊢
  have hl : lv_has ls 2 [(0, .ref h0), (1, .int p0)] := hl
  refine lv_iload_n hx hb dX6_isNeedle_0 rfl (lv_at hl 1 rfl) ?_
  refine lv_i2l (v := p0.toInt64) hx hb dX6_isNeedle_1 rfl ?_
  refine lv_lconst (v := 0) hx hb dX6_isNeedle_2 (by decide) ?_
  refine lv_aload_n hx hb dX6_isNeedle_3 rfl (lv_at hl 0 rfl) ?_
  refine va_get (D := D) (ci := 6) (v := .int (nI nc)) (C := RX6) (T := TX6) (N := 20) hx hb hts gv_in_X6_isNeedle_X6 hown hK hP 0 rfl rfl 8 (by decide) (hts (.fieldLink RX6 63 "GravimereModel" "needles" "I") (by decide +kernel)) (fun _ h9 => h9) rfl dX6_isNeedle_4 ?_
  refine lv_iconst (v := nI 1) hx hb dX6_isNeedle_7 (by decide) ?_
  refine lv_isub hx hb dX6_isNeedle_8 ?_
  refine lv_i2l (v := ((nI nc) - (nI 1)).toInt64) hx hb dX6_isNeedle_9 rfl ?_
  refine gv_pi (va_runS (As := [.long p0.toInt64, .long 0, .long (((nI nc) - (nI 1)).toInt64)]) (rest := []) ⟨hx, hb, hml, hown, hts⟩ (ct_X6_isIn l p0.toInt64 0 ((nI nc - nI 1).toInt64)) (va_cwS 3 hts gX6_isNeedle_X6_isIn rfl rfl rfl (by decide +kernel) ⟨Nat.le_of_ble_eq_true rfl, Nat.le_of_ble_eq_true rfl⟩) gv_p0 rfl rfl hl.1 rfl (lv_room (Nat.le_of_ble_eq_true rfl)) dX6_isNeedle_10 ⟨Nat.le_of_ble_eq_true rfl, Nat.le_of_ble_eq_true rfl⟩) (fun q1 h1 => ?_)
  have hpo : q1 = gv_10 (vp_in p0 nc) := by
    rw [h1]; exact gv_10c (gv_isnc hc9)
  exact W.zret (v := q1) (ty := .boolean) hx hb hr (gv_nzi h1) (fun t9 ht9 hW9 => ⟨q1, rfl, hpo, ht9⟩) t_nil dX6_isNeedle_13
set_option maxHeartbeats 4000000 in
set_option maxRecDepth 100000 in
theorem ct_X6_isBenchmark (l : Launch) (D : va_G) (cI cJ : ClassId) (sz : Nat) (h0 r2 r5 r6 r7 r10 r11 r12 r13 r15 r16 r17 r18 : Nat) (th st pe : Int32) (mo nc bn ln ac : Nat) (p0 : Int32) (hc9 : bn < 2 ^ 31) : Met l yX6_isBenchmark wsX6_isBenchmark ({ frames := 1, cells := 0, slots := 0, locals := 25 }) (va_Pc [.ref h0, .int p0] (gv_B D cI cJ [(h0, .inr (6, [.int th, .int (nI mo), .ref r2, .int st, .int pe, .ref r5, .ref r6, .ref r7, .int (nI nc), .int (nI bn), .ref r10, .ref r11, .ref r12, .ref r13, .int (nI ln), .ref r15, .ref r16, .ref r17, .ref r18, .int (nI ac)]))] sz)) (vp_Si (fun r9 : Int32 => r9 = gv_10 (vp_in p0 bn))) 0 0 (fun _ => False) := by
  refine Met.ofW (cc := cX6_isBenchmark) (maxL := 2) (ret := (some .boolean)) (by decide) rfl ?_
  intro p e s m args below meth c s₁ B hml hv
  obtain ⟨rfl, hsz, hP, hK, hD0, hG⟩ := hv
  have hx := B.exec
  have hb := B.bytes
  have hr := B.returns
  have hts := atoms_spec (ws := wsX6_isBenchmark) B.pre
  have hown : s.vm.findClass RX6 = some m.cls := findClass_of_methodNamed B.named
  have hlocks := B.notSynchronized
  subst hsz
  have hD := hD0
  have hP : va_P D vwCl [(h0, .inr (6, [.int th, .int (nI mo), .ref r2, .int st, .int pe, .ref r5, .ref r6, .ref r7, .int (nI nc), .int (nI bn), .ref r10, .ref r11, .ref r12, .ref r13, .int (nI ln), .ref r15, .ref r16, .ref r17, .ref r18, .int (nI ac)]))] s.heap := hP
  have hl := lv_entry ([.ref h0, .int p0]) (n := 2) (Nat.le_of_ble_eq_true rfl)
  rw [lg_entry_eq]
  generalize (lg_sl ([.ref h0, .int p0]) ++ List.replicate (2 - (lg_sl ([.ref h0, .int p0])).length) Slot.unset).toArray = ls at hl ⊢
  have hl : lv_has ls 2 [(0, .ref h0), (1, .int p0)] := hl
  refine lv_iload_n hx hb dX6_isBenchmark_0 rfl (lv_at hl 1 rfl) ?_
  refine lv_i2l (v := p0.toInt64) hx hb dX6_isBenchmark_1 rfl ?_
  refine lv_lconst (v := 0) hx hb dX6_isBenchmark_2 (by decide) ?_
  refine lv_aload_n hx hb dX6_isBenchmark_3 rfl (lv_at hl 0 rfl) ?_
  refine va_get (D := D) (ci := 6) (v := .int (nI bn)) (C := RX6) (T := TX6) (N := 20) hx hb hts gv_in_X6_isBenchmark_X6 hown hK hP 0 rfl rfl 9 (by decide) (hts (.fieldLink RX6 66 "GravimereModel" "benchmarks" "I") (by decide +kernel)) (fun _ h9 => h9) rfl dX6_isBenchmark_4 ?_
  refine lv_iconst (v := nI 1) hx hb dX6_isBenchmark_7 (by decide) ?_
  refine lv_isub hx hb dX6_isBenchmark_8 ?_
  refine lv_i2l (v := ((nI bn) - (nI 1)).toInt64) hx hb dX6_isBenchmark_9 rfl ?_
  refine gv_pi (va_runS (As := [.long p0.toInt64, .long 0, .long (((nI bn) - (nI 1)).toInt64)]) (rest := []) ⟨hx, hb, hml, hown, hts⟩ (ct_X6_isIn l p0.toInt64 0 ((nI bn - nI 1).toInt64)) (va_cwS 3 hts gX6_isBenchmark_X6_isIn rfl rfl rfl (by decide +kernel) ⟨Nat.le_of_ble_eq_true rfl, Nat.le_of_ble_eq_true rfl⟩) gv_p0 rfl rfl hl.1 rfl (lv_room (Nat.le_of_ble_eq_true rfl)) dX6_isBenchmark_10 ⟨Nat.le_of_ble_eq_true rfl, Nat.le_of_ble_eq_true rfl⟩) (fun q1 h1 => ?_)
  have hpo : q1 = gv_10 (vp_in p0 bn) := by
    rw [h1]; exact gv_10c (gv_isnc hc9)
  exact W.zret (v := q1) (ty := .boolean) hx hb hr (gv_nzi h1) (fun t9 ht9 hW9 => ⟨q1, rfl, hpo, ht9⟩) t_nil dX6_isBenchmark_13
set_option maxHeartbeats 4000000 in
set_option maxRecDepth 100000 in
theorem ct_X6_isRelease (l : Launch) (D : va_G) (cI cJ : ClassId) (sz : Nat) (h0 r2 r5 r6 r7 r10 r11 r12 r13 r15 r16 r17 r18 : Nat) (th st pe : Int32) (mo nc bn ln ac : Nat) (p0 : Int32) (hc9 : ac < 2 ^ 31) : Met l yX6_isRelease wsX6_isRelease ({ frames := 1, cells := 0, slots := 0, locals := 25 }) (va_Pc [.ref h0, .int p0] (gv_B D cI cJ [(h0, .inr (6, [.int th, .int (nI mo), .ref r2, .int st, .int pe, .ref r5, .ref r6, .ref r7, .int (nI nc), .int (nI bn), .ref r10, .ref r11, .ref r12, .ref r13, .int (nI ln), .ref r15, .ref r16, .ref r17, .ref r18, .int (nI ac)]))] sz)) (vp_Si (fun r9 : Int32 => r9 = gv_10 (vp_in p0 ac))) 0 0 (fun _ => False) := by
  refine Met.ofW (cc := cX6_isRelease) (maxL := 2) (ret := (some .boolean)) (by decide) rfl ?_
  intro p e s m args below meth c s₁ B hml hv
  obtain ⟨rfl, hsz, hP, hK, hD0, hG⟩ := hv
  have hx := B.exec
  have hb := B.bytes
  have hr := B.returns
  have hts := atoms_spec (ws := wsX6_isRelease) B.pre
  have hown : s.vm.findClass RX6 = some m.cls := findClass_of_methodNamed B.named
  have hlocks := B.notSynchronized
  subst hsz
  have hD := hD0
  have hP : va_P D vwCl [(h0, .inr (6, [.int th, .int (nI mo), .ref r2, .int st, .int pe, .ref r5, .ref r6, .ref r7, .int (nI nc), .int (nI bn), .ref r10, .ref r11, .ref r12, .ref r13, .int (nI ln), .ref r15, .ref r16, .ref r17, .ref r18, .int (nI ac)]))] s.heap := hP
  have hl := lv_entry ([.ref h0, .int p0]) (n := 2) (Nat.le_of_ble_eq_true rfl)
  rw [lg_entry_eq]
  generalize (lg_sl ([.ref h0, .int p0]) ++ List.replicate (2 - (lg_sl ([.ref h0, .int p0])).length) Slot.unset).toArray = ls at hl ⊢
  have hl : lv_has ls 2 [(0, .ref h0), (1, .int p0)] := hl
  refine lv_iload_n hx hb dX6_isRelease_0 rfl (lv_at hl 1 rfl) ?_
  refine lv_i2l (v := p0.toInt64) hx hb dX6_isRelease_1 rfl ?_
  refine lv_lconst (v := 0) hx hb dX6_isRelease_2 (by decide) ?_
  refine lv_aload_n hx hb dX6_isRelease_3 rfl (lv_at hl 0 rfl) ?_
  refine va_get (D := D) (ci := 6) (v := .int (nI ac)) (C := RX6) (T := TX6) (N := 20) hx hb hts gv_in_X6_isRelease_X6 hown hK hP 0 rfl rfl 19 (by decide) (hts (.fieldLink RX6 69 "GravimereModel" "releases" "I") (by decide +kernel)) (fun _ h9 => h9) rfl dX6_isRelease_4 ?_
  refine lv_iconst (v := nI 1) hx hb dX6_isRelease_7 (by decide) ?_
  refine lv_isub hx hb dX6_isRelease_8 ?_
  refine lv_i2l (v := ((nI ac) - (nI 1)).toInt64) hx hb dX6_isRelease_9 rfl ?_
  refine gv_pi (va_runS (As := [.long p0.toInt64, .long 0, .long (((nI ac) - (nI 1)).toInt64)]) (rest := []) ⟨hx, hb, hml, hown, hts⟩ (ct_X6_isIn l p0.toInt64 0 ((nI ac - nI 1).toInt64)) (va_cwS 3 hts gX6_isRelease_X6_isIn rfl rfl rfl (by decide +kernel) ⟨Nat.le_of_ble_eq_true rfl, Nat.le_of_ble_eq_true rfl⟩) gv_p0 rfl rfl hl.1 rfl (lv_room (Nat.le_of_ble_eq_true rfl)) dX6_isRelease_10 ⟨Nat.le_of_ble_eq_true rfl, Nat.le_of_ble_eq_true rfl⟩) (fun q1 h1 => ?_)
  have hpo : q1 = gv_10 (vp_in p0 ac) := by
    rw [h1]; exact gv_10c (gv_isnc hc9)
  exact W.zret (v := q1) (ty := .boolean) hx hb hr (gv_nzi h1) (fun t9 ht9 hW9 => ⟨q1, rfl, hpo, ht9⟩) t_nil dX6_isRelease_13
set_option maxHeartbeats 4000000 in
set_option maxRecDepth 100000 in
theorem ct_X6_changed (l : Launch) (D : va_G) (cI cJ : ClassId) (sz : Nat) (h0 r2 r5 r6 r7 r10 r11 r12 r13 r15 r16 r17 r18 : Nat) (th st pe : Int32) (mo nc bn ln ac : Nat) (mm : Nat → Int64) (k : Nat) (its : Int64) (hk : k < 256) : Met l yX6_changed wsX6_changed ({ frames := 0, cells := 0, slots := 0, locals := 0 }) (va_Pc [.ref h0, .int (nI k), .long its] (gv_B D cI cJ [(h0, .inr (6, [.int th, .int (nI mo), .ref r2, .int st, .int pe, .ref r5, .ref r6, .ref r7, .int (nI nc), .int (nI bn), .ref r10, .ref r11, .ref r12, .ref r13, .int (nI ln), .ref r15, .ref r16, .ref r17, .ref r18, .int (nI ac)])), (r2, .inl (cJ, 256, .inr (.inl mm)))] sz)) (va_Ql (fun (r9 : Int64) (u9 : Unit) => r9 = mm k) (fun (u9 : Unit) t9 => gv_W D (va_A [(h0, .inr (6, [.int th, .int (nI mo), .ref r2, .int st, .int pe, .ref r5, .ref r6, .ref r7, .int (nI nc), .int (nI bn), .ref r10, .ref r11, .ref r12, .ref r13, .int (nI ln), .ref r15, .ref r16, .ref r17, .ref r18, .int (nI ac)])), (r2, .inl (cJ, 256, .inr (.inl mm)))] sz) [(h0, .inr (6, [.int th, .int (nI mo), .ref r2, .int st, .int pe, .ref r5, .ref r6, .ref r7, .int (nI nc), .int (nI bn), .ref r10, .ref r11, .ref r12, .ref r13, .int (nI ln), .ref r15, .ref r16, .ref r17, .ref r18, .int (nI ac)])), (r2, .inl (cJ, 256, .inr (.inl (vp_updL mm k its))))] t9) (va_A [(h0, .inr (6, [.int th, .int (nI mo), .ref r2, .int st, .int pe, .ref r5, .ref r6, .ref r7, .int (nI nc), .int (nI bn), .ref r10, .ref r11, .ref r12, .ref r13, .int (nI ln), .ref r15, .ref r16, .ref r17, .ref r18, .int (nI ac)])), (r2, .inl (cJ, 256, .inr (.inl mm)))] sz)) 0 0 (va_A [(h0, .inr (6, [.int th, .int (nI mo), .ref r2, .int st, .int pe, .ref r5, .ref r6, .ref r7, .int (nI nc), .int (nI bn), .ref r10, .ref r11, .ref r12, .ref r13, .int (nI ln), .ref r15, .ref r16, .ref r17, .ref r18, .int (nI ac)])), (r2, .inl (cJ, 256, .inr (.inl mm)))] sz) := by
  refine Met.ofW (cc := cX6_changed) (maxL := 6) (ret := (some .long)) (by decide) rfl ?_
  intro p e s m args below meth c s₁ B hml hv
  obtain ⟨rfl, hsz, hP, hK, hD0, hG⟩ := hv
  have hx := B.exec
  have hb := B.bytes
  have hr := B.returns
  have hts := atoms_spec (ws := wsX6_changed) B.pre
  have hown : s.vm.findClass RX6 = some m.cls := findClass_of_methodNamed B.named
  have hlocks := B.notSynchronized
  subst hsz
  have hD := hD0.self (sz := s.heap.size)
  generalize hAe : va_A [(h0, .inr (6, [.int th, .int (nI mo), .ref r2, .int st, .int pe, .ref r5, .ref r6, .ref r7, .int (nI nc), .int (nI bn), .ref r10, .ref r11, .ref r12, .ref r13, .int (nI ln), .ref r15, .ref r16, .ref r17, .ref r18, .int (nI ac)])), (r2, .inl (cJ, 256, .inr (.inl mm)))] s.heap.size = A at hD ⊢
  have hA : ∀ q : Nat, s.heap.size ≤ q → A q := fun q h => by rw [← hAe]; exact Or.inr h
  have hS : va_S A s.heap s.heap [] := va_S.rf
  have hP : va_P D vwCl [(h0, .inr (6, [.int th, .int (nI mo), .ref r2, .int st, .int pe, .ref r5, .ref r6, .ref r7, .int (nI nc), .int (nI bn), .ref r10, .ref r11, .ref r12, .ref r13, .int (nI ln), .ref r15, .ref r16, .ref r17, .ref r18, .int (nI ac)])), (r2, .inl (cJ, 256, .inr (.inl mm)))] s.heap := hP
  have hl := lv_entry ([.ref h0, .int (nI k), .long its]) (n := 6) (Nat.le_of_ble_eq_true rfl)
  rw [lg_entry_eq]
  generalize (lg_sl ([.ref h0, .int (nI k), .long its]) ++ List.replicate (6 - (lg_sl ([.ref h0, .int (nI k), .long its])).length) Slot.unset).toArray = ls at hl ⊢
  have hl : lv_has ls 6 [(0, .ref h0), (1, .int (nI k)), (2, .long its)] := hl
  refine lv_aload_n hx hb dX6_changed_0 rfl (lv_at hl 0 rfl) ?_
  refine va_get (D := D) (ci := 6) (v := .ref r2) (C := RX6) (T := TX6) (N := 20) hx hb hts gv_in_X6_changed_X6 hown hK hP 0 rfl rfl 2 (by decide) (hts (.fieldLink RX6 7 "GravimereModel" "masses" "[J") (by decide +kernel)) (fun _ h9 => h9) rfl dX6_changed_1 ?_
  refine lv_iload_n hx hb dX6_changed_4 rfl (lv_at hl 1 rfl) ?_
  refine gv_ll hx hb hK hP 1 (k := k) rfl (by omega) (by decide) dX6_changed_5 ?_
  refine lv_lstore (lv' := [(4, .long (mm k)), (0, .ref h0), (1, .int (nI k)), (2, .long its)]) hx hb dX6_changed_6 hl (by decide) rfl (fun ls hl => ?_)
  refine lv_aload_n hx hb dX6_changed_8 rfl (lv_at hl 1 rfl) ?_
  refine va_get (D := D) (ci := 6) (v := .ref r2) (C := RX6) (T := TX6) (N := 20) hx hb hts gv_in_X6_changed_X6 hown hK hP 0 rfl rfl 2 (by decide) (hts (.fieldLink RX6 7 "GravimereModel" "masses" "[J") (by decide +kernel)) (fun _ h9 => h9) rfl dX6_changed_9 ?_
  refine lv_iload_n hx hb dX6_changed_12 rfl (lv_at hl 2 rfl) ?_
  refine lv_lload_n hx hb dX6_changed_13 rfl (lv_at hl 3 rfl) ?_
  refine gv_ls hx hb hK hP hD hS 1 (k := k) rfl (by omega) (by decide) dX6_changed_14 (fun H locs hP hD hS => ?_)
  have hP : va_P D vwCl [(h0, .inr (6, [.int th, .int (nI mo), .ref r2, .int st, .int pe, .ref r5, .ref r6, .ref r7, .int (nI nc), .int (nI bn), .ref r10, .ref r11, .ref r12, .ref r13, .int (nI ln), .ref r15, .ref r16, .ref r17, .ref r18, .int (nI ac)])), (r2, .inl (cJ, 256, .inr (.inl (vp_updL mm k its))))] H := hP
  have hD : va_D A [(h0, .inr (6, [.int th, .int (nI mo), .ref r2, .int st, .int pe, .ref r5, .ref r6, .ref r7, .int (nI nc), .int (nI bn), .ref r10, .ref r11, .ref r12, .ref r13, .int (nI ln), .ref r15, .ref r16, .ref r17, .ref r18, .int (nI ac)])), (r2, .inl (cJ, 256, .inr (.inl (vp_updL mm k its))))] := hD
  refine lv_lload hx hb dX6_changed_15 (lv_at hl 0 rfl) ?_
  have hpo : (mm k) = mm k := by
    rfl
  have hP9 : va_P D vwCl [(h0, .inr (6, [.int th, .int (nI mo), .ref r2, .int st, .int pe, .ref r5, .ref r6, .ref r7, .int (nI nc), .int (nI bn), .ref r10, .ref r11, .ref r12, .ref r13, .int (nI ln), .ref r15, .ref r16, .ref r17, .ref r18, .int (nI ac)])), (r2, .inl (cJ, 256, .inr (.inl (vp_updL mm k its))))] H := hP
  have hD9 : va_D A [(h0, .inr (6, [.int th, .int (nI mo), .ref r2, .int st, .int pe, .ref r5, .ref r6, .ref r7, .int (nI nc), .int (nI bn), .ref r10, .ref r11, .ref r12, .ref r13, .int (nI ln), .ref r15, .ref r16, .ref r17, .ref r18, .int (nI ac)])), (r2, .inl (cJ, 256, .inr (.inl (vp_updL mm k its))))] := hD
  exact W.lret (v := mm k) hx hb hr (fun t9 ht9 hW9 => ⟨⟨(mm k), (), rfl, hpo, by rw [ht9]; exact hP9, hD9⟩, hS.F ht9⟩) hS.2.2 dX6_changed_17
set_option maxHeartbeats 4000000 in
set_option maxRecDepth 100000 in
theorem ct_X6_mass (l : Launch) (D : va_G) (cI cJ : ClassId) (sz : Nat) (h0 r2 r5 r6 r7 r10 r11 r12 r13 r15 r16 r17 r18 : Nat) (th st pe : Int32) (mo nc bn ln ac : Nat) (mm : Nat → Int64) (x y la : Int32) (its : Int64)  : Met l yX6_mass wsX6_mass ({ frames := 2, cells := 0, slots := 0, locals := 46 }) (va_Pc [.ref h0, .int x, .int y, .int la, .long its] (gv_B D cI cJ [(h0, .inr (6, [.int th, .int (nI mo), .ref r2, .int st, .int pe, .ref r5, .ref r6, .ref r7, .int (nI nc), .int (nI bn), .ref r10, .ref r11, .ref r12, .ref r13, .int (nI ln), .ref r15, .ref r16, .ref r17, .ref r18, .int (nI ac)])), (r2, .inl (cJ, 256, .inr (.inl mm)))] sz)) (va_Ql (fun (r9 : Int64) (u9 : Nat → Int64) => let mm9 := u9; (∀ a b k, a < 8 → b < 8 → k < 3 → x = nI a → y = nI b → la = nI k → (0 ≤ its ∧ its ≤ 40000000000) → r9 = mm (64 * k + 8 * b + a) ∧ mm9 = vp_updL mm (64 * k + 8 * b + a) its) ∧ (¬ gv_02 (vp_in x 8 ∧ vp_in y 8 ∧ vp_in la 3) (0 ≤ its ∧ its ≤ 40000000000) = 0 → mm9 = mm)) (fun (u9 : Nat → Int64) t9 => gv_W D (va_A [(h0, .inr (6, [.int th, .int (nI mo), .ref r2, .int st, .int pe, .ref r5, .ref r6, .ref r7, .int (nI nc), .int (nI bn), .ref r10, .ref r11, .ref r12, .ref r13, .int (nI ln), .ref r15, .ref r16, .ref r17, .ref r18, .int (nI ac)])), (r2, .inl (cJ, 256, .inr (.inl mm)))] sz) (let mm9 := u9; [(h0, .inr (6, [.int (gv_02 (vp_in x 8 ∧ vp_in y 8 ∧ vp_in la 3) (0 ≤ its ∧ its ≤ 40000000000)), .int (nI mo), .ref r2, .int st, .int pe, .ref r5, .ref r6, .ref r7, .int (nI nc), .int (nI bn), .ref r10, .ref r11, .ref r12, .ref r13, .int (nI ln), .ref r15, .ref r16, .ref r17, .ref r18, .int (nI ac)])), (r2, .inl (cJ, 256, .inr (.inl mm9)))]) t9) (va_A [(h0, .inr (6, [.int th, .int (nI mo), .ref r2, .int st, .int pe, .ref r5, .ref r6, .ref r7, .int (nI nc), .int (nI bn), .ref r10, .ref r11, .ref r12, .ref r13, .int (nI ln), .ref r15, .ref r16, .ref r17, .ref r18, .int (nI ac)])), (r2, .inl (cJ, 256, .inr (.inl mm)))] sz)) 0 0 (va_A [(h0, .inr (6, [.int th, .int (nI mo), .ref r2, .int st, .int pe, .ref r5, .ref r6, .ref r7, .int (nI nc), .int (nI bn), .ref r10, .ref r11, .ref r12, .ref r13, .int (nI ln), .ref r15, .ref r16, .ref r17, .ref r18, .int (nI ac)])), (r2, .inl (cJ, 256, .inr (.inl mm)))] sz) := by
  refine Met.ofW (cc := cX6_mass) (maxL := 7) (ret := (some .long)) (by decide) rfl ?_
  intro p e s m args below meth c s₁ B hml hv
  obtain ⟨rfl, hsz, hP, hK, hD0, hG⟩ := hv
  have hx := B.exec
  have hb := B.bytes
  have hr := B.returns
  have hts := atoms_spec (ws := wsX6_mass) B.pre
  have hown : s.vm.findClass RX6 = some m.cls := findClass_of_methodNamed B.named
  have hlocks := B.notSynchronized
  subst hsz
  have hD := hD0.self (sz := s.heap.size)
  generalize hAe : va_A [(h0, .inr (6, [.int th, .int (nI mo), .ref r2, .int st, .int pe, .ref r5, .ref r6, .ref r7, .int (nI nc), .int (nI bn), .ref r10, .ref r11, .ref r12, .ref r13, .int (nI ln), .ref r15, .ref r16, .ref r17, .ref r18, .int (nI ac)])), (r2, .inl (cJ, 256, .inr (.inl mm)))] s.heap.size = A at hD ⊢
  have hA : ∀ q : Nat, s.heap.size ≤ q → A q := fun q h => by rw [← hAe]; exact Or.inr h
  have hS : va_S A s.heap s.heap [] := va_S.rf
  have hP : va_P D vwCl [(h0, .inr (6, [.int th, .int (nI mo), .ref r2, .int st, .int pe, .ref r5, .ref r6, .ref r7, .int (nI nc), .int (nI bn), .ref r10, .ref r11, .ref r12, .ref r13, .int (nI ln), .ref r15, .ref r16, .ref r17, .ref r18, .int (nI ac)])), (r2, .inl (cJ, 256, .inr (.inl mm)))] s.heap := hP
  have hl := lv_entry ([.ref h0, .int x, .int y, .int la, .long its]) (n := 7) (Nat.le_of_ble_eq_true rfl)
  rw [lg_entry_eq]
  generalize (lg_sl ([.ref h0, .int x, .int y, .int la, .long its]) ++ List.replicate (7 - (lg_sl ([.ref h0, .int x, .int y, .int la, .long its])).length) Slot.unset).toArray = ls at hl ⊢
  have hl : lv_has ls 7 [(0, .ref h0), (1, .int x), (2, .int y), (3, .int la), (4, .long its)] := hl
  refine lv_iload_n hx hb dX6_mass_0 rfl (lv_at hl 1 rfl) ?_
  refine lv_iload_n hx hb dX6_mass_1 rfl (lv_at hl 2 rfl) ?_
  refine gv_pi (va_runS (As := [.int x, .int y]) (rest := []) ⟨hx, hb, hml, hown, hts⟩ (ct_X6_isCell l x y) (va_cwS 2 hts gX6_mass_X6_isCell rfl rfl rfl (by decide +kernel) ⟨Nat.le_of_ble_eq_true rfl, Nat.le_of_ble_eq_true rfl⟩) gv_p0 rfl rfl hl.1 rfl (lv_room (Nat.le_of_ble_eq_true rfl)) dX6_mass_2 ⟨Nat.le_of_ble_eq_true rfl, Nat.le_of_ble_eq_true rfl⟩) (fun q1 h1 => ?_)
  refine gv_mg (fun v : Int32 => v = gv_10 (vp_in x 8 ∧ vp_in y 8 ∧ vp_in la 3)) 25 [] (fun v6 hv_v6 => ?_) (fun K_1 => ?_)
  · skip
    refine lv_istore (lv' := [(6, .int v6), (0, .ref h0), (1, .int x), (2, .int y), (3, .int la), (4, .long its)]) hx hb dX6_mass_25 hl (by decide) rfl (fun ls hl => ?_)
    refine lv_aload_n hx hb dX6_mass_27 rfl (lv_at hl 1 rfl) ?_
    refine gv_mg (fun v : Int32 => v = gv_02 (vp_in x 8 ∧ vp_in y 8 ∧ vp_in la 3) (0 ≤ its ∧ its ≤ 40000000000)) 54 [.ref h0] (fun tv hv_tv => ?_) (fun K_2 => ?_)
    · skip
      subst hv_tv
      refine gv_mi (wc := [(h0, .inr (6, [.int th, .int (nI mo), .ref r2, .int st, .int pe, .ref r5, .ref r6, .ref r7, .int (nI nc), .int (nI bn), .ref r10, .ref r11, .ref r12, .ref r13, .int (nI ln), .ref r15, .ref r16, .ref r17, .ref r18, .int (nI ac)]))]) (wr := [(r2, .inl (cJ, 256, .inr (.inl mm)))]) (w2 := (fun u => [(h0, .inr (6, [.int (gv_02 (vp_in x 8 ∧ vp_in y 8 ∧ vp_in la 3) (0 ≤ its ∧ its ≤ 40000000000)), .int (nI mo), .ref r2, .int st, .int pe, .ref r5, .ref r6, .ref r7, .int (nI nc), .int (nI bn), .ref r10, .ref r11, .ref r12, .ref r13, .int (nI ln), .ref r15, .ref r16, .ref r17, .ref r18, .int (nI ac)])), (r2, .inl (cJ, 256, .inr (.inl mm)))])) (va_runV (As := [.int (gv_02 (vp_in x 8 ∧ vp_in y 8 ∧ vp_in la 3) (0 ≤ its ∧ its ≤ 40000000000))]) (rest := []) ⟨hx, hb, hml, hown, hts⟩ (ct_X6_holds l D cI cJ s.heap.size h0 r2 r5 r6 r7 r10 r11 r12 r13 r15 r16 r17 r18 th st pe mo nc bn ln ac (gv_02 (vp_in x 8 ∧ vp_in y 8 ∧ vp_in la 3) (0 ≤ its ∧ its ≤ 40000000000))) (cwV 1 hts gX6_mass_X6_holds rfl rfl rfl (by decide +kernel) ⟨Nat.le_of_ble_eq_true rfl, Nat.le_of_ble_eq_true rfl⟩) (gv_pV (wc := [(h0, .inr (6, [.int th, .int (nI mo), .ref r2, .int st, .int pe, .ref r5, .ref r6, .ref r7, .int (nI nc), .int (nI bn), .ref r10, .ref r11, .ref r12, .ref r13, .int (nI ln), .ref r15, .ref r16, .ref r17, .ref r18, .int (nI ac)]))]) hP hK hD hG [0] rfl (by decide) 0 rfl rfl rfl) rfl rfl hl.1 rfl (lv_room (Nat.le_of_ble_eq_true rfl)) dX6_mass_54 ⟨Nat.le_of_ble_eq_true rfl, Nat.le_of_ble_eq_true rfl⟩) hP hD hS hA [0] [1] [1, 0] rfl rfl (by decide) (by decide) (fun u => rfl) (by decide) (fun rh u H locs hrh hP hD hS => ?_)
      have hP : va_P D vwCl [(h0, .inr (6, [.int (gv_02 (vp_in x 8 ∧ vp_in y 8 ∧ vp_in la 3) (0 ≤ its ∧ its ≤ 40000000000)), .int (nI mo), .ref r2, .int st, .int pe, .ref r5, .ref r6, .ref r7, .int (nI nc), .int (nI bn), .ref r10, .ref r11, .ref r12, .ref r13, .int (nI ln), .ref r15, .ref r16, .ref r17, .ref r18, .int (nI ac)])), (r2, .inl (cJ, 256, .inr (.inl mm)))] H := hP
      have hD : va_D A [(h0, .inr (6, [.int (gv_02 (vp_in x 8 ∧ vp_in y 8 ∧ vp_in la 3) (0 ≤ its ∧ its ≤ 40000000000)), .int (nI mo), .ref r2, .int st, .int pe, .ref r5, .ref r6, .ref r7, .int (nI nc), .int (nI bn), .ref r10, .ref r11, .ref r12, .ref r13, .int (nI ln), .ref r15, .ref r16, .ref r17, .ref r18, .int (nI ac)])), (r2, .inl (cJ, 256, .inr (.inl mm)))] := hD
      refine lv_if_eq (tgt := 80) hx hb dX6_mass_57 (by decide) (fun c_57 => ?_) (fun c_57 => ?_)
      · skip
        have hno := gv_if0 hrh c_57
        refine lv_lconst (v := 0) hx hb dX6_mass_80 (by decide) ?_
        have hpo : let mm9 := mm; (∀ a b k, a < 8 → b < 8 → k < 3 → x = nI a → y = nI b → la = nI k → (0 ≤ its ∧ its ≤ 40000000000) → 0 = mm (64 * k + 8 * b + a) ∧ mm9 = vp_updL mm (64 * k + 8 * b + a) its) ∧ (¬ gv_02 (vp_in x 8 ∧ vp_in y 8 ∧ vp_in la 3) (0 ≤ its ∧ its ≤ 40000000000) = 0 → mm9 = mm) := by
          exact ⟨fun a b k ha hb hk ea eb ek h => absurd (gv_02c ⟨by rw [ea]; exact vp_in_nI ha (by decide), by rw [eb]; exact vp_in_nI hb (by decide), by rw [ek]; exact vp_in_nI hk (by decide)⟩ h).symm hno, fun _ => rfl⟩
        have hP9 : va_P D vwCl [(h0, .inr (6, [.int (gv_02 (vp_in x 8 ∧ vp_in y 8 ∧ vp_in la 3) (0 ≤ its ∧ its ≤ 40000000000)), .int (nI mo), .ref r2, .int st, .int pe, .ref r5, .ref r6, .ref r7, .int (nI nc), .int (nI bn), .ref r10, .ref r11, .ref r12, .ref r13, .int (nI ln), .ref r15, .ref r16, .ref r17, .ref r18, .int (nI ac)])), (r2, .inl (cJ, 256, .inr (.inl mm)))] H := hP
        have hD9 : va_D A [(h0, .inr (6, [.int (gv_02 (vp_in x 8 ∧ vp_in y 8 ∧ vp_in la 3) (0 ≤ its ∧ its ≤ 40000000000)), .int (nI mo), .ref r2, .int st, .int pe, .ref r5, .ref r6, .ref r7, .int (nI nc), .int (nI bn), .ref r10, .ref r11, .ref r12, .ref r13, .int (nI ln), .ref r15, .ref r16, .ref r17, .ref r18, .int (nI ac)])), (r2, .inl (cJ, 256, .inr (.inl mm)))] := hD
        exact W.lret (v := 0) hx hb hr (fun t9 ht9 hW9 => ⟨⟨0, mm, rfl, hpo, by rw [ht9]; exact hP9, hD9⟩, hS.F ht9⟩) hS.2.2 dX6_mass_81
      · skip
        have hok := gv_02z (gv_if1 hrh c_57)
        obtain ⟨a, ha8, ea⟩ := vp_in_of (hok.1).1 (by decide)
        obtain ⟨b, hb8, eb⟩ := vp_in_of (hok.1).2.1 (by decide)
        rw [ea] at hl
        have hl : lv_has ls 7 [(6, .int v6), (0, .ref h0), (1, .int (nI a)), (2, .int y), (3, .int la), (4, .long its)] := hl
        rw [eb] at hl
        have hl : lv_has ls 7 [(6, .int v6), (0, .ref h0), (1, .int (nI a)), (2, .int (nI b)), (3, .int la), (4, .long its)] := hl
        obtain ⟨k, hk3, ek⟩ := vp_in_of (hok.1).2.2 (by decide)
        rw [ek] at hl
        have hl : lv_has ls 7 [(6, .int v6), (0, .ref h0), (1, .int (nI a)), (2, .int (nI b)), (3, .int (nI k)), (4, .long its)] := hl
        refine lv_aload_n hx hb dX6_mass_60 rfl (lv_at hl 1 rfl) ?_
        refine lv_bipush (v := nI 64) hx hb dX6_mass_61 (by decide) ?_
        refine lv_iload_n hx hb dX6_mass_63 rfl (lv_at hl 4 rfl) ?_
        refine lv_imul hx hb dX6_mass_64 ?_
        refine gv_wi (pk_mul 64 k) ?_
        refine lv_bipush (v := nI 8) hx hb dX6_mass_65 (by decide) ?_
        refine lv_iload_n hx hb dX6_mass_67 rfl (lv_at hl 3 rfl) ?_
        refine lv_imul hx hb dX6_mass_68 ?_
        refine gv_wi (pk_mul 8 b) ?_
        refine lv_iadd hx hb dX6_mass_69 ?_
        refine gv_wi (nI_add (64 * k) (8 * b)) ?_
        refine lv_iload_n hx hb dX6_mass_70 rfl (lv_at hl 2 rfl) ?_
        refine lv_iadd hx hb dX6_mass_71 ?_
        refine gv_wi (nI_add (64 * k + (8 * b)) a) ?_
        refine lv_lload hx hb dX6_mass_72 (lv_at hl 5 rfl) ?_
        refine gv_ml (wc := [(h0, .inr (6, [.int (gv_02 (vp_in x 8 ∧ vp_in y 8 ∧ vp_in la 3) (0 ≤ its ∧ its ≤ 40000000000)), .int (nI mo), .ref r2, .int st, .int pe, .ref r5, .ref r6, .ref r7, .int (nI nc), .int (nI bn), .ref r10, .ref r11, .ref r12, .ref r13, .int (nI ln), .ref r15, .ref r16, .ref r17, .ref r18, .int (nI ac)])), (r2, .inl (cJ, 256, .inr (.inl mm)))]) (wr := []) (w2 := (fun u => [(h0, .inr (6, [.int (gv_02 (vp_in x 8 ∧ vp_in y 8 ∧ vp_in la 3) (0 ≤ its ∧ its ≤ 40000000000)), .int (nI mo), .ref r2, .int st, .int pe, .ref r5, .ref r6, .ref r7, .int (nI nc), .int (nI bn), .ref r10, .ref r11, .ref r12, .ref r13, .int (nI ln), .ref r15, .ref r16, .ref r17, .ref r18, .int (nI ac)])), (r2, .inl (cJ, 256, .inr (.inl (vp_updL mm (64 * k + 8 * b + a) its))))])) (va_runV (As := [.int (nI ((64 * k + (8 * b)) + a)), .long its]) (rest := []) ⟨hx, hb, hml, hown, hts⟩ (ct_X6_changed l D cI cJ H.size h0 r2 r5 r6 r7 r10 r11 r12 r13 r15 r16 r17 r18 (gv_02 (vp_in x 8 ∧ vp_in y 8 ∧ vp_in la 3) (0 ≤ its ∧ its ≤ 40000000000)) st pe mo nc bn ln ac mm (64 * k + 8 * b + a) its (by omega)) (cwV 2 hts gX6_mass_X6_changed rfl rfl rfl (by decide +kernel) ⟨Nat.le_of_ble_eq_true rfl, Nat.le_of_ble_eq_true rfl⟩) (gv_pV (wc := [(h0, .inr (6, [.int (gv_02 (vp_in x 8 ∧ vp_in y 8 ∧ vp_in la 3) (0 ≤ its ∧ its ≤ 40000000000)), .int (nI mo), .ref r2, .int st, .int pe, .ref r5, .ref r6, .ref r7, .int (nI nc), .int (nI bn), .ref r10, .ref r11, .ref r12, .ref r13, .int (nI ln), .ref r15, .ref r16, .ref r17, .ref r18, .int (nI ac)])), (r2, .inl (cJ, 256, .inr (.inl mm)))]) hP hK hD hG [0, 1] rfl (by decide) 0 rfl rfl rfl) rfl rfl hl.1 rfl (lv_room (Nat.le_of_ble_eq_true rfl)) dX6_mass_74 ⟨Nat.le_of_ble_eq_true rfl, Nat.le_of_ble_eq_true rfl⟩) hP hD hS hA [0, 1] [] [0, 1] rfl rfl (by decide) (by decide) (fun u => rfl) (by decide) (fun rc u H locs hrc hP hD hS => ?_)
        have hP : va_P D vwCl [(h0, .inr (6, [.int (gv_02 (vp_in x 8 ∧ vp_in y 8 ∧ vp_in la 3) (0 ≤ its ∧ its ≤ 40000000000)), .int (nI mo), .ref r2, .int st, .int pe, .ref r5, .ref r6, .ref r7, .int (nI nc), .int (nI bn), .ref r10, .ref r11, .ref r12, .ref r13, .int (nI ln), .ref r15, .ref r16, .ref r17, .ref r18, .int (nI ac)])), (r2, .inl (cJ, 256, .inr (.inl (vp_updL mm (64 * k + 8 * b + a) its))))] H := hP
        have hD : va_D A [(h0, .inr (6, [.int (gv_02 (vp_in x 8 ∧ vp_in y 8 ∧ vp_in la 3) (0 ≤ its ∧ its ≤ 40000000000)), .int (nI mo), .ref r2, .int st, .int pe, .ref r5, .ref r6, .ref r7, .int (nI nc), .int (nI bn), .ref r10, .ref r11, .ref r12, .ref r13, .int (nI ln), .ref r15, .ref r16, .ref r17, .ref r18, .int (nI ac)])), (r2, .inl (cJ, 256, .inr (.inl (vp_updL mm (64 * k + 8 * b + a) its))))] := hD
        refine lv_goto (tgt := 81) hx hb dX6_mass_77 (by decide) ?_
        have hpo : let mm9 := (vp_updL mm (64 * k + 8 * b + a) its); (∀ a b k, a < 8 → b < 8 → k < 3 → x = nI a → y = nI b → la = nI k → (0 ≤ its ∧ its ≤ 40000000000) → rc = mm (64 * k + 8 * b + a) ∧ mm9 = vp_updL mm (64 * k + 8 * b + a) its) ∧ (¬ gv_02 (vp_in x 8 ∧ vp_in y 8 ∧ vp_in la 3) (0 ≤ its ∧ its ≤ 40000000000) = 0 → mm9 = mm) := by
          refine ⟨fun a2 b2 k2 ha hb hk ea2 eb2 ek2 h => ?_, fun z => absurd (gv_if1 hrh c_57) z⟩
          cases gv_inj (ea2.symm.trans ea) (by omega) (by omega)
          cases gv_inj (eb2.symm.trans eb) (by omega) (by omega)
          cases gv_inj (ek2.symm.trans ek) (by omega) (by omega)
          exact ⟨hrc, rfl⟩
        have hP9 : va_P D vwCl [(h0, .inr (6, [.int (gv_02 (vp_in x 8 ∧ vp_in y 8 ∧ vp_in la 3) (0 ≤ its ∧ its ≤ 40000000000)), .int (nI mo), .ref r2, .int st, .int pe, .ref r5, .ref r6, .ref r7, .int (nI nc), .int (nI bn), .ref r10, .ref r11, .ref r12, .ref r13, .int (nI ln), .ref r15, .ref r16, .ref r17, .ref r18, .int (nI ac)])), (r2, .inl (cJ, 256, .inr (.inl (vp_updL mm (64 * k + 8 * b + a) its))))] H := hP
        have hD9 : va_D A [(h0, .inr (6, [.int (gv_02 (vp_in x 8 ∧ vp_in y 8 ∧ vp_in la 3) (0 ≤ its ∧ its ≤ 40000000000)), .int (nI mo), .ref r2, .int st, .int pe, .ref r5, .ref r6, .ref r7, .int (nI nc), .int (nI bn), .ref r10, .ref r11, .ref r12, .ref r13, .int (nI ln), .ref r15, .ref r16, .ref r17, .ref r18, .int (nI ac)])), (r2, .inl (cJ, 256, .inr (.inl (vp_updL mm (64 * k + 8 * b + a) its))))] := hD
        exact W.lret (v := rc) hx hb hr (fun t9 ht9 hW9 => ⟨⟨rc, (vp_updL mm (64 * k + 8 * b + a) its), rfl, hpo, by rw [ht9]; exact hP9, hD9⟩, hS.F ht9⟩) hS.2.2 dX6_mass_81
    · skip
      refine lv_iload hx hb dX6_mass_28 (lv_at hl 0 rfl) ?_
      refine lv_if_ne (tgt := 37) hx hb dX6_mass_30 (by decide) (fun c_30 => ?_) (fun c_30 => ?_)
      · skip
        refine lv_lload hx hb dX6_mass_37 (lv_at hl 5 rfl) ?_
        refine lv_lconst (v := 0) hx hb dX6_mass_39 (by decide) ?_
        refine lv_ldc2 hx hb hown (hts (.constantLong RX6 78 (40000000000)) (by decide +kernel)) dX6_mass_40 ?_
        refine gv_pi (va_runS (As := [.long its, .long 0, .long 40000000000]) (rest := [.ref h0]) ⟨hx, hb, hml, hown, hts⟩ (ct_X6_isIn l its 0 40000000000) (va_cwS 3 hts gX6_mass_X6_isIn rfl rfl rfl (by decide +kernel) ⟨Nat.le_of_ble_eq_true rfl, Nat.le_of_ble_eq_true rfl⟩) gv_p0 rfl rfl hl.1 rfl (lv_room (Nat.le_of_ble_eq_true rfl)) dX6_mass_43 ⟨Nat.le_of_ble_eq_true rfl, Nat.le_of_ble_eq_true rfl⟩) (fun q3 h3 => ?_)
        refine lv_if_ne (tgt := 53) hx hb dX6_mass_46 (by decide) (fun c_46 => ?_) (fun c_46 => ?_)
        · skip
          refine lv_iconst (v := nI 0) hx hb dX6_mass_53 (by decide) ?_
          exact K_2 _ (by first | exact gv_02a (gv_if0 hv_v6 c_30) | exact gv_02b (gv_if1 hv_v6 c_30) (gv_if0 h3 c_46) | exact gv_02c (gv_if1 hv_v6 c_30) (gv_if1 h3 c_46))
        · skip
          refine lv_iconst (v := nI 2) hx hb dX6_mass_49 (by decide) ?_
          refine lv_goto (tgt := 54) hx hb dX6_mass_50 (by decide) ?_
          exact K_2 _ (by first | exact gv_02a (gv_if0 hv_v6 c_30) | exact gv_02b (gv_if1 hv_v6 c_30) (gv_if0 h3 c_46) | exact gv_02c (gv_if1 hv_v6 c_30) (gv_if1 h3 c_46))
      · skip
        refine lv_iconst (v := nI 1) hx hb dX6_mass_33 (by decide) ?_
        refine lv_goto (tgt := 54) hx hb dX6_mass_34 (by decide) ?_
        exact K_2 _ (by first | exact gv_02a (gv_if0 hv_v6 c_30) | exact gv_02b (gv_if1 hv_v6 c_30) (gv_if0 h3 c_46) | exact gv_02c (gv_if1 hv_v6 c_30) (gv_if1 h3 c_46))
  · skip
    refine lv_if_eq (tgt := 24) hx hb dX6_mass_5 (by decide) (fun c_5 => ?_) (fun c_5 => ?_)
    · skip
      refine lv_iconst (v := nI 0) hx hb dX6_mass_24 (by decide) ?_
      exact K_1 _ (by first | exact gv_10t ⟨(gv_if1 h1 c_5).1, (gv_if1 h1 c_5).2, (gv_is3 la).mp (gv_if1 h2 c_17)⟩ | exact gv_10f (fun z => gv_if0 h1 c_5 ⟨z.1, z.2.1⟩) | exact gv_10f (fun z => gv_if0 h2 c_17 ((gv_is3 la).mpr z.2.2)))
    · skip
      refine lv_iload_n hx hb dX6_mass_8 rfl (lv_at hl 3 rfl) ?_
      refine lv_i2l (v := la.toInt64) hx hb dX6_mass_9 rfl ?_
      refine lv_lconst (v := 0) hx hb dX6_mass_10 (by decide) ?_
      refine lv_ldc2 hx hb hown (hts (.constantLong RX6 76 (2)) (by decide +kernel)) dX6_mass_11 ?_
      refine gv_pi (va_runS (As := [.long la.toInt64, .long 0, .long 2]) (rest := []) ⟨hx, hb, hml, hown, hts⟩ (ct_X6_isIn l la.toInt64 0 2) (va_cwS 3 hts gX6_mass_X6_isIn rfl rfl rfl (by decide +kernel) ⟨Nat.le_of_ble_eq_true rfl, Nat.le_of_ble_eq_true rfl⟩) gv_p0 rfl rfl hl.1 rfl (lv_room (Nat.le_of_ble_eq_true rfl)) dX6_mass_14 ⟨Nat.le_of_ble_eq_true rfl, Nat.le_of_ble_eq_true rfl⟩) (fun q2 h2 => ?_)
      refine lv_if_eq (tgt := 24) hx hb dX6_mass_17 (by decide) (fun c_17 => ?_) (fun c_17 => ?_)
      · skip
        refine lv_iconst (v := nI 0) hx hb dX6_mass_24 (by decide) ?_
        exact K_1 _ (by first | exact gv_10t ⟨(gv_if1 h1 c_5).1, (gv_if1 h1 c_5).2, (gv_is3 la).mp (gv_if1 h2 c_17)⟩ | exact gv_10f (fun z => gv_if0 h1 c_5 ⟨z.1, z.2.1⟩) | exact gv_10f (fun z => gv_if0 h2 c_17 ((gv_is3 la).mpr z.2.2)))
      · skip
        refine lv_iconst (v := nI 1) hx hb dX6_mass_20 (by decide) ?_
        refine lv_goto (tgt := 25) hx hb dX6_mass_21 (by decide) ?_
        exact K_1 _ (by first | exact gv_10t ⟨(gv_if1 h1 c_5).1, (gv_if1 h1 c_5).2, (gv_is3 la).mp (gv_if1 h2 c_17)⟩ | exact gv_10f (fun z => gv_if0 h1 c_5 ⟨z.1, z.2.1⟩) | exact gv_10f (fun z => gv_if0 h2 c_17 ((gv_is3 la).mpr z.2.2)))
set_option maxHeartbeats 4000000 in
set_option maxRecDepth 100000 in
theorem ct_X6_water (l : Launch) (D : va_G) (cI cJ : ClassId) (sz : Nat) (h0 r2 r5 r6 r7 r10 r11 r12 r13 r15 r16 r17 r18 : Nat) (th st pe : Int32) (mo nc bn ln ac : Nat) (mm : Nat → Int64) (x y : Int32) (its : Int64)  : Met l yX6_water wsX6_water ({ frames := 2, cells := 0, slots := 0, locals := 46 }) (va_Pc [.ref h0, .int x, .int y, .long its] (gv_B D cI cJ [(h0, .inr (6, [.int th, .int (nI mo), .ref r2, .int st, .int pe, .ref r5, .ref r6, .ref r7, .int (nI nc), .int (nI bn), .ref r10, .ref r11, .ref r12, .ref r13, .int (nI ln), .ref r15, .ref r16, .ref r17, .ref r18, .int (nI ac)])), (r2, .inl (cJ, 256, .inr (.inl mm)))] sz)) (va_Ql (fun (r9 : Int64) (u9 : Nat → Int64) => let mm9 := u9; (∀ a b, a < 8 → b < 8 → x = nI a → y = nI b → (0 ≤ its ∧ its ≤ 1000000000) → r9 = mm (192 + 8 * b + a) ∧ mm9 = vp_updL mm (192 + 8 * b + a) its) ∧ (¬ gv_02 (vp_in x 8 ∧ vp_in y 8) (0 ≤ its ∧ its ≤ 1000000000) = 0 → mm9 = mm)) (fun (u9 : Nat → Int64) t9 => gv_W D (va_A [(h0, .inr (6, [.int th, .int (nI mo), .ref r2, .int st, .int pe, .ref r5, .ref r6, .ref r7, .int (nI nc), .int (nI bn), .ref r10, .ref r11, .ref r12, .ref r13, .int (nI ln), .ref r15, .ref r16, .ref r17, .ref r18, .int (nI ac)])), (r2, .inl (cJ, 256, .inr (.inl mm)))] sz) (let mm9 := u9; [(h0, .inr (6, [.int (gv_02 (vp_in x 8 ∧ vp_in y 8) (0 ≤ its ∧ its ≤ 1000000000)), .int (nI mo), .ref r2, .int st, .int pe, .ref r5, .ref r6, .ref r7, .int (nI nc), .int (nI bn), .ref r10, .ref r11, .ref r12, .ref r13, .int (nI ln), .ref r15, .ref r16, .ref r17, .ref r18, .int (nI ac)])), (r2, .inl (cJ, 256, .inr (.inl mm9)))]) t9) (va_A [(h0, .inr (6, [.int th, .int (nI mo), .ref r2, .int st, .int pe, .ref r5, .ref r6, .ref r7, .int (nI nc), .int (nI bn), .ref r10, .ref r11, .ref r12, .ref r13, .int (nI ln), .ref r15, .ref r16, .ref r17, .ref r18, .int (nI ac)])), (r2, .inl (cJ, 256, .inr (.inl mm)))] sz)) 0 0 (va_A [(h0, .inr (6, [.int th, .int (nI mo), .ref r2, .int st, .int pe, .ref r5, .ref r6, .ref r7, .int (nI nc), .int (nI bn), .ref r10, .ref r11, .ref r12, .ref r13, .int (nI ln), .ref r15, .ref r16, .ref r17, .ref r18, .int (nI ac)])), (r2, .inl (cJ, 256, .inr (.inl mm)))] sz) := by
  refine Met.ofW (cc := cX6_water) (maxL := 6) (ret := (some .long)) (by decide) rfl ?_
  intro p e s m args below meth c s₁ B hml hv
  obtain ⟨rfl, hsz, hP, hK, hD0, hG⟩ := hv
  have hx := B.exec
  have hb := B.bytes
  have hr := B.returns
  have hts := atoms_spec (ws := wsX6_water) B.pre
  have hown : s.vm.findClass RX6 = some m.cls := findClass_of_methodNamed B.named
  have hlocks := B.notSynchronized
  subst hsz
  have hD := hD0.self (sz := s.heap.size)
  generalize hAe : va_A [(h0, .inr (6, [.int th, .int (nI mo), .ref r2, .int st, .int pe, .ref r5, .ref r6, .ref r7, .int (nI nc), .int (nI bn), .ref r10, .ref r11, .ref r12, .ref r13, .int (nI ln), .ref r15, .ref r16, .ref r17, .ref r18, .int (nI ac)])), (r2, .inl (cJ, 256, .inr (.inl mm)))] s.heap.size = A at hD ⊢
  have hA : ∀ q : Nat, s.heap.size ≤ q → A q := fun q h => by rw [← hAe]; exact Or.inr h
  have hS : va_S A s.heap s.heap [] := va_S.rf
  have hP : va_P D vwCl [(h0, .inr (6, [.int th, .int (nI mo), .ref r2, .int st, .int pe, .ref r5, .ref r6, .ref r7, .int (nI nc), .int (nI bn), .ref r10, .ref r11, .ref r12, .ref r13, .int (nI ln), .ref r15, .ref r16, .ref r17, .ref r18, .int (nI ac)])), (r2, .inl (cJ, 256, .inr (.inl mm)))] s.heap := hP
  have hl := lv_entry ([.ref h0, .int x, .int y, .long its]) (n := 6) (Nat.le_of_ble_eq_true rfl)
  rw [lg_entry_eq]
  generalize (lg_sl ([.ref h0, .int x, .int y, .long its]) ++ List.replicate (6 - (lg_sl ([.ref h0, .int x, .int y, .long its])).length) Slot.unset).toArray = ls at hl ⊢
  have hl : lv_has ls 6 [(0, .ref h0), (1, .int x), (2, .int y), (3, .long its)] := hl
  refine lv_iload_n hx hb dX6_water_0 rfl (lv_at hl 1 rfl) ?_
  refine lv_iload_n hx hb dX6_water_1 rfl (lv_at hl 2 rfl) ?_
  refine gv_pi (va_runS (As := [.int x, .int y]) (rest := []) ⟨hx, hb, hml, hown, hts⟩ (ct_X6_isCell l x y) (va_cwS 2 hts gX6_water_X6_isCell rfl rfl rfl (by decide +kernel) ⟨Nat.le_of_ble_eq_true rfl, Nat.le_of_ble_eq_true rfl⟩) gv_p0 rfl rfl hl.1 rfl (lv_room (Nat.le_of_ble_eq_true rfl)) dX6_water_2 ⟨Nat.le_of_ble_eq_true rfl, Nat.le_of_ble_eq_true rfl⟩) (fun q1 h1 => ?_)
  refine lv_istore (lv' := [(5, .int q1), (0, .ref h0), (1, .int x), (2, .int y), (3, .long its)]) hx hb dX6_water_5 hl (by decide) rfl (fun ls hl => ?_)
  refine lv_aload_n hx hb dX6_water_7 rfl (lv_at hl 1 rfl) ?_
  refine gv_mg (fun v : Int32 => v = gv_02 (vp_in x 8 ∧ vp_in y 8) (0 ≤ its ∧ its ≤ 1000000000)) 33 [.ref h0] (fun tv hv_tv => ?_) (fun K_1 => ?_)
  · skip
    subst hv_tv
    refine gv_mi (wc := [(h0, .inr (6, [.int th, .int (nI mo), .ref r2, .int st, .int pe, .ref r5, .ref r6, .ref r7, .int (nI nc), .int (nI bn), .ref r10, .ref r11, .ref r12, .ref r13, .int (nI ln), .ref r15, .ref r16, .ref r17, .ref r18, .int (nI ac)]))]) (wr := [(r2, .inl (cJ, 256, .inr (.inl mm)))]) (w2 := (fun u => [(h0, .inr (6, [.int (gv_02 (vp_in x 8 ∧ vp_in y 8) (0 ≤ its ∧ its ≤ 1000000000)), .int (nI mo), .ref r2, .int st, .int pe, .ref r5, .ref r6, .ref r7, .int (nI nc), .int (nI bn), .ref r10, .ref r11, .ref r12, .ref r13, .int (nI ln), .ref r15, .ref r16, .ref r17, .ref r18, .int (nI ac)])), (r2, .inl (cJ, 256, .inr (.inl mm)))])) (va_runV (As := [.int (gv_02 (vp_in x 8 ∧ vp_in y 8) (0 ≤ its ∧ its ≤ 1000000000))]) (rest := []) ⟨hx, hb, hml, hown, hts⟩ (ct_X6_holds l D cI cJ s.heap.size h0 r2 r5 r6 r7 r10 r11 r12 r13 r15 r16 r17 r18 th st pe mo nc bn ln ac (gv_02 (vp_in x 8 ∧ vp_in y 8) (0 ≤ its ∧ its ≤ 1000000000))) (cwV 1 hts gX6_water_X6_holds rfl rfl rfl (by decide +kernel) ⟨Nat.le_of_ble_eq_true rfl, Nat.le_of_ble_eq_true rfl⟩) (gv_pV (wc := [(h0, .inr (6, [.int th, .int (nI mo), .ref r2, .int st, .int pe, .ref r5, .ref r6, .ref r7, .int (nI nc), .int (nI bn), .ref r10, .ref r11, .ref r12, .ref r13, .int (nI ln), .ref r15, .ref r16, .ref r17, .ref r18, .int (nI ac)]))]) hP hK hD hG [0] rfl (by decide) 0 rfl rfl rfl) rfl rfl hl.1 rfl (lv_room (Nat.le_of_ble_eq_true rfl)) dX6_water_33 ⟨Nat.le_of_ble_eq_true rfl, Nat.le_of_ble_eq_true rfl⟩) hP hD hS hA [0] [1] [1, 0] rfl rfl (by decide) (by decide) (fun u => rfl) (by decide) (fun rh u H locs hrh hP hD hS => ?_)
    have hP : va_P D vwCl [(h0, .inr (6, [.int (gv_02 (vp_in x 8 ∧ vp_in y 8) (0 ≤ its ∧ its ≤ 1000000000)), .int (nI mo), .ref r2, .int st, .int pe, .ref r5, .ref r6, .ref r7, .int (nI nc), .int (nI bn), .ref r10, .ref r11, .ref r12, .ref r13, .int (nI ln), .ref r15, .ref r16, .ref r17, .ref r18, .int (nI ac)])), (r2, .inl (cJ, 256, .inr (.inl mm)))] H := hP
    have hD : va_D A [(h0, .inr (6, [.int (gv_02 (vp_in x 8 ∧ vp_in y 8) (0 ≤ its ∧ its ≤ 1000000000)), .int (nI mo), .ref r2, .int st, .int pe, .ref r5, .ref r6, .ref r7, .int (nI nc), .int (nI bn), .ref r10, .ref r11, .ref r12, .ref r13, .int (nI ln), .ref r15, .ref r16, .ref r17, .ref r18, .int (nI ac)])), (r2, .inl (cJ, 256, .inr (.inl mm)))] := hD
    refine lv_if_eq (tgt := 57) hx hb dX6_water_36 (by decide) (fun c_36 => ?_) (fun c_36 => ?_)
    · skip
      have hno := gv_if0 hrh c_36
      refine lv_lconst (v := 0) hx hb dX6_water_57 (by decide) ?_
      have hpo : let mm9 := mm; (∀ a b, a < 8 → b < 8 → x = nI a → y = nI b → (0 ≤ its ∧ its ≤ 1000000000) → 0 = mm (192 + 8 * b + a) ∧ mm9 = vp_updL mm (192 + 8 * b + a) its) ∧ (¬ gv_02 (vp_in x 8 ∧ vp_in y 8) (0 ≤ its ∧ its ≤ 1000000000) = 0 → mm9 = mm) := by
        exact ⟨fun a b ha hb ea eb h => absurd (gv_02c ⟨by rw [ea]; exact vp_in_nI ha (by decide), by rw [eb]; exact vp_in_nI hb (by decide)⟩ h).symm hno, fun _ => rfl⟩
      have hP9 : va_P D vwCl [(h0, .inr (6, [.int (gv_02 (vp_in x 8 ∧ vp_in y 8) (0 ≤ its ∧ its ≤ 1000000000)), .int (nI mo), .ref r2, .int st, .int pe, .ref r5, .ref r6, .ref r7, .int (nI nc), .int (nI bn), .ref r10, .ref r11, .ref r12, .ref r13, .int (nI ln), .ref r15, .ref r16, .ref r17, .ref r18, .int (nI ac)])), (r2, .inl (cJ, 256, .inr (.inl mm)))] H := hP
      have hD9 : va_D A [(h0, .inr (6, [.int (gv_02 (vp_in x 8 ∧ vp_in y 8) (0 ≤ its ∧ its ≤ 1000000000)), .int (nI mo), .ref r2, .int st, .int pe, .ref r5, .ref r6, .ref r7, .int (nI nc), .int (nI bn), .ref r10, .ref r11, .ref r12, .ref r13, .int (nI ln), .ref r15, .ref r16, .ref r17, .ref r18, .int (nI ac)])), (r2, .inl (cJ, 256, .inr (.inl mm)))] := hD
      exact W.lret (v := 0) hx hb hr (fun t9 ht9 hW9 => ⟨⟨0, mm, rfl, hpo, by rw [ht9]; exact hP9, hD9⟩, hS.F ht9⟩) hS.2.2 dX6_water_58
    · skip
      have hok := gv_02z (gv_if1 hrh c_36)
      obtain ⟨a, ha8, ea⟩ := vp_in_of (hok.1).1 (by decide)
      obtain ⟨b, hb8, eb⟩ := vp_in_of (hok.1).2 (by decide)
      rw [ea] at hl
      have hl : lv_has ls 6 [(5, .int q1), (0, .ref h0), (1, .int (nI a)), (2, .int y), (3, .long its)] := hl
      rw [eb] at hl
      have hl : lv_has ls 6 [(5, .int q1), (0, .ref h0), (1, .int (nI a)), (2, .int (nI b)), (3, .long its)] := hl
      refine lv_aload_n hx hb dX6_water_39 rfl (lv_at hl 1 rfl) ?_
      refine lv_sipush (v := nI 192) hx hb dX6_water_40 (by decide) ?_
      refine lv_bipush (v := nI 8) hx hb dX6_water_43 (by decide) ?_
      refine lv_iload_n hx hb dX6_water_45 rfl (lv_at hl 3 rfl) ?_
      refine lv_imul hx hb dX6_water_46 ?_
      refine gv_wi (pk_mul 8 b) ?_
      refine lv_iadd hx hb dX6_water_47 ?_
      refine gv_wi (nI_add 192 (8 * b)) ?_
      refine lv_iload_n hx hb dX6_water_48 rfl (lv_at hl 2 rfl) ?_
      refine lv_iadd hx hb dX6_water_49 ?_
      refine gv_wi (nI_add (192 + (8 * b)) a) ?_
      refine lv_lload_n hx hb dX6_water_50 rfl (lv_at hl 4 rfl) ?_
      refine gv_ml (wc := [(h0, .inr (6, [.int (gv_02 (vp_in x 8 ∧ vp_in y 8) (0 ≤ its ∧ its ≤ 1000000000)), .int (nI mo), .ref r2, .int st, .int pe, .ref r5, .ref r6, .ref r7, .int (nI nc), .int (nI bn), .ref r10, .ref r11, .ref r12, .ref r13, .int (nI ln), .ref r15, .ref r16, .ref r17, .ref r18, .int (nI ac)])), (r2, .inl (cJ, 256, .inr (.inl mm)))]) (wr := []) (w2 := (fun u => [(h0, .inr (6, [.int (gv_02 (vp_in x 8 ∧ vp_in y 8) (0 ≤ its ∧ its ≤ 1000000000)), .int (nI mo), .ref r2, .int st, .int pe, .ref r5, .ref r6, .ref r7, .int (nI nc), .int (nI bn), .ref r10, .ref r11, .ref r12, .ref r13, .int (nI ln), .ref r15, .ref r16, .ref r17, .ref r18, .int (nI ac)])), (r2, .inl (cJ, 256, .inr (.inl (vp_updL mm (192 + 8 * b + a) its))))])) (va_runV (As := [.int (nI ((192 + (8 * b)) + a)), .long its]) (rest := []) ⟨hx, hb, hml, hown, hts⟩ (ct_X6_changed l D cI cJ H.size h0 r2 r5 r6 r7 r10 r11 r12 r13 r15 r16 r17 r18 (gv_02 (vp_in x 8 ∧ vp_in y 8) (0 ≤ its ∧ its ≤ 1000000000)) st pe mo nc bn ln ac mm (192 + 8 * b + a) its (by omega)) (cwV 2 hts gX6_water_X6_changed rfl rfl rfl (by decide +kernel) ⟨Nat.le_of_ble_eq_true rfl, Nat.le_of_ble_eq_true rfl⟩) (gv_pV (wc := [(h0, .inr (6, [.int (gv_02 (vp_in x 8 ∧ vp_in y 8) (0 ≤ its ∧ its ≤ 1000000000)), .int (nI mo), .ref r2, .int st, .int pe, .ref r5, .ref r6, .ref r7, .int (nI nc), .int (nI bn), .ref r10, .ref r11, .ref r12, .ref r13, .int (nI ln), .ref r15, .ref r16, .ref r17, .ref r18, .int (nI ac)])), (r2, .inl (cJ, 256, .inr (.inl mm)))]) hP hK hD hG [0, 1] rfl (by decide) 0 rfl rfl rfl) rfl rfl hl.1 rfl (lv_room (Nat.le_of_ble_eq_true rfl)) dX6_water_51 ⟨Nat.le_of_ble_eq_true rfl, Nat.le_of_ble_eq_true rfl⟩) hP hD hS hA [0, 1] [] [0, 1] rfl rfl (by decide) (by decide) (fun u => rfl) (by decide) (fun rc u H locs hrc hP hD hS => ?_)
      have hP : va_P D vwCl [(h0, .inr (6, [.int (gv_02 (vp_in x 8 ∧ vp_in y 8) (0 ≤ its ∧ its ≤ 1000000000)), .int (nI mo), .ref r2, .int st, .int pe, .ref r5, .ref r6, .ref r7, .int (nI nc), .int (nI bn), .ref r10, .ref r11, .ref r12, .ref r13, .int (nI ln), .ref r15, .ref r16, .ref r17, .ref r18, .int (nI ac)])), (r2, .inl (cJ, 256, .inr (.inl (vp_updL mm (192 + 8 * b + a) its))))] H := hP
      have hD : va_D A [(h0, .inr (6, [.int (gv_02 (vp_in x 8 ∧ vp_in y 8) (0 ≤ its ∧ its ≤ 1000000000)), .int (nI mo), .ref r2, .int st, .int pe, .ref r5, .ref r6, .ref r7, .int (nI nc), .int (nI bn), .ref r10, .ref r11, .ref r12, .ref r13, .int (nI ln), .ref r15, .ref r16, .ref r17, .ref r18, .int (nI ac)])), (r2, .inl (cJ, 256, .inr (.inl (vp_updL mm (192 + 8 * b + a) its))))] := hD
      refine lv_goto (tgt := 58) hx hb dX6_water_54 (by decide) ?_
      have hpo : let mm9 := (vp_updL mm (192 + 8 * b + a) its); (∀ a b, a < 8 → b < 8 → x = nI a → y = nI b → (0 ≤ its ∧ its ≤ 1000000000) → rc = mm (192 + 8 * b + a) ∧ mm9 = vp_updL mm (192 + 8 * b + a) its) ∧ (¬ gv_02 (vp_in x 8 ∧ vp_in y 8) (0 ≤ its ∧ its ≤ 1000000000) = 0 → mm9 = mm) := by
        refine ⟨fun a2 b2 ha hb ea2 eb2 h => ?_, fun z => absurd (gv_if1 hrh c_36) z⟩
        cases gv_inj (ea2.symm.trans ea) (by omega) (by omega)
        cases gv_inj (eb2.symm.trans eb) (by omega) (by omega)
        exact ⟨hrc, rfl⟩
      have hP9 : va_P D vwCl [(h0, .inr (6, [.int (gv_02 (vp_in x 8 ∧ vp_in y 8) (0 ≤ its ∧ its ≤ 1000000000)), .int (nI mo), .ref r2, .int st, .int pe, .ref r5, .ref r6, .ref r7, .int (nI nc), .int (nI bn), .ref r10, .ref r11, .ref r12, .ref r13, .int (nI ln), .ref r15, .ref r16, .ref r17, .ref r18, .int (nI ac)])), (r2, .inl (cJ, 256, .inr (.inl (vp_updL mm (192 + 8 * b + a) its))))] H := hP
      have hD9 : va_D A [(h0, .inr (6, [.int (gv_02 (vp_in x 8 ∧ vp_in y 8) (0 ≤ its ∧ its ≤ 1000000000)), .int (nI mo), .ref r2, .int st, .int pe, .ref r5, .ref r6, .ref r7, .int (nI nc), .int (nI bn), .ref r10, .ref r11, .ref r12, .ref r13, .int (nI ln), .ref r15, .ref r16, .ref r17, .ref r18, .int (nI ac)])), (r2, .inl (cJ, 256, .inr (.inl (vp_updL mm (192 + 8 * b + a) its))))] := hD
      exact W.lret (v := rc) hx hb hr (fun t9 ht9 hW9 => ⟨⟨rc, (vp_updL mm (192 + 8 * b + a) its), rfl, hpo, by rw [ht9]; exact hP9, hD9⟩, hS.F ht9⟩) hS.2.2 dX6_water_58
  · skip
    refine lv_iload hx hb dX6_water_8 (lv_at hl 0 rfl) ?_
    refine lv_if_ne (tgt := 17) hx hb dX6_water_10 (by decide) (fun c_10 => ?_) (fun c_10 => ?_)
    · skip
      refine lv_lload_n hx hb dX6_water_17 rfl (lv_at hl 4 rfl) ?_
      refine lv_lconst (v := 0) hx hb dX6_water_18 (by decide) ?_
      refine lv_ldc2 hx hb hown (hts (.constantLong RX6 88 (1000000000)) (by decide +kernel)) dX6_water_19 ?_
      refine gv_pi (va_runS (As := [.long its, .long 0, .long 1000000000]) (rest := [.ref h0]) ⟨hx, hb, hml, hown, hts⟩ (ct_X6_isIn l its 0 1000000000) (va_cwS 3 hts gX6_water_X6_isIn rfl rfl rfl (by decide +kernel) ⟨Nat.le_of_ble_eq_true rfl, Nat.le_of_ble_eq_true rfl⟩) gv_p0 rfl rfl hl.1 rfl (lv_room (Nat.le_of_ble_eq_true rfl)) dX6_water_22 ⟨Nat.le_of_ble_eq_true rfl, Nat.le_of_ble_eq_true rfl⟩) (fun q3 h3 => ?_)
      refine lv_if_ne (tgt := 32) hx hb dX6_water_25 (by decide) (fun c_25 => ?_) (fun c_25 => ?_)
      · skip
        refine lv_iconst (v := nI 0) hx hb dX6_water_32 (by decide) ?_
        exact K_1 _ (by first | exact gv_02a (gv_if0 h1 c_10) | exact gv_02b (gv_if1 h1 c_10) (gv_if0 h3 c_25) | exact gv_02c (gv_if1 h1 c_10) (gv_if1 h3 c_25))
      · skip
        refine lv_iconst (v := nI 2) hx hb dX6_water_28 (by decide) ?_
        refine lv_goto (tgt := 33) hx hb dX6_water_29 (by decide) ?_
        exact K_1 _ (by first | exact gv_02a (gv_if0 h1 c_10) | exact gv_02b (gv_if1 h1 c_10) (gv_if0 h3 c_25) | exact gv_02c (gv_if1 h1 c_10) (gv_if1 h3 c_25))
    · skip
      refine lv_iconst (v := nI 1) hx hb dX6_water_13 (by decide) ?_
      refine lv_goto (tgt := 33) hx hb dX6_water_14 (by decide) ?_
      exact K_1 _ (by first | exact gv_02a (gv_if0 h1 c_10) | exact gv_02b (gv_if1 h1 c_10) (gv_if0 h3 c_25) | exact gv_02c (gv_if1 h1 c_10) (gv_if1 h3 c_25))
set_option maxHeartbeats 4000000 in
set_option maxRecDepth 100000 in
theorem ct_X6_pullAt (l : Launch) (D : va_G) (cI cJ : ClassId) (sz : Nat) (h0 r2 r5 r6 r7 r10 r11 r12 r13 r15 r16 r17 r18 : Nat) (th st pe : Int32) (mo nc bn ln ac : Nat) (mm : Nat → Int64) (x y : Nat) (hx8 : x < 8) (hy8 : y < 8) : Met l yX6_pullAt wsX6_pullAt ({ frames := 0, cells := 0, slots := 0, locals := 0 }) (va_Pc [.ref h0, .int (nI x), .int (nI y)] (gv_B D cI cJ [(h0, .inr (6, [.int th, .int (nI mo), .ref r2, .int st, .int pe, .ref r5, .ref r6, .ref r7, .int (nI nc), .int (nI bn), .ref r10, .ref r11, .ref r12, .ref r13, .int (nI ln), .ref r15, .ref r16, .ref r17, .ref r18, .int (nI ac)])), (r2, .inl (cJ, 256, .inr (.inl mm)))] sz)) (vp_Sl (fun r9 : Int64 => r9 = gv_PA mm x y)) 0 0 (fun _ => False) := by
  refine Met.ofW (cc := cX6_pullAt) (maxL := 10) (ret := (some .long)) (by decide) rfl ?_
  intro p e s m args below meth c s₁ B hml hv
  obtain ⟨rfl, hsz, hP, hK, hD0, hG⟩ := hv
  have hx := B.exec
  have hb := B.bytes
  have hr := B.returns
  have hts := atoms_spec (ws := wsX6_pullAt) B.pre
  have hown : s.vm.findClass RX6 = some m.cls := findClass_of_methodNamed B.named
  have hlocks := B.notSynchronized
  subst hsz
  have hD := hD0
  have hP : va_P D vwCl [(h0, .inr (6, [.int th, .int (nI mo), .ref r2, .int st, .int pe, .ref r5, .ref r6, .ref r7, .int (nI nc), .int (nI bn), .ref r10, .ref r11, .ref r12, .ref r13, .int (nI ln), .ref r15, .ref r16, .ref r17, .ref r18, .int (nI ac)])), (r2, .inl (cJ, 256, .inr (.inl mm)))] s.heap := hP
  have hl := lv_entry ([.ref h0, .int (nI x), .int (nI y)]) (n := 10) (Nat.le_of_ble_eq_true rfl)
  rw [lg_entry_eq]
  generalize (lg_sl ([.ref h0, .int (nI x), .int (nI y)]) ++ List.replicate (10 - (lg_sl ([.ref h0, .int (nI x), .int (nI y)])).length) Slot.unset).toArray = ls at hl ⊢
  have hl : lv_has ls 10 [(0, .ref h0), (1, .int (nI x)), (2, .int (nI y))] := hl
  refine lv_lconst (v := 0) hx hb dX6_pullAt_0 (by decide) ?_
  refine lv_lstore_n (lv' := [(3, .long 0), (0, .ref h0), (1, .int (nI x)), (2, .int (nI y))]) hx hb dX6_pullAt_1 rfl hl (by decide) rfl (fun ls hl => ?_)
  refine lv_iconst (v := nI 0) hx hb dX6_pullAt_2 (by decide) ?_
  refine lv_istore (lv' := [(5, .int (nI 0)), (3, .long 0), (0, .ref h0), (1, .int (nI x)), (2, .int (nI y))]) hx hb dX6_pullAt_3 hl (by decide) rfl (fun ls hl => ?_)
  refine gv_lp (σ := Nat × Int64) (fun zq ls => match zq with | (k, sm) => k ≤ 256 ∧ sm = gv_acc 0 (fun k => gv_tm (mm k) k x y) k ∧ lv_has ls 10 [(0, .ref h0), (1, .int (nI x)), (2, .int (nI y)), (3, .long sm), (5, .int (nI k))]) (fun zq => match zq with | (k, sm) => 256 - k) (0, 0) ⟨by omega, rfl, lv_sub hl [2, 3, 4, 1, 0] rfl⟩ (fun zq ls hI ih_5 => ?_)
  obtain ⟨k, sm⟩ := zq
  obtain ⟨hk, hsm, hl⟩ := hI
  refine lv_iload hx hb dX6_pullAt_5 (lv_at hl 4 rfl) ?_
  refine lv_sipush (v := nI 256) hx hb dX6_pullAt_7 (by decide) ?_
  refine lv_icmp_ge (tgt := 98) hx hb dX6_pullAt_10 (by decide) (fun c_10 => ?_) (fun c_10 => ?_)
  · skip
    have c_10 := (nI_leI (a := 256) (b := k) (by omega) (by omega)).mp c_10
    refine lv_lload_n hx hb dX6_pullAt_98 rfl (lv_at hl 3 rfl) ?_
    have hpo : sm = gv_PA mm x y := by
      rw [hsm, show k = 256 by omega]; rfl
    exact W.lret (v := sm) hx hb hr (fun t9 ht9 hW9 => ⟨sm, rfl, hpo, ht9⟩) t_nil dX6_pullAt_99
  · skip
    have c_10 := (not_congr (nI_leI (a := 256) (b := k) (by omega) (by omega))).mp c_10
    refine lv_iload hx hb dX6_pullAt_13 (lv_at hl 4 rfl) ?_
    refine lv_bipush (v := nI 64) hx hb dX6_pullAt_15 (by decide) ?_
    refine lv_idiv hx hb dX6_pullAt_17 (by decide) ?_
    refine gv_wi (pk_div (a := k) (d := 64) (by omega) (by omega) (by omega)) ?_
    refine lv_istore (lv' := [(6, .int (nI (k / 64))), (0, .ref h0), (1, .int (nI x)), (2, .int (nI y)), (3, .long sm), (5, .int (nI k))]) hx hb dX6_pullAt_18 hl (by decide) rfl (fun ls hl => ?_)
    refine lv_iload hx hb dX6_pullAt_20 (lv_at hl 5 rfl) ?_
    refine lv_bipush (v := nI 8) hx hb dX6_pullAt_22 (by decide) ?_
    refine lv_irem hx hb dX6_pullAt_24 (by decide) ?_
    refine gv_wi (pk_rem (a := k) (d := 8) (by omega) (by omega) (by omega)) ?_
    refine lv_iload_n hx hb dX6_pullAt_25 rfl (lv_at hl 2 rfl) ?_
    refine lv_isub hx hb dX6_pullAt_26 ?_
    refine lv_istore (lv' := [(7, .int ((nI (k % 8)) - (nI x))), (6, .int (nI (k / 64))), (0, .ref h0), (1, .int (nI x)), (2, .int (nI y)), (3, .long sm), (5, .int (nI k))]) hx hb dX6_pullAt_27 hl (by decide) rfl (fun ls hl => ?_)
    refine lv_iload hx hb dX6_pullAt_29 (lv_at hl 6 rfl) ?_
    refine lv_bipush (v := nI 64) hx hb dX6_pullAt_31 (by decide) ?_
    refine lv_irem hx hb dX6_pullAt_33 (by decide) ?_
    refine gv_wi (pk_rem (a := k) (d := 64) (by omega) (by omega) (by omega)) ?_
    refine lv_bipush (v := nI 8) hx hb dX6_pullAt_34 (by decide) ?_
    refine lv_idiv hx hb dX6_pullAt_36 (by decide) ?_
    refine gv_wi (pk_div (a := (k % 64)) (d := 8) (by omega) (by omega) (by omega)) ?_
    refine lv_iload_n hx hb dX6_pullAt_37 rfl (lv_at hl 4 rfl) ?_
    refine lv_isub hx hb dX6_pullAt_38 ?_
    refine lv_istore (lv' := [(8, .int ((nI ((k % 64) / 8)) - (nI y))), (7, .int ((nI (k % 8)) - (nI x))), (6, .int (nI (k / 64))), (0, .ref h0), (1, .int (nI x)), (2, .int (nI y)), (3, .long sm), (5, .int (nI k))]) hx hb dX6_pullAt_39 hl (by decide) rfl (fun ls hl => ?_)
    refine gv_mg (fun v : Int32 => v = nI (gv_dp (k / 64))) 60 [] (fun tv hv_tv => ?_) (fun K_1 => ?_)
    · skip
      subst hv_tv
      refine lv_istore (lv' := [(9, .int (nI (gv_dp (k / 64)))), (8, .int ((nI ((k % 64) / 8)) - (nI y))), (7, .int ((nI (k % 8)) - (nI x))), (6, .int (nI (k / 64))), (0, .ref h0), (1, .int (nI x)), (2, .int (nI y)), (3, .long sm), (5, .int (nI k))]) hx hb dX6_pullAt_60 hl (by decide) rfl (fun ls hl => ?_)
      refine lv_lload_n hx hb dX6_pullAt_62 rfl (lv_at hl 7 rfl) ?_
      refine lv_aload_n hx hb dX6_pullAt_63 rfl (lv_at hl 4 rfl) ?_
      refine va_get (D := D) (ci := 6) (v := .ref r2) (C := RX6) (T := TX6) (N := 20) hx hb hts gv_in_X6_pullAt_X6 hown hK hP 0 rfl rfl 2 (by decide) (hts (.fieldLink RX6 7 "GravimereModel" "masses" "[J") (by decide +kernel)) (fun _ h9 => h9) rfl dX6_pullAt_64 ?_
      refine lv_iload hx hb dX6_pullAt_67 (lv_at hl 8 rfl) ?_
      refine gv_ll hx hb hK hP 1 (k := k) rfl (by omega) (by decide) dX6_pullAt_69 ?_
      refine lv_ldc2 hx hb hown (hts (.constantLong RX6 90 (1000000)) (by decide +kernel)) dX6_pullAt_70 ?_
      refine lv_lmul hx hb dX6_pullAt_73 ?_
      refine lv_iload hx hb dX6_pullAt_74 (lv_at hl 2 rfl) ?_
      refine lv_iload hx hb dX6_pullAt_76 (lv_at hl 2 rfl) ?_
      refine lv_imul hx hb dX6_pullAt_78 ?_
      refine lv_iload hx hb dX6_pullAt_79 (lv_at hl 1 rfl) ?_
      refine lv_iload hx hb dX6_pullAt_81 (lv_at hl 1 rfl) ?_
      refine lv_imul hx hb dX6_pullAt_83 ?_
      refine lv_iadd hx hb dX6_pullAt_84 ?_
      refine lv_iload hx hb dX6_pullAt_85 (lv_at hl 0 rfl) ?_
      refine lv_iadd hx hb dX6_pullAt_87 ?_
      refine lv_i2l (v := (((((nI (k % 8)) - (nI x)) * ((nI (k % 8)) - (nI x))) + (((nI ((k % 64) / 8)) - (nI y)) * ((nI ((k % 64) / 8)) - (nI y)))) + (nI (gv_dp (k / 64)))).toInt64) hx hb dX6_pullAt_88 rfl ?_
      refine lv_ldiv hx hb dX6_pullAt_89 (gv_sqm_ne (k := k) (by omega) hx8 hy8) ?_
      refine lv_ladd hx hb dX6_pullAt_90 ?_
      refine lv_lstore_n (lv' := [(3, .long (sm + (((mm k) * 1000000) / ((((((nI (k % 8)) - (nI x)) * ((nI (k % 8)) - (nI x))) + (((nI ((k % 64) / 8)) - (nI y)) * ((nI ((k % 64) / 8)) - (nI y)))) + (nI (gv_dp (k / 64)))).toInt64)))), (9, .int (nI (gv_dp (k / 64)))), (8, .int ((nI ((k % 64) / 8)) - (nI y))), (7, .int ((nI (k % 8)) - (nI x))), (6, .int (nI (k / 64))), (0, .ref h0), (1, .int (nI x)), (2, .int (nI y)), (5, .int (nI k))]) hx hb dX6_pullAt_91 rfl hl (by decide) rfl (fun ls hl => ?_)
      refine lv_iinc (v := nI (k + 1)) (lv' := [(5, .int (nI (k + 1))), (3, .long (sm + (((mm k) * 1000000) / ((((((nI (k % 8)) - (nI x)) * ((nI (k % 8)) - (nI x))) + (((nI ((k % 64) / 8)) - (nI y)) * ((nI ((k % 64) / 8)) - (nI y)))) + (nI (gv_dp (k / 64)))).toInt64)))), (9, .int (nI (gv_dp (k / 64)))), (8, .int ((nI ((k % 64) / 8)) - (nI y))), (7, .int ((nI (k % 8)) - (nI x))), (6, .int (nI (k / 64))), (0, .ref h0), (1, .int (nI x)), (2, .int (nI y))]) hx hb dX6_pullAt_92 hl (k := 8) rfl (nI_add k 1) (by decide) rfl (fun ls hl => ?_)
      refine lv_goto (tgt := 5) hx hb dX6_pullAt_95 (by decide) ?_
      exact ih_5 (k + 1, sm + (((mm k) * 1000000) / ((((((nI (k % 8)) - (nI x)) * ((nI (k % 8)) - (nI x))) + (((nI ((k % 64) / 8)) - (nI y)) * ((nI ((k % 64) / 8)) - (nI y)))) + (nI (gv_dp (k / 64)))).toInt64))) _ ⟨by omega, by rw [gv_acc, hsm]; rfl, lv_sub hl [6, 7, 8, 1, 0] rfl⟩ (by simp only; omega)
    · skip
      refine lv_iload hx hb dX6_pullAt_41 (lv_at hl 2 rfl) ?_
      refine lv_iconst (v := nI 3) hx hb dX6_pullAt_43 (by decide) ?_
      refine lv_icmp_ne (tgt := 51) hx hb dX6_pullAt_44 (by decide) (fun c_44 => ?_) (fun c_44 => ?_)
      · skip
        have c_44 := (not_congr (nI_eq (a := k / 64) (b := 3) (by omega) (by omega))).mp c_44
        refine lv_iload hx hb dX6_pullAt_51 (lv_at hl 2 rfl) ?_
        refine lv_iconst (v := nI 1) hx hb dX6_pullAt_53 (by decide) ?_
        refine lv_iadd hx hb dX6_pullAt_54 ?_
        refine gv_wi (nI_add (k / 64) 1) ?_
        refine lv_iload hx hb dX6_pullAt_55 (lv_at hl 2 rfl) ?_
        refine lv_iconst (v := nI 1) hx hb dX6_pullAt_57 (by decide) ?_
        refine lv_iadd hx hb dX6_pullAt_58 ?_
        refine gv_wi (nI_add (k / 64) 1) ?_
        refine lv_imul hx hb dX6_pullAt_59 ?_
        refine gv_wi (pk_mul ((k / 64) + 1) ((k / 64) + 1)) ?_
        exact K_1 _ (by first | exact congrArg nI (if_pos c_44).symm | exact congrArg nI (if_neg c_44).symm)
      · skip
        have c_44 := (nI_eq (a := k / 64) (b := 3) (by omega) (by omega)).mp c_44
        refine lv_iconst (v := nI 1) hx hb dX6_pullAt_47 (by decide) ?_
        refine lv_goto (tgt := 60) hx hb dX6_pullAt_48 (by decide) ?_
        exact K_1 _ (by first | exact congrArg nI (if_pos c_44).symm | exact congrArg nI (if_neg c_44).symm)
set_option maxHeartbeats 4000000 in
set_option maxRecDepth 100000 in
theorem ct_X6_pull (l : Launch) (D : va_G) (cI cJ : ClassId) (sz : Nat) (h0 r2 r5 r6 r7 r10 r11 r12 r13 r15 r16 r17 r18 : Nat) (th st pe : Int32) (mo nc bn ln ac : Nat) (mm : Nat → Int64) (x y : Int32)  : Met l yX6_pull wsX6_pull ({ frames := 2, cells := 0, slots := 0, locals := 46 }) (va_Pc [.ref h0, .int x, .int y] (gv_B D cI cJ [(h0, .inr (6, [.int th, .int (nI mo), .ref r2, .int st, .int pe, .ref r5, .ref r6, .ref r7, .int (nI nc), .int (nI bn), .ref r10, .ref r11, .ref r12, .ref r13, .int (nI ln), .ref r15, .ref r16, .ref r17, .ref r18, .int (nI ac)])), (r2, .inl (cJ, 256, .inr (.inl mm)))] sz)) (va_Ql (fun (r9 : Int64) (u9 : Unit) => ∀ a b, a < 8 → b < 8 → x = nI a → y = nI b → r9 = gv_PA mm a b) (fun (u9 : Unit) t9 => gv_W D (va_A [(h0, .inr (6, [.int th, .int (nI mo), .ref r2, .int st, .int pe, .ref r5, .ref r6, .ref r7, .int (nI nc), .int (nI bn), .ref r10, .ref r11, .ref r12, .ref r13, .int (nI ln), .ref r15, .ref r16, .ref r17, .ref r18, .int (nI ac)])), (r2, .inl (cJ, 256, .inr (.inl mm)))] sz) [(h0, .inr (6, [.int (gv_01 (vp_in x 8 ∧ vp_in y 8)), .int (nI mo), .ref r2, .int st, .int pe, .ref r5, .ref r6, .ref r7, .int (nI nc), .int (nI bn), .ref r10, .ref r11, .ref r12, .ref r13, .int (nI ln), .ref r15, .ref r16, .ref r17, .ref r18, .int (nI ac)])), (r2, .inl (cJ, 256, .inr (.inl mm)))] t9) (va_A [(h0, .inr (6, [.int th, .int (nI mo), .ref r2, .int st, .int pe, .ref r5, .ref r6, .ref r7, .int (nI nc), .int (nI bn), .ref r10, .ref r11, .ref r12, .ref r13, .int (nI ln), .ref r15, .ref r16, .ref r17, .ref r18, .int (nI ac)])), (r2, .inl (cJ, 256, .inr (.inl mm)))] sz)) 0 0 (va_A [(h0, .inr (6, [.int th, .int (nI mo), .ref r2, .int st, .int pe, .ref r5, .ref r6, .ref r7, .int (nI nc), .int (nI bn), .ref r10, .ref r11, .ref r12, .ref r13, .int (nI ln), .ref r15, .ref r16, .ref r17, .ref r18, .int (nI ac)])), (r2, .inl (cJ, 256, .inr (.inl mm)))] sz) := by
  refine Met.ofW (cc := cX6_pull) (maxL := 3) (ret := (some .long)) (by decide) rfl ?_
  intro p e s m args below meth c s₁ B hml hv
  obtain ⟨rfl, hsz, hP, hK, hD0, hG⟩ := hv
  have hx := B.exec
  have hb := B.bytes
  have hr := B.returns
  have hts := atoms_spec (ws := wsX6_pull) B.pre
  have hown : s.vm.findClass RX6 = some m.cls := findClass_of_methodNamed B.named
  have hlocks := B.notSynchronized
  subst hsz
  have hD := hD0.self (sz := s.heap.size)
  generalize hAe : va_A [(h0, .inr (6, [.int th, .int (nI mo), .ref r2, .int st, .int pe, .ref r5, .ref r6, .ref r7, .int (nI nc), .int (nI bn), .ref r10, .ref r11, .ref r12, .ref r13, .int (nI ln), .ref r15, .ref r16, .ref r17, .ref r18, .int (nI ac)])), (r2, .inl (cJ, 256, .inr (.inl mm)))] s.heap.size = A at hD ⊢
  have hA : ∀ q : Nat, s.heap.size ≤ q → A q := fun q h => by rw [← hAe]; exact Or.inr h
  have hS : va_S A s.heap s.heap [] := va_S.rf
  have hP : va_P D vwCl [(h0, .inr (6, [.int th, .int (nI mo), .ref r2, .int st, .int pe, .ref r5, .ref r6, .ref r7, .int (nI nc), .int (nI bn), .ref r10, .ref r11, .ref r12, .ref r13, .int (nI ln), .ref r15, .ref r16, .ref r17, .ref r18, .int (nI ac)])), (r2, .inl (cJ, 256, .inr (.inl mm)))] s.heap := hP
  have hl := lv_entry ([.ref h0, .int x, .int y]) (n := 3) (Nat.le_of_ble_eq_true rfl)
  rw [lg_entry_eq]
  generalize (lg_sl ([.ref h0, .int x, .int y]) ++ List.replicate (3 - (lg_sl ([.ref h0, .int x, .int y])).length) Slot.unset).toArray = ls at hl ⊢
  have hl : lv_has ls 3 [(0, .ref h0), (1, .int x), (2, .int y)] := hl
  refine lv_aload_n hx hb dX6_pull_0 rfl (lv_at hl 0 rfl) ?_
  refine lv_iload_n hx hb dX6_pull_1 rfl (lv_at hl 1 rfl) ?_
  refine lv_iload_n hx hb dX6_pull_2 rfl (lv_at hl 2 rfl) ?_
  refine gv_pi (va_runS (As := [.int x, .int y]) (rest := [.ref h0]) ⟨hx, hb, hml, hown, hts⟩ (ct_X6_isCell l x y) (va_cwS 2 hts gX6_pull_X6_isCell rfl rfl rfl (by decide +kernel) ⟨Nat.le_of_ble_eq_true rfl, Nat.le_of_ble_eq_true rfl⟩) gv_p0 rfl rfl hl.1 rfl (lv_room (Nat.le_of_ble_eq_true rfl)) dX6_pull_3 ⟨Nat.le_of_ble_eq_true rfl, Nat.le_of_ble_eq_true rfl⟩) (fun q1 h1 => ?_)
  refine gv_mg (fun v : Int32 => v = gv_01 (vp_in x 8 ∧ vp_in y 8)) 14 [.ref h0] (fun tv hv_tv => ?_) (fun K_1 => ?_)
  · skip
    subst hv_tv
    refine gv_mi (wc := [(h0, .inr (6, [.int th, .int (nI mo), .ref r2, .int st, .int pe, .ref r5, .ref r6, .ref r7, .int (nI nc), .int (nI bn), .ref r10, .ref r11, .ref r12, .ref r13, .int (nI ln), .ref r15, .ref r16, .ref r17, .ref r18, .int (nI ac)]))]) (wr := [(r2, .inl (cJ, 256, .inr (.inl mm)))]) (w2 := (fun u => [(h0, .inr (6, [.int (gv_01 (vp_in x 8 ∧ vp_in y 8)), .int (nI mo), .ref r2, .int st, .int pe, .ref r5, .ref r6, .ref r7, .int (nI nc), .int (nI bn), .ref r10, .ref r11, .ref r12, .ref r13, .int (nI ln), .ref r15, .ref r16, .ref r17, .ref r18, .int (nI ac)])), (r2, .inl (cJ, 256, .inr (.inl mm)))])) (va_runV (As := [.int (gv_01 (vp_in x 8 ∧ vp_in y 8))]) (rest := []) ⟨hx, hb, hml, hown, hts⟩ (ct_X6_holds l D cI cJ s.heap.size h0 r2 r5 r6 r7 r10 r11 r12 r13 r15 r16 r17 r18 th st pe mo nc bn ln ac (gv_01 (vp_in x 8 ∧ vp_in y 8))) (cwV 1 hts gX6_pull_X6_holds rfl rfl rfl (by decide +kernel) ⟨Nat.le_of_ble_eq_true rfl, Nat.le_of_ble_eq_true rfl⟩) (gv_pV (wc := [(h0, .inr (6, [.int th, .int (nI mo), .ref r2, .int st, .int pe, .ref r5, .ref r6, .ref r7, .int (nI nc), .int (nI bn), .ref r10, .ref r11, .ref r12, .ref r13, .int (nI ln), .ref r15, .ref r16, .ref r17, .ref r18, .int (nI ac)]))]) hP hK hD hG [0] rfl (by decide) 0 rfl rfl rfl) rfl rfl hl.1 rfl (lv_room (Nat.le_of_ble_eq_true rfl)) dX6_pull_14 ⟨Nat.le_of_ble_eq_true rfl, Nat.le_of_ble_eq_true rfl⟩) hP hD hS hA [0] [1] [1, 0] rfl rfl (by decide) (by decide) (fun u => rfl) (by decide) (fun rh u H locs hrh hP hD hS => ?_)
    have hP : va_P D vwCl [(h0, .inr (6, [.int (gv_01 (vp_in x 8 ∧ vp_in y 8)), .int (nI mo), .ref r2, .int st, .int pe, .ref r5, .ref r6, .ref r7, .int (nI nc), .int (nI bn), .ref r10, .ref r11, .ref r12, .ref r13, .int (nI ln), .ref r15, .ref r16, .ref r17, .ref r18, .int (nI ac)])), (r2, .inl (cJ, 256, .inr (.inl mm)))] H := hP
    have hD : va_D A [(h0, .inr (6, [.int (gv_01 (vp_in x 8 ∧ vp_in y 8)), .int (nI mo), .ref r2, .int st, .int pe, .ref r5, .ref r6, .ref r7, .int (nI nc), .int (nI bn), .ref r10, .ref r11, .ref r12, .ref r13, .int (nI ln), .ref r15, .ref r16, .ref r17, .ref r18, .int (nI ac)])), (r2, .inl (cJ, 256, .inr (.inl mm)))] := hD
    refine lv_if_eq (tgt := 29) hx hb dX6_pull_17 (by decide) (fun c_17 => ?_) (fun c_17 => ?_)
    · skip
      have hno := gv_if0 hrh c_17
      refine lv_lconst (v := 0) hx hb dX6_pull_29 (by decide) ?_
      have hpo : ∀ a b, a < 8 → b < 8 → x = nI a → y = nI b → 0 = gv_PA mm a b := by
        exact fun a b ha hb ea eb => absurd (gv_01t ⟨by rw [ea]; exact vp_in_nI ha (by decide), by rw [eb]; exact vp_in_nI hb (by decide)⟩).symm hno
      have hP9 : va_P D vwCl [(h0, .inr (6, [.int (gv_01 (vp_in x 8 ∧ vp_in y 8)), .int (nI mo), .ref r2, .int st, .int pe, .ref r5, .ref r6, .ref r7, .int (nI nc), .int (nI bn), .ref r10, .ref r11, .ref r12, .ref r13, .int (nI ln), .ref r15, .ref r16, .ref r17, .ref r18, .int (nI ac)])), (r2, .inl (cJ, 256, .inr (.inl mm)))] H := hP
      have hD9 : va_D A [(h0, .inr (6, [.int (gv_01 (vp_in x 8 ∧ vp_in y 8)), .int (nI mo), .ref r2, .int st, .int pe, .ref r5, .ref r6, .ref r7, .int (nI nc), .int (nI bn), .ref r10, .ref r11, .ref r12, .ref r13, .int (nI ln), .ref r15, .ref r16, .ref r17, .ref r18, .int (nI ac)])), (r2, .inl (cJ, 256, .inr (.inl mm)))] := hD
      exact W.lret (v := 0) hx hb hr (fun t9 ht9 hW9 => ⟨⟨0, (), rfl, hpo, by rw [ht9]; exact hP9, hD9⟩, hS.F ht9⟩) hS.2.2 dX6_pull_30
    · skip
      have hok := gv_01z (gv_if1 hrh c_17)
      obtain ⟨a, ha8, ea⟩ := vp_in_of (hok).1 (by decide)
      obtain ⟨b, hb8, eb⟩ := vp_in_of (hok).2 (by decide)
      rw [ea] at hl
      have hl : lv_has ls 3 [(0, .ref h0), (1, .int (nI a)), (2, .int y)] := hl
      rw [eb] at hl
      have hl : lv_has ls 3 [(0, .ref h0), (1, .int (nI a)), (2, .int (nI b))] := hl
      refine lv_aload_n hx hb dX6_pull_20 rfl (lv_at hl 0 rfl) ?_
      refine lv_iload_n hx hb dX6_pull_21 rfl (lv_at hl 1 rfl) ?_
      refine lv_iload_n hx hb dX6_pull_22 rfl (lv_at hl 2 rfl) ?_
      refine gv_pl (va_runV (As := [.int (nI a), .int (nI b)]) (rest := []) ⟨hx, hb, hml, hown, hts⟩ (ct_X6_pullAt l D cI cJ H.size h0 r2 r5 r6 r7 r10 r11 r12 r13 r15 r16 r17 r18 (gv_01 (vp_in x 8 ∧ vp_in y 8)) st pe mo nc bn ln ac mm a b ha8 hb8) (cwV 2 hts gX6_pull_X6_pullAt rfl rfl rfl (by decide +kernel) ⟨Nat.le_of_ble_eq_true rfl, Nat.le_of_ble_eq_true rfl⟩) (gv_pV (wc := [(h0, .inr (6, [.int (gv_01 (vp_in x 8 ∧ vp_in y 8)), .int (nI mo), .ref r2, .int st, .int pe, .ref r5, .ref r6, .ref r7, .int (nI nc), .int (nI bn), .ref r10, .ref r11, .ref r12, .ref r13, .int (nI ln), .ref r15, .ref r16, .ref r17, .ref r18, .int (nI ac)])), (r2, .inl (cJ, 256, .inr (.inl mm)))]) hP hK hD hG [0, 1] rfl (by decide) 0 rfl rfl rfl) rfl rfl hl.1 rfl (lv_room (Nat.le_of_ble_eq_true rfl)) dX6_pull_23 ⟨Nat.le_of_ble_eq_true rfl, Nat.le_of_ble_eq_true rfl⟩) (fun rc hrc => ?_)
      refine lv_goto (tgt := 30) hx hb dX6_pull_26 (by decide) ?_
      have hpo : ∀ a b, a < 8 → b < 8 → x = nI a → y = nI b → rc = gv_PA mm a b := by
        intro a2 b2 ha hb ea2 eb2
        cases gv_inj (ea2.symm.trans ea) (by omega) (by omega)
        cases gv_inj (eb2.symm.trans eb) (by omega) (by omega)
        exact hrc
      have hP9 : va_P D vwCl [(h0, .inr (6, [.int (gv_01 (vp_in x 8 ∧ vp_in y 8)), .int (nI mo), .ref r2, .int st, .int pe, .ref r5, .ref r6, .ref r7, .int (nI nc), .int (nI bn), .ref r10, .ref r11, .ref r12, .ref r13, .int (nI ln), .ref r15, .ref r16, .ref r17, .ref r18, .int (nI ac)])), (r2, .inl (cJ, 256, .inr (.inl mm)))] H := hP
      have hD9 : va_D A [(h0, .inr (6, [.int (gv_01 (vp_in x 8 ∧ vp_in y 8)), .int (nI mo), .ref r2, .int st, .int pe, .ref r5, .ref r6, .ref r7, .int (nI nc), .int (nI bn), .ref r10, .ref r11, .ref r12, .ref r13, .int (nI ln), .ref r15, .ref r16, .ref r17, .ref r18, .int (nI ac)])), (r2, .inl (cJ, 256, .inr (.inl mm)))] := hD
      exact W.lret (v := rc) hx hb hr (fun t9 ht9 hW9 => ⟨⟨rc, (), rfl, hpo, by rw [ht9]; exact hP9, hD9⟩, hS.F ht9⟩) hS.2.2 dX6_pull_30
  · skip
    refine lv_if_eq (tgt := 13) hx hb dX6_pull_6 (by decide) (fun c_6 => ?_) (fun c_6 => ?_)
    · skip
      refine lv_iconst (v := nI 1) hx hb dX6_pull_13 (by decide) ?_
      exact K_1 _ (by first | exact gv_01t (gv_if1 h1 c_6) | exact gv_01f (gv_if0 h1 c_6))
    · skip
      refine lv_iconst (v := nI 0) hx hb dX6_pull_9 (by decide) ?_
      refine lv_goto (tgt := 14) hx hb dX6_pull_10 (by decide) ?_
      exact K_1 _ (by first | exact gv_01t (gv_if1 h1 c_6) | exact gv_01f (gv_if0 h1 c_6))
set_option maxHeartbeats 4000000 in
set_option maxRecDepth 100000 in
theorem ct_X6_pullAnew (l : Launch) (D : va_G) (cI cJ : ClassId) (sz : Nat) (h0 r2 r5 r6 r7 r10 r11 r12 r13 r15 r16 r17 r18 : Nat) (th st pe : Int32) (mo nc bn ln ac : Nat) (mm : Nat → Int64) (x y : Int32)  : Met l yX6_pullAnew wsX6_pullAnew ({ frames := 2, cells := 0, slots := 0, locals := 46 }) (va_Pc [.ref h0, .int x, .int y] (gv_B D cI cJ [(h0, .inr (6, [.int th, .int (nI mo), .ref r2, .int st, .int pe, .ref r5, .ref r6, .ref r7, .int (nI nc), .int (nI bn), .ref r10, .ref r11, .ref r12, .ref r13, .int (nI ln), .ref r15, .ref r16, .ref r17, .ref r18, .int (nI ac)])), (r2, .inl (cJ, 256, .inr (.inl mm)))] sz)) (va_Ql (fun (r9 : Int64) (u9 : Unit) => ∀ a b, a < 8 → b < 8 → x = nI a → y = nI b → r9 = gv_PA mm a b) (fun (u9 : Unit) t9 => gv_W D (va_A [(h0, .inr (6, [.int th, .int (nI mo), .ref r2, .int st, .int pe, .ref r5, .ref r6, .ref r7, .int (nI nc), .int (nI bn), .ref r10, .ref r11, .ref r12, .ref r13, .int (nI ln), .ref r15, .ref r16, .ref r17, .ref r18, .int (nI ac)])), (r2, .inl (cJ, 256, .inr (.inl mm)))] sz) [(h0, .inr (6, [.int (gv_01 (vp_in x 8 ∧ vp_in y 8)), .int (nI mo), .ref r2, .int st, .int pe, .ref r5, .ref r6, .ref r7, .int (nI nc), .int (nI bn), .ref r10, .ref r11, .ref r12, .ref r13, .int (nI ln), .ref r15, .ref r16, .ref r17, .ref r18, .int (nI ac)])), (r2, .inl (cJ, 256, .inr (.inl mm)))] t9) (va_A [(h0, .inr (6, [.int th, .int (nI mo), .ref r2, .int st, .int pe, .ref r5, .ref r6, .ref r7, .int (nI nc), .int (nI bn), .ref r10, .ref r11, .ref r12, .ref r13, .int (nI ln), .ref r15, .ref r16, .ref r17, .ref r18, .int (nI ac)])), (r2, .inl (cJ, 256, .inr (.inl mm)))] sz)) 0 0 (va_A [(h0, .inr (6, [.int th, .int (nI mo), .ref r2, .int st, .int pe, .ref r5, .ref r6, .ref r7, .int (nI nc), .int (nI bn), .ref r10, .ref r11, .ref r12, .ref r13, .int (nI ln), .ref r15, .ref r16, .ref r17, .ref r18, .int (nI ac)])), (r2, .inl (cJ, 256, .inr (.inl mm)))] sz) := by
  refine Met.ofW (cc := cX6_pullAnew) (maxL := 3) (ret := (some .long)) (by decide) rfl ?_
  intro p e s m args below meth c s₁ B hml hv
  obtain ⟨rfl, hsz, hP, hK, hD0, hG⟩ := hv
  have hx := B.exec
  have hb := B.bytes
  have hr := B.returns
  have hts := atoms_spec (ws := wsX6_pullAnew) B.pre
  have hown : s.vm.findClass RX6 = some m.cls := findClass_of_methodNamed B.named
  have hlocks := B.notSynchronized
  subst hsz
  have hD := hD0.self (sz := s.heap.size)
  generalize hAe : va_A [(h0, .inr (6, [.int th, .int (nI mo), .ref r2, .int st, .int pe, .ref r5, .ref r6, .ref r7, .int (nI nc), .int (nI bn), .ref r10, .ref r11, .ref r12, .ref r13, .int (nI ln), .ref r15, .ref r16, .ref r17, .ref r18, .int (nI ac)])), (r2, .inl (cJ, 256, .inr (.inl mm)))] s.heap.size = A at hD ⊢
  have hA : ∀ q : Nat, s.heap.size ≤ q → A q := fun q h => by rw [← hAe]; exact Or.inr h
  have hS : va_S A s.heap s.heap [] := va_S.rf
  have hP : va_P D vwCl [(h0, .inr (6, [.int th, .int (nI mo), .ref r2, .int st, .int pe, .ref r5, .ref r6, .ref r7, .int (nI nc), .int (nI bn), .ref r10, .ref r11, .ref r12, .ref r13, .int (nI ln), .ref r15, .ref r16, .ref r17, .ref r18, .int (nI ac)])), (r2, .inl (cJ, 256, .inr (.inl mm)))] s.heap := hP
  have hl := lv_entry ([.ref h0, .int x, .int y]) (n := 3) (Nat.le_of_ble_eq_true rfl)
  rw [lg_entry_eq]
  generalize (lg_sl ([.ref h0, .int x, .int y]) ++ List.replicate (3 - (lg_sl ([.ref h0, .int x, .int y])).length) Slot.unset).toArray = ls at hl ⊢
  have hl : lv_has ls 3 [(0, .ref h0), (1, .int x), (2, .int y)] := hl
  refine lv_aload_n hx hb dX6_pullAnew_0 rfl (lv_at hl 0 rfl) ?_
  refine lv_iload_n hx hb dX6_pullAnew_1 rfl (lv_at hl 1 rfl) ?_
  refine lv_iload_n hx hb dX6_pullAnew_2 rfl (lv_at hl 2 rfl) ?_
  refine gv_pi (va_runS (As := [.int x, .int y]) (rest := [.ref h0]) ⟨hx, hb, hml, hown, hts⟩ (ct_X6_isCell l x y) (va_cwS 2 hts gX6_pullAnew_X6_isCell rfl rfl rfl (by decide +kernel) ⟨Nat.le_of_ble_eq_true rfl, Nat.le_of_ble_eq_true rfl⟩) gv_p0 rfl rfl hl.1 rfl (lv_room (Nat.le_of_ble_eq_true rfl)) dX6_pullAnew_3 ⟨Nat.le_of_ble_eq_true rfl, Nat.le_of_ble_eq_true rfl⟩) (fun q1 h1 => ?_)
  refine gv_mg (fun v : Int32 => v = gv_01 (vp_in x 8 ∧ vp_in y 8)) 14 [.ref h0] (fun tv hv_tv => ?_) (fun K_1 => ?_)
  · skip
    subst hv_tv
    refine gv_mi (wc := [(h0, .inr (6, [.int th, .int (nI mo), .ref r2, .int st, .int pe, .ref r5, .ref r6, .ref r7, .int (nI nc), .int (nI bn), .ref r10, .ref r11, .ref r12, .ref r13, .int (nI ln), .ref r15, .ref r16, .ref r17, .ref r18, .int (nI ac)]))]) (wr := [(r2, .inl (cJ, 256, .inr (.inl mm)))]) (w2 := (fun u => [(h0, .inr (6, [.int (gv_01 (vp_in x 8 ∧ vp_in y 8)), .int (nI mo), .ref r2, .int st, .int pe, .ref r5, .ref r6, .ref r7, .int (nI nc), .int (nI bn), .ref r10, .ref r11, .ref r12, .ref r13, .int (nI ln), .ref r15, .ref r16, .ref r17, .ref r18, .int (nI ac)])), (r2, .inl (cJ, 256, .inr (.inl mm)))])) (va_runV (As := [.int (gv_01 (vp_in x 8 ∧ vp_in y 8))]) (rest := []) ⟨hx, hb, hml, hown, hts⟩ (ct_X6_holds l D cI cJ s.heap.size h0 r2 r5 r6 r7 r10 r11 r12 r13 r15 r16 r17 r18 th st pe mo nc bn ln ac (gv_01 (vp_in x 8 ∧ vp_in y 8))) (cwV 1 hts gX6_pullAnew_X6_holds rfl rfl rfl (by decide +kernel) ⟨Nat.le_of_ble_eq_true rfl, Nat.le_of_ble_eq_true rfl⟩) (gv_pV (wc := [(h0, .inr (6, [.int th, .int (nI mo), .ref r2, .int st, .int pe, .ref r5, .ref r6, .ref r7, .int (nI nc), .int (nI bn), .ref r10, .ref r11, .ref r12, .ref r13, .int (nI ln), .ref r15, .ref r16, .ref r17, .ref r18, .int (nI ac)]))]) hP hK hD hG [0] rfl (by decide) 0 rfl rfl rfl) rfl rfl hl.1 rfl (lv_room (Nat.le_of_ble_eq_true rfl)) dX6_pullAnew_14 ⟨Nat.le_of_ble_eq_true rfl, Nat.le_of_ble_eq_true rfl⟩) hP hD hS hA [0] [1] [1, 0] rfl rfl (by decide) (by decide) (fun u => rfl) (by decide) (fun rh u H locs hrh hP hD hS => ?_)
    have hP : va_P D vwCl [(h0, .inr (6, [.int (gv_01 (vp_in x 8 ∧ vp_in y 8)), .int (nI mo), .ref r2, .int st, .int pe, .ref r5, .ref r6, .ref r7, .int (nI nc), .int (nI bn), .ref r10, .ref r11, .ref r12, .ref r13, .int (nI ln), .ref r15, .ref r16, .ref r17, .ref r18, .int (nI ac)])), (r2, .inl (cJ, 256, .inr (.inl mm)))] H := hP
    have hD : va_D A [(h0, .inr (6, [.int (gv_01 (vp_in x 8 ∧ vp_in y 8)), .int (nI mo), .ref r2, .int st, .int pe, .ref r5, .ref r6, .ref r7, .int (nI nc), .int (nI bn), .ref r10, .ref r11, .ref r12, .ref r13, .int (nI ln), .ref r15, .ref r16, .ref r17, .ref r18, .int (nI ac)])), (r2, .inl (cJ, 256, .inr (.inl mm)))] := hD
    refine lv_if_eq (tgt := 29) hx hb dX6_pullAnew_17 (by decide) (fun c_17 => ?_) (fun c_17 => ?_)
    · skip
      have hno := gv_if0 hrh c_17
      refine lv_lconst (v := 0) hx hb dX6_pullAnew_29 (by decide) ?_
      have hpo : ∀ a b, a < 8 → b < 8 → x = nI a → y = nI b → 0 = gv_PA mm a b := by
        exact fun a b ha hb ea eb => absurd (gv_01t ⟨by rw [ea]; exact vp_in_nI ha (by decide), by rw [eb]; exact vp_in_nI hb (by decide)⟩).symm hno
      have hP9 : va_P D vwCl [(h0, .inr (6, [.int (gv_01 (vp_in x 8 ∧ vp_in y 8)), .int (nI mo), .ref r2, .int st, .int pe, .ref r5, .ref r6, .ref r7, .int (nI nc), .int (nI bn), .ref r10, .ref r11, .ref r12, .ref r13, .int (nI ln), .ref r15, .ref r16, .ref r17, .ref r18, .int (nI ac)])), (r2, .inl (cJ, 256, .inr (.inl mm)))] H := hP
      have hD9 : va_D A [(h0, .inr (6, [.int (gv_01 (vp_in x 8 ∧ vp_in y 8)), .int (nI mo), .ref r2, .int st, .int pe, .ref r5, .ref r6, .ref r7, .int (nI nc), .int (nI bn), .ref r10, .ref r11, .ref r12, .ref r13, .int (nI ln), .ref r15, .ref r16, .ref r17, .ref r18, .int (nI ac)])), (r2, .inl (cJ, 256, .inr (.inl mm)))] := hD
      exact W.lret (v := 0) hx hb hr (fun t9 ht9 hW9 => ⟨⟨0, (), rfl, hpo, by rw [ht9]; exact hP9, hD9⟩, hS.F ht9⟩) hS.2.2 dX6_pullAnew_30
    · skip
      have hok := gv_01z (gv_if1 hrh c_17)
      obtain ⟨a, ha8, ea⟩ := vp_in_of (hok).1 (by decide)
      obtain ⟨b, hb8, eb⟩ := vp_in_of (hok).2 (by decide)
      rw [ea] at hl
      have hl : lv_has ls 3 [(0, .ref h0), (1, .int (nI a)), (2, .int y)] := hl
      rw [eb] at hl
      have hl : lv_has ls 3 [(0, .ref h0), (1, .int (nI a)), (2, .int (nI b))] := hl
      refine lv_aload_n hx hb dX6_pullAnew_20 rfl (lv_at hl 0 rfl) ?_
      refine lv_iload_n hx hb dX6_pullAnew_21 rfl (lv_at hl 1 rfl) ?_
      refine lv_iload_n hx hb dX6_pullAnew_22 rfl (lv_at hl 2 rfl) ?_
      refine gv_pl (va_runV (As := [.int (nI a), .int (nI b)]) (rest := []) ⟨hx, hb, hml, hown, hts⟩ (ct_X6_pullAt l D cI cJ H.size h0 r2 r5 r6 r7 r10 r11 r12 r13 r15 r16 r17 r18 (gv_01 (vp_in x 8 ∧ vp_in y 8)) st pe mo nc bn ln ac mm a b ha8 hb8) (cwV 2 hts gX6_pullAnew_X6_pullAt rfl rfl rfl (by decide +kernel) ⟨Nat.le_of_ble_eq_true rfl, Nat.le_of_ble_eq_true rfl⟩) (gv_pV (wc := [(h0, .inr (6, [.int (gv_01 (vp_in x 8 ∧ vp_in y 8)), .int (nI mo), .ref r2, .int st, .int pe, .ref r5, .ref r6, .ref r7, .int (nI nc), .int (nI bn), .ref r10, .ref r11, .ref r12, .ref r13, .int (nI ln), .ref r15, .ref r16, .ref r17, .ref r18, .int (nI ac)])), (r2, .inl (cJ, 256, .inr (.inl mm)))]) hP hK hD hG [0, 1] rfl (by decide) 0 rfl rfl rfl) rfl rfl hl.1 rfl (lv_room (Nat.le_of_ble_eq_true rfl)) dX6_pullAnew_23 ⟨Nat.le_of_ble_eq_true rfl, Nat.le_of_ble_eq_true rfl⟩) (fun rc hrc => ?_)
      refine lv_goto (tgt := 30) hx hb dX6_pullAnew_26 (by decide) ?_
      have hpo : ∀ a b, a < 8 → b < 8 → x = nI a → y = nI b → rc = gv_PA mm a b := by
        intro a2 b2 ha hb ea2 eb2
        cases gv_inj (ea2.symm.trans ea) (by omega) (by omega)
        cases gv_inj (eb2.symm.trans eb) (by omega) (by omega)
        exact hrc
      have hP9 : va_P D vwCl [(h0, .inr (6, [.int (gv_01 (vp_in x 8 ∧ vp_in y 8)), .int (nI mo), .ref r2, .int st, .int pe, .ref r5, .ref r6, .ref r7, .int (nI nc), .int (nI bn), .ref r10, .ref r11, .ref r12, .ref r13, .int (nI ln), .ref r15, .ref r16, .ref r17, .ref r18, .int (nI ac)])), (r2, .inl (cJ, 256, .inr (.inl mm)))] H := hP
      have hD9 : va_D A [(h0, .inr (6, [.int (gv_01 (vp_in x 8 ∧ vp_in y 8)), .int (nI mo), .ref r2, .int st, .int pe, .ref r5, .ref r6, .ref r7, .int (nI nc), .int (nI bn), .ref r10, .ref r11, .ref r12, .ref r13, .int (nI ln), .ref r15, .ref r16, .ref r17, .ref r18, .int (nI ac)])), (r2, .inl (cJ, 256, .inr (.inl mm)))] := hD
      exact W.lret (v := rc) hx hb hr (fun t9 ht9 hW9 => ⟨⟨rc, (), rfl, hpo, by rw [ht9]; exact hP9, hD9⟩, hS.F ht9⟩) hS.2.2 dX6_pullAnew_30
  · skip
    refine lv_if_eq (tgt := 13) hx hb dX6_pullAnew_6 (by decide) (fun c_6 => ?_) (fun c_6 => ?_)
    · skip
      refine lv_iconst (v := nI 1) hx hb dX6_pullAnew_13 (by decide) ?_
      exact K_1 _ (by first | exact gv_01t (gv_if1 h1 c_6) | exact gv_01f (gv_if0 h1 c_6))
    · skip
      refine lv_iconst (v := nI 0) hx hb dX6_pullAnew_9 (by decide) ?_
      refine lv_goto (tgt := 14) hx hb dX6_pullAnew_10 (by decide) ?_
      exact K_1 _ (by first | exact gv_01t (gv_if1 h1 c_6) | exact gv_01f (gv_if0 h1 c_6))
