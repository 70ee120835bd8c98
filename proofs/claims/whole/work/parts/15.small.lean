theorem gv_nlt32 {a b : Int32} (h : ¬ a < b) : b ≤ a := by rw [Int32.lt_iff_toInt_lt] at h; rw [Int32.le_iff_toInt_le]; omega
theorem gv_nle32 {a b : Int32} (h : ¬ a ≤ b) : b < a := by rw [Int32.le_iff_toInt_le] at h; rw [Int32.lt_iff_toInt_lt]; omega
theorem gv_ltn32 {a b : Int32} (h : a < b) : ¬ b ≤ a := by rw [Int32.lt_iff_toInt_lt] at h; rw [Int32.le_iff_toInt_le]; omega
theorem gv_len32 {a b : Int32} (h : a ≤ b) : ¬ b < a := by rw [Int32.le_iff_toInt_le] at h; rw [Int32.lt_iff_toInt_lt]; omega
/-! Moon, Needles, Archive, Survey: what they answer and become -/
def gv_off (kd of_ td : Nat → Int32) (mo : Int32) (i : Nat) : Int64 := if kd i = 0 then (of_ i).toInt64 else (of_ i).toInt64 * (mo - td i).toInt64
def gv_fdiv (v b : Int64) : Int64 := if (v ^^^ b) < 0 ∧ ¬ v / b * b = v then v / b - 1 else v / b
def gv_un (f : Nat → Nat) (k v : Nat) : Nat → Nat := fun j => if j = k then v else f j
theorem gv_upd_n (f : Nat → Nat) (k v : Nat) : upd (fun j => nI (f j)) k (nI v) = fun j => nI (gv_un f k v j) := by
  funext j
  unfold gv_un
  by_cases h : j = k
  · subst h; rw [pk_us, if_pos rfl]
  · rw [pk_un h, if_neg h]
theorem gv_i2lne {n : Nat} (h : 0 < n) (h2 : n < 2 ^ 31) : ¬ (nI n).toInt64 = 0 := by
  rw [nI_l h2]
  intro h3
  have h4 := (lN_eq (a := n) (b := 0) h2 (by omega)).mp h3
  omega
def gv_kn (f : Nat → Int32) (n : Nat) : Nat → Int32 := fun j => if j = 0 then nI 0 else if j < n then -1 else f j
def gv_ko (f : Nat → Int32) : Nat → Int32 := gv_kn f 10
theorem gv_kn_1 (f : Nat → Int32) : upd f 0 (nI 0) = gv_kn f 1 := by
  funext j
  unfold gv_kn
  by_cases h : j = 0
  · subst h; rw [pk_us, if_pos rfl]
  · rw [pk_un h, if_neg h, if_neg (by omega)]
theorem gv_kn_s {f : Nat → Int32} {n : Nat} (hn : 1 ≤ n) : upd (gv_kn f n) n (-1) = gv_kn f (n + 1) := by
  funext j
  by_cases h : j = n
  · subst h; rw [pk_us]; unfold gv_kn; rw [if_neg (by omega), if_pos (by omega)]
  · rw [pk_un h]
    unfold gv_kn
    by_cases h0 : j = 0
    · rw [if_pos h0, if_pos h0]
    · rw [if_neg h0, if_neg h0]
      by_cases h2 : j < n
      · rw [if_pos h2, if_pos (by omega)]
      · rw [if_neg h2, if_neg (by omega)]
def gv_db2 (x y u : Int32) : Int32 := if (x = -1 ↔ y = -1) then -1 else (if x = -1 then y else x) + u
def gv_db (sa sb su : Nat → Nat) (d : Nat → Int32) (k : Nat) : Int32 := gv_db2 (d (sa k)) (d (sb k)) (nI (su k))
theorem gv_flag {p : Prop} [Decidable p] {q : Prop} [Decidable q] {v w : Int32} (hv : v = if p then nI 1 else nI 0) (hw : w = if q then nI 1 else nI 0) : v = w ↔ (p ↔ q) := by
  subst hv; subst hw
  by_cases h : p <;> by_cases h2 : q <;> simp only [h, h2, if_true, if_false] <;> decide
theorem gv_db_1 {x y u v w : Int32} (hv : v = if x = -1 then nI 1 else nI 0) (hw : w = if y = -1 then nI 1 else nI 0) (h : v = w) : -1 = gv_db2 x y u := (if_pos ((gv_flag hv hw).mp h)).symm
theorem gv_db_2 {x y u v w : Int32} (hv : v = if x = -1 then nI 1 else nI 0) (hw : w = if y = -1 then nI 1 else nI 0) (h : ¬ v = w) (hx : x = -1) : y + u = gv_db2 x y u := by
  unfold gv_db2
  rw [if_neg (fun z => h ((gv_flag hv hw).mpr z)), if_pos hx]
theorem gv_db_3 {x y u v w : Int32} (hv : v = if x = -1 then nI 1 else nI 0) (hw : w = if y = -1 then nI 1 else nI 0) (h : ¬ v = w) (hx : ¬ x = -1) : x + u = gv_db2 x y u := by
  unfold gv_db2
  rw [if_neg (fun z => h ((gv_flag hv hw).mpr z)), if_neg hx]
/-- the line that goes next, and its sum: among the first n lines -/
def gv_srl (sa sb su : Nat → Nat) (d : Nat → Int32) : Nat → Int32 × Int32
  | 0 => (-1, -1)
  | k + 1 => if ¬ gv_db sa sb su d k = -1 ∧ ((gv_srl sa sb su d k).1 = -1 ∨ gv_db sa sb su d k < (gv_srl sa sb su d k).2) then (nI k, gv_db sa sb su d k) else gv_srl sa sb su d k
theorem gv_srl_n {sa sb su : Nat → Nat} {d : Nat → Int32} : ∀ {n : Nat}, n ≤ 24 → ¬ (gv_srl sa sb su d n).1 = -1 → ∃ j, j < n ∧ gv_srl sa sb su d n = (nI j, gv_db sa sb su d j) ∧ ¬ gv_db sa sb su d j = -1
  | 0, _, h => absurd rfl h
  | k + 1, hk, h => by
    rw [gv_srl] at h ⊢
    by_cases c : ¬ gv_db sa sb su d k = -1 ∧ ((gv_srl sa sb su d k).1 = -1 ∨ gv_db sa sb su d k < (gv_srl sa sb su d k).2)
    · rw [if_pos c]
      exact ⟨k, Nat.lt_succ_self k, rfl, c.1⟩
    · rw [if_neg c] at h ⊢
      obtain ⟨j, hj, e1, e2⟩ := gv_srl_n (by omega) h
      exact ⟨j, by omega, e1, e2⟩
/-- a step by the line k -/
def gv_stp (sa sb su : Nat → Nat) (sr : Nat → Int32) (q : (Nat → Int32) × (Nat → Int32)) (k : Nat) : (Nat → Int32) × (Nat → Int32) :=
  if q.1 (sb k) = -1 then (upd q.1 (sb k) (q.1 (sa k) + nI (su k)), upd q.2 (sb k) (q.2 (sa k) + sr k)) else (upd q.1 (sa k) (q.1 (sb k) + nI (su k)), upd q.2 (sa k) (q.2 (sb k) - sr k))
def gv_itr (sa sb su : Nat → Nat) (sr : Nat → Int32) (n : Nat) : Nat → (Nat → Int32) × (Nat → Int32) → (Nat → Int32) × (Nat → Int32)
  | 0, q => q
  | j + 1, q => if (gv_srl sa sb su q.1 n).1 = -1 then q else gv_itr sa sb su sr n j (gv_stp sa sb su sr q (gv_srl sa sb su q.1 n).1.toNatClampNeg)
theorem gv_itr_no {sa sb su : Nat → Nat} {sr : Nat → Int32} {n : Nat} {q : (Nat → Int32) × (Nat → Int32)} (h : (gv_srl sa sb su q.1 n).1 = -1) : ∀ j, gv_itr sa sb su sr n j q = q
  | 0 => rfl
  | j + 1 => by rw [gv_itr, if_pos h]
theorem gv_itr_go {sa sb su : Nat → Nat} {sr : Nat → Int32} {n i j k : Nat} {q : (Nat → Int32) × (Nat → Int32)} (hi : i = j + 1) (hk : k < 2 ^ 31) (h : ¬ (gv_srl sa sb su q.1 n).1 = -1) (h2 : (gv_srl sa sb su q.1 n).1 = nI k) : gv_itr sa sb su sr n i q = gv_itr sa sb su sr n j (gv_stp sa sb su sr q k) := by
  subst hi
  rw [gv_itr, if_neg h, h2, nI_clamp hk]
def gv_abs (z : Int32) : Int32 := if 0 ≤ z then z else 0 - z
def gv_con (sa sb su : Nat → Nat) (sr d h : Nat → Int32) (k : Nat) : Prop := ¬ d (sa k) = -1 ∧ ¬ d (sb k) = -1 ∧ nI (su k) + d (sa k) + d (sb k) < gv_abs (sr k - (h (sb k) - h (sa k)))
/-- one line, one way: the row of doubts, and whether it became less -/
def gv_mkl (t : Nat → Int32) (f g : Nat) (u : Int32) : (Nat → Int32) × Int32 := if t f = -1 then (t, nI 0) else if ¬ t g = -1 ∧ t g ≤ t f + u then (t, nI 0) else (upd t g (t f + u), nI 1)
def gv_ln1 (sa sb su : Nat → Nat) (q : (Nat → Int32) × Int32) (k : Nat) : (Nat → Int32) × Int32 :=
  if ¬ (gv_mkl q.1 (sa k) (sb k) (nI (su k))).2 = 0 then ((gv_mkl q.1 (sa k) (sb k) (nI (su k))).1, nI 1)
  else if ¬ (gv_mkl (gv_mkl q.1 (sa k) (sb k) (nI (su k))).1 (sb k) (sa k) (nI (su k))).2 = 0 then ((gv_mkl (gv_mkl q.1 (sa k) (sb k) (nI (su k))).1 (sb k) (sa k) (nI (su k))).1, nI 1)
  else ((gv_mkl (gv_mkl q.1 (sa k) (sb k) (nI (su k))).1 (sb k) (sa k) (nI (su k))).1, q.2)
def gv_rnd (sa sb su : Nat → Nat) (t : Nat → Int32) : Nat → (Nat → Int32) × Int32
  | 0 => (t, nI 0)
  | k + 1 => gv_ln1 sa sb su (gv_rnd sa sb su t k) k
def gv_tal (sa sb su : Nat → Nat) (n : Nat) : Nat → (Nat → Int32) × Int32 → (Nat → Int32)
  | 0, q => q.1
  | j + 1, q => if q.2 = 0 then q.1 else gv_tal sa sb su n j (gv_rnd sa sb su q.1 n)
theorem gv_tal_no {sa sb su : Nat → Nat} {n : Nat} {q : (Nat → Int32) × Int32} (h : q.2 = 0) : ∀ j, gv_tal sa sb su n j q = q.1
  | 0 => rfl
  | j + 1 => by rw [gv_tal, if_pos h]
theorem gv_in_X2_put_X2 : ∀ w ∈ wsX20, w ∈ wsX2_put := by decide +kernel
theorem gv_in_X2_tideIn_X2 : ∀ w ∈ wsX20, w ∈ wsX2_tideIn := by decide +kernel
theorem gv_in_X3_add_X3 : ∀ w ∈ wsX30, w ∈ wsX3_add := by decide +kernel
theorem gv_in_X3_offIn_X3 : ∀ w ∈ wsX30, w ∈ wsX3_offIn := by decide +kernel
theorem gv_in_X0_keep_X0 : ∀ w ∈ wsX00, w ∈ wsX0_keep := by decide +kernel
theorem gv_in_X0_trendFrom_X0 : ∀ w ∈ wsX00, w ∈ wsX0_trendFrom := by decide +kernel
set_option maxHeartbeats 4000000 in
set_option maxRecDepth 100000 in
theorem ct_X2_put (l : Launch) (D : va_G) (cI cJ : ClassId) (sz : Nat) (m0 : Nat) (st pe p0 p1 : Int32)  : Met l yX2_put wsX2_put ({ frames := 0, cells := 0, slots := 0, locals := 0 }) (va_Pc [.ref m0, .int p0, .int p1] (gv_B D cI cJ [(m0, .inr (2, [.int st, .int pe]))] sz)) (va_Qi (fun (r9 : Int32) (u9 : Unit) => r9 = st) (fun (u9 : Unit) t9 => gv_W D (va_A [(m0, .inr (2, [.int st, .int pe]))] sz) [(m0, .inr (2, [.int p0, .int p1]))] t9) (va_A [(m0, .inr (2, [.int st, .int pe]))] sz)) 0 0 (va_A [(m0, .inr (2, [.int st, .int pe]))] sz) := by
  refine Met.ofW (cc := cX2_put) (maxL := 4) (ret := (some .int)) (by decide) rfl ?_
  intro p e s m args below meth c s₁ B hml hv
  obtain ⟨rfl, hsz, hP, hK, hD0, hG⟩ := hv
  have hx := B.exec
  have hb := B.bytes
  have hr := B.returns
  have hts := atoms_spec (ws := wsX2_put) B.pre
  have hown : s.vm.findClass RX2 = some m.cls := findClass_of_methodNamed B.named
  have hlocks := B.notSynchronized
  subst hsz
  have hD := hD0.self (sz := s.heap.size)
  generalize hAe : va_A [(m0, .inr (2, [.int st, .int pe]))] s.heap.size = A at hD ⊢
  have hA : ∀ q : Nat, s.heap.size ≤ q → A q := fun q h => by rw [← hAe]; exact Or.inr h
  have hS : va_S A s.heap s.heap [] := va_S.rf
  have hP : va_P D vwCl [(m0, .inr (2, [.int st, .int pe]))] s.heap := hP
  have hl := lv_entry ([.ref m0, .int p0, .int p1]) (n := 4) (Nat.le_of_ble_eq_true rfl)
  rw [lg_entry_eq]
  generalize (lg_sl ([.ref m0, .int p0, .int p1]) ++ List.replicate (4 - (lg_sl ([.ref m0, .int p0, .int p1])).length) Slot.unset).toArray = ls at hl ⊢
  have hl : lv_has ls 4 [(0, .ref m0), (1, .int p0), (2, .int p1)] := hl
  refine lv_aload_n hx hb dX2_put_0 rfl (lv_at hl 0 rfl) ?_
  refine va_get (D := D) (ci := 2) (v := .int st) (C := RX2) (T := TX2) (N := 2) hx hb hts gv_in_X2_put_X2 hown hK hP 0 rfl rfl 0 (by decide) (hts (.fieldLink RX2 7 "Gravimere$Moon" "strength" "I") (by decide +kernel)) (fun _ h9 => h9) rfl dX2_put_1 ?_
  refine lv_istore_n (lv' := [(3, .int st), (0, .ref m0), (1, .int p0), (2, .int p1)]) hx hb dX2_put_4 rfl hl (by decide) rfl (fun ls hl => ?_)
  refine lv_aload_n hx hb dX2_put_5 rfl (lv_at hl 1 rfl) ?_
  refine lv_iload_n hx hb dX2_put_6 rfl (lv_at hl 2 rfl) ?_
  refine va_put (D := D) (ci := 2) (v := .int p0) (ty := .int) (C := RX2) (T := TX2) (N := 2) hx hb hts gv_in_X2_put_X2 tyX2 tyX2_ok nmX2 hown hK hP hD hS 0 rfl rfl 0 (by decide) (hts (.fieldLink RX2 7 "Gravimere$Moon" "strength" "I") (by decide +kernel)) (fun _ h9 => h9) rfl (by decide +kernel) rfl rfl (Nat.le_of_ble_eq_true rfl) dX2_put_7 (fun H locs hP hD hS => ?_)
  have hP : va_P D vwCl [(m0, .inr (2, [.int p0, .int pe]))] H := hP
  have hD : va_D A [(m0, .inr (2, [.int p0, .int pe]))] := hD
  refine lv_aload_n hx hb dX2_put_10 rfl (lv_at hl 1 rfl) ?_
  refine lv_iload_n hx hb dX2_put_11 rfl (lv_at hl 3 rfl) ?_
  refine va_put (D := D) (ci := 2) (v := .int p1) (ty := .int) (C := RX2) (T := TX2) (N := 2) hx hb hts gv_in_X2_put_X2 tyX2 tyX2_ok nmX2 hown hK hP hD hS 0 rfl rfl 1 (by decide) (hts (.fieldLink RX2 13 "Gravimere$Moon" "period" "I") (by decide +kernel)) (fun _ h9 => h9) rfl (by decide +kernel) rfl rfl (Nat.le_of_ble_eq_true rfl) dX2_put_12 (fun H locs hP hD hS => ?_)
  have hP : va_P D vwCl [(m0, .inr (2, [.int p0, .int p1]))] H := hP
  have hD : va_D A [(m0, .inr (2, [.int p0, .int p1]))] := hD
  refine lv_iload_n hx hb dX2_put_15 rfl (lv_at hl 0 rfl) ?_
  have hpo : st = st := by
    rfl
  have hP9 : va_P D vwCl [(m0, .inr (2, [.int p0, .int p1]))] H := hP
  have hD9 : va_D A [(m0, .inr (2, [.int p0, .int p1]))] := hD
  exact W.iret (v := st) hx hb hr (fun t9 ht9 hW9 => ⟨⟨st, (), rfl, hpo, by rw [ht9]; exact hP9, hD9⟩, hS.F ht9⟩) hS.2.2 dX2_put_16
set_option maxHeartbeats 4000000 in
set_option maxRecDepth 100000 in
theorem ct_X2_tideIn (l : Launch) (D : va_G) (cI cJ : ClassId) (sz : Nat) (m0 : Nat) (st : Int32) (pe mo : Nat) (h1 : 1 ≤ pe) (h60 : pe ≤ 60) (hmo : mo ≤ 3000) : Met l yX2_tideIn wsX2_tideIn ({ frames := 0, cells := 0, slots := 0, locals := 0 }) (va_Pc [.ref m0, .int (nI mo)] (gv_B D cI cJ [(m0, .inr (2, [.int st, .int (nI pe)]))] sz)) (vp_Sl (fun r9 : Int64 => r9 = (if mo % pe < pe / 2 then st else -st).toInt64)) 0 0 (fun _ => False) := by
  refine Met.ofW (cc := cX2_tideIn) (maxL := 3) (ret := (some .long)) (by decide) rfl ?_
  intro p e s m args below meth c s₁ B hml hv
  obtain ⟨rfl, hsz, hP, hK, hD0, hG⟩ := hv
  have hx := B.exec
  have hb := B.bytes
  have hr := B.returns
  have hts := atoms_spec (ws := wsX2_tideIn) B.pre
  have hown : s.vm.findClass RX2 = some m.cls := findClass_of_methodNamed B.named
  have hlocks := B.notSynchronized
  subst hsz
  have hD := hD0
  have hP : va_P D vwCl [(m0, .inr (2, [.int st, .int (nI pe)]))] s.heap := hP
  have hmm : mo % pe ≤ mo := Nat.mod_le mo pe
  have hl := lv_entry ([.ref m0, .int (nI mo)]) (n := 3) (Nat.le_of_ble_eq_true rfl)
  rw [lg_entry_eq]
  generalize (lg_sl ([.ref m0, .int (nI mo)]) ++ List.replicate (3 - (lg_sl ([.ref m0, .int (nI mo)])).length) Slot.unset).toArray = ls at hl ⊢
  have hl : lv_has ls 3 [(0, .ref m0), (1, .int (nI mo))] := hl
  refine lv_aload_n hx hb dX2_tideIn_0 rfl (lv_at hl 0 rfl) ?_
  refine va_get (D := D) (ci := 2) (v := .int (nI pe)) (C := RX2) (T := TX2) (N := 2) hx hb hts gv_in_X2_tideIn_X2 hown hK hP 0 rfl rfl 1 (by decide) (hts (.fieldLink RX2 13 "Gravimere$Moon" "period" "I") (by decide +kernel)) (fun _ h9 => h9) rfl dX2_tideIn_1 ?_
  refine lv_iconst (v := nI 1) hx hb dX2_tideIn_4 (by decide) ?_
  refine lv_icmp_lt (tgt := 27) hx hb dX2_tideIn_5 (by decide) (fun c_5 => ?_) (fun c_5 => ?_)
  · skip
    have c_5 := (nI_ltI (a := pe) (b := 1) (by omega) (by omega)).mp c_5
    exfalso; omega
  · skip
    have c_5 := (not_congr (nI_ltI (a := pe) (b := 1) (by omega) (by omega))).mp c_5
    refine lv_iload_n hx hb dX2_tideIn_8 rfl (lv_at hl 1 rfl) ?_
    refine lv_aload_n hx hb dX2_tideIn_9 rfl (lv_at hl 0 rfl) ?_
    refine va_get (D := D) (ci := 2) (v := .int (nI pe)) (C := RX2) (T := TX2) (N := 2) hx hb hts gv_in_X2_tideIn_X2 hown hK hP 0 rfl rfl 1 (by decide) (hts (.fieldLink RX2 13 "Gravimere$Moon" "period" "I") (by decide +kernel)) (fun _ h9 => h9) rfl dX2_tideIn_10 ?_
    refine lv_irem hx hb dX2_tideIn_13 (nI_ne0 (by omega) (by omega)) ?_
    refine gv_wi (pk_rem (a := mo) (d := pe) (by omega) (by omega) (by omega)) ?_
    refine lv_aload_n hx hb dX2_tideIn_14 rfl (lv_at hl 0 rfl) ?_
    refine va_get (D := D) (ci := 2) (v := .int (nI pe)) (C := RX2) (T := TX2) (N := 2) hx hb hts gv_in_X2_tideIn_X2 hown hK hP 0 rfl rfl 1 (by decide) (hts (.fieldLink RX2 13 "Gravimere$Moon" "period" "I") (by decide +kernel)) (fun _ h9 => h9) rfl dX2_tideIn_15 ?_
    refine lv_iconst (v := nI 2) hx hb dX2_tideIn_18 (by decide) ?_
    refine lv_idiv hx hb dX2_tideIn_19 (by decide) ?_
    refine gv_wi (pk_div (a := pe) (d := 2) (by omega) (by omega) (by omega)) ?_
    refine lv_icmp_ge (tgt := 27) hx hb dX2_tideIn_20 (by decide) (fun c_20 => ?_) (fun c_20 => ?_)
    · skip
      have c_20 := (nI_leI (a := pe / 2) (b := mo % pe) (by omega) (by omega)).mp c_20
      refine lv_iconst (v := nI 0) hx hb dX2_tideIn_27 (by decide) ?_
      refine lv_istore_n (lv' := [(2, .int (nI 0)), (0, .ref m0), (1, .int (nI mo))]) hx hb dX2_tideIn_28 rfl hl (by decide) rfl (fun ls hl => ?_)
      refine lv_iload_n hx hb dX2_tideIn_29 rfl (lv_at hl 0 rfl) ?_
      refine lv_if_eq (tgt := 41) hx hb dX2_tideIn_30 (by decide) (fun c_30 => ?_) (fun c_30 => ?_)
      · skip
        refine lv_aload_n hx hb dX2_tideIn_41 rfl (lv_at hl 1 rfl) ?_
        refine va_get (D := D) (ci := 2) (v := .int st) (C := RX2) (T := TX2) (N := 2) hx hb hts gv_in_X2_tideIn_X2 hown hK hP 0 rfl rfl 0 (by decide) (hts (.fieldLink RX2 7 "Gravimere$Moon" "strength" "I") (by decide +kernel)) (fun _ h9 => h9) rfl dX2_tideIn_42 ?_
        refine lv_ineg hx hb dX2_tideIn_45 ?_
        refine lv_i2l (v := (-st).toInt64) hx hb dX2_tideIn_46 rfl ?_
        have hpo : ((-st).toInt64) = (if mo % pe < pe / 2 then st else -st).toInt64 := by
          rw [if_neg (by omega)]
        exact W.lret (v := (-st).toInt64) hx hb hr (fun t9 ht9 hW9 => ⟨((-st).toInt64), rfl, hpo, ht9⟩) t_nil dX2_tideIn_47
      · skip
        exact absurd (by decide) c_30
    · skip
      have c_20 := (not_congr (nI_leI (a := pe / 2) (b := mo % pe) (by omega) (by omega))).mp c_20
      refine lv_iconst (v := nI 1) hx hb dX2_tideIn_23 (by decide) ?_
      refine lv_goto (tgt := 28) hx hb dX2_tideIn_24 (by decide) ?_
      refine lv_istore_n (lv' := [(2, .int (nI 1)), (0, .ref m0), (1, .int (nI mo))]) hx hb dX2_tideIn_28 rfl hl (by decide) rfl (fun ls hl => ?_)
      refine lv_iload_n hx hb dX2_tideIn_29 rfl (lv_at hl 0 rfl) ?_
      refine lv_if_eq (tgt := 41) hx hb dX2_tideIn_30 (by decide) (fun c_30 => ?_) (fun c_30 => ?_)
      · skip
        exact absurd c_30 (by decide)
      · skip
        refine lv_aload_n hx hb dX2_tideIn_33 rfl (lv_at hl 1 rfl) ?_
        refine va_get (D := D) (ci := 2) (v := .int st) (C := RX2) (T := TX2) (N := 2) hx hb hts gv_in_X2_tideIn_X2 hown hK hP 0 rfl rfl 0 (by decide) (hts (.fieldLink RX2 7 "Gravimere$Moon" "strength" "I") (by decide +kernel)) (fun _ h9 => h9) rfl dX2_tideIn_34 ?_
        refine lv_i2l (v := st.toInt64) hx hb dX2_tideIn_37 rfl ?_
        refine lv_goto (tgt := 47) hx hb dX2_tideIn_38 (by decide) ?_
        have hpo : st.toInt64 = (if mo % pe < pe / 2 then st else -st).toInt64 := by
          rw [if_pos (by omega)]
        exact W.lret (v := st.toInt64) hx hb hr (fun t9 ht9 hW9 => ⟨st.toInt64, rfl, hpo, ht9⟩) t_nil dX2_tideIn_47
set_option maxHeartbeats 4000000 in
set_option maxRecDepth 100000 in
theorem ct_X3_add (l : Launch) (D : va_G) (cI cJ : ClassId) (sz : Nat) (n0 n1 n2 n3 nc : Nat) (kd of_ td : Nat → Int32) (k o mo : Int32) (hnc : nc < 6) : Met l yX3_add wsX3_add ({ frames := 0, cells := 0, slots := 0, locals := 0 }) (va_Pc [.ref n0, .int k, .int o, .int mo] (gv_B D cI cJ [(n0, .inr (3, [.ref n1, .ref n2, .ref n3, .int (nI nc)])), (n1, .inl (cI, 6, .inl kd)), (n2, .inl (cI, 6, .inl of_)), (n3, .inl (cI, 6, .inl td))] sz)) (va_Qi (fun (r9 : Int32) (u9 : Unit) => r9 = nI nc) (fun (u9 : Unit) t9 => gv_W D (va_A [(n0, .inr (3, [.ref n1, .ref n2, .ref n3, .int (nI nc)])), (n1, .inl (cI, 6, .inl kd)), (n2, .inl (cI, 6, .inl of_)), (n3, .inl (cI, 6, .inl td))] sz) [(n0, .inr (3, [.ref n1, .ref n2, .ref n3, .int (nI (nc + 1))])), (n1, .inl (cI, 6, .inl (upd kd nc k))), (n2, .inl (cI, 6, .inl (upd of_ nc o))), (n3, .inl (cI, 6, .inl (upd td nc mo)))] t9) (va_A [(n0, .inr (3, [.ref n1, .ref n2, .ref n3, .int (nI nc)])), (n1, .inl (cI, 6, .inl kd)), (n2, .inl (cI, 6, .inl of_)), (n3, .inl (cI, 6, .inl td))] sz)) 0 0 (va_A [(n0, .inr (3, [.ref n1, .ref n2, .ref n3, .int (nI nc)])), (n1, .inl (cI, 6, .inl kd)), (n2, .inl (cI, 6, .inl of_)), (n3, .inl (cI, 6, .inl td))] sz) := by
  refine Met.ofW (cc := cX3_add) (maxL := 4) (ret := (some .int)) (by decide) rfl ?_
  intro p e s m args below meth c s₁ B hml hv
  obtain ⟨rfl, hsz, hP, hK, hD0, hG⟩ := hv
  have hx := B.exec
  have hb := B.bytes
  have hr := B.returns
  have hts := atoms_spec (ws := wsX3_add) B.pre
  have hown : s.vm.findClass RX3 = some m.cls := findClass_of_methodNamed B.named
  have hlocks := B.notSynchronized
  subst hsz
  have hD := hD0.self (sz := s.heap.size)
  generalize hAe : va_A [(n0, .inr (3, [.ref n1, .ref n2, .ref n3, .int (nI nc)])), (n1, .inl (cI, 6, .inl kd)), (n2, .inl (cI, 6, .inl of_)), (n3, .inl (cI, 6, .inl td))] s.heap.size = A at hD ⊢
  have hA : ∀ q : Nat, s.heap.size ≤ q → A q := fun q h => by rw [← hAe]; exact Or.inr h
  have hS : va_S A s.heap s.heap [] := va_S.rf
  have hP : va_P D vwCl [(n0, .inr (3, [.ref n1, .ref n2, .ref n3, .int (nI nc)])), (n1, .inl (cI, 6, .inl kd)), (n2, .inl (cI, 6, .inl of_)), (n3, .inl (cI, 6, .inl td))] s.heap := hP
  have hl := lv_entry ([.ref n0, .int k, .int o, .int mo]) (n := 4) (Nat.le_of_ble_eq_true rfl)
  rw [lg_entry_eq]
  generalize (lg_sl ([.ref n0, .int k, .int o, .int mo]) ++ List.replicate (4 - (lg_sl ([.ref n0, .int k, .int o, .int mo])).length) Slot.unset).toArray = ls at hl ⊢
  have hl : lv_has ls 4 [(0, .ref n0), (1, .int k), (2, .int o), (3, .int mo)] := hl
  refine lv_aload_n hx hb dX3_add_0 rfl (lv_at hl 0 rfl) ?_
  refine va_get (D := D) (ci := 3) (v := .ref n1) (C := RX3) (T := TX3) (N := 4) hx hb hts gv_in_X3_add_X3 hown hK hP 0 rfl rfl 0 (by decide) (hts (.fieldLink RX3 9 "Gravimere$Needles" "kinds" "[I") (by decide +kernel)) (fun _ h9 => h9) rfl dX3_add_1 ?_
  refine lv_aload_n hx hb dX3_add_4 rfl (lv_at hl 0 rfl) ?_
  refine va_get (D := D) (ci := 3) (v := .int (nI nc)) (C := RX3) (T := TX3) (N := 4) hx hb hts gv_in_X3_add_X3 hown hK hP 0 rfl rfl 3 (by decide) (hts (.fieldLink RX3 21 "Gravimere$Needles" "count" "I") (by decide +kernel)) (fun _ h9 => h9) rfl dX3_add_5 ?_
  refine lv_iload_n hx hb dX3_add_8 rfl (lv_at hl 1 rfl) ?_
  refine gv_is hx hb hK hP hD hS 1 (k := nc) rfl (by omega) (by decide) dX3_add_9 (fun H locs hP hD hS => ?_)
  have hP : va_P D vwCl [(n0, .inr (3, [.ref n1, .ref n2, .ref n3, .int (nI nc)])), (n1, .inl (cI, 6, .inl (upd kd nc k))), (n2, .inl (cI, 6, .inl of_)), (n3, .inl (cI, 6, .inl td))] H := hP
  have hD : va_D A [(n0, .inr (3, [.ref n1, .ref n2, .ref n3, .int (nI nc)])), (n1, .inl (cI, 6, .inl (upd kd nc k))), (n2, .inl (cI, 6, .inl of_)), (n3, .inl (cI, 6, .inl td))] := hD
  refine lv_aload_n hx hb dX3_add_10 rfl (lv_at hl 0 rfl) ?_
  refine va_get (D := D) (ci := 3) (v := .ref n2) (C := RX3) (T := TX3) (N := 4) hx hb hts gv_in_X3_add_X3 hown hK hP 0 rfl rfl 1 (by decide) (hts (.fieldLink RX3 15 "Gravimere$Needles" "offs" "[I") (by decide +kernel)) (fun _ h9 => h9) rfl dX3_add_11 ?_
  refine lv_aload_n hx hb dX3_add_14 rfl (lv_at hl 0 rfl) ?_
  refine va_get (D := D) (ci := 3) (v := .int (nI nc)) (C := RX3) (T := TX3) (N := 4) hx hb hts gv_in_X3_add_X3 hown hK hP 0 rfl rfl 3 (by decide) (hts (.fieldLink RX3 21 "Gravimere$Needles" "count" "I") (by decide +kernel)) (fun _ h9 => h9) rfl dX3_add_15 ?_
  refine lv_iload_n hx hb dX3_add_18 rfl (lv_at hl 2 rfl) ?_
  refine gv_is hx hb hK hP hD hS 2 (k := nc) rfl (by omega) (by decide) dX3_add_19 (fun H locs hP hD hS => ?_)
  have hP : va_P D vwCl [(n0, .inr (3, [.ref n1, .ref n2, .ref n3, .int (nI nc)])), (n1, .inl (cI, 6, .inl (upd kd nc k))), (n2, .inl (cI, 6, .inl (upd of_ nc o))), (n3, .inl (cI, 6, .inl td))] H := hP
  have hD : va_D A [(n0, .inr (3, [.ref n1, .ref n2, .ref n3, .int (nI nc)])), (n1, .inl (cI, 6, .inl (upd kd nc k))), (n2, .inl (cI, 6, .inl (upd of_ nc o))), (n3, .inl (cI, 6, .inl td))] := hD
  refine lv_aload_n hx hb dX3_add_20 rfl (lv_at hl 0 rfl) ?_
  refine va_get (D := D) (ci := 3) (v := .ref n3) (C := RX3) (T := TX3) (N := 4) hx hb hts gv_in_X3_add_X3 hown hK hP 0 rfl rfl 2 (by decide) (hts (.fieldLink RX3 18 "Gravimere$Needles" "tiedMonths" "[I") (by decide +kernel)) (fun _ h9 => h9) rfl dX3_add_21 ?_
  refine lv_aload_n hx hb dX3_add_24 rfl (lv_at hl 0 rfl) ?_
  refine va_get (D := D) (ci := 3) (v := .int (nI nc)) (C := RX3) (T := TX3) (N := 4) hx hb hts gv_in_X3_add_X3 hown hK hP 0 rfl rfl 3 (by decide) (hts (.fieldLink RX3 21 "Gravimere$Needles" "count" "I") (by decide +kernel)) (fun _ h9 => h9) rfl dX3_add_25 ?_
  refine lv_iload_n hx hb dX3_add_28 rfl (lv_at hl 3 rfl) ?_
  refine gv_is hx hb hK hP hD hS 3 (k := nc) rfl (by omega) (by decide) dX3_add_29 (fun H locs hP hD hS => ?_)
  have hP : va_P D vwCl [(n0, .inr (3, [.ref n1, .ref n2, .ref n3, .int (nI nc)])), (n1, .inl (cI, 6, .inl (upd kd nc k))), (n2, .inl (cI, 6, .inl (upd of_ nc o))), (n3, .inl (cI, 6, .inl (upd td nc mo)))] H := hP
  have hD : va_D A [(n0, .inr (3, [.ref n1, .ref n2, .ref n3, .int (nI nc)])), (n1, .inl (cI, 6, .inl (upd kd nc k))), (n2, .inl (cI, 6, .inl (upd of_ nc o))), (n3, .inl (cI, 6, .inl (upd td nc mo)))] := hD
  refine lv_aload_n hx hb dX3_add_30 rfl (lv_at hl 0 rfl) ?_
  refine lv_dup hx hb dX3_add_31 rfl ?_
  refine va_get (D := D) (ci := 3) (v := .int (nI nc)) (C := RX3) (T := TX3) (N := 4) hx hb hts gv_in_X3_add_X3 hown hK hP 0 rfl rfl 3 (by decide) (hts (.fieldLink RX3 21 "Gravimere$Needles" "count" "I") (by decide +kernel)) (fun _ h9 => h9) rfl dX3_add_32 ?_
  refine lv_iconst (v := nI 1) hx hb dX3_add_35 (by decide) ?_
  refine lv_iadd hx hb dX3_add_36 ?_
  refine gv_wi (nI_add nc 1) ?_
  refine va_put (D := D) (ci := 3) (v := .int (nI (nc + 1))) (ty := .int) (C := RX3) (T := TX3) (N := 4) hx hb hts gv_in_X3_add_X3 tyX3 tyX3_ok nmX3 hown hK hP hD hS 0 rfl rfl 3 (by decide) (hts (.fieldLink RX3 21 "Gravimere$Needles" "count" "I") (by decide +kernel)) (fun _ h9 => h9) rfl (by decide +kernel) rfl rfl (Nat.le_of_ble_eq_true rfl) dX3_add_37 (fun H locs hP hD hS => ?_)
  have hP : va_P D vwCl [(n0, .inr (3, [.ref n1, .ref n2, .ref n3, .int (nI (nc + 1))])), (n1, .inl (cI, 6, .inl (upd kd nc k))), (n2, .inl (cI, 6, .inl (upd of_ nc o))), (n3, .inl (cI, 6, .inl (upd td nc mo)))] H := hP
  have hD : va_D A [(n0, .inr (3, [.ref n1, .ref n2, .ref n3, .int (nI (nc + 1))])), (n1, .inl (cI, 6, .inl (upd kd nc k))), (n2, .inl (cI, 6, .inl (upd of_ nc o))), (n3, .inl (cI, 6, .inl (upd td nc mo)))] := hD
  refine lv_aload_n hx hb dX3_add_40 rfl (lv_at hl 0 rfl) ?_
  refine va_get (D := D) (ci := 3) (v := .int (nI (nc + 1))) (C := RX3) (T := TX3) (N := 4) hx hb hts gv_in_X3_add_X3 hown hK hP 0 rfl rfl 3 (by decide) (hts (.fieldLink RX3 21 "Gravimere$Needles" "count" "I") (by decide +kernel)) (fun _ h9 => h9) rfl dX3_add_41 ?_
  refine lv_iconst (v := nI 1) hx hb dX3_add_44 (by decide) ?_
  refine lv_isub hx hb dX3_add_45 ?_
  refine gv_wi (nI_pred nc) ?_
  have hpo : (nI nc) = nI nc := by
    rfl
  have hP9 : va_P D vwCl [(n0, .inr (3, [.ref n1, .ref n2, .ref n3, .int (nI (nc + 1))])), (n1, .inl (cI, 6, .inl (upd kd nc k))), (n2, .inl (cI, 6, .inl (upd of_ nc o))), (n3, .inl (cI, 6, .inl (upd td nc mo)))] H := hP
  have hD9 : va_D A [(n0, .inr (3, [.ref n1, .ref n2, .ref n3, .int (nI (nc + 1))])), (n1, .inl (cI, 6, .inl (upd kd nc k))), (n2, .inl (cI, 6, .inl (upd of_ nc o))), (n3, .inl (cI, 6, .inl (upd td nc mo)))] := hD
  exact W.iret (v := nI nc) hx hb hr (fun t9 ht9 hW9 => ⟨⟨(nI nc), (), rfl, hpo, by rw [ht9]; exact hP9, hD9⟩, hS.F ht9⟩) hS.2.2 dX3_add_46
set_option maxHeartbeats 4000000 in
set_option maxRecDepth 100000 in
theorem ct_X3_offIn (l : Launch) (D : va_G) (cI cJ : ClassId) (sz : Nat) (n0 n1 n2 n3 : Nat) (nc : Nat) (kd of_ td : Nat → Int32) (i : Nat) (mo : Int32) (hi : i < 6) : Met l yX3_offIn wsX3_offIn ({ frames := 0, cells := 0, slots := 0, locals := 0 }) (va_Pc [.ref n0, .int (nI i), .int mo] (gv_B D cI cJ [(n0, .inr (3, [.ref n1, .ref n2, .ref n3, .int (nI nc)])), (n1, .inl (cI, 6, .inl kd)), (n2, .inl (cI, 6, .inl of_)), (n3, .inl (cI, 6, .inl td))] sz)) (vp_Sl (fun r9 : Int64 => r9 = gv_off kd of_ td mo i)) 0 0 (fun _ => False) := by
  refine Met.ofW (cc := cX3_offIn) (maxL := 3) (ret := (some .long)) (by decide) rfl ?_
  intro p e s m args below meth c s₁ B hml hv
  obtain ⟨rfl, hsz, hP, hK, hD0, hG⟩ := hv
  have hx := B.exec
  have hb := B.bytes
  have hr := B.returns
  have hts := atoms_spec (ws := wsX3_offIn) B.pre
  have hown : s.vm.findClass RX3 = some m.cls := findClass_of_methodNamed B.named
  have hlocks := B.notSynchronized
  subst hsz
  have hD := hD0
  have hP : va_P D vwCl [(n0, .inr (3, [.ref n1, .ref n2, .ref n3, .int (nI nc)])), (n1, .inl (cI, 6, .inl kd)), (n2, .inl (cI, 6, .inl of_)), (n3, .inl (cI, 6, .inl td))] s.heap := hP
  have hl := lv_entry ([.ref n0, .int (nI i), .int mo]) (n := 3) (Nat.le_of_ble_eq_true rfl)
  rw [lg_entry_eq]
  generalize (lg_sl ([.ref n0, .int (nI i), .int mo]) ++ List.replicate (3 - (lg_sl ([.ref n0, .int (nI i), .int mo])).length) Slot.unset).toArray = ls at hl ⊢
  have hl : lv_has ls 3 [(0, .ref n0), (1, .int (nI i)), (2, .int mo)] := hl
  refine lv_aload_n hx hb dX3_offIn_0 rfl (lv_at hl 0 rfl) ?_
  refine va_get (D := D) (ci := 3) (v := .ref n1) (C := RX3) (T := TX3) (N := 4) hx hb hts gv_in_X3_offIn_X3 hown hK hP 0 rfl rfl 0 (by decide) (hts (.fieldLink RX3 9 "Gravimere$Needles" "kinds" "[I") (by decide +kernel)) (fun _ h9 => h9) rfl dX3_offIn_1 ?_
  refine lv_iload_n hx hb dX3_offIn_4 rfl (lv_at hl 1 rfl) ?_
  refine gv_il hx hb hK hP 1 (k := i) rfl (by omega) (by decide) dX3_offIn_5 ?_
  refine lv_if_ne (tgt := 19) hx hb dX3_offIn_6 (by decide) (fun c_6 => ?_) (fun c_6 => ?_)
  · skip
    refine lv_aload_n hx hb dX3_offIn_19 rfl (lv_at hl 0 rfl) ?_
    refine va_get (D := D) (ci := 3) (v := .ref n2) (C := RX3) (T := TX3) (N := 4) hx hb hts gv_in_X3_offIn_X3 hown hK hP 0 rfl rfl 1 (by decide) (hts (.fieldLink RX3 15 "Gravimere$Needles" "offs" "[I") (by decide +kernel)) (fun _ h9 => h9) rfl dX3_offIn_20 ?_
    refine lv_iload_n hx hb dX3_offIn_23 rfl (lv_at hl 1 rfl) ?_
    refine gv_il hx hb hK hP 2 (k := i) rfl (by omega) (by decide) dX3_offIn_24 ?_
    refine lv_i2l (v := (of_ i).toInt64) hx hb dX3_offIn_25 rfl ?_
    refine lv_iload_n hx hb dX3_offIn_26 rfl (lv_at hl 2 rfl) ?_
    refine lv_aload_n hx hb dX3_offIn_27 rfl (lv_at hl 0 rfl) ?_
    refine va_get (D := D) (ci := 3) (v := .ref n3) (C := RX3) (T := TX3) (N := 4) hx hb hts gv_in_X3_offIn_X3 hown hK hP 0 rfl rfl 2 (by decide) (hts (.fieldLink RX3 18 "Gravimere$Needles" "tiedMonths" "[I") (by decide +kernel)) (fun _ h9 => h9) rfl dX3_offIn_28 ?_
    refine lv_iload_n hx hb dX3_offIn_31 rfl (lv_at hl 1 rfl) ?_
    refine gv_il hx hb hK hP 3 (k := i) rfl (by omega) (by decide) dX3_offIn_32 ?_
    refine lv_isub hx hb dX3_offIn_33 ?_
    refine lv_i2l (v := (mo - (td i)).toInt64) hx hb dX3_offIn_34 rfl ?_
    refine lv_lmul hx hb dX3_offIn_35 ?_
    have hpo : (((of_ i).toInt64) * ((mo - (td i)).toInt64)) = gv_off kd of_ td mo i := by
      exact (if_neg c_6).symm
    exact W.lret (v := ((of_ i).toInt64) * ((mo - (td i)).toInt64)) hx hb hr (fun t9 ht9 hW9 => ⟨(((of_ i).toInt64) * ((mo - (td i)).toInt64)), rfl, hpo, ht9⟩) t_nil dX3_offIn_36
  · skip
    refine lv_aload_n hx hb dX3_offIn_9 rfl (lv_at hl 0 rfl) ?_
    refine va_get (D := D) (ci := 3) (v := .ref n2) (C := RX3) (T := TX3) (N := 4) hx hb hts gv_in_X3_offIn_X3 hown hK hP 0 rfl rfl 1 (by decide) (hts (.fieldLink RX3 15 "Gravimere$Needles" "offs" "[I") (by decide +kernel)) (fun _ h9 => h9) rfl dX3_offIn_10 ?_
    refine lv_iload_n hx hb dX3_offIn_13 rfl (lv_at hl 1 rfl) ?_
    refine gv_il hx hb hK hP 2 (k := i) rfl (by omega) (by decide) dX3_offIn_14 ?_
    refine lv_i2l (v := (of_ i).toInt64) hx hb dX3_offIn_15 rfl ?_
    refine lv_goto (tgt := 36) hx hb dX3_offIn_16 (by decide) ?_
    have hpo : ((of_ i).toInt64) = gv_off kd of_ td mo i := by
      exact (if_pos c_6).symm
    exact W.lret (v := (of_ i).toInt64) hx hb hr (fun t9 ht9 hW9 => ⟨((of_ i).toInt64), rfl, hpo, ht9⟩) t_nil dX3_offIn_36
set_option maxHeartbeats 4000000 in
set_option maxRecDepth 100000 in
theorem ct_X0_keep (l : Launch) (D : va_G) (cI cJ : ClassId) (sz : Nat) (a0 a1 a2 ac b3 : Nat) (kp fP : Nat → Int64) (am : Nat → Nat) (mo : Nat) (hac : ac < 12) : Met l yX0_keep wsX0_keep ({ frames := 1, cells := 0, slots := 0, locals := 60 }) (va_Pc [.ref a0, .ref b3, .int (nI mo)] (gv_B D cI cJ [(a0, .inr (0, [.ref a1, .ref a2, .int (nI ac)])), (a1, .inl (cJ, 768, .inr (.inl kp))), (a2, .inl (cI, 12, .inl (fun j => nI (am j)))), (b3, .inl (cJ, 64, .inr (.inl fP)))] sz)) (va_Qi (fun (r9 : Int32) (u9 : Unit) => r9 = nI ac) (fun (u9 : Unit) t9 => gv_W D (va_A [(a0, .inr (0, [.ref a1, .ref a2, .int (nI ac)])), (a1, .inl (cJ, 768, .inr (.inl kp))), (a2, .inl (cI, 12, .inl (fun j => nI (am j)))), (b3, .inl (cJ, 64, .inr (.inl fP)))] sz) [(a0, .inr (0, [.ref a1, .ref a2, .int (nI (ac + 1))])), (a1, .inl (cJ, 768, .inr (.inl (va_cpy fP kp 0 (ac * 64) 64)))), (a2, .inl (cI, 12, .inl (fun j => nI (gv_un am ac mo j)))), (b3, .inl (cJ, 64, .inr (.inl fP)))] t9) (va_A [(a0, .inr (0, [.ref a1, .ref a2, .int (nI ac)])), (a1, .inl (cJ, 768, .inr (.inl kp))), (a2, .inl (cI, 12, .inl (fun j => nI (am j)))), (b3, .inl (cJ, 64, .inr (.inl fP)))] sz)) 0 0 (va_A [(a0, .inr (0, [.ref a1, .ref a2, .int (nI ac)])), (a1, .inl (cJ, 768, .inr (.inl kp))), (a2, .inl (cI, 12, .inl (fun j => nI (am j)))), (b3, .inl (cJ, 64, .inr (.inl fP)))] sz) := by
  refine Met.ofW (cc := cX0_keep) (maxL := 3) (ret := (some .int)) (by decide) rfl ?_
  intro p e s m args below meth c s₁ B hml hv
  obtain ⟨rfl, hsz, hP, hK, hD0, hG⟩ := hv
  have hx := B.exec
  have hb := B.bytes
  have hr := B.returns
  have hts := atoms_spec (ws := wsX0_keep) B.pre
  have hown : s.vm.findClass RX0 = some m.cls := findClass_of_methodNamed B.named
  have hlocks := B.notSynchronized
  subst hsz
  have hD := hD0.self (sz := s.heap.size)
  generalize hAe : va_A [(a0, .inr (0, [.ref a1, .ref a2, .int (nI ac)])), (a1, .inl (cJ, 768, .inr (.inl kp))), (a2, .inl (cI, 12, .inl (fun j => nI (am j)))), (b3, .inl (cJ, 64, .inr (.inl fP)))] s.heap.size = A at hD ⊢
  have hA : ∀ q : Nat, s.heap.size ≤ q → A q := fun q h => by rw [← hAe]; exact Or.inr h
  have hS : va_S A s.heap s.heap [] := va_S.rf
  have hP : va_P D vwCl [(a0, .inr (0, [.ref a1, .ref a2, .int (nI ac)])), (a1, .inl (cJ, 768, .inr (.inl kp))), (a2, .inl (cI, 12, .inl (fun j => nI (am j)))), (b3, .inl (cJ, 64, .inr (.inl fP)))] s.heap := hP
  have hl := lv_entry ([.ref a0, .ref b3, .int (nI mo)]) (n := 3) (Nat.le_of_ble_eq_true rfl)
  rw [lg_entry_eq]
  generalize (lg_sl ([.ref a0, .ref b3, .int (nI mo)]) ++ List.replicate (3 - (lg_sl ([.ref a0, .ref b3, .int (nI mo)])).length) Slot.unset).toArray = ls at hl ⊢
  have hl : lv_has ls 3 [(0, .ref a0), (1, .ref b3), (2, .int (nI mo))] := hl
  refine lv_aload_n hx hb dX0_keep_0 rfl (lv_at hl 1 rfl) ?_
  refine lv_iconst (v := nI 0) hx hb dX0_keep_1 (by decide) ?_
  refine lv_aload_n hx hb dX0_keep_2 rfl (lv_at hl 0 rfl) ?_
  refine va_get (D := D) (ci := 0) (v := .ref a1) (C := RX0) (T := TX0) (N := 3) hx hb hts gv_in_X0_keep_X0 hown hK hP 0 rfl rfl 0 (by decide) (hts (.fieldLink RX0 9 "Gravimere$Archive" "pulls" "[J") (by decide +kernel)) (fun _ h9 => h9) rfl dX0_keep_3 ?_
  refine lv_aload_n hx hb dX0_keep_6 rfl (lv_at hl 0 rfl) ?_
  refine va_get (D := D) (ci := 0) (v := .int (nI ac)) (C := RX0) (T := TX0) (N := 3) hx hb hts gv_in_X0_keep_X0 hown hK hP 0 rfl rfl 2 (by decide) (hts (.fieldLink RX0 19 "Gravimere$Archive" "count" "I") (by decide +kernel)) (fun _ h9 => h9) rfl dX0_keep_7 ?_
  refine lv_bipush (v := nI 64) hx hb dX0_keep_10 (by decide) ?_
  refine lv_imul hx hb dX0_keep_12 ?_
  refine gv_wi (pk_mul ac 64) ?_
  refine lv_bipush (v := nI 64) hx hb dX0_keep_13 (by decide) ?_
  refine va_copyl hx hb (hml.trans hl.1.symm) hown (hts (.methodLink RX0 23 arraycopyName) (by decide +kernel)) (hts (.native arraycopyName) (by decide +kernel)) (hts (.static arraycopyName) (by decide +kernel)) (hts (.initialized "java/lang/System") (by decide +kernel)) hK hP hD hS 3 1 1 1 rfl rfl rfl rfl rfl (nI_pos (n := 0) (by omega)) (nI_pos (n := ac * 64) (by omega)) (nI_pos (n := 64) (by omega)) (by rw [nI_clamp (n := 0) (by omega), nI_clamp (n := 64) (by omega)]; omega) (by rw [nI_clamp (n := ac * 64) (by omega), nI_clamp (n := 64) (by omega)]; omega) (fun _ _ => rfl) (Nat.le_of_ble_eq_true rfl) (Nat.le_of_ble_eq_true rfl) dX0_keep_15 (fun H locs hP hD hS => ?_)
  rw [nI_clamp (n := 0) (by omega), nI_clamp (n := ac * 64) (by omega), nI_clamp (n := 64) (by omega)] at hP hD
  have hP : va_P D vwCl [(a0, .inr (0, [.ref a1, .ref a2, .int (nI ac)])), (a1, .inl (cJ, 768, .inr (.inl (va_cpy fP kp 0 (ac * 64) 64)))), (a2, .inl (cI, 12, .inl (fun j => nI (am j)))), (b3, .inl (cJ, 64, .inr (.inl fP)))] H := hP
  have hD : va_D A [(a0, .inr (0, [.ref a1, .ref a2, .int (nI ac)])), (a1, .inl (cJ, 768, .inr (.inl (va_cpy fP kp 0 (ac * 64) 64)))), (a2, .inl (cI, 12, .inl (fun j => nI (am j)))), (b3, .inl (cJ, 64, .inr (.inl fP)))] := hD
  refine lv_aload_n hx hb dX0_keep_18 rfl (lv_at hl 0 rfl) ?_
  refine va_get (D := D) (ci := 0) (v := .ref a2) (C := RX0) (T := TX0) (N := 3) hx hb hts gv_in_X0_keep_X0 hown hK hP 0 rfl rfl 1 (by decide) (hts (.fieldLink RX0 15 "Gravimere$Archive" "months" "[I") (by decide +kernel)) (fun _ h9 => h9) rfl dX0_keep_19 ?_
  refine lv_aload_n hx hb dX0_keep_22 rfl (lv_at hl 0 rfl) ?_
  refine va_get (D := D) (ci := 0) (v := .int (nI ac)) (C := RX0) (T := TX0) (N := 3) hx hb hts gv_in_X0_keep_X0 hown hK hP 0 rfl rfl 2 (by decide) (hts (.fieldLink RX0 19 "Gravimere$Archive" "count" "I") (by decide +kernel)) (fun _ h9 => h9) rfl dX0_keep_23 ?_
  refine lv_iload_n hx hb dX0_keep_26 rfl (lv_at hl 2 rfl) ?_
  refine gv_is hx hb hK hP hD hS 2 (k := ac) rfl (by omega) (by decide) dX0_keep_27 (fun H locs hP hD hS => ?_)
  have hP : va_P D vwCl [(a0, .inr (0, [.ref a1, .ref a2, .int (nI ac)])), (a1, .inl (cJ, 768, .inr (.inl (va_cpy fP kp 0 (ac * 64) 64)))), (a2, .inl (cI, 12, .inl (upd (fun j => nI (am j)) ac (nI mo)))), (b3, .inl (cJ, 64, .inr (.inl fP)))] H := hP
  have hD : va_D A [(a0, .inr (0, [.ref a1, .ref a2, .int (nI ac)])), (a1, .inl (cJ, 768, .inr (.inl (va_cpy fP kp 0 (ac * 64) 64)))), (a2, .inl (cI, 12, .inl (upd (fun j => nI (am j)) ac (nI mo)))), (b3, .inl (cJ, 64, .inr (.inl fP)))] := hD
  have hRW : upd (fun j => nI (am j)) ac (nI mo) = fun j => nI (gv_un am ac mo j) := gv_upd_n am ac mo
  rw [hRW] at hP hD
  have hP : va_P D vwCl [(a0, .inr (0, [.ref a1, .ref a2, .int (nI ac)])), (a1, .inl (cJ, 768, .inr (.inl (va_cpy fP kp 0 (ac * 64) 64)))), (a2, .inl (cI, 12, .inl (fun j => nI (gv_un am ac mo j)))), (b3, .inl (cJ, 64, .inr (.inl fP)))] H := hP
  have hD : va_D A [(a0, .inr (0, [.ref a1, .ref a2, .int (nI ac)])), (a1, .inl (cJ, 768, .inr (.inl (va_cpy fP kp 0 (ac * 64) 64)))), (a2, .inl (cI, 12, .inl (fun j => nI (gv_un am ac mo j)))), (b3, .inl (cJ, 64, .inr (.inl fP)))] := hD
  refine lv_aload_n hx hb dX0_keep_28 rfl (lv_at hl 0 rfl) ?_
  refine lv_dup hx hb dX0_keep_29 rfl ?_
  refine va_get (D := D) (ci := 0) (v := .int (nI ac)) (C := RX0) (T := TX0) (N := 3) hx hb hts gv_in_X0_keep_X0 hown hK hP 0 rfl rfl 2 (by decide) (hts (.fieldLink RX0 19 "Gravimere$Archive" "count" "I") (by decide +kernel)) (fun _ h9 => h9) rfl dX0_keep_30 ?_
  refine lv_iconst (v := nI 1) hx hb dX0_keep_33 (by decide) ?_
  refine lv_iadd hx hb dX0_keep_34 ?_
  refine gv_wi (nI_add ac 1) ?_
  refine va_put (D := D) (ci := 0) (v := .int (nI (ac + 1))) (ty := .int) (C := RX0) (T := TX0) (N := 3) hx hb hts gv_in_X0_keep_X0 tyX0 tyX0_ok nmX0 hown hK hP hD hS 0 rfl rfl 2 (by decide) (hts (.fieldLink RX0 19 "Gravimere$Archive" "count" "I") (by decide +kernel)) (fun _ h9 => h9) rfl (by decide +kernel) rfl rfl (Nat.le_of_ble_eq_true rfl) dX0_keep_35 (fun H locs hP hD hS => ?_)
  have hP : va_P D vwCl [(a0, .inr (0, [.ref a1, .ref a2, .int (nI (ac + 1))])), (a1, .inl (cJ, 768, .inr (.inl (va_cpy fP kp 0 (ac * 64) 64)))), (a2, .inl (cI, 12, .inl (fun j => nI (gv_un am ac mo j)))), (b3, .inl (cJ, 64, .inr (.inl fP)))] H := hP
  have hD : va_D A [(a0, .inr (0, [.ref a1, .ref a2, .int (nI (ac + 1))])), (a1, .inl (cJ, 768, .inr (.inl (va_cpy fP kp 0 (ac * 64) 64)))), (a2, .inl (cI, 12, .inl (fun j => nI (gv_un am ac mo j)))), (b3, .inl (cJ, 64, .inr (.inl fP)))] := hD
  refine lv_aload_n hx hb dX0_keep_38 rfl (lv_at hl 0 rfl) ?_
  refine va_get (D := D) (ci := 0) (v := .int (nI (ac + 1))) (C := RX0) (T := TX0) (N := 3) hx hb hts gv_in_X0_keep_X0 hown hK hP 0 rfl rfl 2 (by decide) (hts (.fieldLink RX0 19 "Gravimere$Archive" "count" "I") (by decide +kernel)) (fun _ h9 => h9) rfl dX0_keep_39 ?_
  refine lv_iconst (v := nI 1) hx hb dX0_keep_42 (by decide) ?_
  refine lv_isub hx hb dX0_keep_43 ?_
  refine gv_wi (nI_pred ac) ?_
  have hpo : (nI ac) = nI ac := by
    rfl
  have hP9 : va_P D vwCl [(a0, .inr (0, [.ref a1, .ref a2, .int (nI (ac + 1))])), (a1, .inl (cJ, 768, .inr (.inl (va_cpy fP kp 0 (ac * 64) 64)))), (a2, .inl (cI, 12, .inl (fun j => nI (gv_un am ac mo j)))), (b3, .inl (cJ, 64, .inr (.inl fP)))] H := hP
  have hD9 : va_D A [(a0, .inr (0, [.ref a1, .ref a2, .int (nI (ac + 1))])), (a1, .inl (cJ, 768, .inr (.inl (va_cpy fP kp 0 (ac * 64) 64)))), (a2, .inl (cI, 12, .inl (fun j => nI (gv_un am ac mo j)))), (b3, .inl (cJ, 64, .inr (.inl fP)))] := hD
  exact W.iret (v := nI ac) hx hb hr (fun t9 ht9 hW9 => ⟨⟨(nI ac), (), rfl, hpo, by rw [ht9]; exact hP9, hD9⟩, hS.F ht9⟩) hS.2.2 dX0_keep_44
set_option maxHeartbeats 4000000 in
set_option maxRecDepth 100000 in
theorem ct_X0_trendFrom (l : Launch) (D : va_G) (cI cJ : ClassId) (sz : Nat) (a0 a1 a2 ac : Nat) (kp : Nat → Int64) (am : Nat → Nat) (er lr x y : Nat) (her : er < 12) (hlr : lr < 12) (hx8 : x < 8) (hy8 : y < 8) (hlt2 : am er < am lr) (ham : am lr ≤ 3000) : Met l yX0_trendFrom wsX0_trendFrom ({ frames := 1, cells := 0, slots := 0, locals := 25 }) (va_Pc [.ref a0, .int (nI er), .int (nI lr), .int (nI x), .int (nI y)] (gv_B D cI cJ [(a0, .inr (0, [.ref a1, .ref a2, .int (nI ac)])), (a1, .inl (cJ, 768, .inr (.inl kp))), (a2, .inl (cI, 12, .inl (fun j => nI (am j))))] sz)) (vp_Sl (fun r9 : Int64 => r9 = gv_fdiv (kp (lr * 64 + (y * 8 + x)) - kp (er * 64 + (y * 8 + x))) ((nI (am lr - am er)).toInt64))) 0 0 (fun _ => False) := by
  refine Met.ofW (cc := cX0_trendFrom) (maxL := 9) (ret := (some .long)) (by decide) rfl ?_
  intro p e s m args below meth c s₁ B hml hv
  obtain ⟨rfl, hsz, hP, hK, hD0, hG⟩ := hv
  have hx := B.exec
  have hb := B.bytes
  have hr := B.returns
  have hts := atoms_spec (ws := wsX0_trendFrom) B.pre
  have hown : s.vm.findClass RX0 = some m.cls := findClass_of_methodNamed B.named
  have hlocks := B.notSynchronized
  subst hsz
  have hD := hD0
  have hP : va_P D vwCl [(a0, .inr (0, [.ref a1, .ref a2, .int (nI ac)])), (a1, .inl (cJ, 768, .inr (.inl kp))), (a2, .inl (cI, 12, .inl (fun j => nI (am j))))] s.heap := hP
  have hl := lv_entry ([.ref a0, .int (nI er), .int (nI lr), .int (nI x), .int (nI y)]) (n := 9) (Nat.le_of_ble_eq_true rfl)
  rw [lg_entry_eq]
  generalize (lg_sl ([.ref a0, .int (nI er), .int (nI lr), .int (nI x), .int (nI y)]) ++ List.replicate (9 - (lg_sl ([.ref a0, .int (nI er), .int (nI lr), .int (nI x), .int (nI y)])).length) Slot.unset).toArray = ls at hl ⊢
  have hl : lv_has ls 9 [(0, .ref a0), (1, .int (nI er)), (2, .int (nI lr)), (3, .int (nI x)), (4, .int (nI y))] := hl
  refine lv_aload_n hx hb dX0_trendFrom_0 rfl (lv_at hl 0 rfl) ?_
  refine va_get (D := D) (ci := 0) (v := .ref a2) (C := RX0) (T := TX0) (N := 3) hx hb hts gv_in_X0_trendFrom_X0 hown hK hP 0 rfl rfl 1 (by decide) (hts (.fieldLink RX0 15 "Gravimere$Archive" "months" "[I") (by decide +kernel)) (fun _ h9 => h9) rfl dX0_trendFrom_1 ?_
  refine lv_iload_n hx hb dX0_trendFrom_4 rfl (lv_at hl 2 rfl) ?_
  refine gv_il hx hb hK hP 2 (k := lr) rfl (by omega) (by decide) dX0_trendFrom_5 ?_
  refine gv_wi (rfl) ?_
  refine lv_aload_n hx hb dX0_trendFrom_6 rfl (lv_at hl 0 rfl) ?_
  refine va_get (D := D) (ci := 0) (v := .ref a2) (C := RX0) (T := TX0) (N := 3) hx hb hts gv_in_X0_trendFrom_X0 hown hK hP 0 rfl rfl 1 (by decide) (hts (.fieldLink RX0 15 "Gravimere$Archive" "months" "[I") (by decide +kernel)) (fun _ h9 => h9) rfl dX0_trendFrom_7 ?_
  refine lv_iload_n hx hb dX0_trendFrom_10 rfl (lv_at hl 1 rfl) ?_
  refine gv_il hx hb hK hP 2 (k := er) rfl (by omega) (by decide) dX0_trendFrom_11 ?_
  refine gv_wi (rfl) ?_
  refine lv_isub hx hb dX0_trendFrom_12 ?_
  refine gv_wi (pk_sub (by omega)) ?_
  refine lv_istore (lv' := [(5, .int (nI (am lr - am er))), (0, .ref a0), (1, .int (nI er)), (2, .int (nI lr)), (3, .int (nI x)), (4, .int (nI y))]) hx hb dX0_trendFrom_13 hl (by decide) rfl (fun ls hl => ?_)
  refine lv_iload_n hx hb dX0_trendFrom_15 rfl (lv_at hl 4 rfl) ?_
  refine lv_iload hx hb dX0_trendFrom_16 (lv_at hl 5 rfl) ?_
  refine gv_pi (va_runSN (As := [.int (nI x), .int (nI y)]) (rest := []) ⟨hx, hb, hml, hown, hts⟩ (ct_X5_cellNumber l x y) ⟨va_cnB 2 hts gX0_trendFrom_X5_cellNumber_n29 rfl rfl rfl (gv_nm_X0_29 hG) (hts (.initialized RX5) (by decide +kernel)) (by decide +kernel) ⟨Nat.le_of_ble_eq_true rfl, Nat.le_of_ble_eq_true rfl⟩, (hts (.static yX5_cellNumber) (by decide +kernel)), trivial⟩ gv_p0 rfl rfl hl.1 rfl (lv_room (Nat.le_of_ble_eq_true rfl)) dX0_trendFrom_18 ⟨Nat.le_of_ble_eq_true rfl, Nat.le_of_ble_eq_true rfl⟩) (fun r hr_ => ?_)
  subst hr_
  refine lv_istore (lv' := [(6, .int (nI (y * 8 + x))), (5, .int (nI (am lr - am er))), (0, .ref a0), (1, .int (nI er)), (2, .int (nI lr)), (3, .int (nI x)), (4, .int (nI y))]) hx hb dX0_trendFrom_21 hl (by decide) rfl (fun ls hl => ?_)
  refine lv_aload_n hx hb dX0_trendFrom_23 rfl (lv_at hl 2 rfl) ?_
  refine va_get (D := D) (ci := 0) (v := .ref a1) (C := RX0) (T := TX0) (N := 3) hx hb hts gv_in_X0_trendFrom_X0 hown hK hP 0 rfl rfl 0 (by decide) (hts (.fieldLink RX0 9 "Gravimere$Archive" "pulls" "[J") (by decide +kernel)) (fun _ h9 => h9) rfl dX0_trendFrom_24 ?_
  refine lv_iload_n hx hb dX0_trendFrom_27 rfl (lv_at hl 4 rfl) ?_
  refine lv_bipush (v := nI 64) hx hb dX0_trendFrom_28 (by decide) ?_
  refine lv_imul hx hb dX0_trendFrom_30 ?_
  refine gv_wi (pk_mul lr 64) ?_
  refine lv_iload hx hb dX0_trendFrom_31 (lv_at hl 0 rfl) ?_
  refine lv_iadd hx hb dX0_trendFrom_33 ?_
  refine gv_wi (nI_add (lr * 64) (y * 8 + x)) ?_
  refine gv_ll hx hb hK hP 1 (k := lr * 64 + (y * 8 + x)) rfl (by omega) (by decide) dX0_trendFrom_34 ?_
  refine lv_aload_n hx hb dX0_trendFrom_35 rfl (lv_at hl 2 rfl) ?_
  refine va_get (D := D) (ci := 0) (v := .ref a1) (C := RX0) (T := TX0) (N := 3) hx hb hts gv_in_X0_trendFrom_X0 hown hK hP 0 rfl rfl 0 (by decide) (hts (.fieldLink RX0 9 "Gravimere$Archive" "pulls" "[J") (by decide +kernel)) (fun _ h9 => h9) rfl dX0_trendFrom_36 ?_
  refine lv_iload_n hx hb dX0_trendFrom_39 rfl (lv_at hl 3 rfl) ?_
  refine lv_bipush (v := nI 64) hx hb dX0_trendFrom_40 (by decide) ?_
  refine lv_imul hx hb dX0_trendFrom_42 ?_
  refine gv_wi (pk_mul er 64) ?_
  refine lv_iload hx hb dX0_trendFrom_43 (lv_at hl 0 rfl) ?_
  refine lv_iadd hx hb dX0_trendFrom_45 ?_
  refine gv_wi (nI_add (er * 64) (y * 8 + x)) ?_
  refine gv_ll hx hb hK hP 1 (k := er * 64 + (y * 8 + x)) rfl (by omega) (by decide) dX0_trendFrom_46 ?_
  refine lv_lsub hx hb dX0_trendFrom_47 ?_
  refine lv_lstore (lv' := [(7, .long ((kp (lr * 64 + (y * 8 + x))) - (kp (er * 64 + (y * 8 + x))))), (6, .int (nI (y * 8 + x))), (5, .int (nI (am lr - am er))), (0, .ref a0), (1, .int (nI er)), (2, .int (nI lr)), (3, .int (nI x)), (4, .int (nI y))]) hx hb dX0_trendFrom_48 hl (by decide) rfl (fun ls hl => ?_)
  refine lv_iload hx hb dX0_trendFrom_50 (lv_at hl 2 rfl) ?_
  refine lv_iconst (v := nI 1) hx hb dX0_trendFrom_52 (by decide) ?_
  refine lv_icmp_ge (tgt := 60) hx hb dX0_trendFrom_53 (by decide) (fun c_53 => ?_) (fun c_53 => ?_)
  · skip
    have c_53 := (nI_leI (a := 1) (b := am lr - am er) (by omega) (by omega)).mp c_53
    refine lv_lload hx hb dX0_trendFrom_60 (lv_at hl 0 rfl) ?_
    refine lv_iload hx hb dX0_trendFrom_62 (lv_at hl 2 rfl) ?_
    refine lv_i2l (v := (nI (am lr - am er)).toInt64) hx hb dX0_trendFrom_64 rfl ?_
    refine gv_pl (va_runS (As := [.long ((kp (lr * 64 + (y * 8 + x))) - (kp (er * 64 + (y * 8 + x)))), .long ((nI (am lr - am er)).toInt64)]) (rest := []) ⟨hx, hb, hml, hown, hts⟩ (ct_J9_floorDiv_f86c9 l (kp (lr * 64 + (y * 8 + x)) - kp (er * 64 + (y * 8 + x))) ((nI (am lr - am er)).toInt64) (gv_i2lne (by omega) (by omega))) (va_cwS 2 hts gX0_trendFrom_J9_floorDiv_f86c9 rfl rfl rfl (by decide +kernel) ⟨Nat.le_of_ble_eq_true rfl, Nat.le_of_ble_eq_true rfl⟩) gv_p0 rfl rfl hl.1 rfl (lv_room (Nat.le_of_ble_eq_true rfl)) dX0_trendFrom_65 ⟨Nat.le_of_ble_eq_true rfl, Nat.le_of_ble_eq_true rfl⟩) (fun rr hrr => ?_)
    have hpo : rr = gv_fdiv (kp (lr * 64 + (y * 8 + x)) - kp (er * 64 + (y * 8 + x))) ((nI (am lr - am er)).toInt64) := by
      exact hrr
    exact W.lret (v := rr) hx hb hr (fun t9 ht9 hW9 => ⟨rr, rfl, hpo, ht9⟩) t_nil dX0_trendFrom_68
  · skip
    have c_53 := (not_congr (nI_leI (a := 1) (b := am lr - am er) (by omega) (by omega))).mp c_53
    exfalso; omega
