theorem gv_10q {p q : Prop} : gv_10 p = gv_10 q ↔ (p ↔ q) := by
  by_cases hp : p
  · by_cases hq : q
    · rw [← gv_10t hp, ← gv_10t hq]; exact ⟨fun _ => ⟨fun _ => hq, fun _ => hp⟩, fun _ => rfl⟩
    · rw [← gv_10t hp, ← gv_10f hq]; exact ⟨fun z => absurd z (by decide), fun z => absurd (z.mp hp) hq⟩
  · by_cases hq : q
    · rw [← gv_10f hp, ← gv_10t hq]; exact ⟨fun z => absurd z (by decide), fun z => absurd (z.mpr hq) hp⟩
    · rw [← gv_10f hp, ← gv_10f hq]; exact ⟨fun _ => ⟨fun z => absurd z hp, fun z => absurd z hq⟩, fun _ => rfl⟩
theorem gv_db_q {x y v w : Int32} (hv : v = gv_10 (¬ x = -1)) (hw : w = gv_10 (¬ y = -1)) : v = w ↔ (x = -1 ↔ y = -1) := by
  rw [hv, hw, gv_10q]
  exact ⟨fun z => ⟨fun a => Classical.byContradiction (fun b => z.mpr b a), fun a => Classical.byContradiction (fun b => z.mp b a)⟩, fun z => ⟨fun a b => a (z.mpr b), fun a b => a (z.mp b)⟩⟩
theorem gv_db_a {x y u v w : Int32} (hv : v = gv_10 (¬ x = -1)) (hw : w = gv_10 (¬ y = -1)) (h : v = w) : -1 = gv_db2 x y u := (if_pos ((gv_db_q hv hw).mp h)).symm
theorem gv_db_b {x y u v w : Int32} (hv : v = gv_10 (¬ x = -1)) (hw : w = gv_10 (¬ y = -1)) (h : ¬ v = w) (hc : v = 0) : u + y = gv_db2 x y u := by
  unfold gv_db2
  rw [if_neg (fun z => h ((gv_db_q hv hw).mpr z)), if_pos (Classical.not_not.mp (gv_if0 hv hc)), Int32.add_comm]
theorem gv_db_c {x y u v w : Int32} (hv : v = gv_10 (¬ x = -1)) (hw : w = gv_10 (¬ y = -1)) (h : ¬ v = w) (hc : ¬ v = 0) : u + x = gv_db2 x y u := by
  unfold gv_db2
  rw [if_neg (fun z => h ((gv_db_q hv hw).mpr z)), if_neg (gv_if1 hv hc), Int32.add_comm]
def gv_kj (f : Nat → Int32) (n : Nat) : Nat → Int32 := fun j => if j < n then (if j = 0 then nI 0 else -1) else f j
def gv_hj (f : Nat → Int32) (n : Nat) : Nat → Int32 := fun j => if j < n then 0 else f j
theorem gv_kj_0 (f : Nat → Int32) : f = gv_kj f 0 := by funext j; unfold gv_kj; rw [if_neg (Nat.not_lt_zero j)]
theorem gv_hj_0 (f : Nat → Int32) : f = gv_hj f 0 := by funext j; unfold gv_hj; rw [if_neg (Nat.not_lt_zero j)]
theorem gv_kj_s {f : Nat → Int32} {i : Nat} {v : Int32} (hv : v = if i = 0 then nI 0 else -1) : upd (gv_kj f i) i v = gv_kj f (i + 1) := by
  funext j
  by_cases h : j = i
  · subst h
    rw [pk_us]
    unfold gv_kj
    rw [if_pos (show j < j + 1 by omega)]
    exact hv
  · rw [pk_un h]
    unfold gv_kj
    by_cases h2 : j < i
    · rw [if_pos h2, if_pos (show j < i + 1 by omega)]
    · rw [if_neg h2, if_neg (show ¬ j < i + 1 by omega)]
theorem gv_kj_s1 {f : Nat → Int32} {i : Nat} (hi : i < 10) (h : nI i = 0) : upd (gv_kj f i) i (nI 0) = gv_kj f (i + 1) :=
  gv_kj_s (if_pos (gv_inj (b := 0) h (by omega) (by decide))).symm
theorem gv_kj_s2 {f : Nat → Int32} {i : Nat} (h : ¬ nI i = 0) : upd (gv_kj f i) i (-1) = gv_kj f (i + 1) :=
  gv_kj_s (if_neg (fun z => h (by rw [z]; rfl))).symm
theorem gv_hj_s (f : Nat → Int32) (i : Nat) : upd (gv_hj f i) i (nI 0) = gv_hj f (i + 1) := by
  funext j
  by_cases h : j = i
  · subst h
    rw [pk_us]
    unfold gv_hj
    rw [if_pos (by omega)]
    rfl
  · rw [pk_un h]
    unfold gv_hj
    by_cases h2 : j < i
    · rw [if_pos h2, if_pos (by omega)]
    · rw [if_neg h2, if_neg (by omega)]
theorem gv_kj_n (f : Nat → Int32) : gv_kj f 10 = gv_ko f := by
  funext j
  unfold gv_kj gv_ko gv_kn
  by_cases h0 : j = 0
  · subst h0; rfl
  · rw [if_neg h0, if_neg h0]
def gv_cn (d : Nat → Int32) : Nat → Nat
  | 0 => 0
  | k + 1 => gv_cn d k + if d k = -1 then 1 else 0
theorem gv_cn_un {d : Nat → Int32} {j : Nat} {v : Int32} : ∀ {n : Nat}, n ≤ j → gv_cn (upd d j v) n = gv_cn d n
  | 0, _ => rfl
  | k + 1, h => by rw [gv_cn, gv_cn, gv_cn_un (by omega), pk_un (by omega)]
theorem gv_cn_up {d : Nat → Int32} {j : Nat} {v : Int32} (h0 : d j = -1) (hv : ¬ v = -1) : ∀ {n : Nat}, j < n → gv_cn d n = gv_cn (upd d j v) n + 1
  | 0, h => absurd h (Nat.not_lt_zero j)
  | k + 1, h => by
    rw [gv_cn, gv_cn]
    by_cases e : j = k
    · subst e
      rw [gv_cn_un (Nat.le_refl j), pk_us, if_pos h0, if_neg hv]
    · rw [gv_cn_up h0 hv (n := k) (by omega), pk_un (fun z => e z.symm)]
      omega
theorem gv_cn_le (d : Nat → Int32) : ∀ n, gv_cn d n ≤ n
  | 0 => Nat.le_refl 0
  | k + 1 => by
    have h := gv_cn_le d k
    rw [gv_cn]
    by_cases c : d k = -1
    · rw [if_pos c]; omega
    · rw [if_neg c]; omega
theorem gv_cn_0 (f : Nat → Int32) : ∀ n, n ≤ 10 → gv_cn (gv_ko f) n = n - 1
  | 0, _ => rfl
  | k + 1, h => by
    rw [gv_cn, gv_cn_0 f k (by omega)]
    by_cases c : k = 0
    · subst c
      rw [if_neg (show ¬ gv_ko f 0 = -1 from (by decide : ¬ (nI 0 : Int32) = -1))]
    · rw [if_pos (show gv_ko f k = -1 by unfold gv_ko gv_kn; rw [if_neg c, if_pos (by omega)])]
      omega
theorem gv_n1 {n : Nat} (h : n < 2 ^ 31) : ¬ nI n = -1 := fun z => by
  have h2 := nI_toInt h
  rw [z] at h2
  have h3 : (-1 : Int32).toInt = -1 := rfl
  omega
/-- what the search holds to: the doubts found are small, and what is still to come -/
def gv_fi (sa sb su : Nat → Nat) (sr : Nat → Int32) (ln bn : Nat) (d h : Nat → Int32) (goal : (Nat → Int32) × (Nat → Int32)) : Prop :=
  (∀ j, j < 10 → d j = -1 ∨ ∃ n, n ≤ 1000 * (10 - gv_cn d bn) ∧ d j = nI n) ∧ gv_itr sa sb su sr ln (gv_cn d bn) (d, h) = goal
theorem gv_fi_0 {sa sb su : Nat → Nat} {sr : Nat → Int32} {ln bn : Nat} {dd : Nat → Int32} {h : Nat → Int32} (hbn : bn ≤ 10) : gv_fi sa sb su sr ln bn (gv_ko dd) h (gv_itr sa sb su sr ln (bn - 1) (gv_ko dd, h)) := by
  refine ⟨fun j hj => ?_, by rw [gv_cn_0 dd bn hbn]⟩
  by_cases c : j = 0
  · subst c; exact Or.inr ⟨0, Nat.zero_le _, rfl⟩
  · left
    unfold gv_ko gv_kn
    rw [if_neg c, if_pos hj]
theorem gv_db_xy {x y u : Int32} (h : ¬ gv_db2 x y u = -1) : (x = -1 ∧ ¬ y = -1 ∧ gv_db2 x y u = y + u) ∨ (¬ x = -1 ∧ y = -1 ∧ gv_db2 x y u = x + u) := by
  unfold gv_db2 at h ⊢
  by_cases hx : x = -1
  · by_cases hy : y = -1
    · rw [if_pos ⟨fun _ => hy, fun _ => hx⟩] at h; exact absurd rfl h
    · left
      refine ⟨hx, hy, ?_⟩
      rw [if_neg (fun z => hy (z.mp hx)), if_pos hx]
  · by_cases hy : y = -1
    · right
      refine ⟨hx, hy, ?_⟩
      rw [if_neg (fun z => hx (z.mpr hy)), if_neg hx]
    · rw [if_pos ⟨fun z => absurd z hx, fun z => absurd z hy⟩] at h; exact absurd rfl h
theorem gv_fi_s {sa sb su : Nat → Nat} {sr : Nat → Int32} {ln bn j : Nat} {d h : Nat → Int32} {goal : (Nat → Int32) × (Nat → Int32)} (hf : gv_fi sa sb su sr ln bn d h goal) (hsa : ∀ j, sa j < 10) (hsb : ∀ j, sb j < 10) (hsu : ∀ j, su j ≤ 1000) (hlb : ∀ k, k < ln → sa k < bn ∧ sb k < bn) (hbn : bn ≤ 10) (hj : j < ln) (hj2 : j < 2 ^ 31) (e : gv_srl sa sb su d ln = (nI j, gv_db sa sb su d j)) (hdb : ¬ gv_db sa sb su d j = -1) :
    gv_fi sa sb su sr ln bn (gv_stp sa sb su sr (d, h) j).1 (gv_stp sa sb su sr (d, h) j).2 goal ∧ gv_cn (gv_stp sa sb su sr (d, h) j).1 bn < gv_cn d bn := by
  obtain ⟨hv, hg⟩ := hf
  have hle := gv_cn_le d bn
  have huj := hsu j
  have key : ∀ (x y : Nat) (w : Nat → Int32), x < bn → y < 10 → d x = -1 → ¬ d y = -1 → gv_stp sa sb su sr (d, h) j = (upd d x (d y + nI (su j)), w) → gv_fi sa sb su sr ln bn (gv_stp sa sb su sr (d, h) j).1 (gv_stp sa sb su sr (d, h) j).2 goal ∧ gv_cn (gv_stp sa sb su sr (d, h) j).1 bn < gv_cn d bn := by
    intro x y w hx hy hdx hdy es
    rcases hv y hy with z | ⟨n, hn, en⟩
    · exact absurd z hdy
    have ev : d y + nI (su j) = nI (n + su j) := by rw [en, nI_add]
    have hne : ¬ d y + nI (su j) = -1 := by rw [ev]; exact gv_n1 (by omega)
    have hc := gv_cn_up hdx hne hx
    have e1 : (gv_stp sa sb su sr (d, h) j).1 = upd d x (d y + nI (su j)) := by rw [es]
    have e2 : gv_itr sa sb su sr ln (gv_cn d bn) (d, h) = gv_itr sa sb su sr ln (gv_cn (upd d x (d y + nI (su j))) bn) (gv_stp sa sb su sr (d, h) j) :=
      gv_itr_go (q := (d, h)) hc hj2 (by show ¬ (gv_srl sa sb su d ln).1 = -1; rw [e]; exact gv_n1 hj2) (by show (gv_srl sa sb su d ln).1 = nI j; rw [e])
    refine ⟨⟨?_, ?_⟩, by rw [e1]; omega⟩
    · rw [e1]
      intro i hi
      by_cases c : i = x
      · subst c
        rw [pk_us]
        exact Or.inr ⟨n + su j, by omega, ev⟩
      · rw [pk_un c]
        rcases hv i hi with z | ⟨n2, hn2, en2⟩
        · exact Or.inl z
        · exact Or.inr ⟨n2, by omega, en2⟩
    · rw [e1, ← hg, e2]
      rw [← e1]
  rcases gv_db_xy hdb with ⟨h1, h2, -⟩ | ⟨h1, h2, -⟩
  · refine key (sa j) (sb j) (upd h (sa j) (h (sb j) - sr j)) (hlb j hj).1 (hsb j) h1 h2 ?_
    unfold gv_stp
    rw [if_neg h2]
  · refine key (sb j) (sa j) (upd h (sb j) (h (sa j) + sr j)) (hlb j hj).2 (hsa j) h2 h1 ?_
    unfold gv_stp
    rw [if_pos h2]
theorem gv_sp_a {sa sb su : Nat → Nat} {sr d h : Nat → Int32} {j : Nat} {r2 r3 : Int32} (h3 : r3 = gv_10 (¬ d (sa j) = -1)) (c : ¬ r3 = 0) (h2 : r2 = gv_db sa sb su d j) (hdb : ¬ gv_db sa sb su d j = -1) : gv_stp sa sb su sr (d, h) j = (upd d (sb j) r2, upd h (sb j) (h (sa j) + sr j)) := by
  have hx := gv_if1 h3 c
  rcases gv_db_xy hdb with ⟨a, -, -⟩ | ⟨-, b, e⟩
  · exact absurd a hx
  · unfold gv_stp
    rw [if_pos b, h2, gv_db, e]
theorem gv_sp_b {sa sb su : Nat → Nat} {sr d h : Nat → Int32} {j : Nat} {r2 r3 : Int32} (h3 : r3 = gv_10 (¬ d (sa j) = -1)) (c : r3 = 0) (h2 : r2 = gv_db sa sb su d j) (hdb : ¬ gv_db sa sb su d j = -1) : gv_stp sa sb su sr (d, h) j = (upd d (sa j) r2, upd h (sa j) (h (sb j) - sr j)) := by
  have hx := Classical.not_not.mp (gv_if0 h3 c)
  rcases gv_db_xy hdb with ⟨-, b, e⟩ | ⟨a, -, -⟩
  · unfold gv_stp
    rw [if_neg b, h2, gv_db, e]
  · exact absurd hx a
theorem gv_negs (z : Int32) : 0 - z = -z := by
  apply Int32.toBitVec_inj.mp
  simp
def gv_kr (mm kp : Nat → Int64) (ac n : Nat) : Nat → Int64 := fun j => if 64 * ac ≤ j ∧ j < 64 * ac + n then gv_PA mm ((j - 64 * ac) % 8) ((j - 64 * ac) / 8) else kp j
theorem gv_kr_0 (mm kp : Nat → Int64) (ac : Nat) : kp = gv_kr mm kp ac 0 := by
  funext j
  unfold gv_kr
  rw [if_neg (by omega)]
theorem gv_kr_s {mm kp : Nat → Int64} {ac k : Nat} {v : Int64} (hv : v = gv_PA mm (k % 8) (k / 8)) : vp_updL (gv_kr mm kp ac k) (64 * ac + k) v = gv_kr mm kp ac (k + 1) := by
  funext j
  unfold vp_updL gv_kr
  by_cases h : j = 64 * ac + k
  · rw [if_pos h, if_pos (by omega), hv, show j - 64 * ac = k by omega]
  · rw [if_neg h]
    by_cases h2 : 64 * ac ≤ j ∧ j < 64 * ac + k
    · rw [if_pos h2, if_pos (by omega)]
    · rw [if_neg h2, if_neg (by omega)]
theorem gv_in_X6_isFound_X6 : ∀ w ∈ wsX60, w ∈ wsX6_isFound := by decide +kernel
theorem gv_in_X6_finds_X6 : ∀ w ∈ wsX60, w ∈ wsX6_finds := by decide +kernel
theorem gv_in_X6_next_X6 : ∀ w ∈ wsX60, w ∈ wsX6_next := by decide +kernel
theorem gv_in_X6_findsAll_X6 : ∀ w ∈ wsX60, w ∈ wsX6_findsAll := by decide +kernel
set_option maxHeartbeats 4000000 in
set_option maxRecDepth 100000 in
theorem ct_X6_isFound (l : Launch) (D : va_G) (cI cJ : ClassId) (sz : Nat) (h0 r2 r5 r6 r7 r10 r11 r12 r13 r15 r16 r17 r18 : Nat) (th st pe : Int32) (mo nc bn ln ac : Nat) (dd : Nat → Int32) (b : Nat) (hb10 : b < 10) : Met l yX6_isFound wsX6_isFound ({ frames := 0, cells := 0, slots := 0, locals := 0 }) (va_Pc [.ref h0, .int (nI b)] (gv_B D cI cJ [(h0, .inr (6, [.int th, .int (nI mo), .ref r2, .int st, .int pe, .ref r5, .ref r6, .ref r7, .int (nI nc), .int (nI bn), .ref r10, .ref r11, .ref r12, .ref r13, .int (nI ln), .ref r15, .ref r16, .ref r17, .ref r18, .int (nI ac)])), (r15, .inl (cI, 10, .inl dd))] sz)) (vp_Si (fun r9 : Int32 => r9 = gv_10 (¬ dd b = -1))) 0 0 (fun _ => False) := by
  refine Met.ofW (cc := cX6_isFound) (maxL := 2) (ret := (some .boolean)) (by decide) rfl ?_
  intro p e s m args below meth c s₁ B hml hv
  obtain ⟨rfl, hsz, hP, hK, hD0, hG⟩ := hv
  have hx := B.exec
  have hb := B.bytes
  have hr := B.returns
  have hts := atoms_spec (ws := wsX6_isFound) B.pre
  have hown : s.vm.findClass RX6 = some m.cls := findClass_of_methodNamed B.named
  have hlocks := B.notSynchronized
  subst hsz
  have hD := hD0
  have hP : va_P D vwCl [(h0, .inr (6, [.int th, .int (nI mo), .ref r2, .int st, .int pe, .ref r5, .ref r6, .ref r7, .int (nI nc), .int (nI bn), .ref r10, .ref r11, .ref r12, .ref r13, .int (nI ln), .ref r15, .ref r16, .ref r17, .ref r18, .int (nI ac)])), (r15, .inl (cI, 10, .inl dd))] s.heap := hP
  have hl := lv_entry ([.ref h0, .int (nI b)]) (n := 2) (Nat.le_of_ble_eq_true rfl)
  rw [lg_entry_eq]
  generalize (lg_sl ([.ref h0, .int (nI b)]) ++ List.replicate (2 - (lg_sl ([.ref h0, .int (nI b)])).length) Slot.unset).toArray = ls at hl ⊢
  have hl : lv_has ls 2 [(0, .ref h0), (1, .int (nI b))] := hl
  refine lv_aload_n hx hb dX6_isFound_0 rfl (lv_at hl 0 rfl) ?_
  refine va_get (D := D) (ci := 6) (v := .ref r15) (C := RX6) (T := TX6) (N := 20) hx hb hts gv_in_X6_isFound_X6 hown hK hP 0 rfl rfl 15 (by decide) (hts (.fieldLink RX6 39 "GravimereModel" "doubts" "[I") (by decide +kernel)) (fun _ h9 => h9) rfl dX6_isFound_1 ?_
  refine lv_iload_n hx hb dX6_isFound_4 rfl (lv_at hl 1 rfl) ?_
  refine gv_il hx hb hK hP 1 (k := b) rfl (by omega) (by decide) dX6_isFound_5 ?_
  refine lv_iconst (v := -1) hx hb dX6_isFound_6 (by decide) ?_
  refine lv_icmp_eq (tgt := 14) hx hb dX6_isFound_7 (by decide) (fun c_7 => ?_) (fun c_7 => ?_)
  · skip
    refine lv_iconst (v := nI 0) hx hb dX6_isFound_14 (by decide) ?_
    have hpo : (nI 0) = gv_10 (¬ dd b = -1) := by
      exact gv_10f (fun z => z c_7)
    exact W.zret (v := nI 0) (ty := .boolean) hx hb hr rfl (fun t9 ht9 hW9 => ⟨(nI 0), rfl, hpo, ht9⟩) t_nil dX6_isFound_15
  · skip
    refine lv_iconst (v := nI 1) hx hb dX6_isFound_10 (by decide) ?_
    refine lv_goto (tgt := 15) hx hb dX6_isFound_11 (by decide) ?_
    have hpo : (nI 1) = gv_10 (¬ dd b = -1) := by
      exact gv_10t c_7
    exact W.zret (v := nI 1) (ty := .boolean) hx hb hr rfl (fun t9 ht9 hW9 => ⟨(nI 1), rfl, hpo, ht9⟩) t_nil dX6_isFound_15
set_option maxHeartbeats 4000000 in
set_option maxRecDepth 100000 in
theorem ct_X6_finds (l : Launch) (D : va_G) (cI cJ : ClassId) (sz : Nat) (h0 r2 r5 r6 r7 r10 r11 r12 r13 r15 r16 r17 r18 : Nat) (th st pe : Int32) (mo nc bn ln ac : Nat) (sa sb su : Nat → Nat) (dd : Nat → Int32) (k : Nat) (hsa : ∀ j, sa j < 10) (hsb : ∀ j, sb j < 10) (hk : k < 24) : Met l yX6_finds wsX6_finds ({ frames := 1, cells := 0, slots := 0, locals := 21 }) (va_Pc [.ref h0, .int (nI k)] (gv_B D cI cJ [(h0, .inr (6, [.int th, .int (nI mo), .ref r2, .int st, .int pe, .ref r5, .ref r6, .ref r7, .int (nI nc), .int (nI bn), .ref r10, .ref r11, .ref r12, .ref r13, .int (nI ln), .ref r15, .ref r16, .ref r17, .ref r18, .int (nI ac)])), (r10, .inl (cI, 24, .inl (fun j => nI (sa j)))), (r11, .inl (cI, 24, .inl (fun j => nI (sb j)))), (r13, .inl (cI, 24, .inl (fun j => nI (su j)))), (r15, .inl (cI, 10, .inl dd))] sz)) (vp_Si (fun r9 : Int32 => r9 = gv_db sa sb su dd k)) 0 0 (fun _ => False) := by
  refine Met.ofW (cc := cX6_finds) (maxL := 3) (ret := (some .int)) (by decide) rfl ?_
  intro p e s m args below meth c s₁ B hml hv
  obtain ⟨rfl, hsz, hP, hK, hD0, hG⟩ := hv
  have hx := B.exec
  have hb := B.bytes
  have hr := B.returns
  have hts := atoms_spec (ws := wsX6_finds) B.pre
  have hown : s.vm.findClass RX6 = some m.cls := findClass_of_methodNamed B.named
  have hlocks := B.notSynchronized
  subst hsz
  have hD := hD0
  have hP : va_P D vwCl [(h0, .inr (6, [.int th, .int (nI mo), .ref r2, .int st, .int pe, .ref r5, .ref r6, .ref r7, .int (nI nc), .int (nI bn), .ref r10, .ref r11, .ref r12, .ref r13, .int (nI ln), .ref r15, .ref r16, .ref r17, .ref r18, .int (nI ac)])), (r10, .inl (cI, 24, .inl (fun j => nI (sa j)))), (r11, .inl (cI, 24, .inl (fun j => nI (sb j)))), (r13, .inl (cI, 24, .inl (fun j => nI (su j)))), (r15, .inl (cI, 10, .inl dd))] s.heap := hP
  have hl := lv_entry ([.ref h0, .int (nI k)]) (n := 3) (Nat.le_of_ble_eq_true rfl)
  rw [lg_entry_eq]
  generalize (lg_sl ([.ref h0, .int (nI k)]) ++ List.replicate (3 - (lg_sl ([.ref h0, .int (nI k)])).length) Slot.unset).toArray = ls at hl ⊢
  have hl : lv_has ls 3 [(0, .ref h0), (1, .int (nI k))] := hl
  refine lv_aload_n hx hb dX6_finds_0 rfl (lv_at hl 0 rfl) ?_
  refine lv_aload_n hx hb dX6_finds_1 rfl (lv_at hl 0 rfl) ?_
  refine va_get (D := D) (ci := 6) (v := .ref r10) (C := RX6) (T := TX6) (N := 20) hx hb hts gv_in_X6_finds_X6 hown hK hP 0 rfl rfl 10 (by decide) (hts (.fieldLink RX6 27 "GravimereModel" "from" "[I") (by decide +kernel)) (fun _ h9 => h9) rfl dX6_finds_2 ?_
  refine lv_iload_n hx hb dX6_finds_5 rfl (lv_at hl 1 rfl) ?_
  refine gv_il hx hb hK hP 1 (k := k) rfl (by first | exact hsa _ | exact hsb _ | omega) (by decide) dX6_finds_6 ?_
  refine gv_wi (rfl) ?_
  refine gv_pi (va_runV (As := [.int (nI (sa k))]) (rest := []) ⟨hx, hb, hml, hown, hts⟩ (ct_X6_isFound l D cI cJ s.heap.size h0 r2 r5 r6 r7 r10 r11 r12 r13 r15 r16 r17 r18 th st pe mo nc bn ln ac dd (sa k) (hsa k)) (cwV 1 hts gX6_finds_X6_isFound rfl rfl rfl (by decide +kernel) ⟨Nat.le_of_ble_eq_true rfl, Nat.le_of_ble_eq_true rfl⟩) (gv_pV (wc := [(h0, .inr (6, [.int th, .int (nI mo), .ref r2, .int st, .int pe, .ref r5, .ref r6, .ref r7, .int (nI nc), .int (nI bn), .ref r10, .ref r11, .ref r12, .ref r13, .int (nI ln), .ref r15, .ref r16, .ref r17, .ref r18, .int (nI ac)])), (r15, .inl (cI, 10, .inl dd))]) hP hK hD hG [0, 4] rfl (by decide) 0 rfl rfl rfl) rfl rfl hl.1 rfl (lv_room (Nat.le_of_ble_eq_true rfl)) dX6_finds_7 ⟨Nat.le_of_ble_eq_true rfl, Nat.le_of_ble_eq_true rfl⟩) (fun q1 h1 => ?_)
  refine lv_istore_n (lv' := [(2, .int q1), (0, .ref h0), (1, .int (nI k))]) hx hb dX6_finds_10 rfl hl (by decide) rfl (fun ls hl => ?_)
  refine lv_iload_n hx hb dX6_finds_11 rfl (lv_at hl 0 rfl) ?_
  refine lv_aload_n hx hb dX6_finds_12 rfl (lv_at hl 1 rfl) ?_
  refine lv_aload_n hx hb dX6_finds_13 rfl (lv_at hl 1 rfl) ?_
  refine va_get (D := D) (ci := 6) (v := .ref r11) (C := RX6) (T := TX6) (N := 20) hx hb hts gv_in_X6_finds_X6 hown hK hP 0 rfl rfl 11 (by decide) (hts (.fieldLink RX6 30 "GravimereModel" "to" "[I") (by decide +kernel)) (fun _ h9 => h9) rfl dX6_finds_14 ?_
  refine lv_iload_n hx hb dX6_finds_17 rfl (lv_at hl 2 rfl) ?_
  refine gv_il hx hb hK hP 2 (k := k) rfl (by first | exact hsa _ | exact hsb _ | omega) (by decide) dX6_finds_18 ?_
  refine gv_wi (rfl) ?_
  refine gv_pi (va_runV (As := [.int (nI (sb k))]) (rest := [.int q1]) ⟨hx, hb, hml, hown, hts⟩ (ct_X6_isFound l D cI cJ s.heap.size h0 r2 r5 r6 r7 r10 r11 r12 r13 r15 r16 r17 r18 th st pe mo nc bn ln ac dd (sb k) (hsb k)) (cwV 1 hts gX6_finds_X6_isFound rfl rfl rfl (by decide +kernel) ⟨Nat.le_of_ble_eq_true rfl, Nat.le_of_ble_eq_true rfl⟩) (gv_pV (wc := [(h0, .inr (6, [.int th, .int (nI mo), .ref r2, .int st, .int pe, .ref r5, .ref r6, .ref r7, .int (nI nc), .int (nI bn), .ref r10, .ref r11, .ref r12, .ref r13, .int (nI ln), .ref r15, .ref r16, .ref r17, .ref r18, .int (nI ac)])), (r15, .inl (cI, 10, .inl dd))]) hP hK hD hG [0, 4] rfl (by decide) 0 rfl rfl rfl) rfl rfl hl.1 rfl (lv_room (Nat.le_of_ble_eq_true rfl)) dX6_finds_19 ⟨Nat.le_of_ble_eq_true rfl, Nat.le_of_ble_eq_true rfl⟩) (fun q2 h2 => ?_)
  refine lv_icmp_ne (tgt := 29) hx hb dX6_finds_22 (by decide) (fun c_22 => ?_) (fun c_22 => ?_)
  · skip
    refine lv_aload_n hx hb dX6_finds_29 rfl (lv_at hl 1 rfl) ?_
    refine va_get (D := D) (ci := 6) (v := .ref r13) (C := RX6) (T := TX6) (N := 20) hx hb hts gv_in_X6_finds_X6 hown hK hP 0 rfl rfl 13 (by decide) (hts (.fieldLink RX6 36 "GravimereModel" "unsure" "[I") (by decide +kernel)) (fun _ h9 => h9) rfl dX6_finds_30 ?_
    refine lv_iload_n hx hb dX6_finds_33 rfl (lv_at hl 2 rfl) ?_
    refine gv_il hx hb hK hP 3 (k := k) rfl (by first | exact hsa _ | exact hsb _ | omega) (by decide) dX6_finds_34 ?_
    refine gv_wi (rfl) ?_
    refine lv_aload_n hx hb dX6_finds_35 rfl (lv_at hl 1 rfl) ?_
    refine va_get (D := D) (ci := 6) (v := .ref r15) (C := RX6) (T := TX6) (N := 20) hx hb hts gv_in_X6_finds_X6 hown hK hP 0 rfl rfl 15 (by decide) (hts (.fieldLink RX6 39 "GravimereModel" "doubts" "[I") (by decide +kernel)) (fun _ h9 => h9) rfl dX6_finds_36 ?_
    refine lv_iload_n hx hb dX6_finds_39 rfl (lv_at hl 0 rfl) ?_
    refine lv_if_eq (tgt := 52) hx hb dX6_finds_40 (by decide) (fun c_40 => ?_) (fun c_40 => ?_)
    · skip
      refine lv_aload_n hx hb dX6_finds_52 rfl (lv_at hl 1 rfl) ?_
      refine va_get (D := D) (ci := 6) (v := .ref r11) (C := RX6) (T := TX6) (N := 20) hx hb hts gv_in_X6_finds_X6 hown hK hP 0 rfl rfl 11 (by decide) (hts (.fieldLink RX6 30 "GravimereModel" "to" "[I") (by decide +kernel)) (fun _ h9 => h9) rfl dX6_finds_53 ?_
      refine lv_iload_n hx hb dX6_finds_56 rfl (lv_at hl 2 rfl) ?_
      refine gv_il hx hb hK hP 2 (k := k) rfl (by first | exact hsa _ | exact hsb _ | omega) (by decide) dX6_finds_57 ?_
      refine gv_wi (rfl) ?_
      refine gv_il hx hb hK hP 4 (k := sb k) rfl (by first | exact hsa _ | exact hsb _ | omega) (by decide) dX6_finds_58 ?_
      refine lv_iadd hx hb dX6_finds_59 ?_
      have hpo : ((nI (su k)) + (dd (sb k))) = gv_db sa sb su dd k := by
        first | exact gv_db_a h1 h2 c_22 | exact gv_db_b h1 h2 c_22 c_40 | exact gv_db_c h1 h2 c_22 c_40
      exact W.iret (v := (nI (su k)) + (dd (sb k))) hx hb hr (fun t9 ht9 hW9 => ⟨((nI (su k)) + (dd (sb k))), rfl, hpo, ht9⟩) t_nil dX6_finds_60
    · skip
      refine lv_aload_n hx hb dX6_finds_43 rfl (lv_at hl 1 rfl) ?_
      refine va_get (D := D) (ci := 6) (v := .ref r10) (C := RX6) (T := TX6) (N := 20) hx hb hts gv_in_X6_finds_X6 hown hK hP 0 rfl rfl 10 (by decide) (hts (.fieldLink RX6 27 "GravimereModel" "from" "[I") (by decide +kernel)) (fun _ h9 => h9) rfl dX6_finds_44 ?_
      refine lv_iload_n hx hb dX6_finds_47 rfl (lv_at hl 2 rfl) ?_
      refine gv_il hx hb hK hP 1 (k := k) rfl (by first | exact hsa _ | exact hsb _ | omega) (by decide) dX6_finds_48 ?_
      refine gv_wi (rfl) ?_
      refine lv_goto (tgt := 58) hx hb dX6_finds_49 (by decide) ?_
      refine gv_il hx hb hK hP 4 (k := sa k) rfl (by first | exact hsa _ | exact hsb _ | omega) (by decide) dX6_finds_58 ?_
      refine lv_iadd hx hb dX6_finds_59 ?_
      have hpo : ((nI (su k)) + (dd (sa k))) = gv_db sa sb su dd k := by
        first | exact gv_db_a h1 h2 c_22 | exact gv_db_b h1 h2 c_22 c_40 | exact gv_db_c h1 h2 c_22 c_40
      exact W.iret (v := (nI (su k)) + (dd (sa k))) hx hb hr (fun t9 ht9 hW9 => ⟨((nI (su k)) + (dd (sa k))), rfl, hpo, ht9⟩) t_nil dX6_finds_60
  · skip
    refine lv_iconst (v := -1) hx hb dX6_finds_25 (by decide) ?_
    refine lv_goto (tgt := 60) hx hb dX6_finds_26 (by decide) ?_
    have hpo : (-1) = gv_db sa sb su dd k := by
      first | exact gv_db_a h1 h2 c_22 | exact gv_db_b h1 h2 c_22 c_40 | exact gv_db_c h1 h2 c_22 c_40
    exact W.iret (v := -1) hx hb hr (fun t9 ht9 hW9 => ⟨(-1), rfl, hpo, ht9⟩) t_nil dX6_finds_60
set_option maxHeartbeats 4000000 in
set_option maxRecDepth 100000 in
theorem ct_X6_next (l : Launch) (D : va_G) (cI cJ : ClassId) (sz : Nat) (h0 r2 r5 r6 r7 r10 r11 r12 r13 r15 r16 r17 r18 : Nat) (th st pe : Int32) (mo nc bn ln ac : Nat) (sa sb su : Nat → Nat) (dd : Nat → Int32) (hsa : ∀ j, sa j < 10) (hsb : ∀ j, sb j < 10) (hln : ln ≤ 24) : Met l yX6_next wsX6_next ({ frames := 2, cells := 0, slots := 0, locals := 43 }) (va_Pc [.ref h0] (gv_B D cI cJ [(h0, .inr (6, [.int th, .int (nI mo), .ref r2, .int st, .int pe, .ref r5, .ref r6, .ref r7, .int (nI nc), .int (nI bn), .ref r10, .ref r11, .ref r12, .ref r13, .int (nI ln), .ref r15, .ref r16, .ref r17, .ref r18, .int (nI ac)])), (r10, .inl (cI, 24, .inl (fun j => nI (sa j)))), (r11, .inl (cI, 24, .inl (fun j => nI (sb j)))), (r13, .inl (cI, 24, .inl (fun j => nI (su j)))), (r15, .inl (cI, 10, .inl dd))] sz)) (vp_Si (fun r9 : Int32 => r9 = (gv_srl sa sb su dd ln).1)) 0 0 (fun _ => False) := by
  refine Met.ofW (cc := cX6_next) (maxL := 4) (ret := (some .int)) (by decide) rfl ?_
  intro p e s m args below meth c s₁ B hml hv
  obtain ⟨rfl, hsz, hP, hK, hD0, hG⟩ := hv
  have hx := B.exec
  have hb := B.bytes
  have hr := B.returns
  have hts := atoms_spec (ws := wsX6_next) B.pre
  have hown : s.vm.findClass RX6 = some m.cls := findClass_of_methodNamed B.named
  have hlocks := B.notSynchronized
  subst hsz
  have hD := hD0
  have hP : va_P D vwCl [(h0, .inr (6, [.int th, .int (nI mo), .ref r2, .int st, .int pe, .ref r5, .ref r6, .ref r7, .int (nI nc), .int (nI bn), .ref r10, .ref r11, .ref r12, .ref r13, .int (nI ln), .ref r15, .ref r16, .ref r17, .ref r18, .int (nI ac)])), (r10, .inl (cI, 24, .inl (fun j => nI (sa j)))), (r11, .inl (cI, 24, .inl (fun j => nI (sb j)))), (r13, .inl (cI, 24, .inl (fun j => nI (su j)))), (r15, .inl (cI, 10, .inl dd))] s.heap := hP
  have hl := lv_entry ([.ref h0]) (n := 4) (Nat.le_of_ble_eq_true rfl)
  rw [lg_entry_eq]
  generalize (lg_sl ([.ref h0]) ++ List.replicate (4 - (lg_sl ([.ref h0])).length) Slot.unset).toArray = ls at hl ⊢
  have hl : lv_has ls 4 [(0, .ref h0)] := hl
  refine lv_iconst (v := -1) hx hb dX6_next_0 (by decide) ?_
  refine lv_istore_n (lv' := [(1, .int (-1)), (0, .ref h0)]) hx hb dX6_next_1 rfl hl (by decide) rfl (fun ls hl => ?_)
  refine lv_iconst (v := nI 0) hx hb dX6_next_2 (by decide) ?_
  refine lv_istore_n (lv' := [(2, .int (nI 0)), (1, .int (-1)), (0, .ref h0)]) hx hb dX6_next_3 rfl hl (by decide) rfl (fun ls hl => ?_)
  refine gv_lp (σ := Nat × Int32) (fun zq ls => match zq with | (i, a) => i ≤ ln ∧ a = (gv_srl sa sb su dd i).1 ∧ lv_has ls 4 [(0, .ref h0), (1, .int a), (2, .int (nI i))]) (fun zq => match zq with | (i, a) => ln - i) (0, -1) ⟨by omega, rfl, lv_sub hl [2, 1, 0] rfl⟩ (fun zq ls hI ih_4 => ?_)
  obtain ⟨i, a⟩ := zq
  obtain ⟨hi, ha, hl⟩ := hI
  refine lv_iload_n hx hb dX6_next_4 rfl (lv_at hl 2 rfl) ?_
  refine lv_aload_n hx hb dX6_next_5 rfl (lv_at hl 0 rfl) ?_
  refine va_get (D := D) (ci := 6) (v := .int (nI ln)) (C := RX6) (T := TX6) (N := 20) hx hb hts gv_in_X6_next_X6 hown hK hP 0 rfl rfl 14 (by decide) (hts (.fieldLink RX6 123 "GravimereModel" "lines" "I") (by decide +kernel)) (fun _ h9 => h9) rfl dX6_next_6 ?_
  refine lv_icmp_ge (tgt := 49) hx hb dX6_next_9 (by decide) (fun c_9 => ?_) (fun c_9 => ?_)
  · skip
    have c_9 := (nI_leI (a := ln) (b := i) (by omega) (by omega)).mp c_9
    refine lv_iload_n hx hb dX6_next_49 rfl (lv_at hl 1 rfl) ?_
    have hpo : a = (gv_srl sa sb su dd ln).1 := by
      rw [ha, show i = ln by omega]
    exact W.iret (v := a) hx hb hr (fun t9 ht9 hW9 => ⟨a, rfl, hpo, ht9⟩) t_nil dX6_next_50
  · skip
    have c_9 := (not_congr (nI_leI (a := ln) (b := i) (by omega) (by omega))).mp c_9
    refine lv_aload_n hx hb dX6_next_12 rfl (lv_at hl 0 rfl) ?_
    refine lv_iload_n hx hb dX6_next_13 rfl (lv_at hl 2 rfl) ?_
    refine gv_pi (va_runV (As := [.int (nI i)]) (rest := []) ⟨hx, hb, hml, hown, hts⟩ (ct_X6_finds l D cI cJ s.heap.size h0 r2 r5 r6 r7 r10 r11 r12 r13 r15 r16 r17 r18 th st pe mo nc bn ln ac sa sb su dd i hsa hsb (by omega)) (cwV 1 hts gX6_next_X6_finds rfl rfl rfl (by decide +kernel) ⟨Nat.le_of_ble_eq_true rfl, Nat.le_of_ble_eq_true rfl⟩) (gv_pV (wc := [(h0, .inr (6, [.int th, .int (nI mo), .ref r2, .int st, .int pe, .ref r5, .ref r6, .ref r7, .int (nI nc), .int (nI bn), .ref r10, .ref r11, .ref r12, .ref r13, .int (nI ln), .ref r15, .ref r16, .ref r17, .ref r18, .int (nI ac)])), (r10, .inl (cI, 24, .inl (fun j => nI (sa j)))), (r11, .inl (cI, 24, .inl (fun j => nI (sb j)))), (r13, .inl (cI, 24, .inl (fun j => nI (su j)))), (r15, .inl (cI, 10, .inl dd))]) hP hK hD hG [0, 1, 2, 3, 4] rfl (by decide) 0 rfl rfl rfl) rfl rfl hl.1 rfl (lv_room (Nat.le_of_ble_eq_true rfl)) dX6_next_14 ⟨Nat.le_of_ble_eq_true rfl, Nat.le_of_ble_eq_true rfl⟩) (fun rd hrd => ?_)
    refine lv_istore_n (lv' := [(3, .int rd), (0, .ref h0), (1, .int a), (2, .int (nI i))]) hx hb dX6_next_17 rfl hl (by decide) rfl (fun ls hl => ?_)
    refine lv_iload_n hx hb dX6_next_18 rfl (lv_at hl 0 rfl) ?_
    refine lv_iconst (v := -1) hx hb dX6_next_19 (by decide) ?_
    refine lv_icmp_eq (tgt := 41) hx hb dX6_next_20 (by decide) (fun c_20 => ?_) (fun c_20 => ?_)
    · skip
      refine lv_iload_n hx hb dX6_next_41 rfl (lv_at hl 2 rfl) ?_
      refine lv_istore_n (lv' := [(1, .int a), (3, .int rd), (0, .ref h0), (2, .int (nI i))]) hx hb dX6_next_42 rfl hl (by decide) rfl (fun ls hl => ?_)
      refine lv_iinc (v := nI (i + 1)) (lv' := [(2, .int (nI (i + 1))), (1, .int a), (3, .int rd), (0, .ref h0)]) hx hb dX6_next_43 hl (k := 3) rfl (nI_add i 1) (by decide) rfl (fun ls hl => ?_)
      refine lv_goto (tgt := 4) hx hb dX6_next_46 (by decide) ?_
      exact ih_4 (i + 1, a) _ ⟨by omega, by rw [gv_srl, if_neg (fun z => by first | exact z.1 (hrd.symm.trans c_20) | exact z.2.elim (fun w => c_25 (ha.trans w)) (fun w => gv_len32 c_34 (by rw [hrd, hre, ← e2]; exact w)))]; exact ha, lv_sub hl [3, 1, 0] rfl⟩ (by simp only; omega)
    · skip
      refine lv_iload_n hx hb dX6_next_23 rfl (lv_at hl 2 rfl) ?_
      refine lv_iconst (v := -1) hx hb dX6_next_24 (by decide) ?_
      refine lv_icmp_eq (tgt := 37) hx hb dX6_next_25 (by decide) (fun c_25 => ?_) (fun c_25 => ?_)
      · skip
        refine lv_iload_n hx hb dX6_next_37 rfl (lv_at hl 3 rfl) ?_
        refine lv_goto (tgt := 42) hx hb dX6_next_38 (by decide) ?_
        refine lv_istore_n (lv' := [(1, .int (nI i)), (3, .int rd), (0, .ref h0), (2, .int (nI i))]) hx hb dX6_next_42 rfl hl (by decide) rfl (fun ls hl => ?_)
        refine lv_iinc (v := nI (i + 1)) (lv' := [(2, .int (nI (i + 1))), (1, .int (nI i)), (3, .int rd), (0, .ref h0)]) hx hb dX6_next_43 hl (k := 3) rfl (nI_add i 1) (by decide) rfl (fun ls hl => ?_)
        refine lv_goto (tgt := 4) hx hb dX6_next_46 (by decide) ?_
        exact ih_4 (i + 1, nI i) _ ⟨by omega, by rw [gv_srl, if_pos ⟨fun z => c_20 (hrd.trans z), by first | exact Or.inl (ha.symm.trans c_25) | exact Or.inr (by rw [e2, ← hrd, ← hre]; exact gv_nle32 c_34)⟩], lv_sub hl [3, 1, 0] rfl⟩ (by simp only; omega)
      · skip
        obtain ⟨j, hj, ej, -⟩ := gv_srl_n (sa := sa) (sb := sb) (su := su) (d := dd) (n := i) (by omega) (by rw [← ha]; exact c_25)
        have e2 := congrArg Prod.snd ej
        have ha2 : a = nI j := ha.trans (by rw [ej])
        dsimp only at e2
        subst ha2
        refine lv_iload_n hx hb dX6_next_28 rfl (lv_at hl 0 rfl) ?_
        refine lv_aload_n hx hb dX6_next_29 rfl (lv_at hl 1 rfl) ?_
        refine lv_iload_n hx hb dX6_next_30 rfl (lv_at hl 2 rfl) ?_
        refine gv_pi (va_runV (As := [.int (nI j)]) (rest := [.int rd]) ⟨hx, hb, hml, hown, hts⟩ (ct_X6_finds l D cI cJ s.heap.size h0 r2 r5 r6 r7 r10 r11 r12 r13 r15 r16 r17 r18 th st pe mo nc bn ln ac sa sb su dd j hsa hsb (by omega)) (cwV 1 hts gX6_next_X6_finds rfl rfl rfl (by decide +kernel) ⟨Nat.le_of_ble_eq_true rfl, Nat.le_of_ble_eq_true rfl⟩) (gv_pV (wc := [(h0, .inr (6, [.int th, .int (nI mo), .ref r2, .int st, .int pe, .ref r5, .ref r6, .ref r7, .int (nI nc), .int (nI bn), .ref r10, .ref r11, .ref r12, .ref r13, .int (nI ln), .ref r15, .ref r16, .ref r17, .ref r18, .int (nI ac)])), (r10, .inl (cI, 24, .inl (fun j => nI (sa j)))), (r11, .inl (cI, 24, .inl (fun j => nI (sb j)))), (r13, .inl (cI, 24, .inl (fun j => nI (su j)))), (r15, .inl (cI, 10, .inl dd))]) hP hK hD hG [0, 1, 2, 3, 4] rfl (by decide) 0 rfl rfl rfl) rfl rfl hl.1 rfl (lv_room (Nat.le_of_ble_eq_true rfl)) dX6_next_31 ⟨Nat.le_of_ble_eq_true rfl, Nat.le_of_ble_eq_true rfl⟩) (fun re hre => ?_)
        refine lv_icmp_ge (tgt := 41) hx hb dX6_next_34 (by decide) (fun c_34 => ?_) (fun c_34 => ?_)
        · skip
          refine lv_iload_n hx hb dX6_next_41 rfl (lv_at hl 2 rfl) ?_
          refine lv_istore_n (lv' := [(1, .int (nI j)), (3, .int rd), (0, .ref h0), (2, .int (nI i))]) hx hb dX6_next_42 rfl hl (by decide) rfl (fun ls hl => ?_)
          refine lv_iinc (v := nI (i + 1)) (lv' := [(2, .int (nI (i + 1))), (1, .int (nI j)), (3, .int rd), (0, .ref h0)]) hx hb dX6_next_43 hl (k := 3) rfl (nI_add i 1) (by decide) rfl (fun ls hl => ?_)
          refine lv_goto (tgt := 4) hx hb dX6_next_46 (by decide) ?_
          exact ih_4 (i + 1, nI j) _ ⟨by omega, by rw [gv_srl, if_neg (fun z => by first | exact z.1 (hrd.symm.trans c_20) | exact z.2.elim (fun w => c_25 (ha.trans w)) (fun w => gv_len32 c_34 (by rw [hrd, hre, ← e2]; exact w)))]; exact ha, lv_sub hl [3, 1, 0] rfl⟩ (by simp only; omega)
        · skip
          refine lv_iload_n hx hb dX6_next_37 rfl (lv_at hl 3 rfl) ?_
          refine lv_goto (tgt := 42) hx hb dX6_next_38 (by decide) ?_
          refine lv_istore_n (lv' := [(1, .int (nI i)), (3, .int rd), (0, .ref h0), (2, .int (nI i))]) hx hb dX6_next_42 rfl hl (by decide) rfl (fun ls hl => ?_)
          refine lv_iinc (v := nI (i + 1)) (lv' := [(2, .int (nI (i + 1))), (1, .int (nI i)), (3, .int rd), (0, .ref h0)]) hx hb dX6_next_43 hl (k := 3) rfl (nI_add i 1) (by decide) rfl (fun ls hl => ?_)
          refine lv_goto (tgt := 4) hx hb dX6_next_46 (by decide) ?_
          exact ih_4 (i + 1, nI i) _ ⟨by omega, by rw [gv_srl, if_pos ⟨fun z => c_20 (hrd.trans z), by first | exact Or.inl (ha.symm.trans c_25) | exact Or.inr (by rw [e2, ← hrd, ← hre]; exact gv_nle32 c_34)⟩], lv_sub hl [3, 1, 0] rfl⟩ (by simp only; omega)
set_option maxHeartbeats 4000000 in
set_option maxRecDepth 100000 in
theorem ct_X6_findsAll (l : Launch) (D : va_G) (cI cJ : ClassId) (sz : Nat) (h0 r2 r5 r6 r7 r10 r11 r12 r13 r15 r16 r17 r18 : Nat) (th st pe : Int32) (mo nc bn ln ac : Nat) (sa sb su : Nat → Nat) (sr dd hh : Nat → Int32) (hsa : ∀ j, sa j < 10) (hsb : ∀ j, sb j < 10) (hsu : ∀ j, su j ≤ 1000) (hlb : ∀ k, k < ln → sa k < bn ∧ sb k < bn) (hln : ln ≤ 24) (hbn : bn ≤ 10) : Met l yX6_findsAll wsX6_findsAll ({ frames := 3, cells := 0, slots := 0, locals := 66 }) (va_Pc [.ref h0] (gv_B D cI cJ [(h0, .inr (6, [.int th, .int (nI mo), .ref r2, .int st, .int pe, .ref r5, .ref r6, .ref r7, .int (nI nc), .int (nI bn), .ref r10, .ref r11, .ref r12, .ref r13, .int (nI ln), .ref r15, .ref r16, .ref r17, .ref r18, .int (nI ac)])), (r10, .inl (cI, 24, .inl (fun j => nI (sa j)))), (r11, .inl (cI, 24, .inl (fun j => nI (sb j)))), (r12, .inl (cI, 24, .inl sr)), (r13, .inl (cI, 24, .inl (fun j => nI (su j)))), (r15, .inl (cI, 10, .inl dd)), (r16, .inl (cI, 10, .inl hh))] sz)) (va_Qv (fun (u9 : Unit) => True) (fun (u9 : Unit) t9 => gv_W D (va_A [(h0, .inr (6, [.int th, .int (nI mo), .ref r2, .int st, .int pe, .ref r5, .ref r6, .ref r7, .int (nI nc), .int (nI bn), .ref r10, .ref r11, .ref r12, .ref r13, .int (nI ln), .ref r15, .ref r16, .ref r17, .ref r18, .int (nI ac)])), (r10, .inl (cI, 24, .inl (fun j => nI (sa j)))), (r11, .inl (cI, 24, .inl (fun j => nI (sb j)))), (r12, .inl (cI, 24, .inl sr)), (r13, .inl (cI, 24, .inl (fun j => nI (su j)))), (r15, .inl (cI, 10, .inl dd)), (r16, .inl (cI, 10, .inl hh))] sz) [(h0, .inr (6, [.int th, .int (nI mo), .ref r2, .int st, .int pe, .ref r5, .ref r6, .ref r7, .int (nI nc), .int (nI bn), .ref r10, .ref r11, .ref r12, .ref r13, .int (nI ln), .ref r15, .ref r16, .ref r17, .ref r18, .int (nI ac)])), (r10, .inl (cI, 24, .inl (fun j => nI (sa j)))), (r11, .inl (cI, 24, .inl (fun j => nI (sb j)))), (r12, .inl (cI, 24, .inl sr)), (r13, .inl (cI, 24, .inl (fun j => nI (su j)))), (r15, .inl (cI, 10, .inl ((gv_itr sa sb su sr ln (bn - 1) (gv_ko dd, gv_hz hh)).1))), (r16, .inl (cI, 10, .inl ((gv_itr sa sb su sr ln (bn - 1) (gv_ko dd, gv_hz hh)).2)))] t9) (va_A [(h0, .inr (6, [.int th, .int (nI mo), .ref r2, .int st, .int pe, .ref r5, .ref r6, .ref r7, .int (nI nc), .int (nI bn), .ref r10, .ref r11, .ref r12, .ref r13, .int (nI ln), .ref r15, .ref r16, .ref r17, .ref r18, .int (nI ac)])), (r10, .inl (cI, 24, .inl (fun j => nI (sa j)))), (r11, .inl (cI, 24, .inl (fun j => nI (sb j)))), (r12, .inl (cI, 24, .inl sr)), (r13, .inl (cI, 24, .inl (fun j => nI (su j)))), (r15, .inl (cI, 10, .inl dd)), (r16, .inl (cI, 10, .inl hh))] sz)) 0 0 (va_A [(h0, .inr (6, [.int th, .int (nI mo), .ref r2, .int st, .int pe, .ref r5, .ref r6, .ref r7, .int (nI nc), .int (nI bn), .ref r10, .ref r11, .ref r12, .ref r13, .int (nI ln), .ref r15, .ref r16, .ref r17, .ref r18, .int (nI ac)])), (r10, .inl (cI, 24, .inl (fun j => nI (sa j)))), (r11, .inl (cI, 24, .inl (fun j => nI (sb j)))), (r12, .inl (cI, 24, .inl sr)), (r13, .inl (cI, 24, .inl (fun j => nI (su j)))), (r15, .inl (cI, 10, .inl dd)), (r16, .inl (cI, 10, .inl hh))] sz) := by
  refine Met.ofW (cc := cX6_findsAll) (maxL := 5) (ret := none) (by decide) rfl ?_
  intro p e s m args below meth c s₁ B hml hv
  obtain ⟨rfl, hsz, hP, hK, hD0, hG⟩ := hv
  have hx := B.exec
  have hb := B.bytes
  have hr := B.returns
  have hts := atoms_spec (ws := wsX6_findsAll) B.pre
  have hown : s.vm.findClass RX6 = some m.cls := findClass_of_methodNamed B.named
  have hlocks := B.notSynchronized
  subst hsz
  have hD := hD0.self (sz := s.heap.size)
  generalize hAe : va_A [(h0, .inr (6, [.int th, .int (nI mo), .ref r2, .int st, .int pe, .ref r5, .ref r6, .ref r7, .int (nI nc), .int (nI bn), .ref r10, .ref r11, .ref r12, .ref r13, .int (nI ln), .ref r15, .ref r16, .ref r17, .ref r18, .int (nI ac)])), (r10, .inl (cI, 24, .inl (fun j => nI (sa j)))), (r11, .inl (cI, 24, .inl (fun j => nI (sb j)))), (r12, .inl (cI, 24, .inl sr)), (r13, .inl (cI, 24, .inl (fun j => nI (su j)))), (r15, .inl (cI, 10, .inl dd)), (r16, .inl (cI, 10, .inl hh))] s.heap.size = A at hD ⊢
  have hA : ∀ q : Nat, s.heap.size ≤ q → A q := fun q h => by rw [← hAe]; exact Or.inr h
  have hS : va_S A s.heap s.heap [] := va_S.rf
  have hP : va_P D vwCl [(h0, .inr (6, [.int th, .int (nI mo), .ref r2, .int st, .int pe, .ref r5, .ref r6, .ref r7, .int (nI nc), .int (nI bn), .ref r10, .ref r11, .ref r12, .ref r13, .int (nI ln), .ref r15, .ref r16, .ref r17, .ref r18, .int (nI ac)])), (r10, .inl (cI, 24, .inl (fun j => nI (sa j)))), (r11, .inl (cI, 24, .inl (fun j => nI (sb j)))), (r12, .inl (cI, 24, .inl sr)), (r13, .inl (cI, 24, .inl (fun j => nI (su j)))), (r15, .inl (cI, 10, .inl dd)), (r16, .inl (cI, 10, .inl hh))] s.heap := hP
  have hl := lv_entry ([.ref h0]) (n := 5) (Nat.le_of_ble_eq_true rfl)
  rw [lg_entry_eq]
  generalize (lg_sl ([.ref h0]) ++ List.replicate (5 - (lg_sl ([.ref h0])).length) Slot.unset).toArray = ls at hl ⊢
  have hl : lv_has ls 5 [(0, .ref h0)] := hl
  have hRW : dd = gv_kj dd 0 := gv_kj_0 dd
  rw [hRW] at hP hD
  have hP : va_P D vwCl [(h0, .inr (6, [.int th, .int (nI mo), .ref r2, .int st, .int pe, .ref r5, .ref r6, .ref r7, .int (nI nc), .int (nI bn), .ref r10, .ref r11, .ref r12, .ref r13, .int (nI ln), .ref r15, .ref r16, .ref r17, .ref r18, .int (nI ac)])), (r10, .inl (cI, 24, .inl (fun j => nI (sa j)))), (r11, .inl (cI, 24, .inl (fun j => nI (sb j)))), (r12, .inl (cI, 24, .inl sr)), (r13, .inl (cI, 24, .inl (fun j => nI (su j)))), (r15, .inl (cI, 10, .inl (gv_kj dd 0))), (r16, .inl (cI, 10, .inl hh))] s.heap := hP
  have hD : va_D A [(h0, .inr (6, [.int th, .int (nI mo), .ref r2, .int st, .int pe, .ref r5, .ref r6, .ref r7, .int (nI nc), .int (nI bn), .ref r10, .ref r11, .ref r12, .ref r13, .int (nI ln), .ref r15, .ref r16, .ref r17, .ref r18, .int (nI ac)])), (r10, .inl (cI, 24, .inl (fun j => nI (sa j)))), (r11, .inl (cI, 24, .inl (fun j => nI (sb j)))), (r12, .inl (cI, 24, .inl sr)), (r13, .inl (cI, 24, .inl (fun j => nI (su j)))), (r15, .inl (cI, 10, .inl (gv_kj dd 0))), (r16, .inl (cI, 10, .inl hh))] := hD
  have hRW : hh = gv_hj hh 0 := gv_hj_0 hh
  rw [hRW] at hP hD
  have hP : va_P D vwCl [(h0, .inr (6, [.int th, .int (nI mo), .ref r2, .int st, .int pe, .ref r5, .ref r6, .ref r7, .int (nI nc), .int (nI bn), .ref r10, .ref r11, .ref r12, .ref r13, .int (nI ln), .ref r15, .ref r16, .ref r17, .ref r18, .int (nI ac)])), (r10, .inl (cI, 24, .inl (fun j => nI (sa j)))), (r11, .inl (cI, 24, .inl (fun j => nI (sb j)))), (r12, .inl (cI, 24, .inl sr)), (r13, .inl (cI, 24, .inl (fun j => nI (su j)))), (r15, .inl (cI, 10, .inl (gv_kj dd 0))), (r16, .inl (cI, 10, .inl (gv_hj hh 0)))] s.heap := hP
  have hD : va_D A [(h0, .inr (6, [.int th, .int (nI mo), .ref r2, .int st, .int pe, .ref r5, .ref r6, .ref r7, .int (nI nc), .int (nI bn), .ref r10, .ref r11, .ref r12, .ref r13, .int (nI ln), .ref r15, .ref r16, .ref r17, .ref r18, .int (nI ac)])), (r10, .inl (cI, 24, .inl (fun j => nI (sa j)))), (r11, .inl (cI, 24, .inl (fun j => nI (sb j)))), (r12, .inl (cI, 24, .inl sr)), (r13, .inl (cI, 24, .inl (fun j => nI (su j)))), (r15, .inl (cI, 10, .inl (gv_kj dd 0))), (r16, .inl (cI, 10, .inl (gv_hj hh 0)))] := hD
  refine lv_iconst (v := nI 0) hx hb dX6_findsAll_0 (by decide) ?_
  refine lv_istore_n (lv' := [(1, .int (nI 0)), (0, .ref h0)]) hx hb dX6_findsAll_1 rfl hl (by decide) rfl (fun ls hl => ?_)
  refine gv_lm (σ := Nat) (fun zq H locs ls => match zq with | i => i ≤ 10 ∧ va_P D vwCl [(h0, .inr (6, [.int th, .int (nI mo), .ref r2, .int st, .int pe, .ref r5, .ref r6, .ref r7, .int (nI nc), .int (nI bn), .ref r10, .ref r11, .ref r12, .ref r13, .int (nI ln), .ref r15, .ref r16, .ref r17, .ref r18, .int (nI ac)])), (r10, .inl (cI, 24, .inl (fun j => nI (sa j)))), (r11, .inl (cI, 24, .inl (fun j => nI (sb j)))), (r12, .inl (cI, 24, .inl sr)), (r13, .inl (cI, 24, .inl (fun j => nI (su j)))), (r15, .inl (cI, 10, .inl (gv_kj dd i))), (r16, .inl (cI, 10, .inl (gv_hj hh i)))] H ∧ va_D A [(h0, .inr (6, [.int th, .int (nI mo), .ref r2, .int st, .int pe, .ref r5, .ref r6, .ref r7, .int (nI nc), .int (nI bn), .ref r10, .ref r11, .ref r12, .ref r13, .int (nI ln), .ref r15, .ref r16, .ref r17, .ref r18, .int (nI ac)])), (r10, .inl (cI, 24, .inl (fun j => nI (sa j)))), (r11, .inl (cI, 24, .inl (fun j => nI (sb j)))), (r12, .inl (cI, 24, .inl sr)), (r13, .inl (cI, 24, .inl (fun j => nI (su j)))), (r15, .inl (cI, 10, .inl (gv_kj dd i))), (r16, .inl (cI, 10, .inl (gv_hj hh i)))] ∧ va_S A s.heap H locs ∧ lv_has ls 5 [(0, .ref h0), (1, .int (nI i))]) (fun zq => match zq with | i => 10 - i) 0 ⟨by omega, hP, hD, hS, lv_sub hl [1, 0] rfl⟩ (fun i H locs ls hI ih_2 => ?_)
  obtain ⟨hi, hP, hD, hS, hl⟩ := hI
  refine lv_iload_n hx hb dX6_findsAll_2 rfl (lv_at hl 1 rfl) ?_
  refine lv_bipush (v := nI 10) hx hb dX6_findsAll_3 (by decide) ?_
  refine lv_icmp_ge (tgt := 36) hx hb dX6_findsAll_5 (by decide) (fun c_5 => ?_) (fun c_5 => ?_)
  · skip
    have c_5 := (nI_leI (a := 10) (b := i) (by omega) (by omega)).mp c_5
    have hi10 : i = 10 := by omega
    have hRW : gv_kj dd i = gv_ko dd := by rw [hi10]; exact gv_kj_n dd
    rw [hRW] at hP hD
    have hP : va_P D vwCl [(h0, .inr (6, [.int th, .int (nI mo), .ref r2, .int st, .int pe, .ref r5, .ref r6, .ref r7, .int (nI nc), .int (nI bn), .ref r10, .ref r11, .ref r12, .ref r13, .int (nI ln), .ref r15, .ref r16, .ref r17, .ref r18, .int (nI ac)])), (r10, .inl (cI, 24, .inl (fun j => nI (sa j)))), (r11, .inl (cI, 24, .inl (fun j => nI (sb j)))), (r12, .inl (cI, 24, .inl sr)), (r13, .inl (cI, 24, .inl (fun j => nI (su j)))), (r15, .inl (cI, 10, .inl (gv_ko dd))), (r16, .inl (cI, 10, .inl (gv_hj hh i)))] H := hP
    have hD : va_D A [(h0, .inr (6, [.int th, .int (nI mo), .ref r2, .int st, .int pe, .ref r5, .ref r6, .ref r7, .int (nI nc), .int (nI bn), .ref r10, .ref r11, .ref r12, .ref r13, .int (nI ln), .ref r15, .ref r16, .ref r17, .ref r18, .int (nI ac)])), (r10, .inl (cI, 24, .inl (fun j => nI (sa j)))), (r11, .inl (cI, 24, .inl (fun j => nI (sb j)))), (r12, .inl (cI, 24, .inl sr)), (r13, .inl (cI, 24, .inl (fun j => nI (su j)))), (r15, .inl (cI, 10, .inl (gv_ko dd))), (r16, .inl (cI, 10, .inl (gv_hj hh i)))] := hD
    have hRW : gv_hj hh i = gv_hz hh := by rw [hi10]; rfl
    rw [hRW] at hP hD
    have hP : va_P D vwCl [(h0, .inr (6, [.int th, .int (nI mo), .ref r2, .int st, .int pe, .ref r5, .ref r6, .ref r7, .int (nI nc), .int (nI bn), .ref r10, .ref r11, .ref r12, .ref r13, .int (nI ln), .ref r15, .ref r16, .ref r17, .ref r18, .int (nI ac)])), (r10, .inl (cI, 24, .inl (fun j => nI (sa j)))), (r11, .inl (cI, 24, .inl (fun j => nI (sb j)))), (r12, .inl (cI, 24, .inl sr)), (r13, .inl (cI, 24, .inl (fun j => nI (su j)))), (r15, .inl (cI, 10, .inl (gv_ko dd))), (r16, .inl (cI, 10, .inl (gv_hz hh)))] H := hP
    have hD : va_D A [(h0, .inr (6, [.int th, .int (nI mo), .ref r2, .int st, .int pe, .ref r5, .ref r6, .ref r7, .int (nI nc), .int (nI bn), .ref r10, .ref r11, .ref r12, .ref r13, .int (nI ln), .ref r15, .ref r16, .ref r17, .ref r18, .int (nI ac)])), (r10, .inl (cI, 24, .inl (fun j => nI (sa j)))), (r11, .inl (cI, 24, .inl (fun j => nI (sb j)))), (r12, .inl (cI, 24, .inl sr)), (r13, .inl (cI, 24, .inl (fun j => nI (su j)))), (r15, .inl (cI, 10, .inl (gv_ko dd))), (r16, .inl (cI, 10, .inl (gv_hz hh)))] := hD
    refine lv_aload_n hx hb dX6_findsAll_36 rfl (lv_at hl 0 rfl) ?_
    refine gv_pi (va_runV (As := []) (rest := []) ⟨hx, hb, hml, hown, hts⟩ (ct_X6_next l D cI cJ H.size h0 r2 r5 r6 r7 r10 r11 r12 r13 r15 r16 r17 r18 th st pe mo nc bn ln ac sa sb su (gv_ko dd) hsa hsb hln) (cwV 0 hts gX6_findsAll_X6_next rfl rfl rfl (by decide +kernel) ⟨Nat.le_of_ble_eq_true rfl, Nat.le_of_ble_eq_true rfl⟩) (gv_pV (wc := [(h0, .inr (6, [.int th, .int (nI mo), .ref r2, .int st, .int pe, .ref r5, .ref r6, .ref r7, .int (nI nc), .int (nI bn), .ref r10, .ref r11, .ref r12, .ref r13, .int (nI ln), .ref r15, .ref r16, .ref r17, .ref r18, .int (nI ac)])), (r10, .inl (cI, 24, .inl (fun j => nI (sa j)))), (r11, .inl (cI, 24, .inl (fun j => nI (sb j)))), (r13, .inl (cI, 24, .inl (fun j => nI (su j)))), (r15, .inl (cI, 10, .inl (gv_ko dd)))]) hP hK hD hG [0, 1, 2, 4, 5] rfl (by decide) 0 rfl rfl rfl) rfl rfl hl.1 rfl (lv_room (Nat.le_of_ble_eq_true rfl)) dX6_findsAll_37 ⟨Nat.le_of_ble_eq_true rfl, Nat.le_of_ble_eq_true rfl⟩) (fun r0 hr0 => ?_)
    refine lv_istore_n (lv' := [(1, .int r0), (0, .ref h0)]) hx hb dX6_findsAll_40 rfl hl (by decide) rfl (fun ls hl => ?_)
    refine gv_lm (σ := Int32 × (Nat → Int32) × (Nat → Int32)) (fun zq H locs ls => match zq with | (x9, d, h) => x9 = (gv_srl sa sb su d ln).1 ∧ gv_fi sa sb su sr ln bn d h (gv_itr sa sb su sr ln (bn - 1) (gv_ko dd, gv_hz hh)) ∧ va_P D vwCl [(h0, .inr (6, [.int th, .int (nI mo), .ref r2, .int st, .int pe, .ref r5, .ref r6, .ref r7, .int (nI nc), .int (nI bn), .ref r10, .ref r11, .ref r12, .ref r13, .int (nI ln), .ref r15, .ref r16, .ref r17, .ref r18, .int (nI ac)])), (r10, .inl (cI, 24, .inl (fun j => nI (sa j)))), (r11, .inl (cI, 24, .inl (fun j => nI (sb j)))), (r12, .inl (cI, 24, .inl sr)), (r13, .inl (cI, 24, .inl (fun j => nI (su j)))), (r15, .inl (cI, 10, .inl d)), (r16, .inl (cI, 10, .inl h))] H ∧ va_D A [(h0, .inr (6, [.int th, .int (nI mo), .ref r2, .int st, .int pe, .ref r5, .ref r6, .ref r7, .int (nI nc), .int (nI bn), .ref r10, .ref r11, .ref r12, .ref r13, .int (nI ln), .ref r15, .ref r16, .ref r17, .ref r18, .int (nI ac)])), (r10, .inl (cI, 24, .inl (fun j => nI (sa j)))), (r11, .inl (cI, 24, .inl (fun j => nI (sb j)))), (r12, .inl (cI, 24, .inl sr)), (r13, .inl (cI, 24, .inl (fun j => nI (su j)))), (r15, .inl (cI, 10, .inl d)), (r16, .inl (cI, 10, .inl h))] ∧ va_S A s.heap H locs ∧ lv_has ls 5 [(0, .ref h0), (1, .int x9)]) (fun zq => match zq with | (x9, d, h) => gv_cn d bn) (r0, gv_ko dd, gv_hz hh) ⟨hr0, gv_fi_0 hbn, hP, hD, hS, lv_sub hl [1, 0] rfl⟩ (fun zq H locs ls hI ih_41 => ?_)
    obtain ⟨x9, d, h⟩ := zq
    obtain ⟨hx9, hfi, hP, hD, hS, hl⟩ := hI
    refine lv_iload_n hx hb dX6_findsAll_41 rfl (lv_at hl 1 rfl) ?_
    refine lv_iconst (v := -1) hx hb dX6_findsAll_42 (by decide) ?_
    refine lv_icmp_eq (tgt := 150) hx hb dX6_findsAll_43 (by decide) (fun c_43 => ?_) (fun c_43 => ?_)
    · skip
      have hge : gv_itr sa sb su sr ln (gv_cn d bn) (d, h) = gv_itr sa sb su sr ln (bn - 1) (gv_ko dd, gv_hz hh) := hfi.2
      rw [gv_itr_no (hx9.symm.trans c_43)] at hge
      have hpo : True := by
        trivial
      have hP9 : va_P D vwCl [(h0, .inr (6, [.int th, .int (nI mo), .ref r2, .int st, .int pe, .ref r5, .ref r6, .ref r7, .int (nI nc), .int (nI bn), .ref r10, .ref r11, .ref r12, .ref r13, .int (nI ln), .ref r15, .ref r16, .ref r17, .ref r18, .int (nI ac)])), (r10, .inl (cI, 24, .inl (fun j => nI (sa j)))), (r11, .inl (cI, 24, .inl (fun j => nI (sb j)))), (r12, .inl (cI, 24, .inl sr)), (r13, .inl (cI, 24, .inl (fun j => nI (su j)))), (r15, .inl (cI, 10, .inl ((gv_itr sa sb su sr ln (bn - 1) (gv_ko dd, gv_hz hh)).1))), (r16, .inl (cI, 10, .inl ((gv_itr sa sb su sr ln (bn - 1) (gv_ko dd, gv_hz hh)).2)))] H := by rw [← hge]; exact hP
      have hD9 : va_D A [(h0, .inr (6, [.int th, .int (nI mo), .ref r2, .int st, .int pe, .ref r5, .ref r6, .ref r7, .int (nI nc), .int (nI bn), .ref r10, .ref r11, .ref r12, .ref r13, .int (nI ln), .ref r15, .ref r16, .ref r17, .ref r18, .int (nI ac)])), (r10, .inl (cI, 24, .inl (fun j => nI (sa j)))), (r11, .inl (cI, 24, .inl (fun j => nI (sb j)))), (r12, .inl (cI, 24, .inl sr)), (r13, .inl (cI, 24, .inl (fun j => nI (su j)))), (r15, .inl (cI, 10, .inl ((gv_itr sa sb su sr ln (bn - 1) (gv_ko dd, gv_hz hh)).1))), (r16, .inl (cI, 10, .inl ((gv_itr sa sb su sr ln (bn - 1) (gv_ko dd, gv_hz hh)).2)))] := by rw [← hge]; exact hD
      exact W.vret hx hb hr (fun t9 ht9 hW9 => ⟨⟨(), rfl, hpo, by rw [ht9]; exact hP9, hD9⟩, hS.F ht9⟩) hS.2.2 dX6_findsAll_150
    · skip
      obtain ⟨j, hj, ej, hdb⟩ := gv_srl_n hln (by rw [← hx9]; exact c_43)
      have hx8 : x9 = nI j := hx9.trans (by rw [ej])
      obtain ⟨hfi2, hlt2⟩ := gv_fi_s hfi hsa hsb hsu hlb hbn hj (by omega) ej hdb
      subst hx8
      refine lv_aload_n hx hb dX6_findsAll_46 rfl (lv_at hl 0 rfl) ?_
      refine lv_iload_n hx hb dX6_findsAll_47 rfl (lv_at hl 1 rfl) ?_
      refine gv_pi (va_runV (As := [.int (nI j)]) (rest := []) ⟨hx, hb, hml, hown, hts⟩ (ct_X6_finds l D cI cJ H.size h0 r2 r5 r6 r7 r10 r11 r12 r13 r15 r16 r17 r18 th st pe mo nc bn ln ac sa sb su d j hsa hsb (by omega)) (cwV 1 hts gX6_findsAll_X6_finds rfl rfl rfl (by decide +kernel) ⟨Nat.le_of_ble_eq_true rfl, Nat.le_of_ble_eq_true rfl⟩) (gv_pV (wc := [(h0, .inr (6, [.int th, .int (nI mo), .ref r2, .int st, .int pe, .ref r5, .ref r6, .ref r7, .int (nI nc), .int (nI bn), .ref r10, .ref r11, .ref r12, .ref r13, .int (nI ln), .ref r15, .ref r16, .ref r17, .ref r18, .int (nI ac)])), (r10, .inl (cI, 24, .inl (fun j => nI (sa j)))), (r11, .inl (cI, 24, .inl (fun j => nI (sb j)))), (r13, .inl (cI, 24, .inl (fun j => nI (su j)))), (r15, .inl (cI, 10, .inl d))]) hP hK hD hG [0, 1, 2, 4, 5] rfl (by decide) 0 rfl rfl rfl) rfl rfl hl.1 rfl (lv_room (Nat.le_of_ble_eq_true rfl)) dX6_findsAll_48 ⟨Nat.le_of_ble_eq_true rfl, Nat.le_of_ble_eq_true rfl⟩) (fun r2_ h2 => ?_)
      refine lv_istore_n (lv' := [(2, .int r2_), (0, .ref h0), (1, .int (nI j))]) hx hb dX6_findsAll_51 rfl hl (by decide) rfl (fun ls hl => ?_)
      refine lv_aload_n hx hb dX6_findsAll_52 rfl (lv_at hl 1 rfl) ?_
      refine lv_aload_n hx hb dX6_findsAll_53 rfl (lv_at hl 1 rfl) ?_
      refine va_get (D := D) (ci := 6) (v := .ref r10) (C := RX6) (T := TX6) (N := 20) hx hb hts gv_in_X6_findsAll_X6 hown hK hP 0 rfl rfl 10 (by decide) (hts (.fieldLink RX6 27 "GravimereModel" "from" "[I") (by decide +kernel)) (fun _ h9 => h9) rfl dX6_findsAll_54 ?_
      refine lv_iload_n hx hb dX6_findsAll_57 rfl (lv_at hl 2 rfl) ?_
      refine gv_il hx hb hK hP 1 (k := j) rfl (by first | exact hsa _ | exact hsb _ | omega) (by decide) dX6_findsAll_58 ?_
      refine gv_wi (rfl) ?_
      refine gv_pi (va_runV (As := [.int (nI (sa j))]) (rest := []) ⟨hx, hb, hml, hown, hts⟩ (ct_X6_isFound l D cI cJ H.size h0 r2 r5 r6 r7 r10 r11 r12 r13 r15 r16 r17 r18 th st pe mo nc bn ln ac d (sa j) (hsa j)) (cwV 1 hts gX6_findsAll_X6_isFound rfl rfl rfl (by decide +kernel) ⟨Nat.le_of_ble_eq_true rfl, Nat.le_of_ble_eq_true rfl⟩) (gv_pV (wc := [(h0, .inr (6, [.int th, .int (nI mo), .ref r2, .int st, .int pe, .ref r5, .ref r6, .ref r7, .int (nI nc), .int (nI bn), .ref r10, .ref r11, .ref r12, .ref r13, .int (nI ln), .ref r15, .ref r16, .ref r17, .ref r18, .int (nI ac)])), (r15, .inl (cI, 10, .inl d))]) hP hK hD hG [0, 5] rfl (by decide) 0 rfl rfl rfl) rfl rfl hl.1 rfl (lv_room (Nat.le_of_ble_eq_true rfl)) dX6_findsAll_59 ⟨Nat.le_of_ble_eq_true rfl, Nat.le_of_ble_eq_true rfl⟩) (fun r3_ h3 => ?_)
      refine lv_istore_n (lv' := [(3, .int r3_), (2, .int r2_), (0, .ref h0), (1, .int (nI j))]) hx hb dX6_findsAll_62 rfl hl (by decide) rfl (fun ls hl => ?_)
      refine lv_iload_n hx hb dX6_findsAll_63 rfl (lv_at hl 0 rfl) ?_
      refine lv_if_eq (tgt := 76) hx hb dX6_findsAll_64 (by decide) (fun c_64 => ?_) (fun c_64 => ?_)
      · skip
        refine lv_aload_n hx hb dX6_findsAll_76 rfl (lv_at hl 2 rfl) ?_
        refine va_get (D := D) (ci := 6) (v := .ref r10) (C := RX6) (T := TX6) (N := 20) hx hb hts gv_in_X6_findsAll_X6 hown hK hP 0 rfl rfl 10 (by decide) (hts (.fieldLink RX6 27 "GravimereModel" "from" "[I") (by decide +kernel)) (fun _ h9 => h9) rfl dX6_findsAll_77 ?_
        refine lv_iload_n hx hb dX6_findsAll_80 rfl (lv_at hl 3 rfl) ?_
        refine gv_il hx hb hK hP 1 (k := j) rfl (by first | exact hsa _ | exact hsb _ | omega) (by decide) dX6_findsAll_81 ?_
        refine gv_wi (rfl) ?_
        refine lv_istore (lv' := [(4, .int (nI (sa j))), (3, .int r3_), (2, .int r2_), (0, .ref h0), (1, .int (nI j))]) hx hb dX6_findsAll_82 hl (by decide) rfl (fun ls hl => ?_)
        refine lv_aload_n hx hb dX6_findsAll_84 rfl (lv_at hl 3 rfl) ?_
        refine va_get (D := D) (ci := 6) (v := .ref r16) (C := RX6) (T := TX6) (N := 20) hx hb hts gv_in_X6_findsAll_X6 hown hK hP 0 rfl rfl 16 (by decide) (hts (.fieldLink RX6 42 "GravimereModel" "heights" "[I") (by decide +kernel)) (fun _ h9 => h9) rfl dX6_findsAll_85 ?_
        refine lv_iload hx hb dX6_findsAll_88 (lv_at hl 0 rfl) ?_
        refine lv_iload_n hx hb dX6_findsAll_90 rfl (lv_at hl 1 rfl) ?_
        refine lv_if_eq (tgt := 115) hx hb dX6_findsAll_91 (by decide) (fun c_91 => ?_) (fun c_91 => ?_)
        · skip
          refine lv_aload_n hx hb dX6_findsAll_115 rfl (lv_at hl 3 rfl) ?_
          refine va_get (D := D) (ci := 6) (v := .ref r16) (C := RX6) (T := TX6) (N := 20) hx hb hts gv_in_X6_findsAll_X6 hown hK hP 0 rfl rfl 16 (by decide) (hts (.fieldLink RX6 42 "GravimereModel" "heights" "[I") (by decide +kernel)) (fun _ h9 => h9) rfl dX6_findsAll_116 ?_
          refine lv_aload_n hx hb dX6_findsAll_119 rfl (lv_at hl 3 rfl) ?_
          refine va_get (D := D) (ci := 6) (v := .ref r11) (C := RX6) (T := TX6) (N := 20) hx hb hts gv_in_X6_findsAll_X6 hown hK hP 0 rfl rfl 11 (by decide) (hts (.fieldLink RX6 30 "GravimereModel" "to" "[I") (by decide +kernel)) (fun _ h9 => h9) rfl dX6_findsAll_120 ?_
          refine lv_iload_n hx hb dX6_findsAll_123 rfl (lv_at hl 4 rfl) ?_
          refine gv_il hx hb hK hP 2 (k := j) rfl (by first | exact hsa _ | exact hsb _ | omega) (by decide) dX6_findsAll_124 ?_
          refine gv_wi (rfl) ?_
          refine gv_il hx hb hK hP 6 (k := sb j) rfl (by first | exact hsa _ | exact hsb _ | omega) (by decide) dX6_findsAll_125 ?_
          refine lv_aload_n hx hb dX6_findsAll_126 rfl (lv_at hl 3 rfl) ?_
          refine va_get (D := D) (ci := 6) (v := .ref r12) (C := RX6) (T := TX6) (N := 20) hx hb hts gv_in_X6_findsAll_X6 hown hK hP 0 rfl rfl 12 (by decide) (hts (.fieldLink RX6 33 "GravimereModel" "higher" "[I") (by decide +kernel)) (fun _ h9 => h9) rfl dX6_findsAll_127 ?_
          refine lv_iload_n hx hb dX6_findsAll_130 rfl (lv_at hl 4 rfl) ?_
          refine gv_il hx hb hK hP 3 (k := j) rfl (by first | exact hsa _ | exact hsb _ | omega) (by decide) dX6_findsAll_131 ?_
          refine lv_isub hx hb dX6_findsAll_132 ?_
          refine gv_is hx hb hK hP hD hS 6 (k := sa j) rfl (by first | exact hsa _ | exact hsb _ | omega) (by decide) dX6_findsAll_133 (fun H locs hP hD hS => ?_)
          have hP : va_P D vwCl [(h0, .inr (6, [.int th, .int (nI mo), .ref r2, .int st, .int pe, .ref r5, .ref r6, .ref r7, .int (nI nc), .int (nI bn), .ref r10, .ref r11, .ref r12, .ref r13, .int (nI ln), .ref r15, .ref r16, .ref r17, .ref r18, .int (nI ac)])), (r10, .inl (cI, 24, .inl (fun j => nI (sa j)))), (r11, .inl (cI, 24, .inl (fun j => nI (sb j)))), (r12, .inl (cI, 24, .inl sr)), (r13, .inl (cI, 24, .inl (fun j => nI (su j)))), (r15, .inl (cI, 10, .inl d)), (r16, .inl (cI, 10, .inl (upd h (sa j) ((h (sb j)) - (sr j)))))] H := hP
          have hD : va_D A [(h0, .inr (6, [.int th, .int (nI mo), .ref r2, .int st, .int pe, .ref r5, .ref r6, .ref r7, .int (nI nc), .int (nI bn), .ref r10, .ref r11, .ref r12, .ref r13, .int (nI ln), .ref r15, .ref r16, .ref r17, .ref r18, .int (nI ac)])), (r10, .inl (cI, 24, .inl (fun j => nI (sa j)))), (r11, .inl (cI, 24, .inl (fun j => nI (sb j)))), (r12, .inl (cI, 24, .inl sr)), (r13, .inl (cI, 24, .inl (fun j => nI (su j)))), (r15, .inl (cI, 10, .inl d)), (r16, .inl (cI, 10, .inl (upd h (sa j) ((h (sb j)) - (sr j)))))] := hD
          refine lv_aload_n hx hb dX6_findsAll_134 rfl (lv_at hl 3 rfl) ?_
          refine va_get (D := D) (ci := 6) (v := .ref r15) (C := RX6) (T := TX6) (N := 20) hx hb hts gv_in_X6_findsAll_X6 hown hK hP 0 rfl rfl 15 (by decide) (hts (.fieldLink RX6 39 "GravimereModel" "doubts" "[I") (by decide +kernel)) (fun _ h9 => h9) rfl dX6_findsAll_135 ?_
          refine lv_iload hx hb dX6_findsAll_138 (lv_at hl 0 rfl) ?_
          refine lv_iload_n hx hb dX6_findsAll_140 rfl (lv_at hl 2 rfl) ?_
          refine gv_is hx hb hK hP hD hS 5 (k := sa j) rfl (by first | exact hsa _ | exact hsb _ | omega) (by decide) dX6_findsAll_141 (fun H locs hP hD hS => ?_)
          have hP : va_P D vwCl [(h0, .inr (6, [.int th, .int (nI mo), .ref r2, .int st, .int pe, .ref r5, .ref r6, .ref r7, .int (nI nc), .int (nI bn), .ref r10, .ref r11, .ref r12, .ref r13, .int (nI ln), .ref r15, .ref r16, .ref r17, .ref r18, .int (nI ac)])), (r10, .inl (cI, 24, .inl (fun j => nI (sa j)))), (r11, .inl (cI, 24, .inl (fun j => nI (sb j)))), (r12, .inl (cI, 24, .inl sr)), (r13, .inl (cI, 24, .inl (fun j => nI (su j)))), (r15, .inl (cI, 10, .inl (upd d (sa j) r2_))), (r16, .inl (cI, 10, .inl (upd h (sa j) ((h (sb j)) - (sr j)))))] H := hP
          have hD : va_D A [(h0, .inr (6, [.int th, .int (nI mo), .ref r2, .int st, .int pe, .ref r5, .ref r6, .ref r7, .int (nI nc), .int (nI bn), .ref r10, .ref r11, .ref r12, .ref r13, .int (nI ln), .ref r15, .ref r16, .ref r17, .ref r18, .int (nI ac)])), (r10, .inl (cI, 24, .inl (fun j => nI (sa j)))), (r11, .inl (cI, 24, .inl (fun j => nI (sb j)))), (r12, .inl (cI, 24, .inl sr)), (r13, .inl (cI, 24, .inl (fun j => nI (su j)))), (r15, .inl (cI, 10, .inl (upd d (sa j) r2_))), (r16, .inl (cI, 10, .inl (upd h (sa j) ((h (sb j)) - (sr j)))))] := hD
          have hsp : gv_stp sa sb su sr (d, h) j = (upd d (sa j) r2_, upd h (sa j) ((h (sb j)) - (sr j))) := by first | exact gv_sp_a h3 c_64 h2 hdb | exact gv_sp_b h3 c_64 h2 hdb
          have hRW : upd d (sa j) r2_ = (gv_stp sa sb su sr (d, h) j).1 := by rw [hsp]
          rw [hRW] at hP hD
          have hP : va_P D vwCl [(h0, .inr (6, [.int th, .int (nI mo), .ref r2, .int st, .int pe, .ref r5, .ref r6, .ref r7, .int (nI nc), .int (nI bn), .ref r10, .ref r11, .ref r12, .ref r13, .int (nI ln), .ref r15, .ref r16, .ref r17, .ref r18, .int (nI ac)])), (r10, .inl (cI, 24, .inl (fun j => nI (sa j)))), (r11, .inl (cI, 24, .inl (fun j => nI (sb j)))), (r12, .inl (cI, 24, .inl sr)), (r13, .inl (cI, 24, .inl (fun j => nI (su j)))), (r15, .inl (cI, 10, .inl ((gv_stp sa sb su sr (d, h) j).1))), (r16, .inl (cI, 10, .inl (upd h (sa j) ((h (sb j)) - (sr j)))))] H := hP
          have hD : va_D A [(h0, .inr (6, [.int th, .int (nI mo), .ref r2, .int st, .int pe, .ref r5, .ref r6, .ref r7, .int (nI nc), .int (nI bn), .ref r10, .ref r11, .ref r12, .ref r13, .int (nI ln), .ref r15, .ref r16, .ref r17, .ref r18, .int (nI ac)])), (r10, .inl (cI, 24, .inl (fun j => nI (sa j)))), (r11, .inl (cI, 24, .inl (fun j => nI (sb j)))), (r12, .inl (cI, 24, .inl sr)), (r13, .inl (cI, 24, .inl (fun j => nI (su j)))), (r15, .inl (cI, 10, .inl ((gv_stp sa sb su sr (d, h) j).1))), (r16, .inl (cI, 10, .inl (upd h (sa j) ((h (sb j)) - (sr j)))))] := hD
          have hRW : upd h (sa j) ((h (sb j)) - (sr j)) = (gv_stp sa sb su sr (d, h) j).2 := by rw [hsp]
          rw [hRW] at hP hD
          have hP : va_P D vwCl [(h0, .inr (6, [.int th, .int (nI mo), .ref r2, .int st, .int pe, .ref r5, .ref r6, .ref r7, .int (nI nc), .int (nI bn), .ref r10, .ref r11, .ref r12, .ref r13, .int (nI ln), .ref r15, .ref r16, .ref r17, .ref r18, .int (nI ac)])), (r10, .inl (cI, 24, .inl (fun j => nI (sa j)))), (r11, .inl (cI, 24, .inl (fun j => nI (sb j)))), (r12, .inl (cI, 24, .inl sr)), (r13, .inl (cI, 24, .inl (fun j => nI (su j)))), (r15, .inl (cI, 10, .inl ((gv_stp sa sb su sr (d, h) j).1))), (r16, .inl (cI, 10, .inl ((gv_stp sa sb su sr (d, h) j).2)))] H := hP
          have hD : va_D A [(h0, .inr (6, [.int th, .int (nI mo), .ref r2, .int st, .int pe, .ref r5, .ref r6, .ref r7, .int (nI nc), .int (nI bn), .ref r10, .ref r11, .ref r12, .ref r13, .int (nI ln), .ref r15, .ref r16, .ref r17, .ref r18, .int (nI ac)])), (r10, .inl (cI, 24, .inl (fun j => nI (sa j)))), (r11, .inl (cI, 24, .inl (fun j => nI (sb j)))), (r12, .inl (cI, 24, .inl sr)), (r13, .inl (cI, 24, .inl (fun j => nI (su j)))), (r15, .inl (cI, 10, .inl ((gv_stp sa sb su sr (d, h) j).1))), (r16, .inl (cI, 10, .inl ((gv_stp sa sb su sr (d, h) j).2)))] := hD
          refine lv_aload_n hx hb dX6_findsAll_142 rfl (lv_at hl 3 rfl) ?_
          refine gv_pi (va_runV (As := []) (rest := []) ⟨hx, hb, hml, hown, hts⟩ (ct_X6_next l D cI cJ H.size h0 r2 r5 r6 r7 r10 r11 r12 r13 r15 r16 r17 r18 th st pe mo nc bn ln ac sa sb su (gv_stp sa sb su sr (d, h) j).1 hsa hsb hln) (cwV 0 hts gX6_findsAll_X6_next rfl rfl rfl (by decide +kernel) ⟨Nat.le_of_ble_eq_true rfl, Nat.le_of_ble_eq_true rfl⟩) (gv_pV (wc := [(h0, .inr (6, [.int th, .int (nI mo), .ref r2, .int st, .int pe, .ref r5, .ref r6, .ref r7, .int (nI nc), .int (nI bn), .ref r10, .ref r11, .ref r12, .ref r13, .int (nI ln), .ref r15, .ref r16, .ref r17, .ref r18, .int (nI ac)])), (r10, .inl (cI, 24, .inl (fun j => nI (sa j)))), (r11, .inl (cI, 24, .inl (fun j => nI (sb j)))), (r13, .inl (cI, 24, .inl (fun j => nI (su j)))), (r15, .inl (cI, 10, .inl ((gv_stp sa sb su sr (d, h) j).1)))]) hP hK hD hG [0, 1, 2, 4, 5] rfl (by decide) 0 rfl rfl rfl) rfl rfl hl.1 rfl (lv_room (Nat.le_of_ble_eq_true rfl)) dX6_findsAll_143 ⟨Nat.le_of_ble_eq_true rfl, Nat.le_of_ble_eq_true rfl⟩) (fun rn hrn => ?_)
          refine lv_istore_n (lv' := [(1, .int rn), (4, .int (nI (sa j))), (3, .int r3_), (2, .int r2_), (0, .ref h0)]) hx hb dX6_findsAll_146 rfl hl (by decide) rfl (fun ls hl => ?_)
          refine lv_goto (tgt := 41) hx hb dX6_findsAll_147 (by decide) ?_
          exact ih_41 (rn, (gv_stp sa sb su sr (d, h) j).1, (gv_stp sa sb su sr (d, h) j).2) _ _ _ ⟨hrn, hfi2, hP, hD, hS, lv_sub hl [4, 0] rfl⟩ (by exact hlt2)
        · skip
          exact absurd c_64 c_91
      · skip
        refine lv_aload_n hx hb dX6_findsAll_67 rfl (lv_at hl 2 rfl) ?_
        refine va_get (D := D) (ci := 6) (v := .ref r11) (C := RX6) (T := TX6) (N := 20) hx hb hts gv_in_X6_findsAll_X6 hown hK hP 0 rfl rfl 11 (by decide) (hts (.fieldLink RX6 30 "GravimereModel" "to" "[I") (by decide +kernel)) (fun _ h9 => h9) rfl dX6_findsAll_68 ?_
        refine lv_iload_n hx hb dX6_findsAll_71 rfl (lv_at hl 3 rfl) ?_
        refine gv_il hx hb hK hP 2 (k := j) rfl (by first | exact hsa _ | exact hsb _ | omega) (by decide) dX6_findsAll_72 ?_
        refine gv_wi (rfl) ?_
        refine lv_goto (tgt := 82) hx hb dX6_findsAll_73 (by decide) ?_
        refine lv_istore (lv' := [(4, .int (nI (sb j))), (3, .int r3_), (2, .int r2_), (0, .ref h0), (1, .int (nI j))]) hx hb dX6_findsAll_82 hl (by decide) rfl (fun ls hl => ?_)
        refine lv_aload_n hx hb dX6_findsAll_84 rfl (lv_at hl 3 rfl) ?_
        refine va_get (D := D) (ci := 6) (v := .ref r16) (C := RX6) (T := TX6) (N := 20) hx hb hts gv_in_X6_findsAll_X6 hown hK hP 0 rfl rfl 16 (by decide) (hts (.fieldLink RX6 42 "GravimereModel" "heights" "[I") (by decide +kernel)) (fun _ h9 => h9) rfl dX6_findsAll_85 ?_
        refine lv_iload hx hb dX6_findsAll_88 (lv_at hl 0 rfl) ?_
        refine lv_iload_n hx hb dX6_findsAll_90 rfl (lv_at hl 1 rfl) ?_
        refine lv_if_eq (tgt := 115) hx hb dX6_findsAll_91 (by decide) (fun c_91 => ?_) (fun c_91 => ?_)
        · skip
          exact absurd c_91 c_64
        · skip
          refine lv_aload_n hx hb dX6_findsAll_94 rfl (lv_at hl 3 rfl) ?_
          refine va_get (D := D) (ci := 6) (v := .ref r16) (C := RX6) (T := TX6) (N := 20) hx hb hts gv_in_X6_findsAll_X6 hown hK hP 0 rfl rfl 16 (by decide) (hts (.fieldLink RX6 42 "GravimereModel" "heights" "[I") (by decide +kernel)) (fun _ h9 => h9) rfl dX6_findsAll_95 ?_
          refine lv_aload_n hx hb dX6_findsAll_98 rfl (lv_at hl 3 rfl) ?_
          refine va_get (D := D) (ci := 6) (v := .ref r10) (C := RX6) (T := TX6) (N := 20) hx hb hts gv_in_X6_findsAll_X6 hown hK hP 0 rfl rfl 10 (by decide) (hts (.fieldLink RX6 27 "GravimereModel" "from" "[I") (by decide +kernel)) (fun _ h9 => h9) rfl dX6_findsAll_99 ?_
          refine lv_iload_n hx hb dX6_findsAll_102 rfl (lv_at hl 4 rfl) ?_
          refine gv_il hx hb hK hP 1 (k := j) rfl (by first | exact hsa _ | exact hsb _ | omega) (by decide) dX6_findsAll_103 ?_
          refine gv_wi (rfl) ?_
          refine gv_il hx hb hK hP 6 (k := sa j) rfl (by first | exact hsa _ | exact hsb _ | omega) (by decide) dX6_findsAll_104 ?_
          refine lv_aload_n hx hb dX6_findsAll_105 rfl (lv_at hl 3 rfl) ?_
          refine va_get (D := D) (ci := 6) (v := .ref r12) (C := RX6) (T := TX6) (N := 20) hx hb hts gv_in_X6_findsAll_X6 hown hK hP 0 rfl rfl 12 (by decide) (hts (.fieldLink RX6 33 "GravimereModel" "higher" "[I") (by decide +kernel)) (fun _ h9 => h9) rfl dX6_findsAll_106 ?_
          refine lv_iload_n hx hb dX6_findsAll_109 rfl (lv_at hl 4 rfl) ?_
          refine gv_il hx hb hK hP 3 (k := j) rfl (by first | exact hsa _ | exact hsb _ | omega) (by decide) dX6_findsAll_110 ?_
          refine lv_iadd hx hb dX6_findsAll_111 ?_
          refine lv_goto (tgt := 133) hx hb dX6_findsAll_112 (by decide) ?_
          refine gv_is hx hb hK hP hD hS 6 (k := sb j) rfl (by first | exact hsa _ | exact hsb _ | omega) (by decide) dX6_findsAll_133 (fun H locs hP hD hS => ?_)
          have hP : va_P D vwCl [(h0, .inr (6, [.int th, .int (nI mo), .ref r2, .int st, .int pe, .ref r5, .ref r6, .ref r7, .int (nI nc), .int (nI bn), .ref r10, .ref r11, .ref r12, .ref r13, .int (nI ln), .ref r15, .ref r16, .ref r17, .ref r18, .int (nI ac)])), (r10, .inl (cI, 24, .inl (fun j => nI (sa j)))), (r11, .inl (cI, 24, .inl (fun j => nI (sb j)))), (r12, .inl (cI, 24, .inl sr)), (r13, .inl (cI, 24, .inl (fun j => nI (su j)))), (r15, .inl (cI, 10, .inl d)), (r16, .inl (cI, 10, .inl (upd h (sb j) ((h (sa j)) + (sr j)))))] H := hP
          have hD : va_D A [(h0, .inr (6, [.int th, .int (nI mo), .ref r2, .int st, .int pe, .ref r5, .ref r6, .ref r7, .int (nI nc), .int (nI bn), .ref r10, .ref r11, .ref r12, .ref r13, .int (nI ln), .ref r15, .ref r16, .ref r17, .ref r18, .int (nI ac)])), (r10, .inl (cI, 24, .inl (fun j => nI (sa j)))), (r11, .inl (cI, 24, .inl (fun j => nI (sb j)))), (r12, .inl (cI, 24, .inl sr)), (r13, .inl (cI, 24, .inl (fun j => nI (su j)))), (r15, .inl (cI, 10, .inl d)), (r16, .inl (cI, 10, .inl (upd h (sb j) ((h (sa j)) + (sr j)))))] := hD
          refine lv_aload_n hx hb dX6_findsAll_134 rfl (lv_at hl 3 rfl) ?_
          refine va_get (D := D) (ci := 6) (v := .ref r15) (C := RX6) (T := TX6) (N := 20) hx hb hts gv_in_X6_findsAll_X6 hown hK hP 0 rfl rfl 15 (by decide) (hts (.fieldLink RX6 39 "GravimereModel" "doubts" "[I") (by decide +kernel)) (fun _ h9 => h9) rfl dX6_findsAll_135 ?_
          refine lv_iload hx hb dX6_findsAll_138 (lv_at hl 0 rfl) ?_
          refine lv_iload_n hx hb dX6_findsAll_140 rfl (lv_at hl 2 rfl) ?_
          refine gv_is hx hb hK hP hD hS 5 (k := sb j) rfl (by first | exact hsa _ | exact hsb _ | omega) (by decide) dX6_findsAll_141 (fun H locs hP hD hS => ?_)
          have hP : va_P D vwCl [(h0, .inr (6, [.int th, .int (nI mo), .ref r2, .int st, .int pe, .ref r5, .ref r6, .ref r7, .int (nI nc), .int (nI bn), .ref r10, .ref r11, .ref r12, .ref r13, .int (nI ln), .ref r15, .ref r16, .ref r17, .ref r18, .int (nI ac)])), (r10, .inl (cI, 24, .inl (fun j => nI (sa j)))), (r11, .inl (cI, 24, .inl (fun j => nI (sb j)))), (r12, .inl (cI, 24, .inl sr)), (r13, .inl (cI, 24, .inl (fun j => nI (su j)))), (r15, .inl (cI, 10, .inl (upd d (sb j) r2_))), (r16, .inl (cI, 10, .inl (upd h (sb j) ((h (sa j)) + (sr j)))))] H := hP
          have hD : va_D A [(h0, .inr (6, [.int th, .int (nI mo), .ref r2, .int st, .int pe, .ref r5, .ref r6, .ref r7, .int (nI nc), .int (nI bn), .ref r10, .ref r11, .ref r12, .ref r13, .int (nI ln), .ref r15, .ref r16, .ref r17, .ref r18, .int (nI ac)])), (r10, .inl (cI, 24, .inl (fun j => nI (sa j)))), (r11, .inl (cI, 24, .inl (fun j => nI (sb j)))), (r12, .inl (cI, 24, .inl sr)), (r13, .inl (cI, 24, .inl (fun j => nI (su j)))), (r15, .inl (cI, 10, .inl (upd d (sb j) r2_))), (r16, .inl (cI, 10, .inl (upd h (sb j) ((h (sa j)) + (sr j)))))] := hD
          have hsp : gv_stp sa sb su sr (d, h) j = (upd d (sb j) r2_, upd h (sb j) ((h (sa j)) + (sr j))) := by first | exact gv_sp_a h3 c_64 h2 hdb | exact gv_sp_b h3 c_64 h2 hdb
          have hRW : upd d (sb j) r2_ = (gv_stp sa sb su sr (d, h) j).1 := by rw [hsp]
          rw [hRW] at hP hD
          have hP : va_P D vwCl [(h0, .inr (6, [.int th, .int (nI mo), .ref r2, .int st, .int pe, .ref r5, .ref r6, .ref r7, .int (nI nc), .int (nI bn), .ref r10, .ref r11, .ref r12, .ref r13, .int (nI ln), .ref r15, .ref r16, .ref r17, .ref r18, .int (nI ac)])), (r10, .inl (cI, 24, .inl (fun j => nI (sa j)))), (r11, .inl (cI, 24, .inl (fun j => nI (sb j)))), (r12, .inl (cI, 24, .inl sr)), (r13, .inl (cI, 24, .inl (fun j => nI (su j)))), (r15, .inl (cI, 10, .inl ((gv_stp sa sb su sr (d, h) j).1))), (r16, .inl (cI, 10, .inl (upd h (sb j) ((h (sa j)) + (sr j)))))] H := hP
          have hD : va_D A [(h0, .inr (6, [.int th, .int (nI mo), .ref r2, .int st, .int pe, .ref r5, .ref r6, .ref r7, .int (nI nc), .int (nI bn), .ref r10, .ref r11, .ref r12, .ref r13, .int (nI ln), .ref r15, .ref r16, .ref r17, .ref r18, .int (nI ac)])), (r10, .inl (cI, 24, .inl (fun j => nI (sa j)))), (r11, .inl (cI, 24, .inl (fun j => nI (sb j)))), (r12, .inl (cI, 24, .inl sr)), (r13, .inl (cI, 24, .inl (fun j => nI (su j)))), (r15, .inl (cI, 10, .inl ((gv_stp sa sb su sr (d, h) j).1))), (r16, .inl (cI, 10, .inl (upd h (sb j) ((h (sa j)) + (sr j)))))] := hD
          have hRW : upd h (sb j) ((h (sa j)) + (sr j)) = (gv_stp sa sb su sr (d, h) j).2 := by rw [hsp]
          rw [hRW] at hP hD
          have hP : va_P D vwCl [(h0, .inr (6, [.int th, .int (nI mo), .ref r2, .int st, .int pe, .ref r5, .ref r6, .ref r7, .int (nI nc), .int (nI bn), .ref r10, .ref r11, .ref r12, .ref r13, .int (nI ln), .ref r15, .ref r16, .ref r17, .ref r18, .int (nI ac)])), (r10, .inl (cI, 24, .inl (fun j => nI (sa j)))), (r11, .inl (cI, 24, .inl (fun j => nI (sb j)))), (r12, .inl (cI, 24, .inl sr)), (r13, .inl (cI, 24, .inl (fun j => nI (su j)))), (r15, .inl (cI, 10, .inl ((gv_stp sa sb su sr (d, h) j).1))), (r16, .inl (cI, 10, .inl ((gv_stp sa sb su sr (d, h) j).2)))] H := hP
          have hD : va_D A [(h0, .inr (6, [.int th, .int (nI mo), .ref r2, .int st, .int pe, .ref r5, .ref r6, .ref r7, .int (nI nc), .int (nI bn), .ref r10, .ref r11, .ref r12, .ref r13, .int (nI ln), .ref r15, .ref r16, .ref r17, .ref r18, .int (nI ac)])), (r10, .inl (cI, 24, .inl (fun j => nI (sa j)))), (r11, .inl (cI, 24, .inl (fun j => nI (sb j)))), (r12, .inl (cI, 24, .inl sr)), (r13, .inl (cI, 24, .inl (fun j => nI (su j)))), (r15, .inl (cI, 10, .inl ((gv_stp sa sb su sr (d, h) j).1))), (r16, .inl (cI, 10, .inl ((gv_stp sa sb su sr (d, h) j).2)))] := hD
          refine lv_aload_n hx hb dX6_findsAll_142 rfl (lv_at hl 3 rfl) ?_
          refine gv_pi (va_runV (As := []) (rest := []) ⟨hx, hb, hml, hown, hts⟩ (ct_X6_next l D cI cJ H.size h0 r2 r5 r6 r7 r10 r11 r12 r13 r15 r16 r17 r18 th st pe mo nc bn ln ac sa sb su (gv_stp sa sb su sr (d, h) j).1 hsa hsb hln) (cwV 0 hts gX6_findsAll_X6_next rfl rfl rfl (by decide +kernel) ⟨Nat.le_of_ble_eq_true rfl, Nat.le_of_ble_eq_true rfl⟩) (gv_pV (wc := [(h0, .inr (6, [.int th, .int (nI mo), .ref r2, .int st, .int pe, .ref r5, .ref r6, .ref r7, .int (nI nc), .int (nI bn), .ref r10, .ref r11, .ref r12, .ref r13, .int (nI ln), .ref r15, .ref r16, .ref r17, .ref r18, .int (nI ac)])), (r10, .inl (cI, 24, .inl (fun j => nI (sa j)))), (r11, .inl (cI, 24, .inl (fun j => nI (sb j)))), (r13, .inl (cI, 24, .inl (fun j => nI (su j)))), (r15, .inl (cI, 10, .inl ((gv_stp sa sb su sr (d, h) j).1)))]) hP hK hD hG [0, 1, 2, 4, 5] rfl (by decide) 0 rfl rfl rfl) rfl rfl hl.1 rfl (lv_room (Nat.le_of_ble_eq_true rfl)) dX6_findsAll_143 ⟨Nat.le_of_ble_eq_true rfl, Nat.le_of_ble_eq_true rfl⟩) (fun rn hrn => ?_)
          refine lv_istore_n (lv' := [(1, .int rn), (4, .int (nI (sb j))), (3, .int r3_), (2, .int r2_), (0, .ref h0)]) hx hb dX6_findsAll_146 rfl hl (by decide) rfl (fun ls hl => ?_)
          refine lv_goto (tgt := 41) hx hb dX6_findsAll_147 (by decide) ?_
          exact ih_41 (rn, (gv_stp sa sb su sr (d, h) j).1, (gv_stp sa sb su sr (d, h) j).2) _ _ _ ⟨hrn, hfi2, hP, hD, hS, lv_sub hl [4, 0] rfl⟩ (by exact hlt2)
  · skip
    have c_5 := (not_congr (nI_leI (a := 10) (b := i) (by omega) (by omega))).mp c_5
    refine lv_aload_n hx hb dX6_findsAll_8 rfl (lv_at hl 0 rfl) ?_
    refine va_get (D := D) (ci := 6) (v := .ref r15) (C := RX6) (T := TX6) (N := 20) hx hb hts gv_in_X6_findsAll_X6 hown hK hP 0 rfl rfl 15 (by decide) (hts (.fieldLink RX6 39 "GravimereModel" "doubts" "[I") (by decide +kernel)) (fun _ h9 => h9) rfl dX6_findsAll_9 ?_
    refine lv_iload_n hx hb dX6_findsAll_12 rfl (lv_at hl 1 rfl) ?_
    refine lv_iload_n hx hb dX6_findsAll_13 rfl (lv_at hl 1 rfl) ?_
    refine lv_if_ne (tgt := 21) hx hb dX6_findsAll_14 (by decide) (fun c_14 => ?_) (fun c_14 => ?_)
    · skip
      refine lv_iconst (v := -1) hx hb dX6_findsAll_21 (by decide) ?_
      refine gv_is hx hb hK hP hD hS 5 (k := i) rfl (by first | exact hsa _ | exact hsb _ | omega) (by decide) dX6_findsAll_22 (fun H locs hP hD hS => ?_)
      have hP : va_P D vwCl [(h0, .inr (6, [.int th, .int (nI mo), .ref r2, .int st, .int pe, .ref r5, .ref r6, .ref r7, .int (nI nc), .int (nI bn), .ref r10, .ref r11, .ref r12, .ref r13, .int (nI ln), .ref r15, .ref r16, .ref r17, .ref r18, .int (nI ac)])), (r10, .inl (cI, 24, .inl (fun j => nI (sa j)))), (r11, .inl (cI, 24, .inl (fun j => nI (sb j)))), (r12, .inl (cI, 24, .inl sr)), (r13, .inl (cI, 24, .inl (fun j => nI (su j)))), (r15, .inl (cI, 10, .inl (upd (gv_kj dd i) i (-1)))), (r16, .inl (cI, 10, .inl (gv_hj hh i)))] H := hP
      have hD : va_D A [(h0, .inr (6, [.int th, .int (nI mo), .ref r2, .int st, .int pe, .ref r5, .ref r6, .ref r7, .int (nI nc), .int (nI bn), .ref r10, .ref r11, .ref r12, .ref r13, .int (nI ln), .ref r15, .ref r16, .ref r17, .ref r18, .int (nI ac)])), (r10, .inl (cI, 24, .inl (fun j => nI (sa j)))), (r11, .inl (cI, 24, .inl (fun j => nI (sb j)))), (r12, .inl (cI, 24, .inl sr)), (r13, .inl (cI, 24, .inl (fun j => nI (su j)))), (r15, .inl (cI, 10, .inl (upd (gv_kj dd i) i (-1)))), (r16, .inl (cI, 10, .inl (gv_hj hh i)))] := hD
      have hRW : upd (gv_kj dd i) i (-1) = gv_kj dd (i + 1) := by first | exact gv_kj_s1 (by omega) c_14 | exact gv_kj_s2 c_14
      rw [hRW] at hP hD
      have hP : va_P D vwCl [(h0, .inr (6, [.int th, .int (nI mo), .ref r2, .int st, .int pe, .ref r5, .ref r6, .ref r7, .int (nI nc), .int (nI bn), .ref r10, .ref r11, .ref r12, .ref r13, .int (nI ln), .ref r15, .ref r16, .ref r17, .ref r18, .int (nI ac)])), (r10, .inl (cI, 24, .inl (fun j => nI (sa j)))), (r11, .inl (cI, 24, .inl (fun j => nI (sb j)))), (r12, .inl (cI, 24, .inl sr)), (r13, .inl (cI, 24, .inl (fun j => nI (su j)))), (r15, .inl (cI, 10, .inl (gv_kj dd (i + 1)))), (r16, .inl (cI, 10, .inl (gv_hj hh i)))] H := hP
      have hD : va_D A [(h0, .inr (6, [.int th, .int (nI mo), .ref r2, .int st, .int pe, .ref r5, .ref r6, .ref r7, .int (nI nc), .int (nI bn), .ref r10, .ref r11, .ref r12, .ref r13, .int (nI ln), .ref r15, .ref r16, .ref r17, .ref r18, .int (nI ac)])), (r10, .inl (cI, 24, .inl (fun j => nI (sa j)))), (r11, .inl (cI, 24, .inl (fun j => nI (sb j)))), (r12, .inl (cI, 24, .inl sr)), (r13, .inl (cI, 24, .inl (fun j => nI (su j)))), (r15, .inl (cI, 10, .inl (gv_kj dd (i + 1)))), (r16, .inl (cI, 10, .inl (gv_hj hh i)))] := hD
      refine lv_aload_n hx hb dX6_findsAll_23 rfl (lv_at hl 0 rfl) ?_
      refine va_get (D := D) (ci := 6) (v := .ref r16) (C := RX6) (T := TX6) (N := 20) hx hb hts gv_in_X6_findsAll_X6 hown hK hP 0 rfl rfl 16 (by decide) (hts (.fieldLink RX6 42 "GravimereModel" "heights" "[I") (by decide +kernel)) (fun _ h9 => h9) rfl dX6_findsAll_24 ?_
      refine lv_iload_n hx hb dX6_findsAll_27 rfl (lv_at hl 1 rfl) ?_
      refine lv_iconst (v := nI 0) hx hb dX6_findsAll_28 (by decide) ?_
      refine gv_is hx hb hK hP hD hS 6 (k := i) rfl (by first | exact hsa _ | exact hsb _ | omega) (by decide) dX6_findsAll_29 (fun H locs hP hD hS => ?_)
      have hP : va_P D vwCl [(h0, .inr (6, [.int th, .int (nI mo), .ref r2, .int st, .int pe, .ref r5, .ref r6, .ref r7, .int (nI nc), .int (nI bn), .ref r10, .ref r11, .ref r12, .ref r13, .int (nI ln), .ref r15, .ref r16, .ref r17, .ref r18, .int (nI ac)])), (r10, .inl (cI, 24, .inl (fun j => nI (sa j)))), (r11, .inl (cI, 24, .inl (fun j => nI (sb j)))), (r12, .inl (cI, 24, .inl sr)), (r13, .inl (cI, 24, .inl (fun j => nI (su j)))), (r15, .inl (cI, 10, .inl (gv_kj dd (i + 1)))), (r16, .inl (cI, 10, .inl (upd (gv_hj hh i) i (nI 0))))] H := hP
      have hD : va_D A [(h0, .inr (6, [.int th, .int (nI mo), .ref r2, .int st, .int pe, .ref r5, .ref r6, .ref r7, .int (nI nc), .int (nI bn), .ref r10, .ref r11, .ref r12, .ref r13, .int (nI ln), .ref r15, .ref r16, .ref r17, .ref r18, .int (nI ac)])), (r10, .inl (cI, 24, .inl (fun j => nI (sa j)))), (r11, .inl (cI, 24, .inl (fun j => nI (sb j)))), (r12, .inl (cI, 24, .inl sr)), (r13, .inl (cI, 24, .inl (fun j => nI (su j)))), (r15, .inl (cI, 10, .inl (gv_kj dd (i + 1)))), (r16, .inl (cI, 10, .inl (upd (gv_hj hh i) i (nI 0))))] := hD
      have hRW : upd (gv_hj hh i) i (nI 0) = gv_hj hh (i + 1) := gv_hj_s hh i
      rw [hRW] at hP hD
      have hP : va_P D vwCl [(h0, .inr (6, [.int th, .int (nI mo), .ref r2, .int st, .int pe, .ref r5, .ref r6, .ref r7, .int (nI nc), .int (nI bn), .ref r10, .ref r11, .ref r12, .ref r13, .int (nI ln), .ref r15, .ref r16, .ref r17, .ref r18, .int (nI ac)])), (r10, .inl (cI, 24, .inl (fun j => nI (sa j)))), (r11, .inl (cI, 24, .inl (fun j => nI (sb j)))), (r12, .inl (cI, 24, .inl sr)), (r13, .inl (cI, 24, .inl (fun j => nI (su j)))), (r15, .inl (cI, 10, .inl (gv_kj dd (i + 1)))), (r16, .inl (cI, 10, .inl (gv_hj hh (i + 1))))] H := hP
      have hD : va_D A [(h0, .inr (6, [.int th, .int (nI mo), .ref r2, .int st, .int pe, .ref r5, .ref r6, .ref r7, .int (nI nc), .int (nI bn), .ref r10, .ref r11, .ref r12, .ref r13, .int (nI ln), .ref r15, .ref r16, .ref r17, .ref r18, .int (nI ac)])), (r10, .inl (cI, 24, .inl (fun j => nI (sa j)))), (r11, .inl (cI, 24, .inl (fun j => nI (sb j)))), (r12, .inl (cI, 24, .inl sr)), (r13, .inl (cI, 24, .inl (fun j => nI (su j)))), (r15, .inl (cI, 10, .inl (gv_kj dd (i + 1)))), (r16, .inl (cI, 10, .inl (gv_hj hh (i + 1))))] := hD
      refine lv_iinc (v := nI (i + 1)) (lv' := [(1, .int (nI (i + 1))), (0, .ref h0)]) hx hb dX6_findsAll_30 hl (k := 1) rfl (nI_add i 1) (by decide) rfl (fun ls hl => ?_)
      refine lv_goto (tgt := 2) hx hb dX6_findsAll_33 (by decide) ?_
      exact ih_2 (i + 1) _ _ _ ⟨by omega, hP, hD, hS, lv_sub hl [1, 0] rfl⟩ (by simp only; omega)
    · skip
      refine lv_iconst (v := nI 0) hx hb dX6_findsAll_17 (by decide) ?_
      refine lv_goto (tgt := 22) hx hb dX6_findsAll_18 (by decide) ?_
      refine gv_is hx hb hK hP hD hS 5 (k := i) rfl (by first | exact hsa _ | exact hsb _ | omega) (by decide) dX6_findsAll_22 (fun H locs hP hD hS => ?_)
      have hP : va_P D vwCl [(h0, .inr (6, [.int th, .int (nI mo), .ref r2, .int st, .int pe, .ref r5, .ref r6, .ref r7, .int (nI nc), .int (nI bn), .ref r10, .ref r11, .ref r12, .ref r13, .int (nI ln), .ref r15, .ref r16, .ref r17, .ref r18, .int (nI ac)])), (r10, .inl (cI, 24, .inl (fun j => nI (sa j)))), (r11, .inl (cI, 24, .inl (fun j => nI (sb j)))), (r12, .inl (cI, 24, .inl sr)), (r13, .inl (cI, 24, .inl (fun j => nI (su j)))), (r15, .inl (cI, 10, .inl (upd (gv_kj dd i) i (nI 0)))), (r16, .inl (cI, 10, .inl (gv_hj hh i)))] H := hP
      have hD : va_D A [(h0, .inr (6, [.int th, .int (nI mo), .ref r2, .int st, .int pe, .ref r5, .ref r6, .ref r7, .int (nI nc), .int (nI bn), .ref r10, .ref r11, .ref r12, .ref r13, .int (nI ln), .ref r15, .ref r16, .ref r17, .ref r18, .int (nI ac)])), (r10, .inl (cI, 24, .inl (fun j => nI (sa j)))), (r11, .inl (cI, 24, .inl (fun j => nI (sb j)))), (r12, .inl (cI, 24, .inl sr)), (r13, .inl (cI, 24, .inl (fun j => nI (su j)))), (r15, .inl (cI, 10, .inl (upd (gv_kj dd i) i (nI 0)))), (r16, .inl (cI, 10, .inl (gv_hj hh i)))] := hD
      have hRW : upd (gv_kj dd i) i (nI 0) = gv_kj dd (i + 1) := by first | exact gv_kj_s1 (by omega) c_14 | exact gv_kj_s2 c_14
      rw [hRW] at hP hD
      have hP : va_P D vwCl [(h0, .inr (6, [.int th, .int (nI mo), .ref r2, .int st, .int pe, .ref r5, .ref r6, .ref r7, .int (nI nc), .int (nI bn), .ref r10, .ref r11, .ref r12, .ref r13, .int (nI ln), .ref r15, .ref r16, .ref r17, .ref r18, .int (nI ac)])), (r10, .inl (cI, 24, .inl (fun j => nI (sa j)))), (r11, .inl (cI, 24, .inl (fun j => nI (sb j)))), (r12, .inl (cI, 24, .inl sr)), (r13, .inl (cI, 24, .inl (fun j => nI (su j)))), (r15, .inl (cI, 10, .inl (gv_kj dd (i + 1)))), (r16, .inl (cI, 10, .inl (gv_hj hh i)))] H := hP
      have hD : va_D A [(h0, .inr (6, [.int th, .int (nI mo), .ref r2, .int st, .int pe, .ref r5, .ref r6, .ref r7, .int (nI nc), .int (nI bn), .ref r10, .ref r11, .ref r12, .ref r13, .int (nI ln), .ref r15, .ref r16, .ref r17, .ref r18, .int (nI ac)])), (r10, .inl (cI, 24, .inl (fun j => nI (sa j)))), (r11, .inl (cI, 24, .inl (fun j => nI (sb j)))), (r12, .inl (cI, 24, .inl sr)), (r13, .inl (cI, 24, .inl (fun j => nI (su j)))), (r15, .inl (cI, 10, .inl (gv_kj dd (i + 1)))), (r16, .inl (cI, 10, .inl (gv_hj hh i)))] := hD
      refine lv_aload_n hx hb dX6_findsAll_23 rfl (lv_at hl 0 rfl) ?_
      refine va_get (D := D) (ci := 6) (v := .ref r16) (C := RX6) (T := TX6) (N := 20) hx hb hts gv_in_X6_findsAll_X6 hown hK hP 0 rfl rfl 16 (by decide) (hts (.fieldLink RX6 42 "GravimereModel" "heights" "[I") (by decide +kernel)) (fun _ h9 => h9) rfl dX6_findsAll_24 ?_
      refine lv_iload_n hx hb dX6_findsAll_27 rfl (lv_at hl 1 rfl) ?_
      refine lv_iconst (v := nI 0) hx hb dX6_findsAll_28 (by decide) ?_
      refine gv_is hx hb hK hP hD hS 6 (k := i) rfl (by first | exact hsa _ | exact hsb _ | omega) (by decide) dX6_findsAll_29 (fun H locs hP hD hS => ?_)
      have hP : va_P D vwCl [(h0, .inr (6, [.int th, .int (nI mo), .ref r2, .int st, .int pe, .ref r5, .ref r6, .ref r7, .int (nI nc), .int (nI bn), .ref r10, .ref r11, .ref r12, .ref r13, .int (nI ln), .ref r15, .ref r16, .ref r17, .ref r18, .int (nI ac)])), (r10, .inl (cI, 24, .inl (fun j => nI (sa j)))), (r11, .inl (cI, 24, .inl (fun j => nI (sb j)))), (r12, .inl (cI, 24, .inl sr)), (r13, .inl (cI, 24, .inl (fun j => nI (su j)))), (r15, .inl (cI, 10, .inl (gv_kj dd (i + 1)))), (r16, .inl (cI, 10, .inl (upd (gv_hj hh i) i (nI 0))))] H := hP
      have hD : va_D A [(h0, .inr (6, [.int th, .int (nI mo), .ref r2, .int st, .int pe, .ref r5, .ref r6, .ref r7, .int (nI nc), .int (nI bn), .ref r10, .ref r11, .ref r12, .ref r13, .int (nI ln), .ref r15, .ref r16, .ref r17, .ref r18, .int (nI ac)])), (r10, .inl (cI, 24, .inl (fun j => nI (sa j)))), (r11, .inl (cI, 24, .inl (fun j => nI (sb j)))), (r12, .inl (cI, 24, .inl sr)), (r13, .inl (cI, 24, .inl (fun j => nI (su j)))), (r15, .inl (cI, 10, .inl (gv_kj dd (i + 1)))), (r16, .inl (cI, 10, .inl (upd (gv_hj hh i) i (nI 0))))] := hD
      have hRW : upd (gv_hj hh i) i (nI 0) = gv_hj hh (i + 1) := gv_hj_s hh i
      rw [hRW] at hP hD
      have hP : va_P D vwCl [(h0, .inr (6, [.int th, .int (nI mo), .ref r2, .int st, .int pe, .ref r5, .ref r6, .ref r7, .int (nI nc), .int (nI bn), .ref r10, .ref r11, .ref r12, .ref r13, .int (nI ln), .ref r15, .ref r16, .ref r17, .ref r18, .int (nI ac)])), (r10, .inl (cI, 24, .inl (fun j => nI (sa j)))), (r11, .inl (cI, 24, .inl (fun j => nI (sb j)))), (r12, .inl (cI, 24, .inl sr)), (r13, .inl (cI, 24, .inl (fun j => nI (su j)))), (r15, .inl (cI, 10, .inl (gv_kj dd (i + 1)))), (r16, .inl (cI, 10, .inl (gv_hj hh (i + 1))))] H := hP
      have hD : va_D A [(h0, .inr (6, [.int th, .int (nI mo), .ref r2, .int st, .int pe, .ref r5, .ref r6, .ref r7, .int (nI nc), .int (nI bn), .ref r10, .ref r11, .ref r12, .ref r13, .int (nI ln), .ref r15, .ref r16, .ref r17, .ref r18, .int (nI ac)])), (r10, .inl (cI, 24, .inl (fun j => nI (sa j)))), (r11, .inl (cI, 24, .inl (fun j => nI (sb j)))), (r12, .inl (cI, 24, .inl sr)), (r13, .inl (cI, 24, .inl (fun j => nI (su j)))), (r15, .inl (cI, 10, .inl (gv_kj dd (i + 1)))), (r16, .inl (cI, 10, .inl (gv_hj hh (i + 1))))] := hD
      refine lv_iinc (v := nI (i + 1)) (lv' := [(1, .int (nI (i + 1))), (0, .ref h0)]) hx hb dX6_findsAll_30 hl (k := 1) rfl (nI_add i 1) (by decide) rfl (fun ls hl => ?_)
      refine lv_goto (tgt := 2) hx hb dX6_findsAll_33 (by decide) ?_
      exact ih_2 (i + 1) _ _ _ ⟨by omega, hP, hD, hS, lv_sub hl [1, 0] rfl⟩ (by simp only; omega)
