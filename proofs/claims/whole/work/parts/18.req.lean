theorem gv_v1 {x : Int32} {n : Nat} (h : x < 0) : ¬ vp_in x n := fun z => z (Or.inl h)
theorem gv_v2 {x : Int32} {n : Nat} (hn : n < 2 ^ 31) (h : nI n ≤ x) : ¬ vp_in x n := by
  rw [vp_in_iff]
  rw [Int32.le_iff_toInt_le, nI_toInt hn] at h
  omega
theorem gv_v3 {x : Int32} {n : Nat} (hn : n < 2 ^ 31) (h : ¬ x < nI n) : ¬ vp_in x n := gv_v2 hn (gv_nlt32 h)
theorem gv_v4 {x : Int32} {n : Nat} (hn : n < 2 ^ 31) (h0 : ¬ x < 0) (h : x < nI n) : vp_in x n := by
  rw [vp_in_iff]
  rw [Int32.lt_iff_toInt_lt, nI_toInt hn] at h
  have h1 := gv_nlt32 h0
  rw [Int32.le_iff_toInt_le] at h1
  have h2 : (0 : Int32).toInt = 0 := rfl
  omega
theorem gv_v5 {x : Int32} {n : Nat} (hn : n < 2 ^ 31) (h0 : ¬ x < 0) (h : ¬ nI n ≤ x) : vp_in x n := gv_v4 hn h0 (gv_nle32 h)
theorem gv_vlt {a n : Nat} (ha : a < 2 ^ 31) (h : vp_in (nI a) n) : a < n := by
  rw [vp_in_iff, nI_toInt ha] at h
  omega
theorem gv_vmono {x : Int32} {n k : Nat} (h : vp_in x n) (hk : n ≤ k) : vp_in x k := by
  rw [vp_in_iff] at h ⊢
  omega
theorem gv_of64 {p : Int32} {lo hi : Nat} (hh : hi < 2 ^ 31) (hl : lo < 2 ^ 31) (h1 : lN lo ≤ p.toInt64) (h2 : p.toInt64 ≤ lN hi) : ∃ k, lo ≤ k ∧ k ≤ hi ∧ p = nI k := by
  rw [Int64.le_iff_toInt_le, lN_toInt hl, Int32.toInt_toInt64] at h1
  rw [Int64.le_iff_toInt_le, lN_toInt hh, Int32.toInt_toInt64] at h2
  refine ⟨p.toInt.toNat, by omega, by omega, ?_⟩
  apply Int32.toInt_inj.mp
  rw [nI_toInt (by omega)]
  omega
def gv_okt (p q : Int32) : Prop := (0 ≤ p.toInt64 ∧ p.toInt64 ≤ 1000000) ∧ (1 ≤ q.toInt64 ∧ q.toInt64 ≤ 60)
def gv_okp (p : Int32) : Prop := 1 ≤ p.toInt64 ∧ p.toInt64 ≤ 120
def gv_okn (p q : Int32) : Prop := (0 ≤ p.toInt64 ∧ p.toInt64 ≤ 1) ∧ (-1000 ≤ q.toInt64 ∧ q.toInt64 ≤ 1000)
def gv_okl (p0 p1 p2 p3 : Int32) : Prop := ¬ p0 = p1 ∧ (-1000000 ≤ p2.toInt64 ∧ p2.toInt64 ≤ 1000000) ∧ (0 ≤ p3.toInt64 ∧ p3.toInt64 ≤ 1000)
theorem gv_nzc {c : Prop} {v : Int32} (h : (c → v = nI 1) ∧ (¬ c → v = nI 0)) : narrow .boolean (.int v) = .int v := by
  by_cases hc : c
  · rw [h.1 hc]; rfl
  · rw [h.2 hc]; rfl
theorem gv_in_X5_pull_X5 : ∀ w ∈ wsX50, w ∈ wsX5_pull := by decide +kernel
theorem gv_in_X5_pullAnew_X5 : ∀ w ∈ wsX50, w ∈ wsX5_pullAnew := by decide +kernel
theorem gv_in_X5_gap_X5 : ∀ w ∈ wsX50, w ∈ wsX5_gap := by decide +kernel
set_option maxHeartbeats 4000000 in
set_option maxRecDepth 100000 in
theorem ct_X5_requireCell (l : Launch) (hlt : l.stackTraces = false) (D : va_G) (cI cJ : ClassId) (sz : Nat) (x y : Int32)  : vx_Met l yX5_requireCell wsX5_requireCell ({ frames := 6, cells := 1, slots := 6, locals := 90 }) (va_Pc [.int x, .int y] (gv_Z D cI cJ [] sz)) (gv_Sv (vp_in x 8 ∧ vp_in y 8)) (gv_X (fun E => E = gv_eI ∧ ¬ (vp_in x 8 ∧ vp_in y 8))) 1 6 (fun _ => False) := by
  refine vx_ofW (cc := cX5_requireCell) (maxL := 2) (ret := none) (by decide) rfl ?_
  intro p e s m args below meth c s₁ B hml htb hv
  obtain ⟨rfl, ⟨hsz, hP, hK, hD0, hG⟩, hZ0⟩ := hv
  have hx := B.exec
  have hb := B.bytes
  have hr := B.returns
  have hts := atoms_spec (ws := wsX5_requireCell) B.pre
  have hown : s.vm.findClass RX5 = some m.cls := findClass_of_methodNamed B.named
  have hlocks := B.notSynchronized
  subst hsz
  have hD := hD0
  have hA : ∀ q : Nat, s.heap.size ≤ q → va_A [] s.heap.size q := fun q h => Or.inr h
  have hP : va_P D vwCl [] s.heap := hP
  have hl := lv_entry ([.int x, .int y]) (n := 2) (Nat.le_of_ble_eq_true rfl)
  rw [lg_entry_eq]
  generalize (lg_sl ([.int x, .int y]) ++ List.replicate (2 - (lg_sl ([.int x, .int y])).length) Slot.unset).toArray = ls at hl ⊢
  have hl : lv_has ls 2 [(0, .int x), (1, .int y)] := hl
  refine lv_iload_n hx hb dX5_requireCell_0 rfl (lv_at hl 0 rfl) ?_
  refine lv_if_lt (tgt := 20) hx hb dX5_requireCell_1 (by decide) (fun c_1 => ?_) (fun c_1 => ?_)
  · skip
    obtain ⟨sta9, hsta9⟩ := gv_st_187 hG
    have hBX : gv_eI = gv_eI ∧ ¬ (vp_in x 8 ∧ vp_in y 8) := by
      exact ⟨rfl, fun z => by first | exact gv_v1 c_1 z.1 | exact gv_v2 (by decide) c_7 z.1 | exact gv_v1 c_11 z.2 | exact gv_v3 (by decide) c_17 z.2⟩
    exact vx_throwS (own := RX5) (cls := gv_eI) (text := "there is no such cell") (names := gv_nm) (ik := 185) (is := 187) (ic := 189) (sa := sta9) (A := va_A [] s.heap.size) hx hb hlt hown (by decide +kernel) (by decide +kernel) (hts (.classLink RX5 185 gv_eI) (by decide +kernel)) (hts (.initialized gv_eI) (by decide +kernel)) hsta9 (vx_hat (fun w h => hts w (List.mem_cons_of_mem _ (List.mem_append_right _ h))) gv_bI (gv_bwI hG)) gv_otI hZ0.1 hZ0.2 va_S.rf (hl.1.trans hml.symm) dX5_requireCell_20 dX5_requireCell_23 dX5_requireCell_24 dX5_requireCell_26 dX5_requireCell_29 (fun x h => (htb x h).elim) (Nat.le_of_ble_eq_true rfl) (Nat.le_of_ble_eq_true rfl) (Nat.le_of_ble_eq_true rfl) (Nat.le_of_ble_eq_true rfl) hlocks (fun _ _ h1 h2 => ⟨hBX, h1, h2⟩) (fun _ h => absurd h List.not_mem_nil) (Nat.le_of_ble_eq_true rfl) (Nat.le_of_ble_eq_true rfl)
  · skip
    refine lv_iload_n hx hb dX5_requireCell_4 rfl (lv_at hl 0 rfl) ?_
    refine lv_bipush (v := nI 8) hx hb dX5_requireCell_5 (by decide) ?_
    refine lv_icmp_ge (tgt := 20) hx hb dX5_requireCell_7 (by decide) (fun c_7 => ?_) (fun c_7 => ?_)
    · skip
      obtain ⟨sta9, hsta9⟩ := gv_st_187 hG
      have hBX : gv_eI = gv_eI ∧ ¬ (vp_in x 8 ∧ vp_in y 8) := by
        exact ⟨rfl, fun z => by first | exact gv_v1 c_1 z.1 | exact gv_v2 (by decide) c_7 z.1 | exact gv_v1 c_11 z.2 | exact gv_v3 (by decide) c_17 z.2⟩
      exact vx_throwS (own := RX5) (cls := gv_eI) (text := "there is no such cell") (names := gv_nm) (ik := 185) (is := 187) (ic := 189) (sa := sta9) (A := va_A [] s.heap.size) hx hb hlt hown (by decide +kernel) (by decide +kernel) (hts (.classLink RX5 185 gv_eI) (by decide +kernel)) (hts (.initialized gv_eI) (by decide +kernel)) hsta9 (vx_hat (fun w h => hts w (List.mem_cons_of_mem _ (List.mem_append_right _ h))) gv_bI (gv_bwI hG)) gv_otI hZ0.1 hZ0.2 va_S.rf (hl.1.trans hml.symm) dX5_requireCell_20 dX5_requireCell_23 dX5_requireCell_24 dX5_requireCell_26 dX5_requireCell_29 (fun x h => (htb x h).elim) (Nat.le_of_ble_eq_true rfl) (Nat.le_of_ble_eq_true rfl) (Nat.le_of_ble_eq_true rfl) (Nat.le_of_ble_eq_true rfl) hlocks (fun _ _ h1 h2 => ⟨hBX, h1, h2⟩) (fun _ h => absurd h List.not_mem_nil) (Nat.le_of_ble_eq_true rfl) (Nat.le_of_ble_eq_true rfl)
    · skip
      refine lv_iload_n hx hb dX5_requireCell_10 rfl (lv_at hl 1 rfl) ?_
      refine lv_if_lt (tgt := 20) hx hb dX5_requireCell_11 (by decide) (fun c_11 => ?_) (fun c_11 => ?_)
      · skip
        obtain ⟨sta9, hsta9⟩ := gv_st_187 hG
        have hBX : gv_eI = gv_eI ∧ ¬ (vp_in x 8 ∧ vp_in y 8) := by
          exact ⟨rfl, fun z => by first | exact gv_v1 c_1 z.1 | exact gv_v2 (by decide) c_7 z.1 | exact gv_v1 c_11 z.2 | exact gv_v3 (by decide) c_17 z.2⟩
        exact vx_throwS (own := RX5) (cls := gv_eI) (text := "there is no such cell") (names := gv_nm) (ik := 185) (is := 187) (ic := 189) (sa := sta9) (A := va_A [] s.heap.size) hx hb hlt hown (by decide +kernel) (by decide +kernel) (hts (.classLink RX5 185 gv_eI) (by decide +kernel)) (hts (.initialized gv_eI) (by decide +kernel)) hsta9 (vx_hat (fun w h => hts w (List.mem_cons_of_mem _ (List.mem_append_right _ h))) gv_bI (gv_bwI hG)) gv_otI hZ0.1 hZ0.2 va_S.rf (hl.1.trans hml.symm) dX5_requireCell_20 dX5_requireCell_23 dX5_requireCell_24 dX5_requireCell_26 dX5_requireCell_29 (fun x h => (htb x h).elim) (Nat.le_of_ble_eq_true rfl) (Nat.le_of_ble_eq_true rfl) (Nat.le_of_ble_eq_true rfl) (Nat.le_of_ble_eq_true rfl) hlocks (fun _ _ h1 h2 => ⟨hBX, h1, h2⟩) (fun _ h => absurd h List.not_mem_nil) (Nat.le_of_ble_eq_true rfl) (Nat.le_of_ble_eq_true rfl)
      · skip
        refine lv_iload_n hx hb dX5_requireCell_14 rfl (lv_at hl 1 rfl) ?_
        refine lv_bipush (v := nI 8) hx hb dX5_requireCell_15 (by decide) ?_
        refine lv_icmp_lt (tgt := 30) hx hb dX5_requireCell_17 (by decide) (fun c_17 => ?_) (fun c_17 => ?_)
        · skip
          have hpo : vp_in x 8 ∧ vp_in y 8 := by
            exact ⟨gv_v5 (by decide) c_1 c_7, gv_v4 (by decide) c_11 c_17⟩
          refine vx_ret (W.widen (k := 1) (n := 6) (Nat.le_of_ble_eq_true rfl) (Nat.le_of_ble_eq_true rfl) ?_)
          exact W.vret hx hb hr (fun t9 ht9 hW9 => ⟨rfl, hpo, ht9⟩) t_nil dX5_requireCell_30
        · skip
          obtain ⟨sta9, hsta9⟩ := gv_st_187 hG
          have hBX : gv_eI = gv_eI ∧ ¬ (vp_in x 8 ∧ vp_in y 8) := by
            exact ⟨rfl, fun z => by first | exact gv_v1 c_1 z.1 | exact gv_v2 (by decide) c_7 z.1 | exact gv_v1 c_11 z.2 | exact gv_v3 (by decide) c_17 z.2⟩
          exact vx_throwS (own := RX5) (cls := gv_eI) (text := "there is no such cell") (names := gv_nm) (ik := 185) (is := 187) (ic := 189) (sa := sta9) (A := va_A [] s.heap.size) hx hb hlt hown (by decide +kernel) (by decide +kernel) (hts (.classLink RX5 185 gv_eI) (by decide +kernel)) (hts (.initialized gv_eI) (by decide +kernel)) hsta9 (vx_hat (fun w h => hts w (List.mem_cons_of_mem _ (List.mem_append_right _ h))) gv_bI (gv_bwI hG)) gv_otI hZ0.1 hZ0.2 va_S.rf (hl.1.trans hml.symm) dX5_requireCell_20 dX5_requireCell_23 dX5_requireCell_24 dX5_requireCell_26 dX5_requireCell_29 (fun x h => (htb x h).elim) (Nat.le_of_ble_eq_true rfl) (Nat.le_of_ble_eq_true rfl) (Nat.le_of_ble_eq_true rfl) (Nat.le_of_ble_eq_true rfl) hlocks (fun _ _ h1 h2 => ⟨hBX, h1, h2⟩) (fun _ h => absurd h List.not_mem_nil) (Nat.le_of_ble_eq_true rfl) (Nat.le_of_ble_eq_true rfl)
set_option maxHeartbeats 4000000 in
set_option maxRecDepth 100000 in
theorem ct_X5_requireNumber (l : Launch) (hlt : l.stackTraces = false) (D : va_G) (cI cJ : ClassId) (sz : Nat) (x : Int32) (n : Nat) (hn : n < 2 ^ 31) : vx_Met l yX5_requireNumber wsX5_requireNumber ({ frames := 6, cells := 1, slots := 6, locals := 90 }) (va_Pc [.int x, .int (nI n)] (gv_Z D cI cJ [] sz)) (gv_Sv (vp_in x n)) (gv_X (fun E => E = gv_eI ∧ ¬ vp_in x n)) 1 6 (fun _ => False) := by
  refine vx_ofW (cc := cX5_requireNumber) (maxL := 2) (ret := none) (by decide) rfl ?_
  intro p e s m args below meth c s₁ B hml htb hv
  obtain ⟨rfl, ⟨hsz, hP, hK, hD0, hG⟩, hZ0⟩ := hv
  have hx := B.exec
  have hb := B.bytes
  have hr := B.returns
  have hts := atoms_spec (ws := wsX5_requireNumber) B.pre
  have hown : s.vm.findClass RX5 = some m.cls := findClass_of_methodNamed B.named
  have hlocks := B.notSynchronized
  subst hsz
  have hD := hD0
  have hA : ∀ q : Nat, s.heap.size ≤ q → va_A [] s.heap.size q := fun q h => Or.inr h
  have hP : va_P D vwCl [] s.heap := hP
  have hl := lv_entry ([.int x, .int (nI n)]) (n := 2) (Nat.le_of_ble_eq_true rfl)
  rw [lg_entry_eq]
  generalize (lg_sl ([.int x, .int (nI n)]) ++ List.replicate (2 - (lg_sl ([.int x, .int (nI n)])).length) Slot.unset).toArray = ls at hl ⊢
  have hl : lv_has ls 2 [(0, .int x), (1, .int (nI n))] := hl
  refine lv_iload_n hx hb dX5_requireNumber_0 rfl (lv_at hl 0 rfl) ?_
  refine lv_if_lt (tgt := 9) hx hb dX5_requireNumber_1 (by decide) (fun c_1 => ?_) (fun c_1 => ?_)
  · skip
    obtain ⟨sta9, hsta9⟩ := gv_st_190 hG
    have hBX : gv_eI = gv_eI ∧ ¬ vp_in x n := by
      exact ⟨rfl, fun z => by first | exact gv_v1 c_1 z | exact gv_v3 hn c_6 z⟩
    exact vx_throwS (own := RX5) (cls := gv_eI) (text := "there is none of that number") (names := gv_nm) (ik := 185) (is := 190) (ic := 189) (sa := sta9) (A := va_A [] s.heap.size) hx hb hlt hown (by decide +kernel) (by decide +kernel) (hts (.classLink RX5 185 gv_eI) (by decide +kernel)) (hts (.initialized gv_eI) (by decide +kernel)) hsta9 (vx_hat (fun w h => hts w (List.mem_cons_of_mem _ (List.mem_append_right _ h))) gv_bI (gv_bwI hG)) gv_otI hZ0.1 hZ0.2 va_S.rf (hl.1.trans hml.symm) dX5_requireNumber_9 dX5_requireNumber_12 dX5_requireNumber_13 dX5_requireNumber_15 dX5_requireNumber_18 (fun x h => (htb x h).elim) (Nat.le_of_ble_eq_true rfl) (Nat.le_of_ble_eq_true rfl) (Nat.le_of_ble_eq_true rfl) (Nat.le_of_ble_eq_true rfl) hlocks (fun _ _ h1 h2 => ⟨hBX, h1, h2⟩) (fun _ h => absurd h List.not_mem_nil) (Nat.le_of_ble_eq_true rfl) (Nat.le_of_ble_eq_true rfl)
  · skip
    refine lv_iload_n hx hb dX5_requireNumber_4 rfl (lv_at hl 0 rfl) ?_
    refine lv_iload_n hx hb dX5_requireNumber_5 rfl (lv_at hl 1 rfl) ?_
    refine lv_icmp_lt (tgt := 19) hx hb dX5_requireNumber_6 (by decide) (fun c_6 => ?_) (fun c_6 => ?_)
    · skip
      have hpo : vp_in x n := by
        exact gv_v4 hn c_1 c_6
      refine vx_ret (W.widen (k := 1) (n := 6) (Nat.le_of_ble_eq_true rfl) (Nat.le_of_ble_eq_true rfl) ?_)
      exact W.vret hx hb hr (fun t9 ht9 hW9 => ⟨rfl, hpo, ht9⟩) t_nil dX5_requireNumber_19
    · skip
      obtain ⟨sta9, hsta9⟩ := gv_st_190 hG
      have hBX : gv_eI = gv_eI ∧ ¬ vp_in x n := by
        exact ⟨rfl, fun z => by first | exact gv_v1 c_1 z | exact gv_v3 hn c_6 z⟩
      exact vx_throwS (own := RX5) (cls := gv_eI) (text := "there is none of that number") (names := gv_nm) (ik := 185) (is := 190) (ic := 189) (sa := sta9) (A := va_A [] s.heap.size) hx hb hlt hown (by decide +kernel) (by decide +kernel) (hts (.classLink RX5 185 gv_eI) (by decide +kernel)) (hts (.initialized gv_eI) (by decide +kernel)) hsta9 (vx_hat (fun w h => hts w (List.mem_cons_of_mem _ (List.mem_append_right _ h))) gv_bI (gv_bwI hG)) gv_otI hZ0.1 hZ0.2 va_S.rf (hl.1.trans hml.symm) dX5_requireNumber_9 dX5_requireNumber_12 dX5_requireNumber_13 dX5_requireNumber_15 dX5_requireNumber_18 (fun x h => (htb x h).elim) (Nat.le_of_ble_eq_true rfl) (Nat.le_of_ble_eq_true rfl) (Nat.le_of_ble_eq_true rfl) (Nat.le_of_ble_eq_true rfl) hlocks (fun _ _ h1 h2 => ⟨hBX, h1, h2⟩) (fun _ h => absurd h List.not_mem_nil) (Nat.le_of_ble_eq_true rfl) (Nat.le_of_ble_eq_true rfl)
set_option maxHeartbeats 4000000 in
set_option maxRecDepth 100000 in
theorem ct_X5_requireRange (l : Launch) (hlt : l.stackTraces = false) (D : va_G) (cI cJ : ClassId) (sz : Nat) (v lo hi : Int64)  : vx_Met l yX5_requireRange wsX5_requireRange ({ frames := 6, cells := 1, slots := 6, locals := 90 }) (va_Pc [.long v, .long lo, .long hi] (gv_Z D cI cJ [] sz)) (gv_Sv (lo ≤ v ∧ v ≤ hi)) (gv_X (fun E => E = gv_eA ∧ ¬ (lo ≤ v ∧ v ≤ hi))) 1 6 (fun _ => False) := by
  refine vx_ofW (cc := cX5_requireRange) (maxL := 6) (ret := none) (by decide) rfl ?_
  intro p e s m args below meth c s₁ B hml htb hv
  obtain ⟨rfl, ⟨hsz, hP, hK, hD0, hG⟩, hZ0⟩ := hv
  have hx := B.exec
  have hb := B.bytes
  have hr := B.returns
  have hts := atoms_spec (ws := wsX5_requireRange) B.pre
  have hown : s.vm.findClass RX5 = some m.cls := findClass_of_methodNamed B.named
  have hlocks := B.notSynchronized
  subst hsz
  have hD := hD0
  have hA : ∀ q : Nat, s.heap.size ≤ q → va_A [] s.heap.size q := fun q h => Or.inr h
  have hP : va_P D vwCl [] s.heap := hP
  have hl := lv_entry ([.long v, .long lo, .long hi]) (n := 6) (Nat.le_of_ble_eq_true rfl)
  rw [lg_entry_eq]
  generalize (lg_sl ([.long v, .long lo, .long hi]) ++ List.replicate (6 - (lg_sl ([.long v, .long lo, .long hi])).length) Slot.unset).toArray = ls at hl ⊢
  have hl : lv_has ls 6 [(0, .long v), (2, .long lo), (4, .long hi)] := hl
  refine lv_lload_n hx hb dX5_requireRange_0 rfl (lv_at hl 0 rfl) ?_
  refine lv_lload_n hx hb dX5_requireRange_1 rfl (lv_at hl 1 rfl) ?_
  refine W.lcmp hx hb dX5_requireRange_2 ?_
  refine lv_if_lt (tgt := 13) hx hb dX5_requireRange_3 (by decide) (fun c_3 => ?_) (fun c_3 => ?_)
  · skip
    have c_3 := (lg_cmp_lt _ _).mp c_3
    obtain ⟨sta9, hsta9⟩ := gv_st_192 hG
    have hBX : gv_eA = gv_eA ∧ ¬ (lo ≤ v ∧ v ≤ hi) := by
      exact ⟨rfl, fun z => by first | exact gv_ltn c_3 z.1 | exact c_10 z.2⟩
    exact vx_throwS (own := RX5) (cls := gv_eA) (text := "an argument is out of its range") (names := gv_nm) (ik := 132) (is := 192) (ic := 136) (sa := sta9) (A := va_A [] s.heap.size) hx hb hlt hown (by decide +kernel) (by decide +kernel) (hts (.classLink RX5 132 gv_eA) (by decide +kernel)) (hts (.initialized gv_eA) (by decide +kernel)) hsta9 (vx_hat (fun w h => hts w (List.mem_cons_of_mem _ (List.mem_append_right _ h))) gv_bA (gv_bwA hG)) gv_otA hZ0.1 hZ0.2 va_S.rf (hl.1.trans hml.symm) dX5_requireRange_13 dX5_requireRange_16 dX5_requireRange_17 dX5_requireRange_19 dX5_requireRange_22 (fun x h => (htb x h).elim) (Nat.le_of_ble_eq_true rfl) (Nat.le_of_ble_eq_true rfl) (Nat.le_of_ble_eq_true rfl) (Nat.le_of_ble_eq_true rfl) hlocks (fun _ _ h1 h2 => ⟨hBX, h1, h2⟩) (fun _ h => absurd h List.not_mem_nil) (Nat.le_of_ble_eq_true rfl) (Nat.le_of_ble_eq_true rfl)
  · skip
    have c_3 := (not_congr (lg_cmp_lt _ _)).mp c_3
    refine lv_lload_n hx hb dX5_requireRange_6 rfl (lv_at hl 0 rfl) ?_
    refine lv_lload hx hb dX5_requireRange_7 (lv_at hl 2 rfl) ?_
    refine W.lcmp hx hb dX5_requireRange_9 ?_
    refine lv_if_le (tgt := 23) hx hb dX5_requireRange_10 (by decide) (fun c_10 => ?_) (fun c_10 => ?_)
    · skip
      have c_10 := (lg_cmp_le _ _).mp c_10
      have hpo : lo ≤ v ∧ v ≤ hi := by
        exact ⟨gv_nlt c_3, c_10⟩
      refine vx_ret (W.widen (k := 1) (n := 6) (Nat.le_of_ble_eq_true rfl) (Nat.le_of_ble_eq_true rfl) ?_)
      exact W.vret hx hb hr (fun t9 ht9 hW9 => ⟨rfl, hpo, ht9⟩) t_nil dX5_requireRange_23
    · skip
      have c_10 := (not_congr (lg_cmp_le _ _)).mp c_10
      obtain ⟨sta9, hsta9⟩ := gv_st_192 hG
      have hBX : gv_eA = gv_eA ∧ ¬ (lo ≤ v ∧ v ≤ hi) := by
        exact ⟨rfl, fun z => by first | exact gv_ltn c_3 z.1 | exact c_10 z.2⟩
      exact vx_throwS (own := RX5) (cls := gv_eA) (text := "an argument is out of its range") (names := gv_nm) (ik := 132) (is := 192) (ic := 136) (sa := sta9) (A := va_A [] s.heap.size) hx hb hlt hown (by decide +kernel) (by decide +kernel) (hts (.classLink RX5 132 gv_eA) (by decide +kernel)) (hts (.initialized gv_eA) (by decide +kernel)) hsta9 (vx_hat (fun w h => hts w (List.mem_cons_of_mem _ (List.mem_append_right _ h))) gv_bA (gv_bwA hG)) gv_otA hZ0.1 hZ0.2 va_S.rf (hl.1.trans hml.symm) dX5_requireRange_13 dX5_requireRange_16 dX5_requireRange_17 dX5_requireRange_19 dX5_requireRange_22 (fun x h => (htb x h).elim) (Nat.le_of_ble_eq_true rfl) (Nat.le_of_ble_eq_true rfl) (Nat.le_of_ble_eq_true rfl) (Nat.le_of_ble_eq_true rfl) hlocks (fun _ _ h1 h2 => ⟨hBX, h1, h2⟩) (fun _ h => absurd h List.not_mem_nil) (Nat.le_of_ble_eq_true rfl) (Nat.le_of_ble_eq_true rfl)
set_option maxHeartbeats 4000000 in
set_option maxRecDepth 100000 in
theorem ct_X5_requireRoom (l : Launch) (hlt : l.stackTraces = false) (D : va_G) (cI cJ : ClassId) (sz : Nat) (a b : Nat) (ha : a < 2 ^ 31) (hb9 : b < 2 ^ 31) : vx_Met l yX5_requireRoom wsX5_requireRoom ({ frames := 6, cells := 1, slots := 6, locals := 90 }) (va_Pc [.int (nI a), .int (nI b)] (gv_Z D cI cJ [] sz)) (gv_Sv (a < b)) (gv_X (fun E => E = gv_eS ∧ ¬ a < b)) 1 6 (fun _ => False) := by
  refine vx_ofW (cc := cX5_requireRoom) (maxL := 2) (ret := none) (by decide) rfl ?_
  intro p e s m args below meth c s₁ B hml htb hv
  obtain ⟨rfl, ⟨hsz, hP, hK, hD0, hG⟩, hZ0⟩ := hv
  have hx := B.exec
  have hb := B.bytes
  have hr := B.returns
  have hts := atoms_spec (ws := wsX5_requireRoom) B.pre
  have hown : s.vm.findClass RX5 = some m.cls := findClass_of_methodNamed B.named
  have hlocks := B.notSynchronized
  subst hsz
  have hD := hD0
  have hA : ∀ q : Nat, s.heap.size ≤ q → va_A [] s.heap.size q := fun q h => Or.inr h
  have hP : va_P D vwCl [] s.heap := hP
  have hl := lv_entry ([.int (nI a), .int (nI b)]) (n := 2) (Nat.le_of_ble_eq_true rfl)
  rw [lg_entry_eq]
  generalize (lg_sl ([.int (nI a), .int (nI b)]) ++ List.replicate (2 - (lg_sl ([.int (nI a), .int (nI b)])).length) Slot.unset).toArray = ls at hl ⊢
  have hl : lv_has ls 2 [(0, .int (nI a)), (1, .int (nI b))] := hl
  refine lv_iload_n hx hb dX5_requireRoom_0 rfl (lv_at hl 0 rfl) ?_
  refine lv_iload_n hx hb dX5_requireRoom_1 rfl (lv_at hl 1 rfl) ?_
  refine lv_icmp_lt (tgt := 15) hx hb dX5_requireRoom_2 (by decide) (fun c_2 => ?_) (fun c_2 => ?_)
  · skip
    have c_2 := (nI_ltI (a := a) (b := b) (by omega) (by omega)).mp c_2
    have hpo : a < b := by
      exact c_2
    refine vx_ret (W.widen (k := 1) (n := 6) (Nat.le_of_ble_eq_true rfl) (Nat.le_of_ble_eq_true rfl) ?_)
    exact W.vret hx hb hr (fun t9 ht9 hW9 => ⟨rfl, hpo, ht9⟩) t_nil dX5_requireRoom_15
  · skip
    have c_2 := (not_congr (nI_ltI (a := a) (b := b) (by omega) (by omega))).mp c_2
    obtain ⟨sta9, hsta9⟩ := gv_st_194 hG
    have hBX : gv_eS = gv_eS ∧ ¬ a < b := by
      exact ⟨rfl, c_2⟩
    exact vx_throwS (own := RX5) (cls := gv_eS) (text := "there are as many as there may be") (names := gv_nm) (ik := 88) (is := 194) (ic := 92) (sa := sta9) (A := va_A [] s.heap.size) hx hb hlt hown (by decide +kernel) (by decide +kernel) (hts (.classLink RX5 88 gv_eS) (by decide +kernel)) (hts (.initialized gv_eS) (by decide +kernel)) hsta9 (vx_hat (fun w h => hts w (List.mem_cons_of_mem _ (List.mem_append_right _ h))) gv_bS (gv_bwS hG)) gv_otS hZ0.1 hZ0.2 va_S.rf (hl.1.trans hml.symm) dX5_requireRoom_5 dX5_requireRoom_8 dX5_requireRoom_9 dX5_requireRoom_11 dX5_requireRoom_14 (fun x h => (htb x h).elim) (Nat.le_of_ble_eq_true rfl) (Nat.le_of_ble_eq_true rfl) (Nat.le_of_ble_eq_true rfl) (Nat.le_of_ble_eq_true rfl) hlocks (fun _ _ h1 h2 => ⟨hBX, h1, h2⟩) (fun _ h => absurd h List.not_mem_nil) (Nat.le_of_ble_eq_true rfl) (Nat.le_of_ble_eq_true rfl)
set_option maxHeartbeats 4000000 in
set_option maxRecDepth 100000 in
theorem ct_X5_pull (l : Launch) (hlt : l.stackTraces = false) (D : va_G) (cI cJ : ClassId) (sz : Nat) (g0 g1 g2 g3 g4 g5 mo : Nat)(b1 b2 b3 : Nat) (fP : Nat → Int64) (x y : Int32)  : vx_Met l yX5_pull wsX5_pull ({ frames := 7, cells := 1, slots := 6, locals := 111 }) (va_Pc [.ref g0, .int x, .int y] (gv_Z D cI cJ [(g0, .inr (5, [.ref g1, .ref g2, .ref g3, .ref g4, .ref g5, .int (nI mo)])), (g1, .inr (1, [.ref b1, .ref b2, .ref b3])), (b3, .inl (cJ, 64, .inr (.inl fP)))] sz)) (vp_Sl (fun r9 : Int64 => ∃ a b, a < 8 ∧ b < 8 ∧ x = nI a ∧ y = nI b ∧ r9 = fP (b * 8 + a))) (gv_X (fun E => E = gv_eI ∧ ¬ (vp_in x 8 ∧ vp_in y 8))) 1 6 (fun _ => False) := by
  refine vx_ofW (cc := cX5_pull) (maxL := 3) (ret := (some .long)) (by decide) rfl ?_
  intro p e s m args below meth c s₁ B hml htb hv
  obtain ⟨rfl, ⟨hsz, hP, hK, hD0, hG⟩, hZ0⟩ := hv
  have hx := B.exec
  have hb := B.bytes
  have hr := B.returns
  have hts := atoms_spec (ws := wsX5_pull) B.pre
  have hown : s.vm.findClass RX5 = some m.cls := findClass_of_methodNamed B.named
  have hlocks := B.notSynchronized
  subst hsz
  have hD := hD0
  have hA : ∀ q : Nat, s.heap.size ≤ q → va_A [(g0, .inr (5, [.ref g1, .ref g2, .ref g3, .ref g4, .ref g5, .int (nI mo)])), (g1, .inr (1, [.ref b1, .ref b2, .ref b3])), (b3, .inl (cJ, 64, .inr (.inl fP)))] s.heap.size q := fun q h => Or.inr h
  have hP : va_P D vwCl [(g0, .inr (5, [.ref g1, .ref g2, .ref g3, .ref g4, .ref g5, .int (nI mo)])), (g1, .inr (1, [.ref b1, .ref b2, .ref b3])), (b3, .inl (cJ, 64, .inr (.inl fP)))] s.heap := hP
  have hl := lv_entry ([.ref g0, .int x, .int y]) (n := 3) (Nat.le_of_ble_eq_true rfl)
  rw [lg_entry_eq]
  generalize (lg_sl ([.ref g0, .int x, .int y]) ++ List.replicate (3 - (lg_sl ([.ref g0, .int x, .int y])).length) Slot.unset).toArray = ls at hl ⊢
  have hl : lv_has ls 3 [(0, .ref g0), (1, .int x), (2, .int y)] := hl
  refine lv_iload_n hx hb dX5_pull_0 rfl (lv_at hl 1 rfl) ?_
  refine lv_iload_n hx hb dX5_pull_1 rfl (lv_at hl 2 rfl) ?_
  refine gv_xv (vx_runS (As := [.int x, .int y]) (rest := []) ⟨hx, hb, hml, hown, hts⟩ (ct_X5_requireCell l hlt D cI cJ s.heap.size x y) (va_cwS 2 hts gX5_pull_X5_requireCell rfl rfl rfl (by decide +kernel) ⟨Nat.le_of_ble_eq_true rfl, Nat.le_of_ble_eq_true rfl⟩) (gv_pSZ (wc := []) hP hK hD hG hZ0 (gv_A0 (fun q h => hA q (h))) [] rfl (by decide)) rfl rfl hl.1 rfl (lv_room (Nat.le_of_ble_eq_true rfl)) dX5_pull_2 ⟨Nat.le_of_ble_eq_true rfl, Nat.le_of_ble_eq_true rfl⟩) (fun E ce q9 H1 hBX hz1 hk1 hce hcv hcl => ?_) (fun hc => ?_)
  · skip
    refine gv_out htb hlocks hz1 hk1 hce hcv hcl (?_) (Nat.le_of_ble_eq_true rfl) (Nat.le_of_ble_eq_true rfl)
    exact hBX
  obtain ⟨a, ha8, ea⟩ := vp_in_of hc.1 (by decide)
  obtain ⟨b, hb8, eb⟩ := vp_in_of hc.2 (by decide)
  rw [ea] at hl
  have hl : lv_has ls 3 [(0, .ref g0), (1, .int (nI a)), (2, .int y)] := hl
  rw [eb] at hl
  have hl : lv_has ls 3 [(0, .ref g0), (1, .int (nI a)), (2, .int (nI b))] := hl
  refine lv_aload_n hx hb dX5_pull_5 rfl (lv_at hl 0 rfl) ?_
  refine va_get (D := D) (ci := 5) (v := .ref g1) (C := RX5) (T := TX5) (N := 6) hx hb hts gv_in_X5_pull_X5 hown hK hP 0 rfl rfl 0 (by decide) (hts (.fieldLink RX5 12 "Gravimere" "body" "LGravimere$Body;") (by decide +kernel)) (fun _ h9 => h9) rfl dX5_pull_6 ?_
  refine lv_iload_n hx hb dX5_pull_9 rfl (lv_at hl 1 rfl) ?_
  refine lv_iload_n hx hb dX5_pull_10 rfl (lv_at hl 2 rfl) ?_
  refine gv_pl (va_runVN (As := [.int (nI a), .int (nI b)]) (rest := []) ⟨hx, hb, hml, hown, hts⟩ (ct_X1_keptPull l D cI cJ s.heap.size g1 b1 b2 b3 fP a b ha8 hb8) ⟨va_cnB 2 hts gX5_pull_X1_keptPull_n71 rfl rfl rfl (gv_nm_X5_71 hG) (hts (.initialized RX1) (by decide +kernel)) (by decide +kernel) ⟨Nat.le_of_ble_eq_true rfl, Nat.le_of_ble_eq_true rfl⟩, (hts (.instanceMethod yX1_keptPull) (by decide +kernel)), (hts (.selects RX1 yX1_keptPull yX1_keptPull) (by decide +kernel))⟩ (gv_pV (wc := [(g1, .inr (1, [.ref b1, .ref b2, .ref b3])), (b3, .inl (cJ, 64, .inr (.inl fP)))]) hP hK hD hG [1, 2] rfl (by decide) 0 rfl rfl rfl) rfl rfl hl.1 rfl (lv_room (Nat.le_of_ble_eq_true rfl)) dX5_pull_11 ⟨Nat.le_of_ble_eq_true rfl, Nat.le_of_ble_eq_true rfl⟩) (fun rp hrp => ?_)
  have hpo : ∃ a b, a < 8 ∧ b < 8 ∧ x = nI a ∧ y = nI b ∧ rp = fP (b * 8 + a) := by
    exact ⟨a, b, ha8, hb8, ea, eb, hrp⟩
  refine vx_ret (W.widen (k := 1) (n := 6) (Nat.le_of_ble_eq_true rfl) (Nat.le_of_ble_eq_true rfl) ?_)
  exact W.lret (v := rp) hx hb hr (fun t9 ht9 hW9 => ⟨rp, rfl, hpo, ht9⟩) t_nil dX5_pull_14
set_option maxHeartbeats 4000000 in
set_option maxRecDepth 100000 in
theorem ct_X5_pullAnew (l : Launch) (hlt : l.stackTraces = false) (D : va_G) (cI cJ : ClassId) (sz : Nat) (g0 g1 g2 g3 g4 g5 mo : Nat)(b1 b2 b3 : Nat) (fM fW : Nat → Int64) (x y : Int32)  : vx_Met l yX5_pullAnew wsX5_pullAnew ({ frames := 7, cells := 1, slots := 6, locals := 111 }) (va_Pc [.ref g0, .int x, .int y] (gv_Z D cI cJ [(g0, .inr (5, [.ref g1, .ref g2, .ref g3, .ref g4, .ref g5, .int (nI mo)])), (g1, .inr (1, [.ref b1, .ref b2, .ref b3])), (b1, .inl (cJ, 192, .inr (.inl fM))), (b2, .inl (cJ, 64, .inr (.inl fW)))] sz)) (vp_Sl (fun r9 : Int64 => ∃ a b, a < 8 ∧ b < 8 ∧ x = nI a ∧ y = nI b ∧ r9 = gv_sumC fM fW a b 64)) (gv_X (fun E => E = gv_eI ∧ ¬ (vp_in x 8 ∧ vp_in y 8))) 1 6 (fun _ => False) := by
  refine vx_ofW (cc := cX5_pullAnew) (maxL := 3) (ret := (some .long)) (by decide) rfl ?_
  intro p e s m args below meth c s₁ B hml htb hv
  obtain ⟨rfl, ⟨hsz, hP, hK, hD0, hG⟩, hZ0⟩ := hv
  have hx := B.exec
  have hb := B.bytes
  have hr := B.returns
  have hts := atoms_spec (ws := wsX5_pullAnew) B.pre
  have hown : s.vm.findClass RX5 = some m.cls := findClass_of_methodNamed B.named
  have hlocks := B.notSynchronized
  subst hsz
  have hD := hD0
  have hA : ∀ q : Nat, s.heap.size ≤ q → va_A [(g0, .inr (5, [.ref g1, .ref g2, .ref g3, .ref g4, .ref g5, .int (nI mo)])), (g1, .inr (1, [.ref b1, .ref b2, .ref b3])), (b1, .inl (cJ, 192, .inr (.inl fM))), (b2, .inl (cJ, 64, .inr (.inl fW)))] s.heap.size q := fun q h => Or.inr h
  have hP : va_P D vwCl [(g0, .inr (5, [.ref g1, .ref g2, .ref g3, .ref g4, .ref g5, .int (nI mo)])), (g1, .inr (1, [.ref b1, .ref b2, .ref b3])), (b1, .inl (cJ, 192, .inr (.inl fM))), (b2, .inl (cJ, 64, .inr (.inl fW)))] s.heap := hP
  have hl := lv_entry ([.ref g0, .int x, .int y]) (n := 3) (Nat.le_of_ble_eq_true rfl)
  rw [lg_entry_eq]
  generalize (lg_sl ([.ref g0, .int x, .int y]) ++ List.replicate (3 - (lg_sl ([.ref g0, .int x, .int y])).length) Slot.unset).toArray = ls at hl ⊢
  have hl : lv_has ls 3 [(0, .ref g0), (1, .int x), (2, .int y)] := hl
  refine lv_iload_n hx hb dX5_pullAnew_0 rfl (lv_at hl 1 rfl) ?_
  refine lv_iload_n hx hb dX5_pullAnew_1 rfl (lv_at hl 2 rfl) ?_
  refine gv_xv (vx_runS (As := [.int x, .int y]) (rest := []) ⟨hx, hb, hml, hown, hts⟩ (ct_X5_requireCell l hlt D cI cJ s.heap.size x y) (va_cwS 2 hts gX5_pullAnew_X5_requireCell rfl rfl rfl (by decide +kernel) ⟨Nat.le_of_ble_eq_true rfl, Nat.le_of_ble_eq_true rfl⟩) (gv_pSZ (wc := []) hP hK hD hG hZ0 (gv_A0 (fun q h => hA q (h))) [] rfl (by decide)) rfl rfl hl.1 rfl (lv_room (Nat.le_of_ble_eq_true rfl)) dX5_pullAnew_2 ⟨Nat.le_of_ble_eq_true rfl, Nat.le_of_ble_eq_true rfl⟩) (fun E ce q9 H1 hBX hz1 hk1 hce hcv hcl => ?_) (fun hc => ?_)
  · skip
    refine gv_out htb hlocks hz1 hk1 hce hcv hcl (?_) (Nat.le_of_ble_eq_true rfl) (Nat.le_of_ble_eq_true rfl)
    exact hBX
  obtain ⟨a, ha8, ea⟩ := vp_in_of hc.1 (by decide)
  obtain ⟨b, hb8, eb⟩ := vp_in_of hc.2 (by decide)
  rw [ea] at hl
  have hl : lv_has ls 3 [(0, .ref g0), (1, .int (nI a)), (2, .int y)] := hl
  rw [eb] at hl
  have hl : lv_has ls 3 [(0, .ref g0), (1, .int (nI a)), (2, .int (nI b))] := hl
  refine lv_aload_n hx hb dX5_pullAnew_5 rfl (lv_at hl 0 rfl) ?_
  refine va_get (D := D) (ci := 5) (v := .ref g1) (C := RX5) (T := TX5) (N := 6) hx hb hts gv_in_X5_pullAnew_X5 hown hK hP 0 rfl rfl 0 (by decide) (hts (.fieldLink RX5 12 "Gravimere" "body" "LGravimere$Body;") (by decide +kernel)) (fun _ h9 => h9) rfl dX5_pullAnew_6 ?_
  refine lv_iload_n hx hb dX5_pullAnew_9 rfl (lv_at hl 1 rfl) ?_
  refine lv_iload_n hx hb dX5_pullAnew_10 rfl (lv_at hl 2 rfl) ?_
  refine gv_pl (va_runVN (As := [.int (nI a), .int (nI b)]) (rest := []) ⟨hx, hb, hml, hown, hts⟩ (ct_X1_summedPull l D cI cJ s.heap.size g1 b1 b2 b3 fM fW a b) ⟨va_cnB 2 hts gX5_pullAnew_X1_summedPull_n75 rfl rfl rfl (gv_nm_X5_75 hG) (hts (.initialized RX1) (by decide +kernel)) (by decide +kernel) ⟨Nat.le_of_ble_eq_true rfl, Nat.le_of_ble_eq_true rfl⟩, (hts (.instanceMethod yX1_summedPull) (by decide +kernel)), (hts (.selects RX1 yX1_summedPull yX1_summedPull) (by decide +kernel))⟩ (gv_pV (wc := [(g1, .inr (1, [.ref b1, .ref b2, .ref b3])), (b1, .inl (cJ, 192, .inr (.inl fM))), (b2, .inl (cJ, 64, .inr (.inl fW)))]) hP hK hD hG [1, 2, 3] rfl (by decide) 0 rfl rfl rfl) rfl rfl hl.1 rfl (lv_room (Nat.le_of_ble_eq_true rfl)) dX5_pullAnew_11 ⟨Nat.le_of_ble_eq_true rfl, Nat.le_of_ble_eq_true rfl⟩) (fun rp hrp => ?_)
  have hpo : ∃ a b, a < 8 ∧ b < 8 ∧ x = nI a ∧ y = nI b ∧ rp = gv_sumC fM fW a b 64 := by
    exact ⟨a, b, ha8, hb8, ea, eb, hrp⟩
  refine vx_ret (W.widen (k := 1) (n := 6) (Nat.le_of_ble_eq_true rfl) (Nat.le_of_ble_eq_true rfl) ?_)
  exact W.lret (v := rp) hx hb hr (fun t9 ht9 hW9 => ⟨rp, rfl, hpo, ht9⟩) t_nil dX5_pullAnew_14
set_option maxHeartbeats 4000000 in
set_option maxRecDepth 100000 in
theorem ct_X5_gap (l : Launch) (hlt : l.stackTraces = false) (D : va_G) (cI cJ : ClassId) (sz : Nat) (g0 g1 g2 g3 g4 g5 mo : Nat)(b1 b2 b3 : Nat) (fP : Nat → Int64) (x y : Int32)  : vx_Met l yX5_gap wsX5_gap ({ frames := 7, cells := 1, slots := 6, locals := 111 }) (va_Pc [.ref g0, .int x, .int y] (gv_Z D cI cJ [(g0, .inr (5, [.ref g1, .ref g2, .ref g3, .ref g4, .ref g5, .int (nI mo)])), (g1, .inr (1, [.ref b1, .ref b2, .ref b3])), (b3, .inl (cJ, 64, .inr (.inl fP)))] sz)) (vp_Sl (fun r9 : Int64 => ∃ a b, a < 7 ∧ b < 8 ∧ x = nI a ∧ y = nI b ∧ r9 = fP (b * 8 + (a + 1)) - fP (b * 8 + a))) (gv_X (fun E => E = gv_eI ∧ ¬ (vp_in x 7 ∧ vp_in y 8))) 1 6 (fun _ => False) := by
  refine vx_ofW (cc := cX5_gap) (maxL := 3) (ret := (some .long)) (by decide) rfl ?_
  intro p e s m args below meth c s₁ B hml htb hv
  obtain ⟨rfl, ⟨hsz, hP, hK, hD0, hG⟩, hZ0⟩ := hv
  have hx := B.exec
  have hb := B.bytes
  have hr := B.returns
  have hts := atoms_spec (ws := wsX5_gap) B.pre
  have hown : s.vm.findClass RX5 = some m.cls := findClass_of_methodNamed B.named
  have hlocks := B.notSynchronized
  subst hsz
  have hD := hD0
  have hA : ∀ q : Nat, s.heap.size ≤ q → va_A [(g0, .inr (5, [.ref g1, .ref g2, .ref g3, .ref g4, .ref g5, .int (nI mo)])), (g1, .inr (1, [.ref b1, .ref b2, .ref b3])), (b3, .inl (cJ, 64, .inr (.inl fP)))] s.heap.size q := fun q h => Or.inr h
  have hP : va_P D vwCl [(g0, .inr (5, [.ref g1, .ref g2, .ref g3, .ref g4, .ref g5, .int (nI mo)])), (g1, .inr (1, [.ref b1, .ref b2, .ref b3])), (b3, .inl (cJ, 64, .inr (.inl fP)))] s.heap := hP
  have hl := lv_entry ([.ref g0, .int x, .int y]) (n := 3) (Nat.le_of_ble_eq_true rfl)
  rw [lg_entry_eq]
  generalize (lg_sl ([.ref g0, .int x, .int y]) ++ List.replicate (3 - (lg_sl ([.ref g0, .int x, .int y])).length) Slot.unset).toArray = ls at hl ⊢
  have hl : lv_has ls 3 [(0, .ref g0), (1, .int x), (2, .int y)] := hl
  refine lv_iload_n hx hb dX5_gap_0 rfl (lv_at hl 1 rfl) ?_
  refine lv_iload_n hx hb dX5_gap_1 rfl (lv_at hl 2 rfl) ?_
  refine gv_xv (vx_runS (As := [.int x, .int y]) (rest := []) ⟨hx, hb, hml, hown, hts⟩ (ct_X5_requireCell l hlt D cI cJ s.heap.size x y) (va_cwS 2 hts gX5_gap_X5_requireCell rfl rfl rfl (by decide +kernel) ⟨Nat.le_of_ble_eq_true rfl, Nat.le_of_ble_eq_true rfl⟩) (gv_pSZ (wc := []) hP hK hD hG hZ0 (gv_A0 (fun q h => hA q (h))) [] rfl (by decide)) rfl rfl hl.1 rfl (lv_room (Nat.le_of_ble_eq_true rfl)) dX5_gap_2 ⟨Nat.le_of_ble_eq_true rfl, Nat.le_of_ble_eq_true rfl⟩) (fun E ce q9 H1 hBX hz1 hk1 hce hcv hcl => ?_) (fun hc => ?_)
  · skip
    refine gv_out htb hlocks hz1 hk1 hce hcv hcl (?_) (Nat.le_of_ble_eq_true rfl) (Nat.le_of_ble_eq_true rfl)
    exact ⟨hBX.1, fun z => hBX.2 ⟨gv_vmono z.1 (by decide), z.2⟩⟩
  obtain ⟨a, ha8, ea⟩ := vp_in_of hc.1 (by decide)
  obtain ⟨b, hb8, eb⟩ := vp_in_of hc.2 (by decide)
  rw [ea] at hl
  have hl : lv_has ls 3 [(0, .ref g0), (1, .int (nI a)), (2, .int y)] := hl
  rw [eb] at hl
  have hl : lv_has ls 3 [(0, .ref g0), (1, .int (nI a)), (2, .int (nI b))] := hl
  refine lv_iload_n hx hb dX5_gap_5 rfl (lv_at hl 1 rfl) ?_
  refine lv_bipush (v := nI 7) hx hb dX5_gap_6 (by decide) ?_
  refine gv_xv (vx_runS (As := [.int (nI a), .int (nI 7)]) (rest := []) ⟨hx, hb, hml, hown, hts⟩ (ct_X5_requireNumber l hlt D cI cJ s.heap.size (nI a) 7 (by decide)) (va_cwS 2 hts gX5_gap_X5_requireNumber rfl rfl rfl (by decide +kernel) ⟨Nat.le_of_ble_eq_true rfl, Nat.le_of_ble_eq_true rfl⟩) (gv_pSZ (wc := []) hP hK hD hG hZ0 (gv_A0 (fun q h => hA q (h))) [] rfl (by decide)) rfl rfl hl.1 rfl (lv_room (Nat.le_of_ble_eq_true rfl)) dX5_gap_8 ⟨Nat.le_of_ble_eq_true rfl, Nat.le_of_ble_eq_true rfl⟩) (fun E ce q9 H1 hBX hz1 hk1 hce hcv hcl => ?_) (fun h7 => ?_)
  · skip
    refine gv_out htb hlocks hz1 hk1 hce hcv hcl (?_) (Nat.le_of_ble_eq_true rfl) (Nat.le_of_ble_eq_true rfl)
    exact ⟨hBX.1, fun z => hBX.2 (by rw [← ea]; exact z.1)⟩
  have ha7 : a < 7 := gv_vlt (by omega) h7
  refine lv_aload_n hx hb dX5_gap_11 rfl (lv_at hl 0 rfl) ?_
  refine va_get (D := D) (ci := 5) (v := .ref g1) (C := RX5) (T := TX5) (N := 6) hx hb hts gv_in_X5_gap_X5 hown hK hP 0 rfl rfl 0 (by decide) (hts (.fieldLink RX5 12 "Gravimere" "body" "LGravimere$Body;") (by decide +kernel)) (fun _ h9 => h9) rfl dX5_gap_12 ?_
  refine lv_iload_n hx hb dX5_gap_15 rfl (lv_at hl 1 rfl) ?_
  refine lv_iconst (v := nI 1) hx hb dX5_gap_16 (by decide) ?_
  refine lv_iadd hx hb dX5_gap_17 ?_
  refine gv_wi (nI_add a 1) ?_
  refine lv_iload_n hx hb dX5_gap_18 rfl (lv_at hl 2 rfl) ?_
  refine gv_pl (va_runVN (As := [.int (nI (a + 1)), .int (nI b)]) (rest := []) ⟨hx, hb, hml, hown, hts⟩ (ct_X1_keptPull l D cI cJ s.heap.size g1 b1 b2 b3 fP (a + 1) b (by omega) hb8) ⟨va_cnB 2 hts gX5_gap_X1_keptPull_n71 rfl rfl rfl (gv_nm_X5_71 hG) (hts (.initialized RX1) (by decide +kernel)) (by decide +kernel) ⟨Nat.le_of_ble_eq_true rfl, Nat.le_of_ble_eq_true rfl⟩, (hts (.instanceMethod yX1_keptPull) (by decide +kernel)), (hts (.selects RX1 yX1_keptPull yX1_keptPull) (by decide +kernel))⟩ (gv_pV (wc := [(g1, .inr (1, [.ref b1, .ref b2, .ref b3])), (b3, .inl (cJ, 64, .inr (.inl fP)))]) hP hK hD hG [1, 2] rfl (by decide) 0 rfl rfl rfl) rfl rfl hl.1 rfl (lv_room (Nat.le_of_ble_eq_true rfl)) dX5_gap_19 ⟨Nat.le_of_ble_eq_true rfl, Nat.le_of_ble_eq_true rfl⟩) (fun rp hrp => ?_)
  refine lv_aload_n hx hb dX5_gap_22 rfl (lv_at hl 0 rfl) ?_
  refine va_get (D := D) (ci := 5) (v := .ref g1) (C := RX5) (T := TX5) (N := 6) hx hb hts gv_in_X5_gap_X5 hown hK hP 0 rfl rfl 0 (by decide) (hts (.fieldLink RX5 12 "Gravimere" "body" "LGravimere$Body;") (by decide +kernel)) (fun _ h9 => h9) rfl dX5_gap_23 ?_
  refine lv_iload_n hx hb dX5_gap_26 rfl (lv_at hl 1 rfl) ?_
  refine lv_iload_n hx hb dX5_gap_27 rfl (lv_at hl 2 rfl) ?_
  refine gv_pl (va_runVN (As := [.int (nI a), .int (nI b)]) (rest := [.long rp]) ⟨hx, hb, hml, hown, hts⟩ (ct_X1_keptPull l D cI cJ s.heap.size g1 b1 b2 b3 fP a b ha8 hb8) ⟨va_cnB 2 hts gX5_gap_X1_keptPull_n71 rfl rfl rfl (gv_nm_X5_71 hG) (hts (.initialized RX1) (by decide +kernel)) (by decide +kernel) ⟨Nat.le_of_ble_eq_true rfl, Nat.le_of_ble_eq_true rfl⟩, (hts (.instanceMethod yX1_keptPull) (by decide +kernel)), (hts (.selects RX1 yX1_keptPull yX1_keptPull) (by decide +kernel))⟩ (gv_pV (wc := [(g1, .inr (1, [.ref b1, .ref b2, .ref b3])), (b3, .inl (cJ, 64, .inr (.inl fP)))]) hP hK hD hG [1, 2] rfl (by decide) 0 rfl rfl rfl) rfl rfl hl.1 rfl (lv_room (Nat.le_of_ble_eq_true rfl)) dX5_gap_28 ⟨Nat.le_of_ble_eq_true rfl, Nat.le_of_ble_eq_true rfl⟩) (fun rq hrq => ?_)
  refine lv_lsub hx hb dX5_gap_31 ?_
  have hpo : ∃ a b, a < 7 ∧ b < 8 ∧ x = nI a ∧ y = nI b ∧ (rp - rq) = fP (b * 8 + (a + 1)) - fP (b * 8 + a) := by
    exact ⟨a, b, ha7, hb8, ea, eb, by rw [hrp, hrq]⟩
  refine vx_ret (W.widen (k := 1) (n := 6) (Nat.le_of_ble_eq_true rfl) (Nat.le_of_ble_eq_true rfl) ?_)
  exact W.lret (v := rp - rq) hx hb hr (fun t9 ht9 hW9 => ⟨(rp - rq), rfl, hpo, ht9⟩) t_nil dX5_gap_32
