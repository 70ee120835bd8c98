theorem gv_nlt {a b : Int64} (h : ¬ a < b) : b ≤ a := by rw [Int64.lt_iff_toInt_lt] at h; rw [Int64.le_iff_toInt_le]; omega
theorem gv_nle {a b : Int64} (h : ¬ a ≤ b) : b < a := by rw [Int64.le_iff_toInt_le] at h; rw [Int64.lt_iff_toInt_lt]; omega
theorem gv_ltn {a b : Int64} (h : a < b) : ¬ b ≤ a := by rw [Int64.lt_iff_toInt_lt] at h; rw [Int64.le_iff_toInt_le]; omega
theorem gv_len {a b : Int64} (h : a ≤ b) : ¬ b < a := by rw [Int64.le_iff_toInt_le] at h; rw [Int64.lt_iff_toInt_lt]; omega
theorem gv_ofWF {l : Launch} {y : MethodName} {ws ws' : List Cond} {rm : Room} {Pc : Array Value → State → Prop} {Qc : Array Value → State → Outcome → State → Prop} {mc ms : Nat} {free : Addr → Prop} {cc : ByteArray} {maxL : Nat} {ret : Option FieldType}
    (hy : plainFor y = true) (hw : ws = Cond.code y cc maxL ret :: ws')
    (body : ∀ p e s m args below meth c s₁, BodyLoose p l y (headSpec ws rm) cc maxL ret e s m args below meth c s₁ → c.maxLocals = maxL → Pc args s →
      W p l e (headSpec ws rm).room s m args below meth c s.heap [] 0 0 (MQ below Qc args s mc ms free) (entryFrame m args maxL)) : Met l y ws rm Pc Qc mc ms free := by
  refine MetFree.of_bodySF (code := cc) (maxLocals := maxL) (ret := ret) hy ?_ ?_
  · intro args s m h hn
    obtain ⟨meth, c, h1, h2, h3, h4, h5, h6, -, -⟩ := Cond.code_spec hn (atoms_spec (ws := ws) h _ (by rw [hw]; exact List.mem_cons_self))
    exact ⟨meth, c, h1, h2, h3, h4, h5, h6⟩
  · intro p e s m args below meth c s₁ B hml hP _
    have hh0 : s₁.heap = s.heap := by rw [B.state]; rfl
    obtain ⟨t, a1, o, b1, b2, b3⟩ := body p e s m args below meth c s₁ B hml hP s₁ hh0 (Stand.of_body B)
    exact ⟨t, o, a1, b1, b2, ⟨b3.1, b3.2⟩⟩
noncomputable def gv_10 (p : Prop) : Int32 := @ite Int32 p (Classical.propDecidable p) (nI 1) (nI 0)
theorem gv_10t {p : Prop} (h : p) : nI 1 = gv_10 p := (if_pos h).symm
theorem gv_10f {p : Prop} (h : ¬ p) : nI 0 = gv_10 p := (if_neg h).symm
theorem gv_if1 {p : Prop} {v : Int32} (h : v = gv_10 p) (c : ¬ v = 0) : p := by
  by_cases hp : p
  · exact hp
  · rw [← gv_10f hp] at h; exact absurd h c
theorem gv_if0 {p : Prop} {v : Int32} (h : v = gv_10 p) (c : v = 0) : ¬ p := fun hp => by
  rw [← gv_10t hp] at h; exact absurd (h.symm.trans c) (by decide)
theorem gv_nzi {p : Prop} {v : Int32} (h : v = gv_10 p) : narrow .boolean (.int v) = .int v := by
  rw [h]
  by_cases hp : p
  · rw [← gv_10t hp]; rfl
  · rw [← gv_10f hp]; rfl
theorem gv_10c {p q : Prop} (h : p ↔ q) : gv_10 p = gv_10 q := by rw [propext h]
def gv_plo (m q : Int64) : Int64 := if q < 1 then 0 else m * 1000000 / q
theorem gv_cAI {D : va_G} {cl : List vw_C} {cI cJ cA : ClassId} {s : State} (h : va_K D cl ([(cI, .int), (cJ, .long)] ++ [(cA, .int)]) s) : cI = cA := Option.some.inj ((h.2 0 (cI, .int) rfl).2.symm.trans (h.2 2 (cA, .int) rfl).2)
theorem gv_cAJ {D : va_G} {cl : List vw_C} {cI cJ cA : ClassId} {s : State} (h : va_K D cl ([(cI, .int), (cJ, .long)] ++ [(cA, .long)]) s) : cJ = cA := Option.some.inj ((h.2 1 (cJ, .long) rfl).2.symm.trans (h.2 2 (cA, .long) rfl).2)
set_option maxHeartbeats 4000000 in
set_option maxRecDepth 100000 in
theorem ct_X5_cellNumber (l : Launch) (a b : Nat)  : Met l yX5_cellNumber wsX5_cellNumber ({ frames := 0, cells := 0, slots := 0, locals := 0 }) (va_Pc [.int (nI a), .int (nI b)] (fun _ => True)) (vp_Si (fun r9 : Int32 => r9 = nI (b * 8 + a))) 0 0 (fun _ => False) := by
  refine Met.ofW (cc := cX5_cellNumber) (maxL := 2) (ret := (some .int)) (by decide) rfl ?_
  intro p e s m args below meth c s₁ B hml hv
  obtain ⟨rfl, -⟩ := hv
  have hx := B.exec
  have hb := B.bytes
  have hr := B.returns
  have hts := atoms_spec (ws := wsX5_cellNumber) B.pre
  have hown : s.vm.findClass RX5 = some m.cls := findClass_of_methodNamed B.named
  have hlocks := B.notSynchronized
  have hl := lv_entry ([.int (nI a), .int (nI b)]) (n := 2) (Nat.le_of_ble_eq_true rfl)
  rw [lg_entry_eq]
  generalize (lg_sl ([.int (nI a), .int (nI b)]) ++ List.replicate (2 - (lg_sl ([.int (nI a), .int (nI b)])).length) Slot.unset).toArray = ls at hl ⊢
  have hl : lv_has ls 2 [(0, .int (nI a)), (1, .int (nI b))] := hl
  refine lv_iload_n hx hb dX5_cellNumber_0 rfl (lv_at hl 1 rfl) ?_
  refine lv_bipush (v := nI 8) hx hb dX5_cellNumber_1 (by decide) ?_
  refine lv_imul hx hb dX5_cellNumber_3 ?_
  refine gv_wi (pk_mul b 8) ?_
  refine lv_iload_n hx hb dX5_cellNumber_4 rfl (lv_at hl 0 rfl) ?_
  refine lv_iadd hx hb dX5_cellNumber_5 ?_
  refine gv_wi (nI_add (b * 8) a) ?_
  have hpo : (nI (b * 8 + a)) = nI (b * 8 + a) := by
    rfl
  exact W.iret (v := nI (b * 8 + a)) hx hb hr (fun t9 ht9 hW9 => ⟨(nI (b * 8 + a)), rfl, hpo, ht9⟩) t_nil dX5_cellNumber_6
set_option maxHeartbeats 4000000 in
set_option maxRecDepth 100000 in
theorem ct_X1_squareOf (l : Launch) (dx dy : Int32) (la : Nat)  : Met l yX1_squareOf wsX1_squareOf ({ frames := 0, cells := 0, slots := 0, locals := 0 }) (va_Pc [.int dx, .int dy, .int (nI la)] (fun _ => True)) (vp_Sl (fun r9 : Int64 => r9 = (dx * dx + dy * dy + nI ((la + 1) * (la + 1))).toInt64)) 0 0 (fun _ => False) := by
  refine Met.ofW (cc := cX1_squareOf) (maxL := 3) (ret := (some .long)) (by decide) rfl ?_
  intro p e s m args below meth c s₁ B hml hv
  obtain ⟨rfl, -⟩ := hv
  have hx := B.exec
  have hb := B.bytes
  have hr := B.returns
  have hts := atoms_spec (ws := wsX1_squareOf) B.pre
  have hown : s.vm.findClass RX1 = some m.cls := findClass_of_methodNamed B.named
  have hlocks := B.notSynchronized
  have hl := lv_entry ([.int dx, .int dy, .int (nI la)]) (n := 3) (Nat.le_of_ble_eq_true rfl)
  rw [lg_entry_eq]
  generalize (lg_sl ([.int dx, .int dy, .int (nI la)]) ++ List.replicate (3 - (lg_sl ([.int dx, .int dy, .int (nI la)])).length) Slot.unset).toArray = ls at hl ⊢
  have hl : lv_has ls 3 [(0, .int dx), (1, .int dy), (2, .int (nI la))] := hl
  refine lv_iload_n hx hb dX1_squareOf_0 rfl (lv_at hl 0 rfl) ?_
  refine lv_iload_n hx hb dX1_squareOf_1 rfl (lv_at hl 0 rfl) ?_
  refine lv_imul hx hb dX1_squareOf_2 ?_
  refine lv_iload_n hx hb dX1_squareOf_3 rfl (lv_at hl 1 rfl) ?_
  refine lv_iload_n hx hb dX1_squareOf_4 rfl (lv_at hl 1 rfl) ?_
  refine lv_imul hx hb dX1_squareOf_5 ?_
  refine lv_iadd hx hb dX1_squareOf_6 ?_
  refine lv_iload_n hx hb dX1_squareOf_7 rfl (lv_at hl 2 rfl) ?_
  refine lv_iconst (v := nI 1) hx hb dX1_squareOf_8 (by decide) ?_
  refine lv_iadd hx hb dX1_squareOf_9 ?_
  refine gv_wi (nI_add la 1) ?_
  refine lv_iload_n hx hb dX1_squareOf_10 rfl (lv_at hl 2 rfl) ?_
  refine lv_iconst (v := nI 1) hx hb dX1_squareOf_11 (by decide) ?_
  refine lv_iadd hx hb dX1_squareOf_12 ?_
  refine gv_wi (nI_add la 1) ?_
  refine lv_imul hx hb dX1_squareOf_13 ?_
  refine gv_wi (pk_mul (la + 1) (la + 1)) ?_
  refine lv_iadd hx hb dX1_squareOf_14 ?_
  refine lv_i2l (v := (((dx * dx) + (dy * dy)) + (nI ((la + 1) * (la + 1)))).toInt64) hx hb dX1_squareOf_15 rfl ?_
  have hpo : ((((dx * dx) + (dy * dy)) + (nI ((la + 1) * (la + 1)))).toInt64) = (dx * dx + dy * dy + nI ((la + 1) * (la + 1))).toInt64 := by
    rfl
  exact W.lret (v := (((dx * dx) + (dy * dy)) + (nI ((la + 1) * (la + 1)))).toInt64) hx hb hr (fun t9 ht9 hW9 => ⟨((((dx * dx) + (dy * dy)) + (nI ((la + 1) * (la + 1)))).toInt64), rfl, hpo, ht9⟩) t_nil dX1_squareOf_16
set_option maxHeartbeats 4000000 in
set_option maxRecDepth 100000 in
theorem ct_X1_pullOf (l : Launch) (ms sq : Int64)  : Met l yX1_pullOf wsX1_pullOf ({ frames := 0, cells := 0, slots := 0, locals := 0 }) (va_Pc [.long ms, .long sq] (fun _ => True)) (vp_Sl (fun r9 : Int64 => r9 = gv_plo ms sq)) 0 0 (fun _ => False) := by
  refine Met.ofW (cc := cX1_pullOf) (maxL := 4) (ret := (some .long)) (by decide) rfl ?_
  intro p e s m args below meth c s₁ B hml hv
  obtain ⟨rfl, -⟩ := hv
  have hx := B.exec
  have hb := B.bytes
  have hr := B.returns
  have hts := atoms_spec (ws := wsX1_pullOf) B.pre
  have hown : s.vm.findClass RX1 = some m.cls := findClass_of_methodNamed B.named
  have hlocks := B.notSynchronized
  have hl := lv_entry ([.long ms, .long sq]) (n := 4) (Nat.le_of_ble_eq_true rfl)
  rw [lg_entry_eq]
  generalize (lg_sl ([.long ms, .long sq]) ++ List.replicate (4 - (lg_sl ([.long ms, .long sq])).length) Slot.unset).toArray = ls at hl ⊢
  have hl : lv_has ls 4 [(0, .long ms), (2, .long sq)] := hl
  refine lv_lload_n hx hb dX1_pullOf_0 rfl (lv_at hl 1 rfl) ?_
  refine lv_lconst (v := 1) hx hb dX1_pullOf_1 (by decide) ?_
  refine W.lcmp hx hb dX1_pullOf_2 ?_
  refine lv_if_ge (tgt := 10) hx hb dX1_pullOf_3 (by decide) (fun c_3 => ?_) (fun c_3 => ?_)
  · skip
    have c_3 := (lg_cmp_ge _ _).mp c_3
    have hne : ¬ sq = 0 := fun h => by rw [h] at c_3; exact absurd c_3 (by decide)
    refine lv_lload_n hx hb dX1_pullOf_10 rfl (lv_at hl 0 rfl) ?_
    refine lv_ldc2 hx hb hown (hts (.constantLong RX1 37 (1000000)) (by decide +kernel)) dX1_pullOf_11 ?_
    refine lv_lmul hx hb dX1_pullOf_14 ?_
    refine lv_lload_n hx hb dX1_pullOf_15 rfl (lv_at hl 1 rfl) ?_
    refine lv_ldiv hx hb dX1_pullOf_16 (hne) ?_
    have hpo : ((ms * 1000000) / sq) = gv_plo ms sq := by
      exact (if_neg (gv_len c_3)).symm
    exact W.lret (v := (ms * 1000000) / sq) hx hb hr (fun t9 ht9 hW9 => ⟨((ms * 1000000) / sq), rfl, hpo, ht9⟩) t_nil dX1_pullOf_17
  · skip
    have c_3 := (not_congr (lg_cmp_ge _ _)).mp c_3
    refine lv_lconst (v := 0) hx hb dX1_pullOf_6 (by decide) ?_
    refine lv_goto (tgt := 17) hx hb dX1_pullOf_7 (by decide) ?_
    have hpo : 0 = gv_plo ms sq := by
      exact (if_pos (gv_nle c_3)).symm
    exact W.lret (v := 0) hx hb hr (fun t9 ht9 hW9 => ⟨0, rfl, hpo, ht9⟩) t_nil dX1_pullOf_17
set_option maxHeartbeats 4000000 in
set_option maxRecDepth 100000 in
theorem ct_X6_isIn (l : Launch) (v lo hi : Int64)  : Met l yX6_isIn wsX6_isIn ({ frames := 0, cells := 0, slots := 0, locals := 0 }) (va_Pc [.long v, .long lo, .long hi] (fun _ => True)) (vp_Si (fun r9 : Int32 => r9 = gv_10 (lo ≤ v ∧ v ≤ hi))) 0 0 (fun _ => False) := by
  refine Met.ofW (cc := cX6_isIn) (maxL := 6) (ret := (some .boolean)) (by decide) rfl ?_
  intro p e s m args below meth c s₁ B hml hv
  obtain ⟨rfl, -⟩ := hv
  have hx := B.exec
  have hb := B.bytes
  have hr := B.returns
  have hts := atoms_spec (ws := wsX6_isIn) B.pre
  have hown : s.vm.findClass RX6 = some m.cls := findClass_of_methodNamed B.named
  have hlocks := B.notSynchronized
  have hl := lv_entry ([.long v, .long lo, .long hi]) (n := 6) (Nat.le_of_ble_eq_true rfl)
  rw [lg_entry_eq]
  generalize (lg_sl ([.long v, .long lo, .long hi]) ++ List.replicate (6 - (lg_sl ([.long v, .long lo, .long hi])).length) Slot.unset).toArray = ls at hl ⊢
  have hl : lv_has ls 6 [(0, .long v), (2, .long lo), (4, .long hi)] := hl
  refine lv_lload_n hx hb dX6_isIn_0 rfl (lv_at hl 0 rfl) ?_
  refine lv_lload_n hx hb dX6_isIn_1 rfl (lv_at hl 1 rfl) ?_
  refine W.lcmp hx hb dX6_isIn_2 ?_
  refine lv_if_lt (tgt := 17) hx hb dX6_isIn_3 (by decide) (fun c_3 => ?_) (fun c_3 => ?_)
  · skip
    have c_3 := (lg_cmp_lt _ _).mp c_3
    refine lv_iconst (v := nI 0) hx hb dX6_isIn_17 (by decide) ?_
    have hpo : (nI 0) = gv_10 (lo ≤ v ∧ v ≤ hi) := by
      exact gv_10f (fun h => by first | exact absurd h.1 (gv_ltn c_3) | exact absurd h.2 (gv_ltn c_10))
    exact W.zret (v := nI 0) (ty := .boolean) hx hb hr rfl (fun t9 ht9 hW9 => ⟨(nI 0), rfl, hpo, ht9⟩) t_nil dX6_isIn_18
  · skip
    have c_3 := (not_congr (lg_cmp_lt _ _)).mp c_3
    refine lv_lload_n hx hb dX6_isIn_6 rfl (lv_at hl 0 rfl) ?_
    refine lv_lload hx hb dX6_isIn_7 (lv_at hl 2 rfl) ?_
    refine W.lcmp hx hb dX6_isIn_9 ?_
    refine lv_if_gt (tgt := 17) hx hb dX6_isIn_10 (by decide) (fun c_10 => ?_) (fun c_10 => ?_)
    · skip
      have c_10 := (lg_cmp_gt _ _).mp c_10
      refine lv_iconst (v := nI 0) hx hb dX6_isIn_17 (by decide) ?_
      have hpo : (nI 0) = gv_10 (lo ≤ v ∧ v ≤ hi) := by
        exact gv_10f (fun h => by first | exact absurd h.1 (gv_ltn c_3) | exact absurd h.2 (gv_ltn c_10))
      exact W.zret (v := nI 0) (ty := .boolean) hx hb hr rfl (fun t9 ht9 hW9 => ⟨(nI 0), rfl, hpo, ht9⟩) t_nil dX6_isIn_18
    · skip
      have c_10 := (not_congr (lg_cmp_gt _ _)).mp c_10
      refine lv_iconst (v := nI 1) hx hb dX6_isIn_13 (by decide) ?_
      refine lv_goto (tgt := 18) hx hb dX6_isIn_14 (by decide) ?_
      have hpo : (nI 1) = gv_10 (lo ≤ v ∧ v ≤ hi) := by
        exact gv_10t ⟨gv_nlt c_3, gv_nlt c_10⟩
      exact W.zret (v := nI 1) (ty := .boolean) hx hb hr rfl (fun t9 ht9 hW9 => ⟨(nI 1), rfl, hpo, ht9⟩) t_nil dX6_isIn_18
set_option maxHeartbeats 4000000 in
set_option maxRecDepth 100000 in
theorem ct_X6_down (l : Launch) (v by_ : Int64) (h0 : ¬ by_ = 0) : Met l yX6_down wsX6_down ({ frames := 0, cells := 0, slots := 0, locals := 0 }) (va_Pc [.long v, .long by_] (fun _ => True)) (vp_Sl (fun r9 : Int64 => r9 = if v - v / by_ * by_ < 0 then v / by_ - 1 else v / by_)) 0 0 (fun _ => False) := by
  refine Met.ofW (cc := cX6_down) (maxL := 6) (ret := (some .long)) (by decide) rfl ?_
  intro p e s m args below meth c s₁ B hml hv
  obtain ⟨rfl, -⟩ := hv
  have hx := B.exec
  have hb := B.bytes
  have hr := B.returns
  have hts := atoms_spec (ws := wsX6_down) B.pre
  have hown : s.vm.findClass RX6 = some m.cls := findClass_of_methodNamed B.named
  have hlocks := B.notSynchronized
  have hl := lv_entry ([.long v, .long by_]) (n := 6) (Nat.le_of_ble_eq_true rfl)
  rw [lg_entry_eq]
  generalize (lg_sl ([.long v, .long by_]) ++ List.replicate (6 - (lg_sl ([.long v, .long by_])).length) Slot.unset).toArray = ls at hl ⊢
  have hl : lv_has ls 6 [(0, .long v), (2, .long by_)] := hl
  refine lv_lload_n hx hb dX6_down_0 rfl (lv_at hl 0 rfl) ?_
  refine lv_lload_n hx hb dX6_down_1 rfl (lv_at hl 1 rfl) ?_
  refine lv_ldiv hx hb dX6_down_2 (h0) ?_
  refine lv_lstore (lv' := [(4, .long (v / by_)), (0, .long v), (2, .long by_)]) hx hb dX6_down_3 hl (by decide) rfl (fun ls hl => ?_)
  refine lv_lload_n hx hb dX6_down_5 rfl (lv_at hl 1 rfl) ?_
  refine lv_lload_n hx hb dX6_down_6 rfl (lv_at hl 2 rfl) ?_
  refine lv_lrem hx hb dX6_down_7 (h0) ?_
  refine lv_lconst (v := 0) hx hb dX6_down_8 (by decide) ?_
  refine W.lcmp hx hb dX6_down_9 ?_
  refine lv_if_ge (tgt := 20) hx hb dX6_down_10 (by decide) (fun c_10 => ?_) (fun c_10 => ?_)
  · skip
    have c_10 := (lg_cmp_ge _ _).mp c_10
    refine lv_lload hx hb dX6_down_20 (lv_at hl 0 rfl) ?_
    have hpo : (v / by_) = if v - v / by_ * by_ < 0 then v / by_ - 1 else v / by_ := by
      exact (if_neg (gv_len c_10)).symm
    exact W.lret (v := v / by_) hx hb hr (fun t9 ht9 hW9 => ⟨(v / by_), rfl, hpo, ht9⟩) t_nil dX6_down_22
  · skip
    have c_10 := (not_congr (lg_cmp_ge _ _)).mp c_10
    refine lv_lload hx hb dX6_down_13 (lv_at hl 0 rfl) ?_
    refine lv_lconst (v := 1) hx hb dX6_down_15 (by decide) ?_
    refine lv_lsub hx hb dX6_down_16 ?_
    refine lv_goto (tgt := 22) hx hb dX6_down_17 (by decide) ?_
    have hpo : ((v / by_) - 1) = if v - v / by_ * by_ < 0 then v / by_ - 1 else v / by_ := by
      exact (if_pos (gv_nle c_10)).symm
    exact W.lret (v := (v / by_) - 1) hx hb hr (fun t9 ht9 hW9 => ⟨((v / by_) - 1), rfl, hpo, ht9⟩) t_nil dX6_down_22
set_option maxHeartbeats 4000000 in
set_option maxRecDepth 100000 in
theorem ct_J9_floorDiv_f86c9 (l : Launch) (v by_ : Int64) (h0 : ¬ by_ = 0) : Met l yJ9_floorDiv_f86c9 wsJ9_floorDiv_f86c9 ({ frames := 0, cells := 0, slots := 0, locals := 0 }) (va_Pc [.long v, .long by_] (fun _ => True)) (vp_Sl (fun r9 : Int64 => r9 = if (v ^^^ by_) < 0 ∧ ¬ v / by_ * by_ = v then v / by_ - 1 else v / by_)) 0 0 (fun _ => False) := by
  refine gv_ofWF (cc := cJ9_floorDiv_f86c9) (maxL := 6) (ret := (some .long)) (by decide +kernel) rfl ?_
  intro p e s m args below meth c s₁ B hml hv
  obtain ⟨rfl, -⟩ := hv
  have hx := B.exec
  have hb := B.bytes
  have hr := B.returns
  have hts := atoms_spec (ws := wsJ9_floorDiv_f86c9) B.pre
  have hown : s.vm.findClass RJ9 = some m.cls := findClass_of_methodNamed B.named
  have hlocks := B.notSynchronized
  have hl := lv_entry ([.long v, .long by_]) (n := 6) (Nat.le_of_ble_eq_true rfl)
  rw [lg_entry_eq]
  generalize (lg_sl ([.long v, .long by_]) ++ List.replicate (6 - (lg_sl ([.long v, .long by_])).length) Slot.unset).toArray = ls at hl ⊢
  have hl : lv_has ls 6 [(0, .long v), (2, .long by_)] := hl
  refine lv_lload_n hx hb dJ9_floorDiv_f86c9_0 rfl (lv_at hl 0 rfl) ?_
  refine lv_lload_n hx hb dJ9_floorDiv_f86c9_1 rfl (lv_at hl 1 rfl) ?_
  refine lv_ldiv hx hb dJ9_floorDiv_f86c9_2 (h0) ?_
  refine lv_lstore (lv' := [(4, .long (v / by_)), (0, .long v), (2, .long by_)]) hx hb dJ9_floorDiv_f86c9_3 hl (by decide) rfl (fun ls hl => ?_)
  refine lv_lload_n hx hb dJ9_floorDiv_f86c9_5 rfl (lv_at hl 1 rfl) ?_
  refine lv_lload_n hx hb dJ9_floorDiv_f86c9_6 rfl (lv_at hl 2 rfl) ?_
  refine lv_lxor hx hb dJ9_floorDiv_f86c9_7 ?_
  refine lv_lconst (v := 0) hx hb dJ9_floorDiv_f86c9_8 (by decide) ?_
  refine W.lcmp hx hb dJ9_floorDiv_f86c9_9 ?_
  refine lv_if_ge (tgt := 27) hx hb dJ9_floorDiv_f86c9_10 (by decide) (fun c_10 => ?_) (fun c_10 => ?_)
  · skip
    have c_10 := (lg_cmp_ge _ _).mp c_10
    refine lv_lload hx hb dJ9_floorDiv_f86c9_27 (lv_at hl 0 rfl) ?_
    have hpo : (v / by_) = if (v ^^^ by_) < 0 ∧ ¬ v / by_ * by_ = v then v / by_ - 1 else v / by_ := by
      exact (if_neg (fun h => by first | exact absurd h.1 (gv_len c_10) | exact h.2 c_19)).symm
    exact W.lret (v := v / by_) hx hb hr (fun t9 ht9 hW9 => ⟨(v / by_), rfl, hpo, ht9⟩) t_nil dJ9_floorDiv_f86c9_29
  · skip
    have c_10 := (not_congr (lg_cmp_ge _ _)).mp c_10
    refine lv_lload hx hb dJ9_floorDiv_f86c9_13 (lv_at hl 0 rfl) ?_
    refine lv_lload_n hx hb dJ9_floorDiv_f86c9_15 rfl (lv_at hl 2 rfl) ?_
    refine lv_lmul hx hb dJ9_floorDiv_f86c9_16 ?_
    refine lv_lload_n hx hb dJ9_floorDiv_f86c9_17 rfl (lv_at hl 1 rfl) ?_
    refine W.lcmp hx hb dJ9_floorDiv_f86c9_18 ?_
    refine lv_if_eq (tgt := 27) hx hb dJ9_floorDiv_f86c9_19 (by decide) (fun c_19 => ?_) (fun c_19 => ?_)
    · skip
      have c_19 := (lg_cmp_eq _ _).mp c_19
      refine lv_lload hx hb dJ9_floorDiv_f86c9_27 (lv_at hl 0 rfl) ?_
      have hpo : (v / by_) = if (v ^^^ by_) < 0 ∧ ¬ v / by_ * by_ = v then v / by_ - 1 else v / by_ := by
        exact (if_neg (fun h => by first | exact absurd h.1 (gv_len c_10) | exact h.2 c_19)).symm
      exact W.lret (v := v / by_) hx hb hr (fun t9 ht9 hW9 => ⟨(v / by_), rfl, hpo, ht9⟩) t_nil dJ9_floorDiv_f86c9_29
    · skip
      have c_19 := (not_congr (lg_cmp_eq _ _)).mp c_19
      refine lv_lload hx hb dJ9_floorDiv_f86c9_22 (lv_at hl 0 rfl) ?_
      refine lv_lconst (v := 1) hx hb dJ9_floorDiv_f86c9_24 (by decide) ?_
      refine lv_lsub hx hb dJ9_floorDiv_f86c9_25 ?_
      have hpo : ((v / by_) - 1) = if (v ^^^ by_) < 0 ∧ ¬ v / by_ * by_ = v then v / by_ - 1 else v / by_ := by
        exact (if_pos ⟨gv_nle c_10, c_19⟩).symm
      exact W.lret (v := (v / by_) - 1) hx hb hr (fun t9 ht9 hW9 => ⟨((v / by_) - 1), rfl, hpo, ht9⟩) t_nil dJ9_floorDiv_f86c9_26
