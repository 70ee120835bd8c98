theorem gv_leL {L i : Nat} (hL : L ≤ 3072) (hi : i < 100000) (h : ¬ nI L - nI 6 < nI i) : i + 6 ≤ L := by
  have h1 := gv_nlt32 h
  rw [Int32.le_iff_toInt_le, nI_toInt (by omega), Int32.toInt_sub, nI_toInt (by omega), nI_toInt (by omega)] at h1
  have h2 : ((L : Int) - (6 : Nat)).bmod (2 ^ 32) = (L : Int) - (6 : Nat) := Int.bmod_eq_of_le (by omega) (by omega)
  rw [h2] at h1
  omega
theorem gv_nIof (n : Nat) : Int32.ofNat n = nI n := rfl
set_option maxHeartbeats 4000000 in
set_option maxRecDepth 100000 in
theorem lw_head {p : Program} {l : Launch} {e : Env} {s : State} {m : MethodId} {below : List Frame} {meth : Method} {c : Code} (hlt : l.stackTraces = false) (hx : p.tables.exec = Jvm.exec) (hb : c.code = cL_law) (hml : c.maxLocals = 8) (hown : s.vm.findClass RL = some m.cls) (D : va_G) (cI cJ : ClassId) (bs o1 g0 g1 g2 g3 g4 g5 b1 b2 b3 n1 n2 n3 s1 s2 s3 s4 s5 s6 s7 a1 a2 h0 r2 r5 r6 r7 r10 r11 r12 r13 r15 r16 r17 r18 : Nat) (A : Nat → Prop) {L : Nat} {xs : Nat → Int32} (hL : L ≤ 3072) (hts : ∀ w ∈ wsL_law, w.before #[Value.ref bs] s = true) (hX : va_X bs L xs s s.heap) (hbl : bs < s.heap.size) (hbA : ¬ A bs) (hK : va_K D vwCl [(cI, .int), (cJ, .long)] s) (hG : GW s) (hZ0 : GZ A s s.heap) (hA : ∀ q : Nat, s.heap.size ≤ q → A q) {Q : State → Prop} {H : Heap} {locs : List Loc} {ls : Array Slot} {cells slots i : Nat} (hi : i < 100000) (hcc : i + 6 ≤ L → cells + 1 ≤ 1068) (hss : i + 6 ≤ L → slots + 6 ≤ 10708) (hcx : cells ≤ 1068) (hsx : slots ≤ 10708) (hI : gv_LS D cI cJ bs o1 g0 g1 g2 g3 g4 g5 b1 b2 b3 n1 n2 n3 s1 s2 s3 s4 s5 s6 s7 a1 a2 h0 r2 r5 r6 r7 r10 r11 r12 r13 r15 r16 r17 r18 A s H locs) (hl : lv_has ls 8 [(0, .ref bs), (1, .ref g0), (2, .ref h0), (3, .ref o1), (4, .int (nI i))]) (kx : ∀ (H : Heap) (locs : List Loc) (ls : Array Slot) (cells slots : Nat), cells ≤ 1068 → slots ≤ 10708 → va_S A s.heap H locs → W p l e room_1 s m #[Value.ref bs] below meth c H locs cells slots Q (F0 m 1397 ls [])) (kk : i + 6 ≤ L → ∀ (H : Heap) (locs : List Loc) (ls : Array Slot), gv_LS D cI cJ bs o1 g0 g1 g2 g3 g4 g5 b1 b2 b3 n1 n2 n3 s1 s2 s3 s4 s5 s6 s7 a1 a2 h0 r2 r5 r6 r7 r10 r11 r12 r13 r15 r16 r17 r18 A s H locs → lv_has ls 8 [(0, .ref bs), (1, .ref g0), (2, .ref h0), (3, .ref o1), (4, .int (nI i))] → W p l e room_1 s m #[Value.ref bs] below meth c H locs (cells + 1) (slots + 6) Q (F0 m 1391 ls [])) : W p l e room_1 s m #[Value.ref bs] below meth c H locs cells slots Q (F0 m 23 ls []) := by
  have hS : va_S A s.heap H locs := by
    obtain ⟨_, _, _, _, _, _, _, _, _, _, _, _, _, _, _, _, _, _, _, _, _, _, _, _, _, _, _, ⟨-, -, -, -, -, -, -, -, -, -, -, -, -⟩, -, -, hS⟩ := hI
    exact hS
  refine lv_iload hx hb dL_law_23 (lv_at hl 4 rfl) ?_
  refine lv_aload_n hx hb dL_law_25 rfl (lv_at hl 0 rfl) ?_
  refine va_slen hx hb hX hbl hbA hS dL_law_26 ?_
  rw [gv_nIof]
  refine lv_bipush (v := nI 6) hx hb dL_law_27 (by decide) ?_
  refine lv_isub hx hb dL_law_29 ?_
  refine lv_icmp_gt (tgt := 1397) hx hb dL_law_30 (by decide) (fun _ => ?_) (fun hgo => ?_)
  · exact kx _ _ _ _ _ hcx hsx hS
  have hiL := gv_leL hL hi hgo
  refine lv_aload_n hx hb dL_law_33 rfl (lv_at hl 0 rfl) ?_
  refine lv_iload hx hb dL_law_34 (lv_at hl 4 rfl) ?_
  refine gv_sld hx hb hX hbl hbA hS (k := i) (by omega) (by omega) dL_law_36 ?_
  refine lv_bipush (v := nI 31) hx hb dL_law_37 (by decide) ?_
  refine lv_iand hx hb dL_law_39 ?_
  generalize xs i &&& nI 31 = v
  have hv : v.toInt = 0 ∨ v.toInt = 1 ∨ v.toInt = 2 ∨ v.toInt = 3 ∨ v.toInt = 4 ∨ v.toInt = 5 ∨ v.toInt = 6 ∨ v.toInt = 7 ∨ v.toInt = 8 ∨ v.toInt = 9 ∨ v.toInt = 10 ∨ v.toInt = 11 ∨ v.toInt = 12 ∨ v.toInt = 13 ∨ v.toInt = 14 ∨ v.toInt = 15 ∨ v.toInt = 16 ∨ v.toInt = 17 ∨ (v.toInt < 0 ∨ 17 < v.toInt) := by omega
  rcases hv with h | h | h | h | h | h | h | h | h | h | h | h | h | h | h | h | h | h | h
  · refine lv_tableIn (off := 88) (tgt := 128) hx hb dL_law_40 (by rw [h]; decide) (by rw [h]; decide) (by rw [h]; rfl) (by decide) ?_
    exact cs_mass hlt hx hb hml hown D cI cJ bs o1 g0 g1 g2 g3 g4 g5 b1 b2 b3 n1 n2 n3 s1 s2 s3 s4 s5 s6 s7 a1 a2 h0 r2 r5 r6 r7 r10 r11 r12 r13 r15 r16 r17 r18 A hL hts hX hbl hbA hK hG hZ0 hA hiL (hcc hiL) (hss hiL) hI hl (kk hiL)
  · refine lv_tableIn (off := 211) (tgt := 251) hx hb dL_law_40 (by rw [h]; decide) (by rw [h]; decide) (by rw [h]; rfl) (by decide) ?_
    exact cs_water hlt hx hb hml hown D cI cJ bs o1 g0 g1 g2 g3 g4 g5 b1 b2 b3 n1 n2 n3 s1 s2 s3 s4 s5 s6 s7 a1 a2 h0 r2 r5 r6 r7 r10 r11 r12 r13 r15 r16 r17 r18 A hL hts hX hbl hbA hK hG hZ0 hA hiL (hcc hiL) (hss hiL) hI hl (kk hiL)
  · refine lv_tableIn (off := 322) (tgt := 362) hx hb dL_law_40 (by rw [h]; decide) (by rw [h]; decide) (by rw [h]; rfl) (by decide) ?_
    exact cs_pull hlt hx hb hml hown D cI cJ bs o1 g0 g1 g2 g3 g4 g5 b1 b2 b3 n1 n2 n3 s1 s2 s3 s4 s5 s6 s7 a1 a2 h0 r2 r5 r6 r7 r10 r11 r12 r13 r15 r16 r17 r18 A hL hts hX hbl hbA hK hG hZ0 hA hiL (hcc hiL) (hss hiL) hI hl (kk hiL)
  · refine lv_tableIn (off := 389) (tgt := 429) hx hb dL_law_40 (by rw [h]; decide) (by rw [h]; decide) (by rw [h]; rfl) (by decide) ?_
    exact cs_pullAnew hlt hx hb hml hown D cI cJ bs o1 g0 g1 g2 g3 g4 g5 b1 b2 b3 n1 n2 n3 s1 s2 s3 s4 s5 s6 s7 a1 a2 h0 r2 r5 r6 r7 r10 r11 r12 r13 r15 r16 r17 r18 A hL hts hX hbl hbA hK hG hZ0 hA hiL (hcc hiL) (hss hiL) hI hl (kk hiL)
  · refine lv_tableIn (off := 456) (tgt := 496) hx hb dL_law_40 (by rw [h]; decide) (by rw [h]; decide) (by rw [h]; rfl) (by decide) ?_
    exact cs_gap hlt hx hb hml hown D cI cJ bs o1 g0 g1 g2 g3 g4 g5 b1 b2 b3 n1 n2 n3 s1 s2 s3 s4 s5 s6 s7 a1 a2 h0 r2 r5 r6 r7 r10 r11 r12 r13 r15 r16 r17 r18 A hL hts hX hbl hbA hK hG hZ0 hA hiL (hcc hiL) (hss hiL) hI hl (kk hiL)
  · refine lv_tableIn (off := 523) (tgt := 563) hx hb dL_law_40 (by rw [h]; decide) (by rw [h]; decide) (by rw [h]; rfl) (by decide) ?_
    exact cs_tide hlt hx hb hml hown D cI cJ bs o1 g0 g1 g2 g3 g4 g5 b1 b2 b3 n1 n2 n3 s1 s2 s3 s4 s5 s6 s7 a1 a2 h0 r2 r5 r6 r7 r10 r11 r12 r13 r15 r16 r17 r18 A hL hts hX hbl hbA hK hG hZ0 hA hiL (hcc hiL) (hss hiL) hI hl (kk hiL)
  · refine lv_tableIn (off := 591) (tgt := 631) hx hb dL_law_40 (by rw [h]; decide) (by rw [h]; decide) (by rw [h]; rfl) (by decide) ?_
    exact cs_pass hlt hx hb hml hown D cI cJ bs o1 g0 g1 g2 g3 g4 g5 b1 b2 b3 n1 n2 n3 s1 s2 s3 s4 s5 s6 s7 a1 a2 h0 r2 r5 r6 r7 r10 r11 r12 r13 r15 r16 r17 r18 A hL hts hX hbl hbA hK hG hZ0 hA hiL (hcc hiL) (hss hiL) hI hl (kk hiL)
  · refine lv_tableIn (off := 647) (tgt := 687) hx hb dL_law_40 (by rw [h]; decide) (by rw [h]; decide) (by rw [h]; rfl) (by decide) ?_
    exact cs_needle hlt hx hb hml hown D cI cJ bs o1 g0 g1 g2 g3 g4 g5 b1 b2 b3 n1 n2 n3 s1 s2 s3 s4 s5 s6 s7 a1 a2 h0 r2 r5 r6 r7 r10 r11 r12 r13 r15 r16 r17 r18 A hL hts hX hbl hbA hK hG hZ0 hA hiL (hcc hiL) (hss hiL) hI hl (kk hiL)
  · refine lv_tableIn (off := 715) (tgt := 755) hx hb dL_law_40 (by rw [h]; decide) (by rw [h]; decide) (by rw [h]; rfl) (by decide) ?_
    exact cs_tie hlt hx hb hml hown D cI cJ bs o1 g0 g1 g2 g3 g4 g5 b1 b2 b3 n1 n2 n3 s1 s2 s3 s4 s5 s6 s7 a1 a2 h0 r2 r5 r6 r7 r10 r11 r12 r13 r15 r16 r17 r18 A hL hts hX hbl hbA hK hG hZ0 hA hiL (hcc hiL) (hss hiL) hI hl (kk hiL)
  · refine lv_tableIn (off := 770) (tgt := 810) hx hb dL_law_40 (by rw [h]; decide) (by rw [h]; decide) (by rw [h]; rfl) (by decide) ?_
    exact cs_read hlt hx hb hml hown D cI cJ bs o1 g0 g1 g2 g3 g4 g5 b1 b2 b3 n1 n2 n3 s1 s2 s3 s4 s5 s6 s7 a1 a2 h0 r2 r5 r6 r7 r10 r11 r12 r13 r15 r16 r17 r18 A hL hts hX hbl hbA hK hG hZ0 hA hiL (hcc hiL) (hss hiL) hI hl (kk hiL)
  · refine lv_tableIn (off := 849) (tgt := 889) hx hb dL_law_40 (by rw [h]; decide) (by rw [h]; decide) (by rw [h]; rfl) (by decide) ?_
    exact cs_benchmark hlt hx hb hml hown D cI cJ bs o1 g0 g1 g2 g3 g4 g5 b1 b2 b3 n1 n2 n3 s1 s2 s3 s4 s5 s6 s7 a1 a2 h0 r2 r5 r6 r7 r10 r11 r12 r13 r15 r16 r17 r18 A hL hts hX hbl hbA hK hG hZ0 hA hiL (hcc hiL) (hss hiL) hI hl (kk hiL)
  · refine lv_tableIn (off := 893) (tgt := 933) hx hb dL_law_40 (by rw [h]; decide) (by rw [h]; decide) (by rw [h]; rfl) (by decide) ?_
    exact cs_line hlt hx hb hml hown D cI cJ bs o1 g0 g1 g2 g3 g4 g5 b1 b2 b3 n1 n2 n3 s1 s2 s3 s4 s5 s6 s7 a1 a2 h0 r2 r5 r6 r7 r10 r11 r12 r13 r15 r16 r17 r18 A hL hts hX hbl hbA hK hG hZ0 hA hiL (hcc hiL) (hss hiL) hI hl (kk hiL)
  · refine lv_tableIn (off := 985) (tgt := 1025) hx hb dL_law_40 (by rw [h]; decide) (by rw [h]; decide) (by rw [h]; rfl) (by decide) ?_
    exact cs_height hlt hx hb hml hown D cI cJ bs o1 g0 g1 g2 g3 g4 g5 b1 b2 b3 n1 n2 n3 s1 s2 s3 s4 s5 s6 s7 a1 a2 h0 r2 r5 r6 r7 r10 r11 r12 r13 r15 r16 r17 r18 A hL hts hX hbl hbA hK hG hZ0 hA hiL (hcc hiL) (hss hiL) hI hl (kk hiL)
  · refine lv_tableIn (off := 1041) (tgt := 1081) hx hb dL_law_40 (by rw [h]; decide) (by rw [h]; decide) (by rw [h]; rfl) (by decide) ?_
    exact cs_doubt hlt hx hb hml hown D cI cJ bs o1 g0 g1 g2 g3 g4 g5 b1 b2 b3 n1 n2 n3 s1 s2 s3 s4 s5 s6 s7 a1 a2 h0 r2 r5 r6 r7 r10 r11 r12 r13 r15 r16 r17 r18 A hL hts hX hbl hbA hK hG hZ0 hA hiL (hcc hiL) (hss hiL) hI hl (kk hiL)
  · refine lv_tableIn (off := 1097) (tgt := 1137) hx hb dL_law_40 (by rw [h]; decide) (by rw [h]; decide) (by rw [h]; rfl) (by decide) ?_
    exact cs_doubtAnew hlt hx hb hml hown D cI cJ bs o1 g0 g1 g2 g3 g4 g5 b1 b2 b3 n1 n2 n3 s1 s2 s3 s4 s5 s6 s7 a1 a2 h0 r2 r5 r6 r7 r10 r11 r12 r13 r15 r16 r17 r18 A hL hts hX hbl hbA hK hG hZ0 hA hiL (hcc hiL) (hss hiL) hI hl (kk hiL)
  · refine lv_tableIn (off := 1153) (tgt := 1193) hx hb dL_law_40 (by rw [h]; decide) (by rw [h]; decide) (by rw [h]; rfl) (by decide) ?_
    exact cs_isInConflict hlt hx hb hml hown D cI cJ bs o1 g0 g1 g2 g3 g4 g5 b1 b2 b3 n1 n2 n3 s1 s2 s3 s4 s5 s6 s7 a1 a2 h0 r2 r5 r6 r7 r10 r11 r12 r13 r15 r16 r17 r18 A hL hts hX hbl hbA hK hG hZ0 hA hiL (hcc hiL) (hss hiL) hI hl (kk hiL)
  · refine lv_tableIn (off := 1216) (tgt := 1256) hx hb dL_law_40 (by rw [h]; decide) (by rw [h]; decide) (by rw [h]; rfl) (by decide) ?_
    exact cs_release hlt hx hb hml hown D cI cJ bs o1 g0 g1 g2 g3 g4 g5 b1 b2 b3 n1 n2 n3 s1 s2 s3 s4 s5 s6 s7 a1 a2 h0 r2 r5 r6 r7 r10 r11 r12 r13 r15 r16 r17 r18 A hL hts hX hbl hbA hK hG hZ0 hA hiL (hcc hiL) (hss hiL) hI hl (kk hiL)
  · refine lv_tableIn (off := 1260) (tgt := 1300) hx hb dL_law_40 (by rw [h]; decide) (by rw [h]; decide) (by rw [h]; rfl) (by decide) ?_
    exact cs_trend hlt hx hb hml hown D cI cJ bs o1 g0 g1 g2 g3 g4 g5 b1 b2 b3 n1 n2 n3 s1 s2 s3 s4 s5 s6 s7 a1 a2 h0 r2 r5 r6 r7 r10 r11 r12 r13 r15 r16 r17 r18 A hL hts hX hbl hbA hK hG hZ0 hA hiL (hcc hiL) (hss hiL) hI hl (kk hiL)
  · refine lv_tableOut (tgt := 1391) hx hb dL_law_40 h (by decide) ?_
    exact W.widen (k := cells + 1) (n := slots + 6) (by omega) (by omega) (kk hiL H locs ls hI hl)
set_option maxHeartbeats 4000000 in
set_option maxRecDepth 100000 in
theorem lw_loop {p : Program} {l : Launch} {e : Env} {s : State} {m : MethodId} {below : List Frame} {meth : Method} {c : Code} (hlt : l.stackTraces = false) (hx : p.tables.exec = Jvm.exec) (hb : c.code = cL_law) (hml : c.maxLocals = 8) (hown : s.vm.findClass RL = some m.cls) (D : va_G) (cI cJ : ClassId) (bs o1 g0 g1 g2 g3 g4 g5 b1 b2 b3 n1 n2 n3 s1 s2 s3 s4 s5 s6 s7 a1 a2 h0 r2 r5 r6 r7 r10 r11 r12 r13 r15 r16 r17 r18 : Nat) (A : Nat → Prop) {L : Nat} {xs : Nat → Int32} (hL : L ≤ 3072) (hts : ∀ w ∈ wsL_law, w.before #[Value.ref bs] s = true) (hX : va_X bs L xs s s.heap) (hbl : bs < s.heap.size) (hbA : ¬ A bs) (hK : va_K D vwCl [(cI, .int), (cJ, .long)] s) (hG : GW s) (hZ0 : GZ A s s.heap) (hA : ∀ q : Nat, s.heap.size ≤ q → A q) {Q : State → Prop} (kx : ∀ (H : Heap) (locs : List Loc) (ls : Array Slot) (cells slots : Nat), cells ≤ 1068 → slots ≤ 10708 → va_S A s.heap H locs → W p l e room_1 s m #[Value.ref bs] below meth c H locs cells slots Q (F0 m 1397 ls [])) : ∀ (k tn : Nat) (H : Heap) (locs : List Loc) (ls : Array Slot), tn + k = 512 → gv_LS D cI cJ bs o1 g0 g1 g2 g3 g4 g5 b1 b2 b3 n1 n2 n3 s1 s2 s3 s4 s5 s6 s7 a1 a2 h0 r2 r5 r6 r7 r10 r11 r12 r13 r15 r16 r17 r18 A s H locs → lv_has ls 8 [(0, .ref bs), (1, .ref g0), (2, .ref h0), (3, .ref o1), (4, .int (nI (6 * tn)))] → W p l e room_1 s m #[Value.ref bs] below meth c H locs (35 + tn) (2462 + 6 * tn) Q (F0 m 23 ls []) := by
  intro k
  induction k with
  | zero =>
    intro tn H locs ls hk hI hl
    exact lw_head hlt hx hb hml hown D cI cJ bs o1 g0 g1 g2 g3 g4 g5 b1 b2 b3 n1 n2 n3 s1 s2 s3 s4 s5 s6 s7 a1 a2 h0 r2 r5 r6 r7 r10 r11 r12 r13 r15 r16 r17 r18 A hL hts hX hbl hbA hK hG hZ0 hA (i := 6 * tn) (by omega) (fun z => by omega) (fun z => by omega) (by omega) (by omega) hI hl kx (fun z => absurd z (by omega))
  | succ k ih =>
    intro tn H locs ls hk hI hl
    refine lw_head hlt hx hb hml hown D cI cJ bs o1 g0 g1 g2 g3 g4 g5 b1 b2 b3 n1 n2 n3 s1 s2 s3 s4 s5 s6 s7 a1 a2 h0 r2 r5 r6 r7 r10 r11 r12 r13 r15 r16 r17 r18 A hL hts hX hbl hbA hK hG hZ0 hA (i := 6 * tn) (by omega) (fun z => by omega) (fun z => by omega) (by omega) (by omega) hI hl kx (fun z H locs ls hI hl => ?_)
    refine lv_iinc (v := nI (6 * tn + 6)) (lv' := [(4, .int (nI (6 * tn + 6))), (0, .ref bs), (1, .ref g0), (2, .ref h0), (3, .ref o1)]) hx hb dL_law_1391 hl (k := 4) rfl (nI_add (6 * tn) 6) (by decide) rfl (fun ls hl => ?_)
    refine lv_goto (tgt := 23) hx hb dL_law_1394 (by decide) ?_
    have e6 : 6 * tn + 6 = 6 * (tn + 1) := by omega
    have hl2 : lv_has ls 8 [(0, .ref bs), (1, .ref g0), (2, .ref h0), (3, .ref o1), (4, .int (nI (6 * tn + 6)))] := lv_sub hl [1, 2, 3, 4, 0] rfl
    rw [e6] at hl2
    exact ih (tn + 1) H locs ls (by omega) hI hl2
