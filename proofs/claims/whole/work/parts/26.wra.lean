section GVH
variable {p : Program} {l : Launch} {e : Env} {R : Room} {s : State} {m : MethodId} {args : Array Value} {below : List Frame} {meth : Method} {c : Code} {H : Heap} {locs : List Loc} {cells slots : Nat} {pc mc ms : Nat} {ls : Array Slot} {st0 rest : List Value} {Q : State → Prop} {D : va_G} {ws wc wr : va_W} {A : Nat → Prop} {a : Array Value}
theorem gv_hi {S S2 : Type} {post : Int32 → S → Prop} {w1 w2 : S → va_W} {w3 w4 : S2 → va_W} {BX : String → Prop} {BW : String → S2 → State → Prop} (hr : vx_Run p l e R s m args below meth c H locs cells slots mc ms (F0 m pc ls st0) rest (va_Qi post (fun u t => gv_W D (va_A wc H.size) (w1 u) t) (va_A wc H.size) a) (vx_X (fun _ : S2 => True) BW (va_A wc H.size)) (va_A wc H.size)) (hP : va_P D vwCl ws H) (hD : va_D A ws) (hS : va_S A s.heap H locs) (hA : ∀ q, s.heap.size ≤ q → A q)
    (isC isR isO : List Nat) (hC : isC.map (fun i => ws[i]?) = wc.map some) (hR : isR.map (fun i => ws[i]?) = wr.map some) (hn : va_nd isR = true) (hdis : ∀ i ∈ isR, i ∉ isC) (hO : ∀ u, isO.map (fun i => (wr ++ w1 u)[i]?) = (w2 u).map some) (hnO : va_nd isO = true)
    (hBW : ∀ E u t, BW E u t → BX E ∧ gv_W D (va_A wc H.size) (w3 u) t) (hO2 : ∀ u, isO.map (fun i => (wr ++ w3 u)[i]?) = (w4 u).map some)
    (kx : ∀ (E : String) (ce : Cell) (q9 : Addr) (u : S2) (H1 : Heap) (locs1 : List Loc), BX E → va_P D vwCl (w4 u) H1 → va_D A (w4 u) → va_S A s.heap H1 locs1 → H1[q9]? = some ce → ce.vm = .none → s.vm.findClass E = some ce.cls → vx_W p l e R s m args below meth c H1 locs1 (cells + mc) (slots + ms) Q (F0 m pc ls rest) q9)
    (kk : ∀ (r : Int32) (u : S) (H1 : Heap) (locs1 : List Loc), post r u → va_P D vwCl (w2 u) H1 → va_D A (w2 u) → va_S A s.heap H1 locs1 → W p l e R s m args below meth c H1 locs1 (cells + mc) (slots + ms) Q (F0 m (pc + 3) ls (.int r :: rest))) : W p l e R s m args below meth c H locs cells slots Q (F0 m pc ls st0) := by
  have hFc := va_free hD hS hA isC hC
  intro T hT X
  rcases hr T hT X with ⟨v, st₀, t, T', L, h0, X', hL, e1, e2, ⟨⟨r, u, hv, hp, hB⟩, hF⟩, st⟩ | ⟨q, st₀, t, T', L, E, ce, h0, X', hL, e1, e2, ⟨u, -, hx, hF⟩, hce, hcv, hcl, st⟩
  · cases hv
    obtain ⟨k1, k2, k3⟩ := vx_keep h0 e1 hS (fun q _ h => hFc q h) hFc hL hF
    obtain ⟨hP1, hD1⟩ := hB
    rw [← e1] at hP1
    obtain ⟨hP2, hD2⟩ := va_join hP hD isC isR hC hR hn hdis k2 hFc hP1 hD1
    obtain ⟨t2, a1, b1⟩ := kk r u T'.heap (locs ++ L) hp (gv_Psub hP2 isO (hO u)) (hD2.sub isO hnO (hO u)) k3 T' rfl X'
    exact ⟨t2, st t2 a1, b1⟩
  · obtain ⟨k1, k2, k3⟩ := vx_keep h0 e1 hS (fun q _ h => hFc q h) hFc hL hF
    obtain ⟨hb, hP1, hD1⟩ := hBW E u t hx
    rw [← e1] at hP1
    obtain ⟨hP2, hD2⟩ := va_join hP hD isC isR hC hR hn hdis k2 hFc hP1 hD1
    obtain ⟨t2, a1, b1⟩ := kx E ce q u T'.heap (locs ++ L) hb (gv_Psub hP2 isO (hO2 u)) (hD2.sub isO hnO (hO2 u)) k3 (by rw [e1]; exact hce) hcv hcl T' rfl X'
    exact ⟨t2, st.trans a1, b1⟩
end GVH
set_option maxHeartbeats 4000000 in
set_option maxRecDepth 100000 in
theorem ct_L_mass (l : Launch) (hlt : l.stackTraces = false) (D : va_G) (cI cJ : ClassId) (sz : Nat) (g0 g1 g2 g3 g4 g5 mo : Nat)(b1 b2 b3 : Nat) (fM fP : Nat → Int64) (x y la : Int32) (its : Int64) (o1 : Nat) (fO : Nat → Int64)  : Met l yL_mass wsL_mass ({ frames := 8, cells := 1, slots := 6, locals := 140 }) (va_Pc [.ref g0, .int x, .int y, .int la, .long its, .ref o1] (gv_Z D cI cJ [(g0, .inr (5, [.ref g1, .ref g2, .ref g3, .ref g4, .ref g5, .int (nI mo)])), (g1, .inr (1, [.ref b1, .ref b2, .ref b3])), (b1, .inl (cJ, 192, .inr (.inl fM))), (b3, .inl (cJ, 64, .inr (.inl fP))), (o1, .inl (cJ, 1, .inr (.inl fO)))] sz)) (va_Qi (fun (r9 : Int32) (u9 : (Nat → Int64) × (Nat → Int64) × (Nat → Int64)) => match u9 with | (fM9, fP9, fO9) => r9 = gv_02 (vp_in x 8 ∧ vp_in y 8 ∧ vp_in la 3) (0 ≤ its ∧ its ≤ 40000000000) ∧ (∀ a b k, a < 8 → b < 8 → k < 3 → x = nI a → y = nI b → la = nI k → (0 ≤ its ∧ its ≤ 40000000000) → fM9 = vp_updL fM (k * 64 + (b * 8 + a)) its ∧ fP9 = gv_chg fP (fun j => gv_pt its a b k j - gv_pt (fM (k * 64 + (b * 8 + a))) a b k j) 64 ∧ fO9 = vp_updL fO 0 (fM (k * 64 + (b * 8 + a)))) ∧ (¬ gv_02 (vp_in x 8 ∧ vp_in y 8 ∧ vp_in la 3) (0 ≤ its ∧ its ≤ 40000000000) = 0 → fM9 = fM ∧ fP9 = fP ∧ fO9 = fO)) (fun (u9 : (Nat → Int64) × (Nat → Int64) × (Nat → Int64)) t9 => gv_W D (va_A [(g0, .inr (5, [.ref g1, .ref g2, .ref g3, .ref g4, .ref g5, .int (nI mo)])), (g1, .inr (1, [.ref b1, .ref b2, .ref b3])), (b1, .inl (cJ, 192, .inr (.inl fM))), (b3, .inl (cJ, 64, .inr (.inl fP))), (o1, .inl (cJ, 1, .inr (.inl fO)))] sz) (match u9 with | (fM9, fP9, fO9) => [(g0, .inr (5, [.ref g1, .ref g2, .ref g3, .ref g4, .ref g5, .int (nI mo)])), (g1, .inr (1, [.ref b1, .ref b2, .ref b3])), (b1, .inl (cJ, 192, .inr (.inl fM9))), (b3, .inl (cJ, 64, .inr (.inl fP9))), (o1, .inl (cJ, 1, .inr (.inl fO9)))]) t9) (va_A [(g0, .inr (5, [.ref g1, .ref g2, .ref g3, .ref g4, .ref g5, .int (nI mo)])), (g1, .inr (1, [.ref b1, .ref b2, .ref b3])), (b1, .inl (cJ, 192, .inr (.inl fM))), (b3, .inl (cJ, 64, .inr (.inl fP))), (o1, .inl (cJ, 1, .inr (.inl fO)))] sz)) 1 6 (va_A [(g0, .inr (5, [.ref g1, .ref g2, .ref g3, .ref g4, .ref g5, .int (nI mo)])), (g1, .inr (1, [.ref b1, .ref b2, .ref b3])), (b1, .inl (cJ, 192, .inr (.inl fM))), (b3, .inl (cJ, 64, .inr (.inl fP))), (o1, .inl (cJ, 1, .inr (.inl fO)))] sz) := by
  refine va_MetW (cc := cL_mass) (maxL := 8) (ret := (some .int)) (hh := [(0, 13, 16, 13), (0, 13, 20, 15)]) (by decide) rfl ?_
  intro p e s m args below meth c s₁ B hml hv
  obtain ⟨rfl, ⟨hsz, hP, hK, hD0, hG⟩, hZ0⟩ := hv
  have hx := B.exec
  have hb := B.bytes
  have hr := B.returns
  have hts := atoms_spec (ws := wsL_mass) B.pre
  have hown : s.vm.findClass RL = some m.cls := findClass_of_methodNamed B.named
  have hlocks := B.notSynchronized
  have htab : c.exceptionTable.toList = tableOf [(0, 13, 16, 13), (0, 13, 20, 15)] := vx_table (x := yL_mass) B (hts _ List.mem_cons_self)
  subst hsz
  have hD := hD0.self (sz := s.heap.size)
  generalize hAe : va_A [(g0, .inr (5, [.ref g1, .ref g2, .ref g3, .ref g4, .ref g5, .int (nI mo)])), (g1, .inr (1, [.ref b1, .ref b2, .ref b3])), (b1, .inl (cJ, 192, .inr (.inl fM))), (b3, .inl (cJ, 64, .inr (.inl fP))), (o1, .inl (cJ, 1, .inr (.inl fO)))] s.heap.size = A at hD hZ0 ⊢
  have hA : ∀ q : Nat, s.heap.size ≤ q → A q := fun q h => by rw [← hAe]; exact Or.inr h
  have hS : va_S A s.heap s.heap [] := va_S.rf
  have hP : va_P D vwCl [(g0, .inr (5, [.ref g1, .ref g2, .ref g3, .ref g4, .ref g5, .int (nI mo)])), (g1, .inr (1, [.ref b1, .ref b2, .ref b3])), (b1, .inl (cJ, 192, .inr (.inl fM))), (b3, .inl (cJ, 64, .inr (.inl fP))), (o1, .inl (cJ, 1, .inr (.inl fO)))] s.heap := hP
  have hl := lv_entry ([.ref g0, .int x, .int y, .int la, .long its, .ref o1]) (n := 8) (Nat.le_of_ble_eq_true rfl)
  rw [lg_entry_eq]
  generalize (lg_sl ([.ref g0, .int x, .int y, .int la, .long its, .ref o1]) ++ List.replicate (8 - (lg_sl ([.ref g0, .int x, .int y, .int la, .long its, .ref o1])).length) Slot.unset).toArray = ls at hl ⊢
  have hl : lv_has ls 8 [(0, .ref g0), (1, .int x), (2, .int y), (3, .int la), (4, .long its), (6, .ref o1)] := hl
  refine lv_aload hx hb dL_mass_0 (lv_at hl 5 rfl) ?_
  refine lv_iconst (v := nI 0) hx hb dL_mass_2 (by decide) ?_
  refine lv_aload_n hx hb dL_mass_3 rfl (lv_at hl 0 rfl) ?_
  refine lv_iload_n hx hb dL_mass_4 rfl (lv_at hl 1 rfl) ?_
  refine lv_iload_n hx hb dL_mass_5 rfl (lv_at hl 2 rfl) ?_
  refine lv_iload_n hx hb dL_mass_6 rfl (lv_at hl 3 rfl) ?_
  refine lv_lload hx hb dL_mass_7 (lv_at hl 4 rfl) ?_
  refine gv_tl (wc := [(g0, .inr (5, [.ref g1, .ref g2, .ref g3, .ref g4, .ref g5, .int (nI mo)])), (g1, .inr (1, [.ref b1, .ref b2, .ref b3])), (b1, .inl (cJ, 192, .inr (.inl fM))), (b3, .inl (cJ, 64, .inr (.inl fP)))]) (wr := [(o1, .inl (cJ, 1, .inr (.inl fO)))]) (w2 := (fun u => match u with | (a, b, k) => [(g0, .inr (5, [.ref g1, .ref g2, .ref g3, .ref g4, .ref g5, .int (nI mo)])), (g1, .inr (1, [.ref b1, .ref b2, .ref b3])), (b1, .inl (cJ, 192, .inr (.inl (vp_updL fM (k * 64 + (b * 8 + a)) its)))), (b3, .inl (cJ, 64, .inr (.inl (gv_chg fP (fun j => gv_pt its a b k j - gv_pt (fM (k * 64 + (b * 8 + a))) a b k j) 64)))), (o1, .inl (cJ, 1, .inr (.inl fO)))])) (vx_runV (As := [.int x, .int y, .int la, .long its]) (rest := [.int (nI 0), .ref o1]) ⟨hx, hb, hml, hown, hts⟩ (ct_X5_mass l hlt D cI cJ s.heap.size g0 g1 g2 g3 g4 g5 mo b1 b2 b3 fM fP x y la its) (cwV 4 hts gL_mass_X5_mass rfl rfl rfl (by decide +kernel) ⟨Nat.le_of_ble_eq_true rfl, Nat.le_of_ble_eq_true rfl⟩) (gv_pVZ (wc := [(g0, .inr (5, [.ref g1, .ref g2, .ref g3, .ref g4, .ref g5, .int (nI mo)])), (g1, .inr (1, [.ref b1, .ref b2, .ref b3])), (b1, .inl (cJ, 192, .inr (.inl fM))), (b3, .inl (cJ, 64, .inr (.inl fP)))]) hP hK hD hG (hZ0.kept hS.2.1) (va_free hD hS hA [0, 1, 2, 3] rfl) [0, 1, 2, 3] rfl (by decide) 0 rfl rfl rfl) rfl rfl hl.1 rfl (lv_room (Nat.le_of_ble_eq_true rfl)) dL_mass_9 ⟨Nat.le_of_ble_eq_true rfl, Nat.le_of_ble_eq_true rfl⟩) hP hD hS hA [0, 1, 2, 3] [4] [1, 2, 3, 4, 0] rfl rfl (by decide) (by decide) (fun u => by obtain ⟨a, b, k⟩ := u; rfl) (by decide) (fun E ce q9 H locs hBX hP hS hce hcv hcl => ?_) (fun rv u H locs hrp hP hD hS => ?_)
  · skip
    rcases hBX with ⟨rfl, hXI⟩ | ⟨rfl, hXA⟩
    · skip
      refine vx_catch (name := gv_eI) hown [] ⟨0, 13, 16, 13⟩ [⟨0, 13, 20, 15⟩] (htab.trans rfl) (fun _ h => absurd h List.not_mem_nil) rfl (by decide) (hts (.classLink RL 13 gv_eI) (by decide +kernel)) ((gv_ca_I hG).use rfl) hce hcv hcl ?_
      refine W.eq (g2 := F0 m 16 ls [.ref q9]) rfl ?_
      refine lv_astore (lv' := [(7, .ref q9), (0, .ref g0), (1, .int x), (2, .int y), (3, .int la), (4, .long its), (6, .ref o1)]) hx hb dL_mass_16 hl (by decide) rfl (fun ls hl => ?_)
      refine lv_iconst (v := nI 1) hx hb dL_mass_18 (by decide) ?_
      have hpo : match (fM, fP, fO) with | (fM9, fP9, fO9) => (nI 1) = gv_02 (vp_in x 8 ∧ vp_in y 8 ∧ vp_in la 3) (0 ≤ its ∧ its ≤ 40000000000) ∧ (∀ a b k, a < 8 → b < 8 → k < 3 → x = nI a → y = nI b → la = nI k → (0 ≤ its ∧ its ≤ 40000000000) → fM9 = vp_updL fM (k * 64 + (b * 8 + a)) its ∧ fP9 = gv_chg fP (fun j => gv_pt its a b k j - gv_pt (fM (k * 64 + (b * 8 + a))) a b k j) 64 ∧ fO9 = vp_updL fO 0 (fM (k * 64 + (b * 8 + a)))) ∧ (¬ gv_02 (vp_in x 8 ∧ vp_in y 8 ∧ vp_in la 3) (0 ≤ its ∧ its ≤ 40000000000) = 0 → fM9 = fM ∧ fP9 = fP ∧ fO9 = fO) := by
        exact ⟨gv_02a hXI, fun a b k ha hb hk ea eb ek _ => absurd ⟨by rw [ea]; exact vp_in_nI ha (by decide), by rw [eb]; exact vp_in_nI hb (by decide), by rw [ek]; exact vp_in_nI hk (by decide)⟩ hXI, fun _ => ⟨rfl, rfl, rfl⟩⟩
      have hP9 : va_P D vwCl [(g0, .inr (5, [.ref g1, .ref g2, .ref g3, .ref g4, .ref g5, .int (nI mo)])), (g1, .inr (1, [.ref b1, .ref b2, .ref b3])), (b1, .inl (cJ, 192, .inr (.inl fM))), (b3, .inl (cJ, 64, .inr (.inl fP))), (o1, .inl (cJ, 1, .inr (.inl fO)))] H := hP
      have hD9 : va_D A [(g0, .inr (5, [.ref g1, .ref g2, .ref g3, .ref g4, .ref g5, .int (nI mo)])), (g1, .inr (1, [.ref b1, .ref b2, .ref b3])), (b1, .inl (cJ, 192, .inr (.inl fM))), (b3, .inl (cJ, 64, .inr (.inl fP))), (o1, .inl (cJ, 1, .inr (.inl fO)))] := hD
      exact W.iret (v := nI 1) hx hb hr (fun t9 ht9 hW9 => ⟨⟨(nI 1), (fM, fP, fO), rfl, hpo, by rw [ht9]; exact hP9, hD9⟩, hS.F ht9⟩) hS.2.2 dL_mass_19
    · skip
      refine vx_catch (name := gv_eA) hown [⟨0, 13, 16, 13⟩] ⟨0, 13, 20, 15⟩ [] (htab.trans rfl) (List.forall_mem_cons.mpr ⟨Or.inr ⟨by decide, gv_eI, (hts (.classLink RL 13 gv_eI) (by decide +kernel)), gv_nc_AI hG⟩, (fun z h => absurd h List.not_mem_nil)⟩) rfl (by decide) (hts (.classLink RL 15 gv_eA) (by decide +kernel)) ((gv_ca_A hG).use rfl) hce hcv hcl ?_
      refine W.eq (g2 := F0 m 20 ls [.ref q9]) rfl ?_
      refine lv_astore (lv' := [(7, .ref q9), (0, .ref g0), (1, .int x), (2, .int y), (3, .int la), (4, .long its), (6, .ref o1)]) hx hb dL_mass_20 hl (by decide) rfl (fun ls hl => ?_)
      refine lv_iconst (v := nI 2) hx hb dL_mass_22 (by decide) ?_
      have hpo : match (fM, fP, fO) with | (fM9, fP9, fO9) => (nI 2) = gv_02 (vp_in x 8 ∧ vp_in y 8 ∧ vp_in la 3) (0 ≤ its ∧ its ≤ 40000000000) ∧ (∀ a b k, a < 8 → b < 8 → k < 3 → x = nI a → y = nI b → la = nI k → (0 ≤ its ∧ its ≤ 40000000000) → fM9 = vp_updL fM (k * 64 + (b * 8 + a)) its ∧ fP9 = gv_chg fP (fun j => gv_pt its a b k j - gv_pt (fM (k * 64 + (b * 8 + a))) a b k j) 64 ∧ fO9 = vp_updL fO 0 (fM (k * 64 + (b * 8 + a)))) ∧ (¬ gv_02 (vp_in x 8 ∧ vp_in y 8 ∧ vp_in la 3) (0 ≤ its ∧ its ≤ 40000000000) = 0 → fM9 = fM ∧ fP9 = fP ∧ fO9 = fO) := by
        exact ⟨gv_02b hXA.1 hXA.2, fun a b k ha hb hk ea eb ek z => absurd z hXA.2, fun _ => ⟨rfl, rfl, rfl⟩⟩
      have hP9 : va_P D vwCl [(g0, .inr (5, [.ref g1, .ref g2, .ref g3, .ref g4, .ref g5, .int (nI mo)])), (g1, .inr (1, [.ref b1, .ref b2, .ref b3])), (b1, .inl (cJ, 192, .inr (.inl fM))), (b3, .inl (cJ, 64, .inr (.inl fP))), (o1, .inl (cJ, 1, .inr (.inl fO)))] H := hP
      have hD9 : va_D A [(g0, .inr (5, [.ref g1, .ref g2, .ref g3, .ref g4, .ref g5, .int (nI mo)])), (g1, .inr (1, [.ref b1, .ref b2, .ref b3])), (b1, .inl (cJ, 192, .inr (.inl fM))), (b3, .inl (cJ, 64, .inr (.inl fP))), (o1, .inl (cJ, 1, .inr (.inl fO)))] := hD
      exact W.iret (v := nI 2) hx hb hr (fun t9 ht9 hW9 => ⟨⟨(nI 2), (fM, fP, fO), rfl, hpo, by rw [ht9]; exact hP9, hD9⟩, hS.F ht9⟩) hS.2.2 dL_mass_23
  obtain ⟨a, b, k⟩ := u
  have hP : va_P D vwCl [(g0, .inr (5, [.ref g1, .ref g2, .ref g3, .ref g4, .ref g5, .int (nI mo)])), (g1, .inr (1, [.ref b1, .ref b2, .ref b3])), (b1, .inl (cJ, 192, .inr (.inl (vp_updL fM (k * 64 + (b * 8 + a)) its)))), (b3, .inl (cJ, 64, .inr (.inl (gv_chg fP (fun j => gv_pt its a b k j - gv_pt (fM (k * 64 + (b * 8 + a))) a b k j) 64)))), (o1, .inl (cJ, 1, .inr (.inl fO)))] H := hP
  have hD : va_D A [(g0, .inr (5, [.ref g1, .ref g2, .ref g3, .ref g4, .ref g5, .int (nI mo)])), (g1, .inr (1, [.ref b1, .ref b2, .ref b3])), (b1, .inl (cJ, 192, .inr (.inl (vp_updL fM (k * 64 + (b * 8 + a)) its)))), (b3, .inl (cJ, 64, .inr (.inl (gv_chg fP (fun j => gv_pt its a b k j - gv_pt (fM (k * 64 + (b * 8 + a))) a b k j) 64)))), (o1, .inl (cJ, 1, .inr (.inl fO)))] := hD
  dsimp only at hrp
  refine gv_ls hx hb hK hP hD hS 4 (k := 0) rfl (by omega) (by decide) dL_mass_12 (fun H locs hP hD hS => ?_)
  have hP : va_P D vwCl [(g0, .inr (5, [.ref g1, .ref g2, .ref g3, .ref g4, .ref g5, .int (nI mo)])), (g1, .inr (1, [.ref b1, .ref b2, .ref b3])), (b1, .inl (cJ, 192, .inr (.inl (vp_updL fM (k * 64 + (b * 8 + a)) its)))), (b3, .inl (cJ, 64, .inr (.inl (gv_chg fP (fun j => gv_pt its a b k j - gv_pt (fM (k * 64 + (b * 8 + a))) a b k j) 64)))), (o1, .inl (cJ, 1, .inr (.inl (vp_updL fO 0 rv))))] H := hP
  have hD : va_D A [(g0, .inr (5, [.ref g1, .ref g2, .ref g3, .ref g4, .ref g5, .int (nI mo)])), (g1, .inr (1, [.ref b1, .ref b2, .ref b3])), (b1, .inl (cJ, 192, .inr (.inl (vp_updL fM (k * 64 + (b * 8 + a)) its)))), (b3, .inl (cJ, 64, .inr (.inl (gv_chg fP (fun j => gv_pt its a b k j - gv_pt (fM (k * 64 + (b * 8 + a))) a b k j) 64)))), (o1, .inl (cJ, 1, .inr (.inl (vp_updL fO 0 rv))))] := hD
  refine lv_goto (tgt := 24) hx hb dL_mass_13 (by decide) ?_
  refine lv_iconst (v := nI 0) hx hb dL_mass_24 (by decide) ?_
  have hpo : match (vp_updL fM (k * 64 + (b * 8 + a)) its, gv_chg fP (fun j => gv_pt its a b k j - gv_pt (fM (k * 64 + (b * 8 + a))) a b k j) 64, vp_updL fO 0 rv) with | (fM9, fP9, fO9) => (nI 0) = gv_02 (vp_in x 8 ∧ vp_in y 8 ∧ vp_in la 3) (0 ≤ its ∧ its ≤ 40000000000) ∧ (∀ a b k, a < 8 → b < 8 → k < 3 → x = nI a → y = nI b → la = nI k → (0 ≤ its ∧ its ≤ 40000000000) → fM9 = vp_updL fM (k * 64 + (b * 8 + a)) its ∧ fP9 = gv_chg fP (fun j => gv_pt its a b k j - gv_pt (fM (k * 64 + (b * 8 + a))) a b k j) 64 ∧ fO9 = vp_updL fO 0 (fM (k * 64 + (b * 8 + a)))) ∧ (¬ gv_02 (vp_in x 8 ∧ vp_in y 8 ∧ vp_in la 3) (0 ≤ its ∧ its ≤ 40000000000) = 0 → fM9 = fM ∧ fP9 = fP ∧ fO9 = fO) := by
    obtain ⟨ha, hb, hk, ea, eb, ek, hr0, hv⟩ := hrp
    have hth := gv_02c (p := (vp_in x 8 ∧ vp_in y 8 ∧ vp_in la 3)) (q := (0 ≤ its ∧ its ≤ 40000000000)) ⟨by rw [ea]; exact vp_in_nI ha (by decide), by rw [eb]; exact vp_in_nI hb (by decide), by rw [ek]; exact vp_in_nI hk (by decide)⟩ hr0
    refine ⟨hth, fun a2 b2 k2 _ _ _ ea2 eb2 ek2 _ => ?_, fun z => absurd hth.symm z⟩
    cases gv_inj (ea2.symm.trans ea) (by omega) (by omega)
    cases gv_inj (eb2.symm.trans eb) (by omega) (by omega)
    cases gv_inj (ek2.symm.trans ek) (by omega) (by omega)
    exact ⟨rfl, rfl, by rw [hv]⟩
  have hP9 : va_P D vwCl [(g0, .inr (5, [.ref g1, .ref g2, .ref g3, .ref g4, .ref g5, .int (nI mo)])), (g1, .inr (1, [.ref b1, .ref b2, .ref b3])), (b1, .inl (cJ, 192, .inr (.inl (vp_updL fM (k * 64 + (b * 8 + a)) its)))), (b3, .inl (cJ, 64, .inr (.inl (gv_chg fP (fun j => gv_pt its a b k j - gv_pt (fM (k * 64 + (b * 8 + a))) a b k j) 64)))), (o1, .inl (cJ, 1, .inr (.inl (vp_updL fO 0 rv))))] H := hP
  have hD9 : va_D A [(g0, .inr (5, [.ref g1, .ref g2, .ref g3, .ref g4, .ref g5, .int (nI mo)])), (g1, .inr (1, [.ref b1, .ref b2, .ref b3])), (b1, .inl (cJ, 192, .inr (.inl (vp_updL fM (k * 64 + (b * 8 + a)) its)))), (b3, .inl (cJ, 64, .inr (.inl (gv_chg fP (fun j => gv_pt its a b k j - gv_pt (fM (k * 64 + (b * 8 + a))) a b k j) 64)))), (o1, .inl (cJ, 1, .inr (.inl (vp_updL fO 0 rv))))] := hD
  exact W.iret (v := nI 0) hx hb hr (fun t9 ht9 hW9 => ⟨⟨(nI 0), (vp_updL fM (k * 64 + (b * 8 + a)) its, gv_chg fP (fun j => gv_pt its a b k j - gv_pt (fM (k * 64 + (b * 8 + a))) a b k j) 64, vp_updL fO 0 rv), rfl, hpo, by rw [ht9]; exact hP9, hD9⟩, hS.F ht9⟩) hS.2.2 dL_mass_25
set_option maxHeartbeats 4000000 in
set_option maxRecDepth 100000 in
theorem ct_L_water (l : Launch) (hlt : l.stackTraces = false) (D : va_G) (cI cJ : ClassId) (sz : Nat) (g0 g1 g2 g3 g4 g5 mo : Nat)(b1 b2 b3 : Nat) (fW fP : Nat → Int64) (x y : Int32) (its : Int64) (o1 : Nat) (fO : Nat → Int64)  : Met l yL_water wsL_water ({ frames := 8, cells := 1, slots := 6, locals := 139 }) (va_Pc [.ref g0, .int x, .int y, .long its, .ref o1] (gv_Z D cI cJ [(g0, .inr (5, [.ref g1, .ref g2, .ref g3, .ref g4, .ref g5, .int (nI mo)])), (g1, .inr (1, [.ref b1, .ref b2, .ref b3])), (b2, .inl (cJ, 64, .inr (.inl fW))), (b3, .inl (cJ, 64, .inr (.inl fP))), (o1, .inl (cJ, 1, .inr (.inl fO)))] sz)) (va_Qi (fun (r9 : Int32) (u9 : (Nat → Int64) × (Nat → Int64) × (Nat → Int64)) => match u9 with | (fW9, fP9, fO9) => r9 = gv_02 (vp_in x 8 ∧ vp_in y 8) (0 ≤ its ∧ its ≤ 1000000000) ∧ (∀ a b, a < 8 → b < 8 → x = nI a → y = nI b → (0 ≤ its ∧ its ≤ 1000000000) → fW9 = vp_updL fW (b * 8 + a) its ∧ fP9 = gv_chg fP (fun j => gv_pt its a b 0 j - gv_pt (fW (b * 8 + a)) a b 0 j) 64 ∧ fO9 = vp_updL fO 0 (fW (b * 8 + a))) ∧ (¬ gv_02 (vp_in x 8 ∧ vp_in y 8) (0 ≤ its ∧ its ≤ 1000000000) = 0 → fW9 = fW ∧ fP9 = fP ∧ fO9 = fO)) (fun (u9 : (Nat → Int64) × (Nat → Int64) × (Nat → Int64)) t9 => gv_W D (va_A [(g0, .inr (5, [.ref g1, .ref g2, .ref g3, .ref g4, .ref g5, .int (nI mo)])), (g1, .inr (1, [.ref b1, .ref b2, .ref b3])), (b2, .inl (cJ, 64, .inr (.inl fW))), (b3, .inl (cJ, 64, .inr (.inl fP))), (o1, .inl (cJ, 1, .inr (.inl fO)))] sz) (match u9 with | (fW9, fP9, fO9) => [(g0, .inr (5, [.ref g1, .ref g2, .ref g3, .ref g4, .ref g5, .int (nI mo)])), (g1, .inr (1, [.ref b1, .ref b2, .ref b3])), (b2, .inl (cJ, 64, .inr (.inl fW9))), (b3, .inl (cJ, 64, .inr (.inl fP9))), (o1, .inl (cJ, 1, .inr (.inl fO9)))]) t9) (va_A [(g0, .inr (5, [.ref g1, .ref g2, .ref g3, .ref g4, .ref g5, .int (nI mo)])), (g1, .inr (1, [.ref b1, .ref b2, .ref b3])), (b2, .inl (cJ, 64, .inr (.inl fW))), (b3, .inl (cJ, 64, .inr (.inl fP))), (o1, .inl (cJ, 1, .inr (.inl fO)))] sz)) 1 6 (va_A [(g0, .inr (5, [.ref g1, .ref g2, .ref g3, .ref g4, .ref g5, .int (nI mo)])), (g1, .inr (1, [.ref b1, .ref b2, .ref b3])), (b2, .inl (cJ, 64, .inr (.inl fW))), (b3, .inl (cJ, 64, .inr (.inl fP))), (o1, .inl (cJ, 1, .inr (.inl fO)))] sz) := by
  refine va_MetW (cc := cL_water) (maxL := 7) (ret := (some .int)) (hh := [(0, 11, 14, 13), (0, 11, 18, 15)]) (by decide) rfl ?_
  intro p e s m args below meth c s₁ B hml hv
  obtain ⟨rfl, ⟨hsz, hP, hK, hD0, hG⟩, hZ0⟩ := hv
  have hx := B.exec
  have hb := B.bytes
  have hr := B.returns
  have hts := atoms_spec (ws := wsL_water) B.pre
  have hown : s.vm.findClass RL = some m.cls := findClass_of_methodNamed B.named
  have hlocks := B.notSynchronized
  have htab : c.exceptionTable.toList = tableOf [(0, 11, 14, 13), (0, 11, 18, 15)] := vx_table (x := yL_water) B (hts _ List.mem_cons_self)
  subst hsz
  have hD := hD0.self (sz := s.heap.size)
  generalize hAe : va_A [(g0, .inr (5, [.ref g1, .ref g2, .ref g3, .ref g4, .ref g5, .int (nI mo)])), (g1, .inr (1, [.ref b1, .ref b2, .ref b3])), (b2, .inl (cJ, 64, .inr (.inl fW))), (b3, .inl (cJ, 64, .inr (.inl fP))), (o1, .inl (cJ, 1, .inr (.inl fO)))] s.heap.size = A at hD hZ0 ⊢
  have hA : ∀ q : Nat, s.heap.size ≤ q → A q := fun q h => by rw [← hAe]; exact Or.inr h
  have hS : va_S A s.heap s.heap [] := va_S.rf
  have hP : va_P D vwCl [(g0, .inr (5, [.ref g1, .ref g2, .ref g3, .ref g4, .ref g5, .int (nI mo)])), (g1, .inr (1, [.ref b1, .ref b2, .ref b3])), (b2, .inl (cJ, 64, .inr (.inl fW))), (b3, .inl (cJ, 64, .inr (.inl fP))), (o1, .inl (cJ, 1, .inr (.inl fO)))] s.heap := hP
  have hl := lv_entry ([.ref g0, .int x, .int y, .long its, .ref o1]) (n := 7) (Nat.le_of_ble_eq_true rfl)
  rw [lg_entry_eq]
  generalize (lg_sl ([.ref g0, .int x, .int y, .long its, .ref o1]) ++ List.replicate (7 - (lg_sl ([.ref g0, .int x, .int y, .long its, .ref o1])).length) Slot.unset).toArray = ls at hl ⊢
  have hl : lv_has ls 7 [(0, .ref g0), (1, .int x), (2, .int y), (3, .long its), (5, .ref o1)] := hl
  refine lv_aload hx hb dL_water_0 (lv_at hl 4 rfl) ?_
  refine lv_iconst (v := nI 0) hx hb dL_water_2 (by decide) ?_
  refine lv_aload_n hx hb dL_water_3 rfl (lv_at hl 0 rfl) ?_
  refine lv_iload_n hx hb dL_water_4 rfl (lv_at hl 1 rfl) ?_
  refine lv_iload_n hx hb dL_water_5 rfl (lv_at hl 2 rfl) ?_
  refine lv_lload_n hx hb dL_water_6 rfl (lv_at hl 3 rfl) ?_
  refine gv_tl (wc := [(g0, .inr (5, [.ref g1, .ref g2, .ref g3, .ref g4, .ref g5, .int (nI mo)])), (g1, .inr (1, [.ref b1, .ref b2, .ref b3])), (b2, .inl (cJ, 64, .inr (.inl fW))), (b3, .inl (cJ, 64, .inr (.inl fP)))]) (wr := [(o1, .inl (cJ, 1, .inr (.inl fO)))]) (w2 := (fun u => match u with | (a, b) => [(g0, .inr (5, [.ref g1, .ref g2, .ref g3, .ref g4, .ref g5, .int (nI mo)])), (g1, .inr (1, [.ref b1, .ref b2, .ref b3])), (b2, .inl (cJ, 64, .inr (.inl (vp_updL fW (b * 8 + a) its)))), (b3, .inl (cJ, 64, .inr (.inl (gv_chg fP (fun j => gv_pt its a b 0 j - gv_pt (fW (b * 8 + a)) a b 0 j) 64)))), (o1, .inl (cJ, 1, .inr (.inl fO)))])) (vx_runV (As := [.int x, .int y, .long its]) (rest := [.int (nI 0), .ref o1]) ⟨hx, hb, hml, hown, hts⟩ (ct_X5_water l hlt D cI cJ s.heap.size g0 g1 g2 g3 g4 g5 mo b1 b2 b3 fW fP x y its) (cwV 3 hts gL_water_X5_water rfl rfl rfl (by decide +kernel) ⟨Nat.le_of_ble_eq_true rfl, Nat.le_of_ble_eq_true rfl⟩) (gv_pVZ (wc := [(g0, .inr (5, [.ref g1, .ref g2, .ref g3, .ref g4, .ref g5, .int (nI mo)])), (g1, .inr (1, [.ref b1, .ref b2, .ref b3])), (b2, .inl (cJ, 64, .inr (.inl fW))), (b3, .inl (cJ, 64, .inr (.inl fP)))]) hP hK hD hG (hZ0.kept hS.2.1) (va_free hD hS hA [0, 1, 2, 3] rfl) [0, 1, 2, 3] rfl (by decide) 0 rfl rfl rfl) rfl rfl hl.1 rfl (lv_room (Nat.le_of_ble_eq_true rfl)) dL_water_7 ⟨Nat.le_of_ble_eq_true rfl, Nat.le_of_ble_eq_true rfl⟩) hP hD hS hA [0, 1, 2, 3] [4] [1, 2, 3, 4, 0] rfl rfl (by decide) (by decide) (fun u => by obtain ⟨a, b⟩ := u; rfl) (by decide) (fun E ce q9 H locs hBX hP hS hce hcv hcl => ?_) (fun rv u H locs hrp hP hD hS => ?_)
  · skip
    rcases hBX with ⟨rfl, hXI⟩ | ⟨rfl, hXA⟩
    · skip
      refine vx_catch (name := gv_eI) hown [] ⟨0, 11, 14, 13⟩ [⟨0, 11, 18, 15⟩] (htab.trans rfl) (fun _ h => absurd h List.not_mem_nil) rfl (by decide) (hts (.classLink RL 13 gv_eI) (by decide +kernel)) ((gv_ca_I hG).use rfl) hce hcv hcl ?_
      refine W.eq (g2 := F0 m 14 ls [.ref q9]) rfl ?_
      refine lv_astore (lv' := [(6, .ref q9), (0, .ref g0), (1, .int x), (2, .int y), (3, .long its), (5, .ref o1)]) hx hb dL_water_14 hl (by decide) rfl (fun ls hl => ?_)
      refine lv_iconst (v := nI 1) hx hb dL_water_16 (by decide) ?_
      have hpo : match (fW, fP, fO) with | (fW9, fP9, fO9) => (nI 1) = gv_02 (vp_in x 8 ∧ vp_in y 8) (0 ≤ its ∧ its ≤ 1000000000) ∧ (∀ a b, a < 8 → b < 8 → x = nI a → y = nI b → (0 ≤ its ∧ its ≤ 1000000000) → fW9 = vp_updL fW (b * 8 + a) its ∧ fP9 = gv_chg fP (fun j => gv_pt its a b 0 j - gv_pt (fW (b * 8 + a)) a b 0 j) 64 ∧ fO9 = vp_updL fO 0 (fW (b * 8 + a))) ∧ (¬ gv_02 (vp_in x 8 ∧ vp_in y 8) (0 ≤ its ∧ its ≤ 1000000000) = 0 → fW9 = fW ∧ fP9 = fP ∧ fO9 = fO) := by
        exact ⟨gv_02a hXI, fun a b ha hb ea eb _ => absurd ⟨by rw [ea]; exact vp_in_nI ha (by decide), by rw [eb]; exact vp_in_nI hb (by decide)⟩ hXI, fun _ => ⟨rfl, rfl, rfl⟩⟩
      have hP9 : va_P D vwCl [(g0, .inr (5, [.ref g1, .ref g2, .ref g3, .ref g4, .ref g5, .int (nI mo)])), (g1, .inr (1, [.ref b1, .ref b2, .ref b3])), (b2, .inl (cJ, 64, .inr (.inl fW))), (b3, .inl (cJ, 64, .inr (.inl fP))), (o1, .inl (cJ, 1, .inr (.inl fO)))] H := hP
      have hD9 : va_D A [(g0, .inr (5, [.ref g1, .ref g2, .ref g3, .ref g4, .ref g5, .int (nI mo)])), (g1, .inr (1, [.ref b1, .ref b2, .ref b3])), (b2, .inl (cJ, 64, .inr (.inl fW))), (b3, .inl (cJ, 64, .inr (.inl fP))), (o1, .inl (cJ, 1, .inr (.inl fO)))] := hD
      exact W.iret (v := nI 1) hx hb hr (fun t9 ht9 hW9 => ⟨⟨(nI 1), (fW, fP, fO), rfl, hpo, by rw [ht9]; exact hP9, hD9⟩, hS.F ht9⟩) hS.2.2 dL_water_17
    · skip
      refine vx_catch (name := gv_eA) hown [⟨0, 11, 14, 13⟩] ⟨0, 11, 18, 15⟩ [] (htab.trans rfl) (List.forall_mem_cons.mpr ⟨Or.inr ⟨by decide, gv_eI, (hts (.classLink RL 13 gv_eI) (by decide +kernel)), gv_nc_AI hG⟩, (fun z h => absurd h List.not_mem_nil)⟩) rfl (by decide) (hts (.classLink RL 15 gv_eA) (by decide +kernel)) ((gv_ca_A hG).use rfl) hce hcv hcl ?_
      refine W.eq (g2 := F0 m 18 ls [.ref q9]) rfl ?_
      refine lv_astore (lv' := [(6, .ref q9), (0, .ref g0), (1, .int x), (2, .int y), (3, .long its), (5, .ref o1)]) hx hb dL_water_18 hl (by decide) rfl (fun ls hl => ?_)
      refine lv_iconst (v := nI 2) hx hb dL_water_20 (by decide) ?_
      have hpo : match (fW, fP, fO) with | (fW9, fP9, fO9) => (nI 2) = gv_02 (vp_in x 8 ∧ vp_in y 8) (0 ≤ its ∧ its ≤ 1000000000) ∧ (∀ a b, a < 8 → b < 8 → x = nI a → y = nI b → (0 ≤ its ∧ its ≤ 1000000000) → fW9 = vp_updL fW (b * 8 + a) its ∧ fP9 = gv_chg fP (fun j => gv_pt its a b 0 j - gv_pt (fW (b * 8 + a)) a b 0 j) 64 ∧ fO9 = vp_updL fO 0 (fW (b * 8 + a))) ∧ (¬ gv_02 (vp_in x 8 ∧ vp_in y 8) (0 ≤ its ∧ its ≤ 1000000000) = 0 → fW9 = fW ∧ fP9 = fP ∧ fO9 = fO) := by
        exact ⟨gv_02b hXA.1 hXA.2, fun a b ha hb ea eb z => absurd z hXA.2, fun _ => ⟨rfl, rfl, rfl⟩⟩
      have hP9 : va_P D vwCl [(g0, .inr (5, [.ref g1, .ref g2, .ref g3, .ref g4, .ref g5, .int (nI mo)])), (g1, .inr (1, [.ref b1, .ref b2, .ref b3])), (b2, .inl (cJ, 64, .inr (.inl fW))), (b3, .inl (cJ, 64, .inr (.inl fP))), (o1, .inl (cJ, 1, .inr (.inl fO)))] H := hP
      have hD9 : va_D A [(g0, .inr (5, [.ref g1, .ref g2, .ref g3, .ref g4, .ref g5, .int (nI mo)])), (g1, .inr (1, [.ref b1, .ref b2, .ref b3])), (b2, .inl (cJ, 64, .inr (.inl fW))), (b3, .inl (cJ, 64, .inr (.inl fP))), (o1, .inl (cJ, 1, .inr (.inl fO)))] := hD
      exact W.iret (v := nI 2) hx hb hr (fun t9 ht9 hW9 => ⟨⟨(nI 2), (fW, fP, fO), rfl, hpo, by rw [ht9]; exact hP9, hD9⟩, hS.F ht9⟩) hS.2.2 dL_water_21
  obtain ⟨a, b⟩ := u
  have hP : va_P D vwCl [(g0, .inr (5, [.ref g1, .ref g2, .ref g3, .ref g4, .ref g5, .int (nI mo)])), (g1, .inr (1, [.ref b1, .ref b2, .ref b3])), (b2, .inl (cJ, 64, .inr (.inl (vp_updL fW (b * 8 + a) its)))), (b3, .inl (cJ, 64, .inr (.inl (gv_chg fP (fun j => gv_pt its a b 0 j - gv_pt (fW (b * 8 + a)) a b 0 j) 64)))), (o1, .inl (cJ, 1, .inr (.inl fO)))] H := hP
  have hD : va_D A [(g0, .inr (5, [.ref g1, .ref g2, .ref g3, .ref g4, .ref g5, .int (nI mo)])), (g1, .inr (1, [.ref b1, .ref b2, .ref b3])), (b2, .inl (cJ, 64, .inr (.inl (vp_updL fW (b * 8 + a) its)))), (b3, .inl (cJ, 64, .inr (.inl (gv_chg fP (fun j => gv_pt its a b 0 j - gv_pt (fW (b * 8 + a)) a b 0 j) 64)))), (o1, .inl (cJ, 1, .inr (.inl fO)))] := hD
  dsimp only at hrp
  refine gv_ls hx hb hK hP hD hS 4 (k := 0) rfl (by omega) (by decide) dL_water_10 (fun H locs hP hD hS => ?_)
  have hP : va_P D vwCl [(g0, .inr (5, [.ref g1, .ref g2, .ref g3, .ref g4, .ref g5, .int (nI mo)])), (g1, .inr (1, [.ref b1, .ref b2, .ref b3])), (b2, .inl (cJ, 64, .inr (.inl (vp_updL fW (b * 8 + a) its)))), (b3, .inl (cJ, 64, .inr (.inl (gv_chg fP (fun j => gv_pt its a b 0 j - gv_pt (fW (b * 8 + a)) a b 0 j) 64)))), (o1, .inl (cJ, 1, .inr (.inl (vp_updL fO 0 rv))))] H := hP
  have hD : va_D A [(g0, .inr (5, [.ref g1, .ref g2, .ref g3, .ref g4, .ref g5, .int (nI mo)])), (g1, .inr (1, [.ref b1, .ref b2, .ref b3])), (b2, .inl (cJ, 64, .inr (.inl (vp_updL fW (b * 8 + a) its)))), (b3, .inl (cJ, 64, .inr (.inl (gv_chg fP (fun j => gv_pt its a b 0 j - gv_pt (fW (b * 8 + a)) a b 0 j) 64)))), (o1, .inl (cJ, 1, .inr (.inl (vp_updL fO 0 rv))))] := hD
  refine lv_goto (tgt := 22) hx hb dL_water_11 (by decide) ?_
  refine lv_iconst (v := nI 0) hx hb dL_water_22 (by decide) ?_
  have hpo : match (vp_updL fW (b * 8 + a) its, gv_chg fP (fun j => gv_pt its a b 0 j - gv_pt (fW (b * 8 + a)) a b 0 j) 64, vp_updL fO 0 rv) with | (fW9, fP9, fO9) => (nI 0) = gv_02 (vp_in x 8 ∧ vp_in y 8) (0 ≤ its ∧ its ≤ 1000000000) ∧ (∀ a b, a < 8 → b < 8 → x = nI a → y = nI b → (0 ≤ its ∧ its ≤ 1000000000) → fW9 = vp_updL fW (b * 8 + a) its ∧ fP9 = gv_chg fP (fun j => gv_pt its a b 0 j - gv_pt (fW (b * 8 + a)) a b 0 j) 64 ∧ fO9 = vp_updL fO 0 (fW (b * 8 + a))) ∧ (¬ gv_02 (vp_in x 8 ∧ vp_in y 8) (0 ≤ its ∧ its ≤ 1000000000) = 0 → fW9 = fW ∧ fP9 = fP ∧ fO9 = fO) := by
    obtain ⟨ha, hb, ea, eb, hr0, hv⟩ := hrp
    have hth := gv_02c (p := (vp_in x 8 ∧ vp_in y 8)) (q := (0 ≤ its ∧ its ≤ 1000000000)) ⟨by rw [ea]; exact vp_in_nI ha (by decide), by rw [eb]; exact vp_in_nI hb (by decide)⟩ hr0
    refine ⟨hth, fun a2 b2 _ _ ea2 eb2 _ => ?_, fun z => absurd hth.symm z⟩
    cases gv_inj (ea2.symm.trans ea) (by omega) (by omega)
    cases gv_inj (eb2.symm.trans eb) (by omega) (by omega)
    exact ⟨rfl, rfl, by rw [hv]⟩
  have hP9 : va_P D vwCl [(g0, .inr (5, [.ref g1, .ref g2, .ref g3, .ref g4, .ref g5, .int (nI mo)])), (g1, .inr (1, [.ref b1, .ref b2, .ref b3])), (b2, .inl (cJ, 64, .inr (.inl (vp_updL fW (b * 8 + a) its)))), (b3, .inl (cJ, 64, .inr (.inl (gv_chg fP (fun j => gv_pt its a b 0 j - gv_pt (fW (b * 8 + a)) a b 0 j) 64)))), (o1, .inl (cJ, 1, .inr (.inl (vp_updL fO 0 rv))))] H := hP
  have hD9 : va_D A [(g0, .inr (5, [.ref g1, .ref g2, .ref g3, .ref g4, .ref g5, .int (nI mo)])), (g1, .inr (1, [.ref b1, .ref b2, .ref b3])), (b2, .inl (cJ, 64, .inr (.inl (vp_updL fW (b * 8 + a) its)))), (b3, .inl (cJ, 64, .inr (.inl (gv_chg fP (fun j => gv_pt its a b 0 j - gv_pt (fW (b * 8 + a)) a b 0 j) 64)))), (o1, .inl (cJ, 1, .inr (.inl (vp_updL fO 0 rv))))] := hD
  exact W.iret (v := nI 0) hx hb hr (fun t9 ht9 hW9 => ⟨⟨(nI 0), (vp_updL fW (b * 8 + a) its, gv_chg fP (fun j => gv_pt its a b 0 j - gv_pt (fW (b * 8 + a)) a b 0 j) 64, vp_updL fO 0 rv), rfl, hpo, by rw [ht9]; exact hP9, hD9⟩, hS.F ht9⟩) hS.2.2 dL_water_23
set_option maxHeartbeats 4000000 in
set_option maxRecDepth 100000 in
theorem ct_L_pull (l : Launch) (hlt : l.stackTraces = false) (D : va_G) (cI cJ : ClassId) (sz : Nat) (g0 g1 g2 g3 g4 g5 mo : Nat)(b1 b2 b3 : Nat) (fP : Nat → Int64) (x y : Int32) (o1 : Nat) (fO : Nat → Int64)  : Met l yL_pull wsL_pull ({ frames := 8, cells := 1, slots := 6, locals := 133 }) (va_Pc [.ref g0, .int x, .int y, .ref o1] (gv_Z D cI cJ [(g0, .inr (5, [.ref g1, .ref g2, .ref g3, .ref g4, .ref g5, .int (nI mo)])), (g1, .inr (1, [.ref b1, .ref b2, .ref b3])), (b3, .inl (cJ, 64, .inr (.inl fP))), (o1, .inl (cJ, 1, .inr (.inl fO)))] sz)) (va_Qi (fun (r9 : Int32) (u9 : Nat → Int64) => let fO9 := u9; r9 = gv_01 (vp_in x 8 ∧ vp_in y 8) ∧ (∀ a b, a < 8 → b < 8 → x = nI a → y = nI b → fO9 = vp_updL fO 0 (fP (b * 8 + a))) ∧ (¬ gv_01 (vp_in x 8 ∧ vp_in y 8) = 0 → fO9 = fO)) (fun (u9 : Nat → Int64) t9 => gv_W D (va_A [(g0, .inr (5, [.ref g1, .ref g2, .ref g3, .ref g4, .ref g5, .int (nI mo)])), (g1, .inr (1, [.ref b1, .ref b2, .ref b3])), (b3, .inl (cJ, 64, .inr (.inl fP))), (o1, .inl (cJ, 1, .inr (.inl fO)))] sz) (let fO9 := u9; [(g0, .inr (5, [.ref g1, .ref g2, .ref g3, .ref g4, .ref g5, .int (nI mo)])), (g1, .inr (1, [.ref b1, .ref b2, .ref b3])), (b3, .inl (cJ, 64, .inr (.inl fP))), (o1, .inl (cJ, 1, .inr (.inl fO9)))]) t9) (va_A [(g0, .inr (5, [.ref g1, .ref g2, .ref g3, .ref g4, .ref g5, .int (nI mo)])), (g1, .inr (1, [.ref b1, .ref b2, .ref b3])), (b3, .inl (cJ, 64, .inr (.inl fP))), (o1, .inl (cJ, 1, .inr (.inl fO)))] sz)) 1 6 (va_A [(g0, .inr (5, [.ref g1, .ref g2, .ref g3, .ref g4, .ref g5, .int (nI mo)])), (g1, .inr (1, [.ref b1, .ref b2, .ref b3])), (b3, .inl (cJ, 64, .inr (.inl fP))), (o1, .inl (cJ, 1, .inr (.inl fO)))] sz) := by
  refine va_MetW (cc := cL_pull) (maxL := 5) (ret := (some .int)) (hh := [(0, 9, 12, 13)]) (by decide) rfl ?_
  intro p e s m args below meth c s₁ B hml hv
  obtain ⟨rfl, ⟨hsz, hP, hK, hD0, hG⟩, hZ0⟩ := hv
  have hx := B.exec
  have hb := B.bytes
  have hr := B.returns
  have hts := atoms_spec (ws := wsL_pull) B.pre
  have hown : s.vm.findClass RL = some m.cls := findClass_of_methodNamed B.named
  have hlocks := B.notSynchronized
  have htab : c.exceptionTable.toList = tableOf [(0, 9, 12, 13)] := vx_table (x := yL_pull) B (hts _ List.mem_cons_self)
  subst hsz
  have hD := hD0.self (sz := s.heap.size)
  generalize hAe : va_A [(g0, .inr (5, [.ref g1, .ref g2, .ref g3, .ref g4, .ref g5, .int (nI mo)])), (g1, .inr (1, [.ref b1, .ref b2, .ref b3])), (b3, .inl (cJ, 64, .inr (.inl fP))), (o1, .inl (cJ, 1, .inr (.inl fO)))] s.heap.size = A at hD hZ0 ⊢
  have hA : ∀ q : Nat, s.heap.size ≤ q → A q := fun q h => by rw [← hAe]; exact Or.inr h
  have hS : va_S A s.heap s.heap [] := va_S.rf
  have hP : va_P D vwCl [(g0, .inr (5, [.ref g1, .ref g2, .ref g3, .ref g4, .ref g5, .int (nI mo)])), (g1, .inr (1, [.ref b1, .ref b2, .ref b3])), (b3, .inl (cJ, 64, .inr (.inl fP))), (o1, .inl (cJ, 1, .inr (.inl fO)))] s.heap := hP
  have hl := lv_entry ([.ref g0, .int x, .int y, .ref o1]) (n := 5) (Nat.le_of_ble_eq_true rfl)
  rw [lg_entry_eq]
  generalize (lg_sl ([.ref g0, .int x, .int y, .ref o1]) ++ List.replicate (5 - (lg_sl ([.ref g0, .int x, .int y, .ref o1])).length) Slot.unset).toArray = ls at hl ⊢
  have hl : lv_has ls 5 [(0, .ref g0), (1, .int x), (2, .int y), (3, .ref o1)] := hl
  refine lv_aload_n hx hb dL_pull_0 rfl (lv_at hl 3 rfl) ?_
  refine lv_iconst (v := nI 0) hx hb dL_pull_1 (by decide) ?_
  refine lv_aload_n hx hb dL_pull_2 rfl (lv_at hl 0 rfl) ?_
  refine lv_iload_n hx hb dL_pull_3 rfl (lv_at hl 1 rfl) ?_
  refine lv_iload_n hx hb dL_pull_4 rfl (lv_at hl 2 rfl) ?_
  refine gv_xl (vx_runV (As := [.int x, .int y]) (rest := [.int (nI 0), .ref o1]) ⟨hx, hb, hml, hown, hts⟩ (ct_X5_pull l hlt D cI cJ s.heap.size g0 g1 g2 g3 g4 g5 mo b1 b2 b3 fP x y) (cwV 2 hts gL_pull_X5_pull rfl rfl rfl (by decide +kernel) ⟨Nat.le_of_ble_eq_true rfl, Nat.le_of_ble_eq_true rfl⟩) (gv_pVZ (wc := [(g0, .inr (5, [.ref g1, .ref g2, .ref g3, .ref g4, .ref g5, .int (nI mo)])), (g1, .inr (1, [.ref b1, .ref b2, .ref b3])), (b3, .inl (cJ, 64, .inr (.inl fP)))]) hP hK hD hG (hZ0.kept hS.2.1) (va_free hD hS hA [0, 1, 2] rfl) [0, 1, 2] rfl (by decide) 0 rfl rfl rfl) rfl rfl hl.1 rfl (lv_room (Nat.le_of_ble_eq_true rfl)) dL_pull_5 ⟨Nat.le_of_ble_eq_true rfl, Nat.le_of_ble_eq_true rfl⟩) (fun E ce q9 H1 hBX hz1 hk1 hce hcv hcl => ?_) (fun rv hrp => ?_)
  · skip
    have hP := gv_Pk hP hk1
    have hS := gv_Sk hS hz1 hk1
    obtain ⟨rfl, hXI⟩ := hBX
    · skip
      refine vx_catch (name := gv_eI) hown [] ⟨0, 9, 12, 13⟩ [] (htab.trans rfl) (fun _ h => absurd h List.not_mem_nil) rfl (by decide) (hts (.classLink RL 13 gv_eI) (by decide +kernel)) ((gv_ca_I hG).use rfl) hce hcv hcl ?_
      refine W.eq (g2 := F0 m 12 ls [.ref q9]) rfl ?_
      refine lv_astore (lv' := [(4, .ref q9), (0, .ref g0), (1, .int x), (2, .int y), (3, .ref o1)]) hx hb dL_pull_12 hl (by decide) rfl (fun ls hl => ?_)
      refine lv_iconst (v := nI 1) hx hb dL_pull_14 (by decide) ?_
      have hpo : let fO9 := fO; (nI 1) = gv_01 (vp_in x 8 ∧ vp_in y 8) ∧ (∀ a b, a < 8 → b < 8 → x = nI a → y = nI b → fO9 = vp_updL fO 0 (fP (b * 8 + a))) ∧ (¬ gv_01 (vp_in x 8 ∧ vp_in y 8) = 0 → fO9 = fO) := by
        exact ⟨gv_01f hXI, fun a b ha hb ea eb => absurd ⟨by rw [ea]; exact vp_in_nI ha (by decide), by rw [eb]; exact vp_in_nI hb (by decide)⟩ hXI, fun _ => rfl⟩
      have hP9 : va_P D vwCl [(g0, .inr (5, [.ref g1, .ref g2, .ref g3, .ref g4, .ref g5, .int (nI mo)])), (g1, .inr (1, [.ref b1, .ref b2, .ref b3])), (b3, .inl (cJ, 64, .inr (.inl fP))), (o1, .inl (cJ, 1, .inr (.inl fO)))] H1 := hP
      have hD9 : va_D A [(g0, .inr (5, [.ref g1, .ref g2, .ref g3, .ref g4, .ref g5, .int (nI mo)])), (g1, .inr (1, [.ref b1, .ref b2, .ref b3])), (b3, .inl (cJ, 64, .inr (.inl fP))), (o1, .inl (cJ, 1, .inr (.inl fO)))] := hD
      exact W.iret (v := nI 1) hx hb hr (fun t9 ht9 hW9 => ⟨⟨(nI 1), fO, rfl, hpo, by rw [ht9]; exact hP9, hD9⟩, hS.F ht9⟩) hS.2.2 dL_pull_15
  obtain ⟨a, b, ha8, hb8, ea, eb, hv⟩ := hrp
  refine gv_ls hx hb hK hP hD hS 3 (k := 0) rfl (by omega) (by decide) dL_pull_8 (fun H locs hP hD hS => ?_)
  have hP : va_P D vwCl [(g0, .inr (5, [.ref g1, .ref g2, .ref g3, .ref g4, .ref g5, .int (nI mo)])), (g1, .inr (1, [.ref b1, .ref b2, .ref b3])), (b3, .inl (cJ, 64, .inr (.inl fP))), (o1, .inl (cJ, 1, .inr (.inl (vp_updL fO 0 rv))))] H := hP
  have hD : va_D A [(g0, .inr (5, [.ref g1, .ref g2, .ref g3, .ref g4, .ref g5, .int (nI mo)])), (g1, .inr (1, [.ref b1, .ref b2, .ref b3])), (b3, .inl (cJ, 64, .inr (.inl fP))), (o1, .inl (cJ, 1, .inr (.inl (vp_updL fO 0 rv))))] := hD
  refine lv_goto (tgt := 16) hx hb dL_pull_9 (by decide) ?_
  refine lv_iconst (v := nI 0) hx hb dL_pull_16 (by decide) ?_
  have hpo : let fO9 := (vp_updL fO 0 rv); (nI 0) = gv_01 (vp_in x 8 ∧ vp_in y 8) ∧ (∀ a b, a < 8 → b < 8 → x = nI a → y = nI b → fO9 = vp_updL fO 0 (fP (b * 8 + a))) ∧ (¬ gv_01 (vp_in x 8 ∧ vp_in y 8) = 0 → fO9 = fO) := by
    have hth := gv_01t (p := vp_in x 8 ∧ vp_in y 8) ⟨by rw [ea]; exact vp_in_nI ha8 (by decide), by rw [eb]; exact vp_in_nI hb8 (by decide)⟩
    refine ⟨hth, fun a2 b2 _ _ ea2 eb2 => ?_, fun z => absurd hth.symm z⟩
    cases gv_inj (ea2.symm.trans ea) (by omega) (by omega)
    cases gv_inj (eb2.symm.trans eb) (by omega) (by omega)
    rw [hv]
  have hP9 : va_P D vwCl [(g0, .inr (5, [.ref g1, .ref g2, .ref g3, .ref g4, .ref g5, .int (nI mo)])), (g1, .inr (1, [.ref b1, .ref b2, .ref b3])), (b3, .inl (cJ, 64, .inr (.inl fP))), (o1, .inl (cJ, 1, .inr (.inl (vp_updL fO 0 rv))))] H := hP
  have hD9 : va_D A [(g0, .inr (5, [.ref g1, .ref g2, .ref g3, .ref g4, .ref g5, .int (nI mo)])), (g1, .inr (1, [.ref b1, .ref b2, .ref b3])), (b3, .inl (cJ, 64, .inr (.inl fP))), (o1, .inl (cJ, 1, .inr (.inl (vp_updL fO 0 rv))))] := hD
  refine W.widen (k := 1) (n := 6) (Nat.le_of_ble_eq_true rfl) (Nat.le_of_ble_eq_true rfl) ?_
  exact W.iret (v := nI 0) hx hb hr (fun t9 ht9 hW9 => ⟨⟨(nI 0), (vp_updL fO 0 rv), rfl, hpo, by rw [ht9]; exact hP9, hD9⟩, hS.F ht9⟩) hS.2.2 dL_pull_17
set_option maxHeartbeats 4000000 in
set_option maxRecDepth 100000 in
theorem ct_L_pullAnew (l : Launch) (hlt : l.stackTraces = false) (D : va_G) (cI cJ : ClassId) (sz : Nat) (g0 g1 g2 g3 g4 g5 mo : Nat)(b1 b2 b3 : Nat) (fM fW : Nat → Int64) (x y : Int32) (o1 : Nat) (fO : Nat → Int64)  : Met l yL_pullAnew wsL_pullAnew ({ frames := 8, cells := 1, slots := 6, locals := 133 }) (va_Pc [.ref g0, .int x, .int y, .ref o1] (gv_Z D cI cJ [(g0, .inr (5, [.ref g1, .ref g2, .ref g3, .ref g4, .ref g5, .int (nI mo)])), (g1, .inr (1, [.ref b1, .ref b2, .ref b3])), (b1, .inl (cJ, 192, .inr (.inl fM))), (b2, .inl (cJ, 64, .inr (.inl fW))), (o1, .inl (cJ, 1, .inr (.inl fO)))] sz)) (va_Qi (fun (r9 : Int32) (u9 : Nat → Int64) => let fO9 := u9; r9 = gv_01 (vp_in x 8 ∧ vp_in y 8) ∧ (∀ a b, a < 8 → b < 8 → x = nI a → y = nI b → fO9 = vp_updL fO 0 (gv_sumC fM fW a b 64)) ∧ (¬ gv_01 (vp_in x 8 ∧ vp_in y 8) = 0 → fO9 = fO)) (fun (u9 : Nat → Int64) t9 => gv_W D (va_A [(g0, .inr (5, [.ref g1, .ref g2, .ref g3, .ref g4, .ref g5, .int (nI mo)])), (g1, .inr (1, [.ref b1, .ref b2, .ref b3])), (b1, .inl (cJ, 192, .inr (.inl fM))), (b2, .inl (cJ, 64, .inr (.inl fW))), (o1, .inl (cJ, 1, .inr (.inl fO)))] sz) (let fO9 := u9; [(g0, .inr (5, [.ref g1, .ref g2, .ref g3, .ref g4, .ref g5, .int (nI mo)])), (g1, .inr (1, [.ref b1, .ref b2, .ref b3])), (b1, .inl (cJ, 192, .inr (.inl fM))), (b2, .inl (cJ, 64, .inr (.inl fW))), (o1, .inl (cJ, 1, .inr (.inl fO9)))]) t9) (va_A [(g0, .inr (5, [.ref g1, .ref g2, .ref g3, .ref g4, .ref g5, .int (nI mo)])), (g1, .inr (1, [.ref b1, .ref b2, .ref b3])), (b1, .inl (cJ, 192, .inr (.inl fM))), (b2, .inl (cJ, 64, .inr (.inl fW))), (o1, .inl (cJ, 1, .inr (.inl fO)))] sz)) 1 6 (va_A [(g0, .inr (5, [.ref g1, .ref g2, .ref g3, .ref g4, .ref g5, .int (nI mo)])), (g1, .inr (1, [.ref b1, .ref b2, .ref b3])), (b1, .inl (cJ, 192, .inr (.inl fM))), (b2, .inl (cJ, 64, .inr (.inl fW))), (o1, .inl (cJ, 1, .inr (.inl fO)))] sz) := by
  refine va_MetW (cc := cL_pullAnew) (maxL := 5) (ret := (some .int)) (hh := [(0, 9, 12, 13)]) (by decide) rfl ?_
  intro p e s m args below meth c s₁ B hml hv
  obtain ⟨rfl, ⟨hsz, hP, hK, hD0, hG⟩, hZ0⟩ := hv
  have hx := B.exec
  have hb := B.bytes
  have hr := B.returns
  have hts := atoms_spec (ws := wsL_pullAnew) B.pre
  have hown : s.vm.findClass RL = some m.cls := findClass_of_methodNamed B.named
  have hlocks := B.notSynchronized
  have htab : c.exceptionTable.toList = tableOf [(0, 9, 12, 13)] := vx_table (x := yL_pullAnew) B (hts _ List.mem_cons_self)
  subst hsz
  have hD := hD0.self (sz := s.heap.size)
  generalize hAe : va_A [(g0, .inr (5, [.ref g1, .ref g2, .ref g3, .ref g4, .ref g5, .int (nI mo)])), (g1, .inr (1, [.ref b1, .ref b2, .ref b3])), (b1, .inl (cJ, 192, .inr (.inl fM))), (b2, .inl (cJ, 64, .inr (.inl fW))), (o1, .inl (cJ, 1, .inr (.inl fO)))] s.heap.size = A at hD hZ0 ⊢
  have hA : ∀ q : Nat, s.heap.size ≤ q → A q := fun q h => by rw [← hAe]; exact Or.inr h
  have hS : va_S A s.heap s.heap [] := va_S.rf
  have hP : va_P D vwCl [(g0, .inr (5, [.ref g1, .ref g2, .ref g3, .ref g4, .ref g5, .int (nI mo)])), (g1, .inr (1, [.ref b1, .ref b2, .ref b3])), (b1, .inl (cJ, 192, .inr (.inl fM))), (b2, .inl (cJ, 64, .inr (.inl fW))), (o1, .inl (cJ, 1, .inr (.inl fO)))] s.heap := hP
  have hl := lv_entry ([.ref g0, .int x, .int y, .ref o1]) (n := 5) (Nat.le_of_ble_eq_true rfl)
  rw [lg_entry_eq]
  generalize (lg_sl ([.ref g0, .int x, .int y, .ref o1]) ++ List.replicate (5 - (lg_sl ([.ref g0, .int x, .int y, .ref o1])).length) Slot.unset).toArray = ls at hl ⊢
  have hl : lv_has ls 5 [(0, .ref g0), (1, .int x), (2, .int y), (3, .ref o1)] := hl
  refine lv_aload_n hx hb dL_pullAnew_0 rfl (lv_at hl 3 rfl) ?_
  refine lv_iconst (v := nI 0) hx hb dL_pullAnew_1 (by decide) ?_
  refine lv_aload_n hx hb dL_pullAnew_2 rfl (lv_at hl 0 rfl) ?_
  refine lv_iload_n hx hb dL_pullAnew_3 rfl (lv_at hl 1 rfl) ?_
  refine lv_iload_n hx hb dL_pullAnew_4 rfl (lv_at hl 2 rfl) ?_
  refine gv_xl (vx_runV (As := [.int x, .int y]) (rest := [.int (nI 0), .ref o1]) ⟨hx, hb, hml, hown, hts⟩ (ct_X5_pullAnew l hlt D cI cJ s.heap.size g0 g1 g2 g3 g4 g5 mo b1 b2 b3 fM fW x y) (cwV 2 hts gL_pullAnew_X5_pullAnew rfl rfl rfl (by decide +kernel) ⟨Nat.le_of_ble_eq_true rfl, Nat.le_of_ble_eq_true rfl⟩) (gv_pVZ (wc := [(g0, .inr (5, [.ref g1, .ref g2, .ref g3, .ref g4, .ref g5, .int (nI mo)])), (g1, .inr (1, [.ref b1, .ref b2, .ref b3])), (b1, .inl (cJ, 192, .inr (.inl fM))), (b2, .inl (cJ, 64, .inr (.inl fW)))]) hP hK hD hG (hZ0.kept hS.2.1) (va_free hD hS hA [0, 1, 2, 3] rfl) [0, 1, 2, 3] rfl (by decide) 0 rfl rfl rfl) rfl rfl hl.1 rfl (lv_room (Nat.le_of_ble_eq_true rfl)) dL_pullAnew_5 ⟨Nat.le_of_ble_eq_true rfl, Nat.le_of_ble_eq_true rfl⟩) (fun E ce q9 H1 hBX hz1 hk1 hce hcv hcl => ?_) (fun rv hrp => ?_)
  · skip
    have hP := gv_Pk hP hk1
    have hS := gv_Sk hS hz1 hk1
    obtain ⟨rfl, hXI⟩ := hBX
    · skip
      refine vx_catch (name := gv_eI) hown [] ⟨0, 9, 12, 13⟩ [] (htab.trans rfl) (fun _ h => absurd h List.not_mem_nil) rfl (by decide) (hts (.classLink RL 13 gv_eI) (by decide +kernel)) ((gv_ca_I hG).use rfl) hce hcv hcl ?_
      refine W.eq (g2 := F0 m 12 ls [.ref q9]) rfl ?_
      refine lv_astore (lv' := [(4, .ref q9), (0, .ref g0), (1, .int x), (2, .int y), (3, .ref o1)]) hx hb dL_pullAnew_12 hl (by decide) rfl (fun ls hl => ?_)
      refine lv_iconst (v := nI 1) hx hb dL_pullAnew_14 (by decide) ?_
      have hpo : let fO9 := fO; (nI 1) = gv_01 (vp_in x 8 ∧ vp_in y 8) ∧ (∀ a b, a < 8 → b < 8 → x = nI a → y = nI b → fO9 = vp_updL fO 0 (gv_sumC fM fW a b 64)) ∧ (¬ gv_01 (vp_in x 8 ∧ vp_in y 8) = 0 → fO9 = fO) := by
        exact ⟨gv_01f hXI, fun a b ha hb ea eb => absurd ⟨by rw [ea]; exact vp_in_nI ha (by decide), by rw [eb]; exact vp_in_nI hb (by decide)⟩ hXI, fun _ => rfl⟩
      have hP9 : va_P D vwCl [(g0, .inr (5, [.ref g1, .ref g2, .ref g3, .ref g4, .ref g5, .int (nI mo)])), (g1, .inr (1, [.ref b1, .ref b2, .ref b3])), (b1, .inl (cJ, 192, .inr (.inl fM))), (b2, .inl (cJ, 64, .inr (.inl fW))), (o1, .inl (cJ, 1, .inr (.inl fO)))] H1 := hP
      have hD9 : va_D A [(g0, .inr (5, [.ref g1, .ref g2, .ref g3, .ref g4, .ref g5, .int (nI mo)])), (g1, .inr (1, [.ref b1, .ref b2, .ref b3])), (b1, .inl (cJ, 192, .inr (.inl fM))), (b2, .inl (cJ, 64, .inr (.inl fW))), (o1, .inl (cJ, 1, .inr (.inl fO)))] := hD
      exact W.iret (v := nI 1) hx hb hr (fun t9 ht9 hW9 => ⟨⟨(nI 1), fO, rfl, hpo, by rw [ht9]; exact hP9, hD9⟩, hS.F ht9⟩) hS.2.2 dL_pullAnew_15
  obtain ⟨a, b, ha8, hb8, ea, eb, hv⟩ := hrp
  refine gv_ls hx hb hK hP hD hS 4 (k := 0) rfl (by omega) (by decide) dL_pullAnew_8 (fun H locs hP hD hS => ?_)
  have hP : va_P D vwCl [(g0, .inr (5, [.ref g1, .ref g2, .ref g3, .ref g4, .ref g5, .int (nI mo)])), (g1, .inr (1, [.ref b1, .ref b2, .ref b3])), (b1, .inl (cJ, 192, .inr (.inl fM))), (b2, .inl (cJ, 64, .inr (.inl fW))), (o1, .inl (cJ, 1, .inr (.inl (vp_updL fO 0 rv))))] H := hP
  have hD : va_D A [(g0, .inr (5, [.ref g1, .ref g2, .ref g3, .ref g4, .ref g5, .int (nI mo)])), (g1, .inr (1, [.ref b1, .ref b2, .ref b3])), (b1, .inl (cJ, 192, .inr (.inl fM))), (b2, .inl (cJ, 64, .inr (.inl fW))), (o1, .inl (cJ, 1, .inr (.inl (vp_updL fO 0 rv))))] := hD
  refine lv_goto (tgt := 16) hx hb dL_pullAnew_9 (by decide) ?_
  refine lv_iconst (v := nI 0) hx hb dL_pullAnew_16 (by decide) ?_
  have hpo : let fO9 := (vp_updL fO 0 rv); (nI 0) = gv_01 (vp_in x 8 ∧ vp_in y 8) ∧ (∀ a b, a < 8 → b < 8 → x = nI a → y = nI b → fO9 = vp_updL fO 0 (gv_sumC fM fW a b 64)) ∧ (¬ gv_01 (vp_in x 8 ∧ vp_in y 8) = 0 → fO9 = fO) := by
    have hth := gv_01t (p := vp_in x 8 ∧ vp_in y 8) ⟨by rw [ea]; exact vp_in_nI ha8 (by decide), by rw [eb]; exact vp_in_nI hb8 (by decide)⟩
    refine ⟨hth, fun a2 b2 _ _ ea2 eb2 => ?_, fun z => absurd hth.symm z⟩
    cases gv_inj (ea2.symm.trans ea) (by omega) (by omega)
    cases gv_inj (eb2.symm.trans eb) (by omega) (by omega)
    rw [hv]
  have hP9 : va_P D vwCl [(g0, .inr (5, [.ref g1, .ref g2, .ref g3, .ref g4, .ref g5, .int (nI mo)])), (g1, .inr (1, [.ref b1, .ref b2, .ref b3])), (b1, .inl (cJ, 192, .inr (.inl fM))), (b2, .inl (cJ, 64, .inr (.inl fW))), (o1, .inl (cJ, 1, .inr (.inl (vp_updL fO 0 rv))))] H := hP
  have hD9 : va_D A [(g0, .inr (5, [.ref g1, .ref g2, .ref g3, .ref g4, .ref g5, .int (nI mo)])), (g1, .inr (1, [.ref b1, .ref b2, .ref b3])), (b1, .inl (cJ, 192, .inr (.inl fM))), (b2, .inl (cJ, 64, .inr (.inl fW))), (o1, .inl (cJ, 1, .inr (.inl (vp_updL fO 0 rv))))] := hD
  refine W.widen (k := 1) (n := 6) (Nat.le_of_ble_eq_true rfl) (Nat.le_of_ble_eq_true rfl) ?_
  exact W.iret (v := nI 0) hx hb hr (fun t9 ht9 hW9 => ⟨⟨(nI 0), (vp_updL fO 0 rv), rfl, hpo, by rw [ht9]; exact hP9, hD9⟩, hS.F ht9⟩) hS.2.2 dL_pullAnew_17
set_option maxHeartbeats 4000000 in
set_option maxRecDepth 100000 in
theorem ct_L_gap (l : Launch) (hlt : l.stackTraces = false) (D : va_G) (cI cJ : ClassId) (sz : Nat) (g0 g1 g2 g3 g4 g5 mo : Nat)(b1 b2 b3 : Nat) (fP : Nat → Int64) (x y : Int32) (o1 : Nat) (fO : Nat → Int64)  : Met l yL_gap wsL_gap ({ frames := 8, cells := 1, slots := 6, locals := 133 }) (va_Pc [.ref g0, .int x, .int y, .ref o1] (gv_Z D cI cJ [(g0, .inr (5, [.ref g1, .ref g2, .ref g3, .ref g4, .ref g5, .int (nI mo)])), (g1, .inr (1, [.ref b1, .ref b2, .ref b3])), (b3, .inl (cJ, 64, .inr (.inl fP))), (o1, .inl (cJ, 1, .inr (.inl fO)))] sz)) (va_Qi (fun (r9 : Int32) (u9 : Nat → Int64) => let fO9 := u9; r9 = gv_01 (vp_in x 7 ∧ vp_in y 8) ∧ (∀ a b, a < 7 → b < 8 → x = nI a → y = nI b → fO9 = vp_updL fO 0 (fP (b * 8 + (a + 1)) - fP (b * 8 + a))) ∧ (¬ gv_01 (vp_in x 7 ∧ vp_in y 8) = 0 → fO9 = fO)) (fun (u9 : Nat → Int64) t9 => gv_W D (va_A [(g0, .inr (5, [.ref g1, .ref g2, .ref g3, .ref g4, .ref g5, .int (nI mo)])), (g1, .inr (1, [.ref b1, .ref b2, .ref b3])), (b3, .inl (cJ, 64, .inr (.inl fP))), (o1, .inl (cJ, 1, .inr (.inl fO)))] sz) (let fO9 := u9; [(g0, .inr (5, [.ref g1, .ref g2, .ref g3, .ref g4, .ref g5, .int (nI mo)])), (g1, .inr (1, [.ref b1, .ref b2, .ref b3])), (b3, .inl (cJ, 64, .inr (.inl fP))), (o1, .inl (cJ, 1, .inr (.inl fO9)))]) t9) (va_A [(g0, .inr (5, [.ref g1, .ref g2, .ref g3, .ref g4, .ref g5, .int (nI mo)])), (g1, .inr (1, [.ref b1, .ref b2, .ref b3])), (b3, .inl (cJ, 64, .inr (.inl fP))), (o1, .inl (cJ, 1, .inr (.inl fO)))] sz)) 1 6 (va_A [(g0, .inr (5, [.ref g1, .ref g2, .ref g3, .ref g4, .ref g5, .int (nI mo)])), (g1, .inr (1, [.ref b1, .ref b2, .ref b3])), (b3, .inl (cJ, 64, .inr (.inl fP))), (o1, .inl (cJ, 1, .inr (.inl fO)))] sz) := by
  refine va_MetW (cc := cL_gap) (maxL := 5) (ret := (some .int)) (hh := [(0, 9, 12, 13)]) (by decide) rfl ?_
  intro p e s m args below meth c s₁ B hml hv
  obtain ⟨rfl, ⟨hsz, hP, hK, hD0, hG⟩, hZ0⟩ := hv
  have hx := B.exec
  have hb := B.bytes
  have hr := B.returns
  have hts := atoms_spec (ws := wsL_gap) B.pre
  have hown : s.vm.findClass RL = some m.cls := findClass_of_methodNamed B.named
  have hlocks := B.notSynchronized
  have htab : c.exceptionTable.toList = tableOf [(0, 9, 12, 13)] := vx_table (x := yL_gap) B (hts _ List.mem_cons_self)
  subst hsz
  have hD := hD0.self (sz := s.heap.size)
  generalize hAe : va_A [(g0, .inr (5, [.ref g1, .ref g2, .ref g3, .ref g4, .ref g5, .int (nI mo)])), (g1, .inr (1, [.ref b1, .ref b2, .ref b3])), (b3, .inl (cJ, 64, .inr (.inl fP))), (o1, .inl (cJ, 1, .inr (.inl fO)))] s.heap.size = A at hD hZ0 ⊢
  have hA : ∀ q : Nat, s.heap.size ≤ q → A q := fun q h => by rw [← hAe]; exact Or.inr h
  have hS : va_S A s.heap s.heap [] := va_S.rf
  have hP : va_P D vwCl [(g0, .inr (5, [.ref g1, .ref g2, .ref g3, .ref g4, .ref g5, .int (nI mo)])), (g1, .inr (1, [.ref b1, .ref b2, .ref b3])), (b3, .inl (cJ, 64, .inr (.inl fP))), (o1, .inl (cJ, 1, .inr (.inl fO)))] s.heap := hP
  have hl := lv_entry ([.ref g0, .int x, .int y, .ref o1]) (n := 5) (Nat.le_of_ble_eq_true rfl)
  rw [lg_entry_eq]
  generalize (lg_sl ([.ref g0, .int x, .int y, .ref o1]) ++ List.replicate (5 - (lg_sl ([.ref g0, .int x, .int y, .ref o1])).length) Slot.unset).toArray = ls at hl ⊢
  have hl : lv_has ls 5 [(0, .ref g0), (1, .int x), (2, .int y), (3, .ref o1)] := hl
  refine lv_aload_n hx hb dL_gap_0 rfl (lv_at hl 3 rfl) ?_
  refine lv_iconst (v := nI 0) hx hb dL_gap_1 (by decide) ?_
  refine lv_aload_n hx hb dL_gap_2 rfl (lv_at hl 0 rfl) ?_
  refine lv_iload_n hx hb dL_gap_3 rfl (lv_at hl 1 rfl) ?_
  refine lv_iload_n hx hb dL_gap_4 rfl (lv_at hl 2 rfl) ?_
  refine gv_xl (vx_runV (As := [.int x, .int y]) (rest := [.int (nI 0), .ref o1]) ⟨hx, hb, hml, hown, hts⟩ (ct_X5_gap l hlt D cI cJ s.heap.size g0 g1 g2 g3 g4 g5 mo b1 b2 b3 fP x y) (cwV 2 hts gL_gap_X5_gap rfl rfl rfl (by decide +kernel) ⟨Nat.le_of_ble_eq_true rfl, Nat.le_of_ble_eq_true rfl⟩) (gv_pVZ (wc := [(g0, .inr (5, [.ref g1, .ref g2, .ref g3, .ref g4, .ref g5, .int (nI mo)])), (g1, .inr (1, [.ref b1, .ref b2, .ref b3])), (b3, .inl (cJ, 64, .inr (.inl fP)))]) hP hK hD hG (hZ0.kept hS.2.1) (va_free hD hS hA [0, 1, 2] rfl) [0, 1, 2] rfl (by decide) 0 rfl rfl rfl) rfl rfl hl.1 rfl (lv_room (Nat.le_of_ble_eq_true rfl)) dL_gap_5 ⟨Nat.le_of_ble_eq_true rfl, Nat.le_of_ble_eq_true rfl⟩) (fun E ce q9 H1 hBX hz1 hk1 hce hcv hcl => ?_) (fun rv hrp => ?_)
  · skip
    have hP := gv_Pk hP hk1
    have hS := gv_Sk hS hz1 hk1
    obtain ⟨rfl, hXI⟩ := hBX
    · skip
      refine vx_catch (name := gv_eI) hown [] ⟨0, 9, 12, 13⟩ [] (htab.trans rfl) (fun _ h => absurd h List.not_mem_nil) rfl (by decide) (hts (.classLink RL 13 gv_eI) (by decide +kernel)) ((gv_ca_I hG).use rfl) hce hcv hcl ?_
      refine W.eq (g2 := F0 m 12 ls [.ref q9]) rfl ?_
      refine lv_astore (lv' := [(4, .ref q9), (0, .ref g0), (1, .int x), (2, .int y), (3, .ref o1)]) hx hb dL_gap_12 hl (by decide) rfl (fun ls hl => ?_)
      refine lv_iconst (v := nI 1) hx hb dL_gap_14 (by decide) ?_
      have hpo : let fO9 := fO; (nI 1) = gv_01 (vp_in x 7 ∧ vp_in y 8) ∧ (∀ a b, a < 7 → b < 8 → x = nI a → y = nI b → fO9 = vp_updL fO 0 (fP (b * 8 + (a + 1)) - fP (b * 8 + a))) ∧ (¬ gv_01 (vp_in x 7 ∧ vp_in y 8) = 0 → fO9 = fO) := by
        exact ⟨gv_01f hXI, fun a b ha hb ea eb => absurd ⟨by rw [ea]; exact vp_in_nI ha (by decide), by rw [eb]; exact vp_in_nI hb (by decide)⟩ hXI, fun _ => rfl⟩
      have hP9 : va_P D vwCl [(g0, .inr (5, [.ref g1, .ref g2, .ref g3, .ref g4, .ref g5, .int (nI mo)])), (g1, .inr (1, [.ref b1, .ref b2, .ref b3])), (b3, .inl (cJ, 64, .inr (.inl fP))), (o1, .inl (cJ, 1, .inr (.inl fO)))] H1 := hP
      have hD9 : va_D A [(g0, .inr (5, [.ref g1, .ref g2, .ref g3, .ref g4, .ref g5, .int (nI mo)])), (g1, .inr (1, [.ref b1, .ref b2, .ref b3])), (b3, .inl (cJ, 64, .inr (.inl fP))), (o1, .inl (cJ, 1, .inr (.inl fO)))] := hD
      exact W.iret (v := nI 1) hx hb hr (fun t9 ht9 hW9 => ⟨⟨(nI 1), fO, rfl, hpo, by rw [ht9]; exact hP9, hD9⟩, hS.F ht9⟩) hS.2.2 dL_gap_15
  obtain ⟨a, b, ha8, hb8, ea, eb, hv⟩ := hrp
  refine gv_ls hx hb hK hP hD hS 3 (k := 0) rfl (by omega) (by decide) dL_gap_8 (fun H locs hP hD hS => ?_)
  have hP : va_P D vwCl [(g0, .inr (5, [.ref g1, .ref g2, .ref g3, .ref g4, .ref g5, .int (nI mo)])), (g1, .inr (1, [.ref b1, .ref b2, .ref b3])), (b3, .inl (cJ, 64, .inr (.inl fP))), (o1, .inl (cJ, 1, .inr (.inl (vp_updL fO 0 rv))))] H := hP
  have hD : va_D A [(g0, .inr (5, [.ref g1, .ref g2, .ref g3, .ref g4, .ref g5, .int (nI mo)])), (g1, .inr (1, [.ref b1, .ref b2, .ref b3])), (b3, .inl (cJ, 64, .inr (.inl fP))), (o1, .inl (cJ, 1, .inr (.inl (vp_updL fO 0 rv))))] := hD
  refine lv_goto (tgt := 16) hx hb dL_gap_9 (by decide) ?_
  refine lv_iconst (v := nI 0) hx hb dL_gap_16 (by decide) ?_
  have hpo : let fO9 := (vp_updL fO 0 rv); (nI 0) = gv_01 (vp_in x 7 ∧ vp_in y 8) ∧ (∀ a b, a < 7 → b < 8 → x = nI a → y = nI b → fO9 = vp_updL fO 0 (fP (b * 8 + (a + 1)) - fP (b * 8 + a))) ∧ (¬ gv_01 (vp_in x 7 ∧ vp_in y 8) = 0 → fO9 = fO) := by
    have hth := gv_01t (p := vp_in x 7 ∧ vp_in y 8) ⟨by rw [ea]; exact vp_in_nI ha8 (by decide), by rw [eb]; exact vp_in_nI hb8 (by decide)⟩
    refine ⟨hth, fun a2 b2 _ _ ea2 eb2 => ?_, fun z => absurd hth.symm z⟩
    cases gv_inj (ea2.symm.trans ea) (by omega) (by omega)
    cases gv_inj (eb2.symm.trans eb) (by omega) (by omega)
    rw [hv]
  have hP9 : va_P D vwCl [(g0, .inr (5, [.ref g1, .ref g2, .ref g3, .ref g4, .ref g5, .int (nI mo)])), (g1, .inr (1, [.ref b1, .ref b2, .ref b3])), (b3, .inl (cJ, 64, .inr (.inl fP))), (o1, .inl (cJ, 1, .inr (.inl (vp_updL fO 0 rv))))] H := hP
  have hD9 : va_D A [(g0, .inr (5, [.ref g1, .ref g2, .ref g3, .ref g4, .ref g5, .int (nI mo)])), (g1, .inr (1, [.ref b1, .ref b2, .ref b3])), (b3, .inl (cJ, 64, .inr (.inl fP))), (o1, .inl (cJ, 1, .inr (.inl (vp_updL fO 0 rv))))] := hD
  refine W.widen (k := 1) (n := 6) (Nat.le_of_ble_eq_true rfl) (Nat.le_of_ble_eq_true rfl) ?_
  exact W.iret (v := nI 0) hx hb hr (fun t9 ht9 hW9 => ⟨⟨(nI 0), (vp_updL fO 0 rv), rfl, hpo, by rw [ht9]; exact hP9, hD9⟩, hS.F ht9⟩) hS.2.2 dL_gap_17
set_option maxHeartbeats 4000000 in
set_option maxRecDepth 100000 in
theorem ct_L_tide (l : Launch) (hlt : l.stackTraces = false) (D : va_G) (cI cJ : ClassId) (sz : Nat) (g0 g1 g2 g3 g4 g5 mo : Nat) (st pe p0 p1 : Int32) (o1 : Nat) (fO : Nat → Int64)  : Met l yL_tide wsL_tide ({ frames := 8, cells := 1, slots := 6, locals := 137 }) (va_Pc [.ref g0, .int p0, .int p1, .ref o1] (gv_Z D cI cJ [(g0, .inr (5, [.ref g1, .ref g2, .ref g3, .ref g4, .ref g5, .int (nI mo)])), (g2, .inr (2, [.int st, .int pe])), (o1, .inl (cJ, 1, .inr (.inl fO)))] sz)) (va_Qi (fun (r9 : Int32) (u9 : Int32 × Int32 × (Nat → Int64)) => match u9 with | (st9, pe9, fO9) => r9 = gv_01 (gv_okt p0 p1) ∧ (gv_okt p0 p1 → st9 = p0 ∧ pe9 = p1 ∧ fO9 = vp_updL fO 0 st.toInt64) ∧ (¬ gv_okt p0 p1 → st9 = st ∧ pe9 = pe ∧ fO9 = fO)) (fun (u9 : Int32 × Int32 × (Nat → Int64)) t9 => gv_W D (va_A [(g0, .inr (5, [.ref g1, .ref g2, .ref g3, .ref g4, .ref g5, .int (nI mo)])), (g2, .inr (2, [.int st, .int pe])), (o1, .inl (cJ, 1, .inr (.inl fO)))] sz) (match u9 with | (st9, pe9, fO9) => [(g0, .inr (5, [.ref g1, .ref g2, .ref g3, .ref g4, .ref g5, .int (nI mo)])), (g2, .inr (2, [.int st9, .int pe9])), (o1, .inl (cJ, 1, .inr (.inl fO9)))]) t9) (va_A [(g0, .inr (5, [.ref g1, .ref g2, .ref g3, .ref g4, .ref g5, .int (nI mo)])), (g2, .inr (2, [.int st, .int pe])), (o1, .inl (cJ, 1, .inr (.inl fO)))] sz)) 1 6 (va_A [(g0, .inr (5, [.ref g1, .ref g2, .ref g3, .ref g4, .ref g5, .int (nI mo)])), (g2, .inr (2, [.int st, .int pe])), (o1, .inl (cJ, 1, .inr (.inl fO)))] sz) := by
  refine va_MetW (cc := cL_tide) (maxL := 5) (ret := (some .int)) (hh := [(0, 10, 13, 15)]) (by decide) rfl ?_
  intro p e s m args below meth c s₁ B hml hv
  obtain ⟨rfl, ⟨hsz, hP, hK, hD0, hG⟩, hZ0⟩ := hv
  have hx := B.exec
  have hb := B.bytes
  have hr := B.returns
  have hts := atoms_spec (ws := wsL_tide) B.pre
  have hown : s.vm.findClass RL = some m.cls := findClass_of_methodNamed B.named
  have hlocks := B.notSynchronized
  have htab : c.exceptionTable.toList = tableOf [(0, 10, 13, 15)] := vx_table (x := yL_tide) B (hts _ List.mem_cons_self)
  subst hsz
  have hD := hD0.self (sz := s.heap.size)
  generalize hAe : va_A [(g0, .inr (5, [.ref g1, .ref g2, .ref g3, .ref g4, .ref g5, .int (nI mo)])), (g2, .inr (2, [.int st, .int pe])), (o1, .inl (cJ, 1, .inr (.inl fO)))] s.heap.size = A at hD hZ0 ⊢
  have hA : ∀ q : Nat, s.heap.size ≤ q → A q := fun q h => by rw [← hAe]; exact Or.inr h
  have hS : va_S A s.heap s.heap [] := va_S.rf
  have hP : va_P D vwCl [(g0, .inr (5, [.ref g1, .ref g2, .ref g3, .ref g4, .ref g5, .int (nI mo)])), (g2, .inr (2, [.int st, .int pe])), (o1, .inl (cJ, 1, .inr (.inl fO)))] s.heap := hP
  have hl := lv_entry ([.ref g0, .int p0, .int p1, .ref o1]) (n := 5) (Nat.le_of_ble_eq_true rfl)
  rw [lg_entry_eq]
  generalize (lg_sl ([.ref g0, .int p0, .int p1, .ref o1]) ++ List.replicate (5 - (lg_sl ([.ref g0, .int p0, .int p1, .ref o1])).length) Slot.unset).toArray = ls at hl ⊢
  have hl : lv_has ls 5 [(0, .ref g0), (1, .int p0), (2, .int p1), (3, .ref o1)] := hl
  refine lv_aload_n hx hb dL_tide_0 rfl (lv_at hl 3 rfl) ?_
  refine lv_iconst (v := nI 0) hx hb dL_tide_1 (by decide) ?_
  refine lv_aload_n hx hb dL_tide_2 rfl (lv_at hl 0 rfl) ?_
  refine lv_iload_n hx hb dL_tide_3 rfl (lv_at hl 1 rfl) ?_
  refine lv_iload_n hx hb dL_tide_4 rfl (lv_at hl 2 rfl) ?_
  refine gv_ti (wc := [(g0, .inr (5, [.ref g1, .ref g2, .ref g3, .ref g4, .ref g5, .int (nI mo)])), (g2, .inr (2, [.int st, .int pe]))]) (wr := [(o1, .inl (cJ, 1, .inr (.inl fO)))]) (w2 := (fun u => [(g0, .inr (5, [.ref g1, .ref g2, .ref g3, .ref g4, .ref g5, .int (nI mo)])), (g2, .inr (2, [.int p0, .int p1])), (o1, .inl (cJ, 1, .inr (.inl fO)))])) (vx_runV (As := [.int p0, .int p1]) (rest := [.int (nI 0), .ref o1]) ⟨hx, hb, hml, hown, hts⟩ (ct_X5_tide l hlt D cI cJ s.heap.size g0 g1 g2 g3 g4 g5 mo st pe p0 p1) (cwV 2 hts gL_tide_X5_tide rfl rfl rfl (by decide +kernel) ⟨Nat.le_of_ble_eq_true rfl, Nat.le_of_ble_eq_true rfl⟩) (gv_pVZ (wc := [(g0, .inr (5, [.ref g1, .ref g2, .ref g3, .ref g4, .ref g5, .int (nI mo)])), (g2, .inr (2, [.int st, .int pe]))]) hP hK hD hG (hZ0.kept hS.2.1) (va_free hD hS hA [0, 1] rfl) [0, 1] rfl (by decide) 0 rfl rfl rfl) rfl rfl hl.1 rfl (lv_room (Nat.le_of_ble_eq_true rfl)) dL_tide_5 ⟨Nat.le_of_ble_eq_true rfl, Nat.le_of_ble_eq_true rfl⟩) hP hD hS hA [0, 1] [2] [1, 2, 0] rfl rfl (by decide) (by decide) (fun u => rfl) (by decide) (fun E ce q9 H locs hBX hP hS hce hcv hcl => ?_) (fun rv u H locs hrp hP hD hS => ?_)
  · skip
    obtain ⟨rfl, hXA⟩ := hBX
    · skip
      refine vx_catch (name := gv_eA) hown [] ⟨0, 10, 13, 15⟩ [] (htab.trans rfl) (fun _ h => absurd h List.not_mem_nil) rfl (by decide) (hts (.classLink RL 15 gv_eA) (by decide +kernel)) ((gv_ca_A hG).use rfl) hce hcv hcl ?_
      refine W.eq (g2 := F0 m 13 ls [.ref q9]) rfl ?_
      refine lv_astore (lv' := [(4, .ref q9), (0, .ref g0), (1, .int p0), (2, .int p1), (3, .ref o1)]) hx hb dL_tide_13 hl (by decide) rfl (fun ls hl => ?_)
      refine lv_iconst (v := nI 1) hx hb dL_tide_15 (by decide) ?_
      have hpo : match (st, pe, fO) with | (st9, pe9, fO9) => (nI 1) = gv_01 (gv_okt p0 p1) ∧ (gv_okt p0 p1 → st9 = p0 ∧ pe9 = p1 ∧ fO9 = vp_updL fO 0 st.toInt64) ∧ (¬ gv_okt p0 p1 → st9 = st ∧ pe9 = pe ∧ fO9 = fO) := by
        exact ⟨gv_01f hXA, fun z => absurd z hXA, fun _ => ⟨rfl, rfl, rfl⟩⟩
      have hP9 : va_P D vwCl [(g0, .inr (5, [.ref g1, .ref g2, .ref g3, .ref g4, .ref g5, .int (nI mo)])), (g2, .inr (2, [.int st, .int pe])), (o1, .inl (cJ, 1, .inr (.inl fO)))] H := hP
      have hD9 : va_D A [(g0, .inr (5, [.ref g1, .ref g2, .ref g3, .ref g4, .ref g5, .int (nI mo)])), (g2, .inr (2, [.int st, .int pe])), (o1, .inl (cJ, 1, .inr (.inl fO)))] := hD
      exact W.iret (v := nI 1) hx hb hr (fun t9 ht9 hW9 => ⟨⟨(nI 1), (st, pe, fO), rfl, hpo, by rw [ht9]; exact hP9, hD9⟩, hS.F ht9⟩) hS.2.2 dL_tide_16
  have hP : va_P D vwCl [(g0, .inr (5, [.ref g1, .ref g2, .ref g3, .ref g4, .ref g5, .int (nI mo)])), (g2, .inr (2, [.int p0, .int p1])), (o1, .inl (cJ, 1, .inr (.inl fO)))] H := hP
  have hD : va_D A [(g0, .inr (5, [.ref g1, .ref g2, .ref g3, .ref g4, .ref g5, .int (nI mo)])), (g2, .inr (2, [.int p0, .int p1])), (o1, .inl (cJ, 1, .inr (.inl fO)))] := hD
  refine lv_i2l (v := rv.toInt64) hx hb dL_tide_8 rfl ?_
  refine gv_ls hx hb hK hP hD hS 2 (k := 0) rfl (by omega) (by decide) dL_tide_9 (fun H locs hP hD hS => ?_)
  have hP : va_P D vwCl [(g0, .inr (5, [.ref g1, .ref g2, .ref g3, .ref g4, .ref g5, .int (nI mo)])), (g2, .inr (2, [.int p0, .int p1])), (o1, .inl (cJ, 1, .inr (.inl (vp_updL fO 0 rv.toInt64))))] H := hP
  have hD : va_D A [(g0, .inr (5, [.ref g1, .ref g2, .ref g3, .ref g4, .ref g5, .int (nI mo)])), (g2, .inr (2, [.int p0, .int p1])), (o1, .inl (cJ, 1, .inr (.inl (vp_updL fO 0 rv.toInt64))))] := hD
  refine lv_goto (tgt := 17) hx hb dL_tide_10 (by decide) ?_
  refine lv_iconst (v := nI 0) hx hb dL_tide_17 (by decide) ?_
  have hpo : match (p0, p1, vp_updL fO 0 rv.toInt64) with | (st9, pe9, fO9) => (nI 0) = gv_01 (gv_okt p0 p1) ∧ (gv_okt p0 p1 → st9 = p0 ∧ pe9 = p1 ∧ fO9 = vp_updL fO 0 st.toInt64) ∧ (¬ gv_okt p0 p1 → st9 = st ∧ pe9 = pe ∧ fO9 = fO) := by
    exact ⟨gv_01t hrp.1, fun _ => ⟨rfl, rfl, by rw [hrp.2]⟩, fun z => absurd hrp.1 z⟩
  have hP9 : va_P D vwCl [(g0, .inr (5, [.ref g1, .ref g2, .ref g3, .ref g4, .ref g5, .int (nI mo)])), (g2, .inr (2, [.int p0, .int p1])), (o1, .inl (cJ, 1, .inr (.inl (vp_updL fO 0 rv.toInt64))))] H := hP
  have hD9 : va_D A [(g0, .inr (5, [.ref g1, .ref g2, .ref g3, .ref g4, .ref g5, .int (nI mo)])), (g2, .inr (2, [.int p0, .int p1])), (o1, .inl (cJ, 1, .inr (.inl (vp_updL fO 0 rv.toInt64))))] := hD
  exact W.iret (v := nI 0) hx hb hr (fun t9 ht9 hW9 => ⟨⟨(nI 0), (p0, p1, vp_updL fO 0 rv.toInt64), rfl, hpo, by rw [ht9]; exact hP9, hD9⟩, hS.F ht9⟩) hS.2.2 dL_tide_18
set_option maxHeartbeats 4000000 in
set_option maxRecDepth 100000 in
theorem ct_L_pass (l : Launch) (hlt : l.stackTraces = false) (D : va_G) (cI cJ : ClassId) (sz : Nat) (g0 g1 g2 g3 g4 g5 mo : Nat) (p0 : Int32) (o1 : Nat) (fO : Nat → Int64) (hmo : mo ≤ 3000) : Met l yL_pass wsL_pass ({ frames := 8, cells := 1, slots := 6, locals := 136 }) (va_Pc [.ref g0, .int p0, .ref o1] (gv_Z D cI cJ [(g0, .inr (5, [.ref g1, .ref g2, .ref g3, .ref g4, .ref g5, .int (nI mo)])), (o1, .inl (cJ, 1, .inr (.inl fO)))] sz)) (va_Qi (fun (r9 : Int32) (u9 : Nat × (Nat → Int64)) => match u9 with | (mo9, fO9) => r9 = gv_02 (gv_okp p0) (nI mo + p0 ≤ nI 3000) ∧ (∀ k, 1 ≤ k → k ≤ 120 → p0 = nI k → mo + k ≤ 3000 → mo9 = mo + k ∧ fO9 = vp_updL fO 0 ((nI (mo + k)).toInt64)) ∧ (¬ gv_02 (gv_okp p0) (nI mo + p0 ≤ nI 3000) = 0 → mo9 = mo ∧ fO9 = fO)) (fun (u9 : Nat × (Nat → Int64)) t9 => gv_W D (va_A [(g0, .inr (5, [.ref g1, .ref g2, .ref g3, .ref g4, .ref g5, .int (nI mo)])), (o1, .inl (cJ, 1, .inr (.inl fO)))] sz) (match u9 with | (mo9, fO9) => [(g0, .inr (5, [.ref g1, .ref g2, .ref g3, .ref g4, .ref g5, .int (nI mo9)])), (o1, .inl (cJ, 1, .inr (.inl fO9)))]) t9) (va_A [(g0, .inr (5, [.ref g1, .ref g2, .ref g3, .ref g4, .ref g5, .int (nI mo)])), (o1, .inl (cJ, 1, .inr (.inl fO)))] sz)) 1 6 (va_A [(g0, .inr (5, [.ref g1, .ref g2, .ref g3, .ref g4, .ref g5, .int (nI mo)])), (o1, .inl (cJ, 1, .inr (.inl fO)))] sz) := by
  refine va_MetW (cc := cL_pass) (maxL := 4) (ret := (some .int)) (hh := [(0, 9, 12, 15), (0, 9, 15, 39)]) (by decide) rfl ?_
  intro p e s m args below meth c s₁ B hml hv
  obtain ⟨rfl, ⟨hsz, hP, hK, hD0, hG⟩, hZ0⟩ := hv
  have hx := B.exec
  have hb := B.bytes
  have hr := B.returns
  have hts := atoms_spec (ws := wsL_pass) B.pre
  have hown : s.vm.findClass RL = some m.cls := findClass_of_methodNamed B.named
  have hlocks := B.notSynchronized
  have htab : c.exceptionTable.toList = tableOf [(0, 9, 12, 15), (0, 9, 15, 39)] := vx_table (x := yL_pass) B (hts _ List.mem_cons_self)
  subst hsz
  have hD := hD0.self (sz := s.heap.size)
  generalize hAe : va_A [(g0, .inr (5, [.ref g1, .ref g2, .ref g3, .ref g4, .ref g5, .int (nI mo)])), (o1, .inl (cJ, 1, .inr (.inl fO)))] s.heap.size = A at hD hZ0 ⊢
  have hA : ∀ q : Nat, s.heap.size ≤ q → A q := fun q h => by rw [← hAe]; exact Or.inr h
  have hS : va_S A s.heap s.heap [] := va_S.rf
  have hP : va_P D vwCl [(g0, .inr (5, [.ref g1, .ref g2, .ref g3, .ref g4, .ref g5, .int (nI mo)])), (o1, .inl (cJ, 1, .inr (.inl fO)))] s.heap := hP
  have hl := lv_entry ([.ref g0, .int p0, .ref o1]) (n := 4) (Nat.le_of_ble_eq_true rfl)
  rw [lg_entry_eq]
  generalize (lg_sl ([.ref g0, .int p0, .ref o1]) ++ List.replicate (4 - (lg_sl ([.ref g0, .int p0, .ref o1])).length) Slot.unset).toArray = ls at hl ⊢
  have hl : lv_has ls 4 [(0, .ref g0), (1, .int p0), (2, .ref o1)] := hl
  refine lv_aload_n hx hb dL_pass_0 rfl (lv_at hl 2 rfl) ?_
  refine lv_iconst (v := nI 0) hx hb dL_pass_1 (by decide) ?_
  refine lv_aload_n hx hb dL_pass_2 rfl (lv_at hl 0 rfl) ?_
  refine lv_iload_n hx hb dL_pass_3 rfl (lv_at hl 1 rfl) ?_
  refine gv_ti (wc := [(g0, .inr (5, [.ref g1, .ref g2, .ref g3, .ref g4, .ref g5, .int (nI mo)]))]) (wr := [(o1, .inl (cJ, 1, .inr (.inl fO)))]) (w2 := (fun u => match u with | k9 => [(g0, .inr (5, [.ref g1, .ref g2, .ref g3, .ref g4, .ref g5, .int (nI (mo + k9))])), (o1, .inl (cJ, 1, .inr (.inl fO)))])) (vx_runV (As := [.int p0]) (rest := [.int (nI 0), .ref o1]) ⟨hx, hb, hml, hown, hts⟩ (ct_X5_pass l hlt D cI cJ s.heap.size g0 g1 g2 g3 g4 g5 mo p0 hmo) (cwV 1 hts gL_pass_X5_pass rfl rfl rfl (by decide +kernel) ⟨Nat.le_of_ble_eq_true rfl, Nat.le_of_ble_eq_true rfl⟩) (gv_pVZ (wc := [(g0, .inr (5, [.ref g1, .ref g2, .ref g3, .ref g4, .ref g5, .int (nI mo)]))]) hP hK hD hG (hZ0.kept hS.2.1) (va_free hD hS hA [0] rfl) [0] rfl (by decide) 0 rfl rfl rfl) rfl rfl hl.1 rfl (lv_room (Nat.le_of_ble_eq_true rfl)) dL_pass_4 ⟨Nat.le_of_ble_eq_true rfl, Nat.le_of_ble_eq_true rfl⟩) hP hD hS hA [0] [1] [1, 0] rfl rfl (by decide) (by decide) (fun u => rfl) (by decide) (fun E ce q9 H locs hBX hP hS hce hcv hcl => ?_) (fun rv k9 H locs hrp hP hD hS => ?_)
  · skip
    rcases hBX with ⟨rfl, hXA⟩ | ⟨rfl, hXS⟩
    · skip
      refine vx_catch (name := gv_eA) hown [] ⟨0, 9, 12, 15⟩ [⟨0, 9, 15, 39⟩] (htab.trans rfl) (fun _ h => absurd h List.not_mem_nil) rfl (by decide) (hts (.classLink RL 15 gv_eA) (by decide +kernel)) ((gv_ca_A hG).use rfl) hce hcv hcl ?_
      refine W.eq (g2 := F0 m 12 ls [.ref q9]) rfl ?_
      refine lv_astore_n (lv' := [(3, .ref q9), (0, .ref g0), (1, .int p0), (2, .ref o1)]) hx hb dL_pass_12 rfl hl (by decide) rfl (fun ls hl => ?_)
      refine lv_iconst (v := nI 1) hx hb dL_pass_13 (by decide) ?_
      have hpo : match (mo, fO) with | (mo9, fO9) => (nI 1) = gv_02 (gv_okp p0) (nI mo + p0 ≤ nI 3000) ∧ (∀ k, 1 ≤ k → k ≤ 120 → p0 = nI k → mo + k ≤ 3000 → mo9 = mo + k ∧ fO9 = vp_updL fO 0 ((nI (mo + k)).toInt64)) ∧ (¬ gv_02 (gv_okp p0) (nI mo + p0 ≤ nI 3000) = 0 → mo9 = mo ∧ fO9 = fO) := by
        exact ⟨gv_02a hXA, fun k h1 h2 ek _ => absurd (gv_okp_n ek h1 h2) hXA, fun _ => ⟨rfl, rfl⟩⟩
      have hP9 : va_P D vwCl [(g0, .inr (5, [.ref g1, .ref g2, .ref g3, .ref g4, .ref g5, .int (nI mo)])), (o1, .inl (cJ, 1, .inr (.inl fO)))] H := hP
      have hD9 : va_D A [(g0, .inr (5, [.ref g1, .ref g2, .ref g3, .ref g4, .ref g5, .int (nI mo)])), (o1, .inl (cJ, 1, .inr (.inl fO)))] := hD
      exact W.iret (v := nI 1) hx hb hr (fun t9 ht9 hW9 => ⟨⟨(nI 1), (mo, fO), rfl, hpo, by rw [ht9]; exact hP9, hD9⟩, hS.F ht9⟩) hS.2.2 dL_pass_14
    · skip
      refine vx_catch (name := gv_eS) hown [⟨0, 9, 12, 15⟩] ⟨0, 9, 15, 39⟩ [] (htab.trans rfl) (List.forall_mem_cons.mpr ⟨Or.inr ⟨by decide, gv_eA, (hts (.classLink RL 15 gv_eA) (by decide +kernel)), gv_nc_SA hG⟩, (fun z h => absurd h List.not_mem_nil)⟩) rfl (by decide) (hts (.classLink RL 39 gv_eS) (by decide +kernel)) ((gv_ca_S hG).use rfl) hce hcv hcl ?_
      refine W.eq (g2 := F0 m 15 ls [.ref q9]) rfl ?_
      refine lv_astore_n (lv' := [(3, .ref q9), (0, .ref g0), (1, .int p0), (2, .ref o1)]) hx hb dL_pass_15 rfl hl (by decide) rfl (fun ls hl => ?_)
      refine lv_iconst (v := nI 2) hx hb dL_pass_16 (by decide) ?_
      have hpo : match (mo, fO) with | (mo9, fO9) => (nI 2) = gv_02 (gv_okp p0) (nI mo + p0 ≤ nI 3000) ∧ (∀ k, 1 ≤ k → k ≤ 120 → p0 = nI k → mo + k ≤ 3000 → mo9 = mo + k ∧ fO9 = vp_updL fO 0 ((nI (mo + k)).toInt64)) ∧ (¬ gv_02 (gv_okp p0) (nI mo + p0 ≤ nI 3000) = 0 → mo9 = mo ∧ fO9 = fO) := by
        obtain ⟨k9, h1, h2, ek, h3⟩ := hXS
        refine ⟨gv_02b (gv_okp_n ek h1 h2) (fun z => ?_), fun k2 _ _ ek2 h4 => ?_, fun _ => ⟨rfl, rfl⟩⟩
        · have h5 := gv_pk hmo h2 (by rw [← ek]; exact z)
          omega
        · cases gv_inj (ek2.symm.trans ek) (by omega) (by omega)
          omega
      have hP9 : va_P D vwCl [(g0, .inr (5, [.ref g1, .ref g2, .ref g3, .ref g4, .ref g5, .int (nI mo)])), (o1, .inl (cJ, 1, .inr (.inl fO)))] H := hP
      have hD9 : va_D A [(g0, .inr (5, [.ref g1, .ref g2, .ref g3, .ref g4, .ref g5, .int (nI mo)])), (o1, .inl (cJ, 1, .inr (.inl fO)))] := hD
      exact W.iret (v := nI 2) hx hb hr (fun t9 ht9 hW9 => ⟨⟨(nI 2), (mo, fO), rfl, hpo, by rw [ht9]; exact hP9, hD9⟩, hS.F ht9⟩) hS.2.2 dL_pass_17
  have hP : va_P D vwCl [(g0, .inr (5, [.ref g1, .ref g2, .ref g3, .ref g4, .ref g5, .int (nI (mo + k9))])), (o1, .inl (cJ, 1, .inr (.inl fO)))] H := hP
  have hD : va_D A [(g0, .inr (5, [.ref g1, .ref g2, .ref g3, .ref g4, .ref g5, .int (nI (mo + k9))])), (o1, .inl (cJ, 1, .inr (.inl fO)))] := hD
  refine lv_i2l (v := rv.toInt64) hx hb dL_pass_7 rfl ?_
  refine gv_ls hx hb hK hP hD hS 1 (k := 0) rfl (by omega) (by decide) dL_pass_8 (fun H locs hP hD hS => ?_)
  have hP : va_P D vwCl [(g0, .inr (5, [.ref g1, .ref g2, .ref g3, .ref g4, .ref g5, .int (nI (mo + k9))])), (o1, .inl (cJ, 1, .inr (.inl (vp_updL fO 0 rv.toInt64))))] H := hP
  have hD : va_D A [(g0, .inr (5, [.ref g1, .ref g2, .ref g3, .ref g4, .ref g5, .int (nI (mo + k9))])), (o1, .inl (cJ, 1, .inr (.inl (vp_updL fO 0 rv.toInt64))))] := hD
  refine lv_goto (tgt := 18) hx hb dL_pass_9 (by decide) ?_
  refine lv_iconst (v := nI 0) hx hb dL_pass_18 (by decide) ?_
  have hpo : match (mo + k9, vp_updL fO 0 rv.toInt64) with | (mo9, fO9) => (nI 0) = gv_02 (gv_okp p0) (nI mo + p0 ≤ nI 3000) ∧ (∀ k, 1 ≤ k → k ≤ 120 → p0 = nI k → mo + k ≤ 3000 → mo9 = mo + k ∧ fO9 = vp_updL fO 0 ((nI (mo + k)).toInt64)) ∧ (¬ gv_02 (gv_okp p0) (nI mo + p0 ≤ nI 3000) = 0 → mo9 = mo ∧ fO9 = fO) := by
    obtain ⟨h1, h2, ek, h3, hv⟩ := hrp
    have hth := gv_02c (p := gv_okp p0) (q := nI mo + p0 ≤ nI 3000) (gv_okp_n ek h1 h2) (by rw [ek]; exact gv_pk2 (by omega) h3)
    refine ⟨hth, fun k2 _ _ ek2 _ => ?_, fun z => absurd hth.symm z⟩
    cases gv_inj (ek2.symm.trans ek) (by omega) (by omega)
    exact ⟨rfl, by rw [hv]⟩
  have hP9 : va_P D vwCl [(g0, .inr (5, [.ref g1, .ref g2, .ref g3, .ref g4, .ref g5, .int (nI (mo + k9))])), (o1, .inl (cJ, 1, .inr (.inl (vp_updL fO 0 rv.toInt64))))] H := hP
  have hD9 : va_D A [(g0, .inr (5, [.ref g1, .ref g2, .ref g3, .ref g4, .ref g5, .int (nI (mo + k9))])), (o1, .inl (cJ, 1, .inr (.inl (vp_updL fO 0 rv.toInt64))))] := hD
  exact W.iret (v := nI 0) hx hb hr (fun t9 ht9 hW9 => ⟨⟨(nI 0), (mo + k9, vp_updL fO 0 rv.toInt64), rfl, hpo, by rw [ht9]; exact hP9, hD9⟩, hS.F ht9⟩) hS.2.2 dL_pass_19
set_option maxHeartbeats 4000000 in
set_option maxRecDepth 100000 in
theorem ct_L_needle (l : Launch) (hlt : l.stackTraces = false) (D : va_G) (cI cJ : ClassId) (sz : Nat) (g0 g1 g2 g3 g4 g5 mo : Nat)(n1 n2 n3 nc : Nat) (kd of_ td : Nat → Int32) (p0 p1 : Int32) (o1 : Nat) (fO : Nat → Int64) (hnc : nc ≤ 6) : Met l yL_needle wsL_needle ({ frames := 8, cells := 1, slots := 6, locals := 137 }) (va_Pc [.ref g0, .int p0, .int p1, .ref o1] (gv_Z D cI cJ [(g0, .inr (5, [.ref g1, .ref g2, .ref g3, .ref g4, .ref g5, .int (nI mo)])), (g3, .inr (3, [.ref n1, .ref n2, .ref n3, .int (nI nc)])), (n1, .inl (cI, 6, .inl kd)), (n2, .inl (cI, 6, .inl of_)), (n3, .inl (cI, 6, .inl td)), (o1, .inl (cJ, 1, .inr (.inl fO)))] sz)) (va_Qi (fun (r9 : Int32) (u9 : Nat × (Nat → Int32) × (Nat → Int32) × (Nat → Int32) × (Nat → Int64)) => match u9 with | (nc9, kd9, of9, td9, fO9) => r9 = gv_02 (gv_okn p0 p1) (¬ nc = 6) ∧ (gv_02 (gv_okn p0 p1) (¬ nc = 6) = 0 → nc9 = nc + 1 ∧ kd9 = upd kd nc p0 ∧ of9 = upd of_ nc p1 ∧ td9 = upd td nc (nI mo) ∧ fO9 = vp_updL fO 0 ((nI nc).toInt64)) ∧ (¬ gv_02 (gv_okn p0 p1) (¬ nc = 6) = 0 → nc9 = nc ∧ kd9 = kd ∧ of9 = of_ ∧ td9 = td ∧ fO9 = fO)) (fun (u9 : Nat × (Nat → Int32) × (Nat → Int32) × (Nat → Int32) × (Nat → Int64)) t9 => gv_W D (va_A [(g0, .inr (5, [.ref g1, .ref g2, .ref g3, .ref g4, .ref g5, .int (nI mo)])), (g3, .inr (3, [.ref n1, .ref n2, .ref n3, .int (nI nc)])), (n1, .inl (cI, 6, .inl kd)), (n2, .inl (cI, 6, .inl of_)), (n3, .inl (cI, 6, .inl td)), (o1, .inl (cJ, 1, .inr (.inl fO)))] sz) (match u9 with | (nc9, kd9, of9, td9, fO9) => [(g0, .inr (5, [.ref g1, .ref g2, .ref g3, .ref g4, .ref g5, .int (nI mo)])), (g3, .inr (3, [.ref n1, .ref n2, .ref n3, .int (nI nc9)])), (n1, .inl (cI, 6, .inl kd9)), (n2, .inl (cI, 6, .inl of9)), (n3, .inl (cI, 6, .inl td9)), (o1, .inl (cJ, 1, .inr (.inl fO9)))]) t9) (va_A [(g0, .inr (5, [.ref g1, .ref g2, .ref g3, .ref g4, .ref g5, .int (nI mo)])), (g3, .inr (3, [.ref n1, .ref n2, .ref n3, .int (nI nc)])), (n1, .inl (cI, 6, .inl kd)), (n2, .inl (cI, 6, .inl of_)), (n3, .inl (cI, 6, .inl td)), (o1, .inl (cJ, 1, .inr (.inl fO)))] sz)) 1 6 (va_A [(g0, .inr (5, [.ref g1, .ref g2, .ref g3, .ref g4, .ref g5, .int (nI mo)])), (g3, .inr (3, [.ref n1, .ref n2, .ref n3, .int (nI nc)])), (n1, .inl (cI, 6, .inl kd)), (n2, .inl (cI, 6, .inl of_)), (n3, .inl (cI, 6, .inl td)), (o1, .inl (cJ, 1, .inr (.inl fO)))] sz) := by
  refine va_MetW (cc := cL_needle) (maxL := 5) (ret := (some .int)) (hh := [(0, 10, 13, 15), (0, 10, 17, 39)]) (by decide) rfl ?_
  intro p e s m args below meth c s₁ B hml hv
  obtain ⟨rfl, ⟨hsz, hP, hK, hD0, hG⟩, hZ0⟩ := hv
  have hx := B.exec
  have hb := B.bytes
  have hr := B.returns
  have hts := atoms_spec (ws := wsL_needle) B.pre
  have hown : s.vm.findClass RL = some m.cls := findClass_of_methodNamed B.named
  have hlocks := B.notSynchronized
  have htab : c.exceptionTable.toList = tableOf [(0, 10, 13, 15), (0, 10, 17, 39)] := vx_table (x := yL_needle) B (hts _ List.mem_cons_self)
  subst hsz
  have hD := hD0.self (sz := s.heap.size)
  generalize hAe : va_A [(g0, .inr (5, [.ref g1, .ref g2, .ref g3, .ref g4, .ref g5, .int (nI mo)])), (g3, .inr (3, [.ref n1, .ref n2, .ref n3, .int (nI nc)])), (n1, .inl (cI, 6, .inl kd)), (n2, .inl (cI, 6, .inl of_)), (n3, .inl (cI, 6, .inl td)), (o1, .inl (cJ, 1, .inr (.inl fO)))] s.heap.size = A at hD hZ0 ⊢
  have hA : ∀ q : Nat, s.heap.size ≤ q → A q := fun q h => by rw [← hAe]; exact Or.inr h
  have hS : va_S A s.heap s.heap [] := va_S.rf
  have hP : va_P D vwCl [(g0, .inr (5, [.ref g1, .ref g2, .ref g3, .ref g4, .ref g5, .int (nI mo)])), (g3, .inr (3, [.ref n1, .ref n2, .ref n3, .int (nI nc)])), (n1, .inl (cI, 6, .inl kd)), (n2, .inl (cI, 6, .inl of_)), (n3, .inl (cI, 6, .inl td)), (o1, .inl (cJ, 1, .inr (.inl fO)))] s.heap := hP
  have hl := lv_entry ([.ref g0, .int p0, .int p1, .ref o1]) (n := 5) (Nat.le_of_ble_eq_true rfl)
  rw [lg_entry_eq]
  generalize (lg_sl ([.ref g0, .int p0, .int p1, .ref o1]) ++ List.replicate (5 - (lg_sl ([.ref g0, .int p0, .int p1, .ref o1])).length) Slot.unset).toArray = ls at hl ⊢
  have hl : lv_has ls 5 [(0, .ref g0), (1, .int p0), (2, .int p1), (3, .ref o1)] := hl
  refine lv_aload_n hx hb dL_needle_0 rfl (lv_at hl 3 rfl) ?_
  refine lv_iconst (v := nI 0) hx hb dL_needle_1 (by decide) ?_
  refine lv_aload_n hx hb dL_needle_2 rfl (lv_at hl 0 rfl) ?_
  refine lv_iload_n hx hb dL_needle_3 rfl (lv_at hl 1 rfl) ?_
  refine lv_iload_n hx hb dL_needle_4 rfl (lv_at hl 2 rfl) ?_
  refine gv_ti (wc := [(g0, .inr (5, [.ref g1, .ref g2, .ref g3, .ref g4, .ref g5, .int (nI mo)])), (g3, .inr (3, [.ref n1, .ref n2, .ref n3, .int (nI nc)])), (n1, .inl (cI, 6, .inl kd)), (n2, .inl (cI, 6, .inl of_)), (n3, .inl (cI, 6, .inl td))]) (wr := [(o1, .inl (cJ, 1, .inr (.inl fO)))]) (w2 := (fun u => [(g0, .inr (5, [.ref g1, .ref g2, .ref g3, .ref g4, .ref g5, .int (nI mo)])), (g3, .inr (3, [.ref n1, .ref n2, .ref n3, .int (nI (nc + 1))])), (n1, .inl (cI, 6, .inl (upd kd nc p0))), (n2, .inl (cI, 6, .inl (upd of_ nc p1))), (n3, .inl (cI, 6, .inl (upd td nc (nI mo)))), (o1, .inl (cJ, 1, .inr (.inl fO)))])) (vx_runV (As := [.int p0, .int p1]) (rest := [.int (nI 0), .ref o1]) ⟨hx, hb, hml, hown, hts⟩ (ct_X5_needle l hlt D cI cJ s.heap.size g0 g1 g2 g3 g4 g5 mo n1 n2 n3 nc kd of_ td p0 p1 hnc) (cwV 2 hts gL_needle_X5_needle rfl rfl rfl (by decide +kernel) ⟨Nat.le_of_ble_eq_true rfl, Nat.le_of_ble_eq_true rfl⟩) (gv_pVZ (wc := [(g0, .inr (5, [.ref g1, .ref g2, .ref g3, .ref g4, .ref g5, .int (nI mo)])), (g3, .inr (3, [.ref n1, .ref n2, .ref n3, .int (nI nc)])), (n1, .inl (cI, 6, .inl kd)), (n2, .inl (cI, 6, .inl of_)), (n3, .inl (cI, 6, .inl td))]) hP hK hD hG (hZ0.kept hS.2.1) (va_free hD hS hA [0, 1, 2, 3, 4] rfl) [0, 1, 2, 3, 4] rfl (by decide) 0 rfl rfl rfl) rfl rfl hl.1 rfl (lv_room (Nat.le_of_ble_eq_true rfl)) dL_needle_5 ⟨Nat.le_of_ble_eq_true rfl, Nat.le_of_ble_eq_true rfl⟩) hP hD hS hA [0, 1, 2, 3, 4] [5] [1, 2, 3, 4, 5, 0] rfl rfl (by decide) (by decide) (fun u => rfl) (by decide) (fun E ce q9 H locs hBX hP hS hce hcv hcl => ?_) (fun rv u H locs hrp hP hD hS => ?_)
  · skip
    rcases hBX with ⟨rfl, hXA⟩ | ⟨rfl, hXS⟩
    · skip
      refine vx_catch (name := gv_eA) hown [] ⟨0, 10, 13, 15⟩ [⟨0, 10, 17, 39⟩] (htab.trans rfl) (fun _ h => absurd h List.not_mem_nil) rfl (by decide) (hts (.classLink RL 15 gv_eA) (by decide +kernel)) ((gv_ca_A hG).use rfl) hce hcv hcl ?_
      refine W.eq (g2 := F0 m 13 ls [.ref q9]) rfl ?_
      refine lv_astore (lv' := [(4, .ref q9), (0, .ref g0), (1, .int p0), (2, .int p1), (3, .ref o1)]) hx hb dL_needle_13 hl (by decide) rfl (fun ls hl => ?_)
      refine lv_iconst (v := nI 1) hx hb dL_needle_15 (by decide) ?_
      have hpo : match (nc, kd, of_, td, fO) with | (nc9, kd9, of9, td9, fO9) => (nI 1) = gv_02 (gv_okn p0 p1) (¬ nc = 6) ∧ (gv_02 (gv_okn p0 p1) (¬ nc = 6) = 0 → nc9 = nc + 1 ∧ kd9 = upd kd nc p0 ∧ of9 = upd of_ nc p1 ∧ td9 = upd td nc (nI mo) ∧ fO9 = vp_updL fO 0 ((nI nc).toInt64)) ∧ (¬ gv_02 (gv_okn p0 p1) (¬ nc = 6) = 0 → nc9 = nc ∧ kd9 = kd ∧ of9 = of_ ∧ td9 = td ∧ fO9 = fO) := by
        exact ⟨gv_02a hXA, fun z => absurd (gv_02z z).1 hXA, fun _ => ⟨rfl, rfl, rfl, rfl, rfl⟩⟩
      have hP9 : va_P D vwCl [(g0, .inr (5, [.ref g1, .ref g2, .ref g3, .ref g4, .ref g5, .int (nI mo)])), (g3, .inr (3, [.ref n1, .ref n2, .ref n3, .int (nI nc)])), (n1, .inl (cI, 6, .inl kd)), (n2, .inl (cI, 6, .inl of_)), (n3, .inl (cI, 6, .inl td)), (o1, .inl (cJ, 1, .inr (.inl fO)))] H := hP
      have hD9 : va_D A [(g0, .inr (5, [.ref g1, .ref g2, .ref g3, .ref g4, .ref g5, .int (nI mo)])), (g3, .inr (3, [.ref n1, .ref n2, .ref n3, .int (nI nc)])), (n1, .inl (cI, 6, .inl kd)), (n2, .inl (cI, 6, .inl of_)), (n3, .inl (cI, 6, .inl td)), (o1, .inl (cJ, 1, .inr (.inl fO)))] := hD
      exact W.iret (v := nI 1) hx hb hr (fun t9 ht9 hW9 => ⟨⟨(nI 1), (nc, kd, of_, td, fO), rfl, hpo, by rw [ht9]; exact hP9, hD9⟩, hS.F ht9⟩) hS.2.2 dL_needle_16
    · skip
      refine vx_catch (name := gv_eS) hown [⟨0, 10, 13, 15⟩] ⟨0, 10, 17, 39⟩ [] (htab.trans rfl) (List.forall_mem_cons.mpr ⟨Or.inr ⟨by decide, gv_eA, (hts (.classLink RL 15 gv_eA) (by decide +kernel)), gv_nc_SA hG⟩, (fun z h => absurd h List.not_mem_nil)⟩) rfl (by decide) (hts (.classLink RL 39 gv_eS) (by decide +kernel)) ((gv_ca_S hG).use rfl) hce hcv hcl ?_
      refine W.eq (g2 := F0 m 17 ls [.ref q9]) rfl ?_
      refine lv_astore (lv' := [(4, .ref q9), (0, .ref g0), (1, .int p0), (2, .int p1), (3, .ref o1)]) hx hb dL_needle_17 hl (by decide) rfl (fun ls hl => ?_)
      refine lv_iconst (v := nI 2) hx hb dL_needle_19 (by decide) ?_
      have hpo : match (nc, kd, of_, td, fO) with | (nc9, kd9, of9, td9, fO9) => (nI 2) = gv_02 (gv_okn p0 p1) (¬ nc = 6) ∧ (gv_02 (gv_okn p0 p1) (¬ nc = 6) = 0 → nc9 = nc + 1 ∧ kd9 = upd kd nc p0 ∧ of9 = upd of_ nc p1 ∧ td9 = upd td nc (nI mo) ∧ fO9 = vp_updL fO 0 ((nI nc).toInt64)) ∧ (¬ gv_02 (gv_okn p0 p1) (¬ nc = 6) = 0 → nc9 = nc ∧ kd9 = kd ∧ of9 = of_ ∧ td9 = td ∧ fO9 = fO) := by
        exact ⟨gv_02b hXS.1 (fun z => hXS.2 (by omega)), fun z => absurd (gv_02z z).2 (fun w => hXS.2 (by omega)), fun _ => ⟨rfl, rfl, rfl, rfl, rfl⟩⟩
      have hP9 : va_P D vwCl [(g0, .inr (5, [.ref g1, .ref g2, .ref g3, .ref g4, .ref g5, .int (nI mo)])), (g3, .inr (3, [.ref n1, .ref n2, .ref n3, .int (nI nc)])), (n1, .inl (cI, 6, .inl kd)), (n2, .inl (cI, 6, .inl of_)), (n3, .inl (cI, 6, .inl td)), (o1, .inl (cJ, 1, .inr (.inl fO)))] H := hP
      have hD9 : va_D A [(g0, .inr (5, [.ref g1, .ref g2, .ref g3, .ref g4, .ref g5, .int (nI mo)])), (g3, .inr (3, [.ref n1, .ref n2, .ref n3, .int (nI nc)])), (n1, .inl (cI, 6, .inl kd)), (n2, .inl (cI, 6, .inl of_)), (n3, .inl (cI, 6, .inl td)), (o1, .inl (cJ, 1, .inr (.inl fO)))] := hD
      exact W.iret (v := nI 2) hx hb hr (fun t9 ht9 hW9 => ⟨⟨(nI 2), (nc, kd, of_, td, fO), rfl, hpo, by rw [ht9]; exact hP9, hD9⟩, hS.F ht9⟩) hS.2.2 dL_needle_20
  have hP : va_P D vwCl [(g0, .inr (5, [.ref g1, .ref g2, .ref g3, .ref g4, .ref g5, .int (nI mo)])), (g3, .inr (3, [.ref n1, .ref n2, .ref n3, .int (nI (nc + 1))])), (n1, .inl (cI, 6, .inl (upd kd nc p0))), (n2, .inl (cI, 6, .inl (upd of_ nc p1))), (n3, .inl (cI, 6, .inl (upd td nc (nI mo)))), (o1, .inl (cJ, 1, .inr (.inl fO)))] H := hP
  have hD : va_D A [(g0, .inr (5, [.ref g1, .ref g2, .ref g3, .ref g4, .ref g5, .int (nI mo)])), (g3, .inr (3, [.ref n1, .ref n2, .ref n3, .int (nI (nc + 1))])), (n1, .inl (cI, 6, .inl (upd kd nc p0))), (n2, .inl (cI, 6, .inl (upd of_ nc p1))), (n3, .inl (cI, 6, .inl (upd td nc (nI mo)))), (o1, .inl (cJ, 1, .inr (.inl fO)))] := hD
  refine lv_i2l (v := rv.toInt64) hx hb dL_needle_8 rfl ?_
  refine gv_ls hx hb hK hP hD hS 5 (k := 0) rfl (by omega) (by decide) dL_needle_9 (fun H locs hP hD hS => ?_)
  have hP : va_P D vwCl [(g0, .inr (5, [.ref g1, .ref g2, .ref g3, .ref g4, .ref g5, .int (nI mo)])), (g3, .inr (3, [.ref n1, .ref n2, .ref n3, .int (nI (nc + 1))])), (n1, .inl (cI, 6, .inl (upd kd nc p0))), (n2, .inl (cI, 6, .inl (upd of_ nc p1))), (n3, .inl (cI, 6, .inl (upd td nc (nI mo)))), (o1, .inl (cJ, 1, .inr (.inl (vp_updL fO 0 rv.toInt64))))] H := hP
  have hD : va_D A [(g0, .inr (5, [.ref g1, .ref g2, .ref g3, .ref g4, .ref g5, .int (nI mo)])), (g3, .inr (3, [.ref n1, .ref n2, .ref n3, .int (nI (nc + 1))])), (n1, .inl (cI, 6, .inl (upd kd nc p0))), (n2, .inl (cI, 6, .inl (upd of_ nc p1))), (n3, .inl (cI, 6, .inl (upd td nc (nI mo)))), (o1, .inl (cJ, 1, .inr (.inl (vp_updL fO 0 rv.toInt64))))] := hD
  refine lv_goto (tgt := 21) hx hb dL_needle_10 (by decide) ?_
  refine lv_iconst (v := nI 0) hx hb dL_needle_21 (by decide) ?_
  have hpo : match (nc + 1, upd kd nc p0, upd of_ nc p1, upd td nc (nI mo), vp_updL fO 0 rv.toInt64) with | (nc9, kd9, of9, td9, fO9) => (nI 0) = gv_02 (gv_okn p0 p1) (¬ nc = 6) ∧ (gv_02 (gv_okn p0 p1) (¬ nc = 6) = 0 → nc9 = nc + 1 ∧ kd9 = upd kd nc p0 ∧ of9 = upd of_ nc p1 ∧ td9 = upd td nc (nI mo) ∧ fO9 = vp_updL fO 0 ((nI nc).toInt64)) ∧ (¬ gv_02 (gv_okn p0 p1) (¬ nc = 6) = 0 → nc9 = nc ∧ kd9 = kd ∧ of9 = of_ ∧ td9 = td ∧ fO9 = fO) := by
    have hth := gv_02c (p := gv_okn p0 p1) (q := ¬ nc = 6) hrp.1 (by have := hrp.2.1; omega)
    exact ⟨hth, fun _ => ⟨rfl, rfl, rfl, rfl, by rw [hrp.2.2]⟩, fun z => absurd hth.symm z⟩
  have hP9 : va_P D vwCl [(g0, .inr (5, [.ref g1, .ref g2, .ref g3, .ref g4, .ref g5, .int (nI mo)])), (g3, .inr (3, [.ref n1, .ref n2, .ref n3, .int (nI (nc + 1))])), (n1, .inl (cI, 6, .inl (upd kd nc p0))), (n2, .inl (cI, 6, .inl (upd of_ nc p1))), (n3, .inl (cI, 6, .inl (upd td nc (nI mo)))), (o1, .inl (cJ, 1, .inr (.inl (vp_updL fO 0 rv.toInt64))))] H := hP
  have hD9 : va_D A [(g0, .inr (5, [.ref g1, .ref g2, .ref g3, .ref g4, .ref g5, .int (nI mo)])), (g3, .inr (3, [.ref n1, .ref n2, .ref n3, .int (nI (nc + 1))])), (n1, .inl (cI, 6, .inl (upd kd nc p0))), (n2, .inl (cI, 6, .inl (upd of_ nc p1))), (n3, .inl (cI, 6, .inl (upd td nc (nI mo)))), (o1, .inl (cJ, 1, .inr (.inl (vp_updL fO 0 rv.toInt64))))] := hD
  exact W.iret (v := nI 0) hx hb hr (fun t9 ht9 hW9 => ⟨⟨(nI 0), (nc + 1, upd kd nc p0, upd of_ nc p1, upd td nc (nI mo), vp_updL fO 0 rv.toInt64), rfl, hpo, by rw [ht9]; exact hP9, hD9⟩, hS.F ht9⟩) hS.2.2 dL_needle_22
set_option maxHeartbeats 4000000 in
set_option maxRecDepth 100000 in
theorem ct_L_tie (l : Launch) (hlt : l.stackTraces = false) (D : va_G) (cI cJ : ClassId) (sz : Nat) (g0 g1 g2 g3 g4 g5 mo : Nat)(n1 n2 n3 nc : Nat) (kd of_ td : Nat → Int32) (p0 : Int32) (o1 : Nat) (fO : Nat → Int64) (hnc : nc ≤ 6) : Met l yL_tie wsL_tie ({ frames := 8, cells := 1, slots := 6, locals := 134 }) (va_Pc [.ref g0, .int p0, .ref o1] (gv_Z D cI cJ [(g0, .inr (5, [.ref g1, .ref g2, .ref g3, .ref g4, .ref g5, .int (nI mo)])), (g3, .inr (3, [.ref n1, .ref n2, .ref n3, .int (nI nc)])), (n1, .inl (cI, 6, .inl kd)), (n2, .inl (cI, 6, .inl of_)), (n3, .inl (cI, 6, .inl td)), (o1, .inl (cJ, 1, .inr (.inl fO)))] sz)) (va_Qi (fun (r9 : Int32) (u9 : (Nat → Int32) × (Nat → Int64)) => match u9 with | (td9, fO9) => r9 = gv_02 (vp_in p0 nc) (¬ kd p0.toNatClampNeg = 0) ∧ (∀ i, i < nc → p0 = nI i → ¬ kd i = 0 → td9 = upd td i (nI mo) ∧ fO9 = vp_updL fO 0 (gv_off kd of_ td (nI mo) i)) ∧ (¬ gv_02 (vp_in p0 nc) (¬ kd p0.toNatClampNeg = 0) = 0 → td9 = td ∧ fO9 = fO)) (fun (u9 : (Nat → Int32) × (Nat → Int64)) t9 => gv_W D (va_A [(g0, .inr (5, [.ref g1, .ref g2, .ref g3, .ref g4, .ref g5, .int (nI mo)])), (g3, .inr (3, [.ref n1, .ref n2, .ref n3, .int (nI nc)])), (n1, .inl (cI, 6, .inl kd)), (n2, .inl (cI, 6, .inl of_)), (n3, .inl (cI, 6, .inl td)), (o1, .inl (cJ, 1, .inr (.inl fO)))] sz) (match u9 with | (td9, fO9) => [(g0, .inr (5, [.ref g1, .ref g2, .ref g3, .ref g4, .ref g5, .int (nI mo)])), (g3, .inr (3, [.ref n1, .ref n2, .ref n3, .int (nI nc)])), (n1, .inl (cI, 6, .inl kd)), (n2, .inl (cI, 6, .inl of_)), (n3, .inl (cI, 6, .inl td9)), (o1, .inl (cJ, 1, .inr (.inl fO9)))]) t9) (va_A [(g0, .inr (5, [.ref g1, .ref g2, .ref g3, .ref g4, .ref g5, .int (nI mo)])), (g3, .inr (3, [.ref n1, .ref n2, .ref n3, .int (nI nc)])), (n1, .inl (cI, 6, .inl kd)), (n2, .inl (cI, 6, .inl of_)), (n3, .inl (cI, 6, .inl td)), (o1, .inl (cJ, 1, .inr (.inl fO)))] sz)) 1 6 (va_A [(g0, .inr (5, [.ref g1, .ref g2, .ref g3, .ref g4, .ref g5, .int (nI mo)])), (g3, .inr (3, [.ref n1, .ref n2, .ref n3, .int (nI nc)])), (n1, .inl (cI, 6, .inl kd)), (n2, .inl (cI, 6, .inl of_)), (n3, .inl (cI, 6, .inl td)), (o1, .inl (cJ, 1, .inr (.inl fO)))] sz) := by
  refine va_MetW (cc := cL_tie) (maxL := 4) (ret := (some .int)) (hh := [(0, 8, 11, 13), (0, 8, 14, 39)]) (by decide) rfl ?_
  intro p e s m args below meth c s₁ B hml hv
  obtain ⟨rfl, ⟨hsz, hP, hK, hD0, hG⟩, hZ0⟩ := hv
  have hx := B.exec
  have hb := B.bytes
  have hr := B.returns
  have hts := atoms_spec (ws := wsL_tie) B.pre
  have hown : s.vm.findClass RL = some m.cls := findClass_of_methodNamed B.named
  have hlocks := B.notSynchronized
  have htab : c.exceptionTable.toList = tableOf [(0, 8, 11, 13), (0, 8, 14, 39)] := vx_table (x := yL_tie) B (hts _ List.mem_cons_self)
  subst hsz
  have hD := hD0.self (sz := s.heap.size)
  generalize hAe : va_A [(g0, .inr (5, [.ref g1, .ref g2, .ref g3, .ref g4, .ref g5, .int (nI mo)])), (g3, .inr (3, [.ref n1, .ref n2, .ref n3, .int (nI nc)])), (n1, .inl (cI, 6, .inl kd)), (n2, .inl (cI, 6, .inl of_)), (n3, .inl (cI, 6, .inl td)), (o1, .inl (cJ, 1, .inr (.inl fO)))] s.heap.size = A at hD hZ0 ⊢
  have hA : ∀ q : Nat, s.heap.size ≤ q → A q := fun q h => by rw [← hAe]; exact Or.inr h
  have hS : va_S A s.heap s.heap [] := va_S.rf
  have hP : va_P D vwCl [(g0, .inr (5, [.ref g1, .ref g2, .ref g3, .ref g4, .ref g5, .int (nI mo)])), (g3, .inr (3, [.ref n1, .ref n2, .ref n3, .int (nI nc)])), (n1, .inl (cI, 6, .inl kd)), (n2, .inl (cI, 6, .inl of_)), (n3, .inl (cI, 6, .inl td)), (o1, .inl (cJ, 1, .inr (.inl fO)))] s.heap := hP
  have hl := lv_entry ([.ref g0, .int p0, .ref o1]) (n := 4) (Nat.le_of_ble_eq_true rfl)
  rw [lg_entry_eq]
  generalize (lg_sl ([.ref g0, .int p0, .ref o1]) ++ List.replicate (4 - (lg_sl ([.ref g0, .int p0, .ref o1])).length) Slot.unset).toArray = ls at hl ⊢
  have hl : lv_has ls 4 [(0, .ref g0), (1, .int p0), (2, .ref o1)] := hl
  refine lv_aload_n hx hb dL_tie_0 rfl (lv_at hl 2 rfl) ?_
  refine lv_iconst (v := nI 0) hx hb dL_tie_1 (by decide) ?_
  refine lv_aload_n hx hb dL_tie_2 rfl (lv_at hl 0 rfl) ?_
  refine lv_iload_n hx hb dL_tie_3 rfl (lv_at hl 1 rfl) ?_
  refine gv_tl (wc := [(g0, .inr (5, [.ref g1, .ref g2, .ref g3, .ref g4, .ref g5, .int (nI mo)])), (g3, .inr (3, [.ref n1, .ref n2, .ref n3, .int (nI nc)])), (n1, .inl (cI, 6, .inl kd)), (n2, .inl (cI, 6, .inl of_)), (n3, .inl (cI, 6, .inl td))]) (wr := [(o1, .inl (cJ, 1, .inr (.inl fO)))]) (w2 := (fun u => match u with | i9 => [(g0, .inr (5, [.ref g1, .ref g2, .ref g3, .ref g4, .ref g5, .int (nI mo)])), (g3, .inr (3, [.ref n1, .ref n2, .ref n3, .int (nI nc)])), (n1, .inl (cI, 6, .inl kd)), (n2, .inl (cI, 6, .inl of_)), (n3, .inl (cI, 6, .inl (upd td i9 (nI mo)))), (o1, .inl (cJ, 1, .inr (.inl fO)))])) (vx_runV (As := [.int p0]) (rest := [.int (nI 0), .ref o1]) ⟨hx, hb, hml, hown, hts⟩ (ct_X5_tie l hlt D cI cJ s.heap.size g0 g1 g2 g3 g4 g5 mo n1 n2 n3 nc kd of_ td p0 hnc) (cwV 1 hts gL_tie_X5_tie rfl rfl rfl (by decide +kernel) ⟨Nat.le_of_ble_eq_true rfl, Nat.le_of_ble_eq_true rfl⟩) (gv_pVZ (wc := [(g0, .inr (5, [.ref g1, .ref g2, .ref g3, .ref g4, .ref g5, .int (nI mo)])), (g3, .inr (3, [.ref n1, .ref n2, .ref n3, .int (nI nc)])), (n1, .inl (cI, 6, .inl kd)), (n2, .inl (cI, 6, .inl of_)), (n3, .inl (cI, 6, .inl td))]) hP hK hD hG (hZ0.kept hS.2.1) (va_free hD hS hA [0, 1, 2, 3, 4] rfl) [0, 1, 2, 3, 4] rfl (by decide) 0 rfl rfl rfl) rfl rfl hl.1 rfl (lv_room (Nat.le_of_ble_eq_true rfl)) dL_tie_4 ⟨Nat.le_of_ble_eq_true rfl, Nat.le_of_ble_eq_true rfl⟩) hP hD hS hA [0, 1, 2, 3, 4] [5] [1, 2, 3, 4, 5, 0] rfl rfl (by decide) (by decide) (fun u => rfl) (by decide) (fun E ce q9 H locs hBX hP hS hce hcv hcl => ?_) (fun rv i9 H locs hrp hP hD hS => ?_)
  · skip
    rcases hBX with ⟨rfl, hXI⟩ | ⟨rfl, hXS⟩
    · skip
      refine vx_catch (name := gv_eI) hown [] ⟨0, 8, 11, 13⟩ [⟨0, 8, 14, 39⟩] (htab.trans rfl) (fun _ h => absurd h List.not_mem_nil) rfl (by decide) (hts (.classLink RL 13 gv_eI) (by decide +kernel)) ((gv_ca_I hG).use rfl) hce hcv hcl ?_
      refine W.eq (g2 := F0 m 11 ls [.ref q9]) rfl ?_
      refine lv_astore_n (lv' := [(3, .ref q9), (0, .ref g0), (1, .int p0), (2, .ref o1)]) hx hb dL_tie_11 rfl hl (by decide) rfl (fun ls hl => ?_)
      refine lv_iconst (v := nI 1) hx hb dL_tie_12 (by decide) ?_
      have hpo : match (td, fO) with | (td9, fO9) => (nI 1) = gv_02 (vp_in p0 nc) (¬ kd p0.toNatClampNeg = 0) ∧ (∀ i, i < nc → p0 = nI i → ¬ kd i = 0 → td9 = upd td i (nI mo) ∧ fO9 = vp_updL fO 0 (gv_off kd of_ td (nI mo) i)) ∧ (¬ gv_02 (vp_in p0 nc) (¬ kd p0.toNatClampNeg = 0) = 0 → td9 = td ∧ fO9 = fO) := by
        exact ⟨gv_02a hXI, fun i hi ei _ => absurd (by rw [ei]; exact vp_in_nI hi (by omega)) hXI, fun _ => ⟨rfl, rfl⟩⟩
      have hP9 : va_P D vwCl [(g0, .inr (5, [.ref g1, .ref g2, .ref g3, .ref g4, .ref g5, .int (nI mo)])), (g3, .inr (3, [.ref n1, .ref n2, .ref n3, .int (nI nc)])), (n1, .inl (cI, 6, .inl kd)), (n2, .inl (cI, 6, .inl of_)), (n3, .inl (cI, 6, .inl td)), (o1, .inl (cJ, 1, .inr (.inl fO)))] H := hP
      have hD9 : va_D A [(g0, .inr (5, [.ref g1, .ref g2, .ref g3, .ref g4, .ref g5, .int (nI mo)])), (g3, .inr (3, [.ref n1, .ref n2, .ref n3, .int (nI nc)])), (n1, .inl (cI, 6, .inl kd)), (n2, .inl (cI, 6, .inl of_)), (n3, .inl (cI, 6, .inl td)), (o1, .inl (cJ, 1, .inr (.inl fO)))] := hD
      exact W.iret (v := nI 1) hx hb hr (fun t9 ht9 hW9 => ⟨⟨(nI 1), (td, fO), rfl, hpo, by rw [ht9]; exact hP9, hD9⟩, hS.F ht9⟩) hS.2.2 dL_tie_13
    · skip
      refine vx_catch (name := gv_eS) hown [⟨0, 8, 11, 13⟩] ⟨0, 8, 14, 39⟩ [] (htab.trans rfl) (List.forall_mem_cons.mpr ⟨Or.inr ⟨by decide, gv_eI, (hts (.classLink RL 13 gv_eI) (by decide +kernel)), gv_nc_SI hG⟩, (fun z h => absurd h List.not_mem_nil)⟩) rfl (by decide) (hts (.classLink RL 39 gv_eS) (by decide +kernel)) ((gv_ca_S hG).use rfl) hce hcv hcl ?_
      refine W.eq (g2 := F0 m 14 ls [.ref q9]) rfl ?_
      refine lv_astore_n (lv' := [(3, .ref q9), (0, .ref g0), (1, .int p0), (2, .ref o1)]) hx hb dL_tie_14 rfl hl (by decide) rfl (fun ls hl => ?_)
      refine lv_iconst (v := nI 2) hx hb dL_tie_15 (by decide) ?_
      have hpo : match (td, fO) with | (td9, fO9) => (nI 2) = gv_02 (vp_in p0 nc) (¬ kd p0.toNatClampNeg = 0) ∧ (∀ i, i < nc → p0 = nI i → ¬ kd i = 0 → td9 = upd td i (nI mo) ∧ fO9 = vp_updL fO 0 (gv_off kd of_ td (nI mo) i)) ∧ (¬ gv_02 (vp_in p0 nc) (¬ kd p0.toNatClampNeg = 0) = 0 → td9 = td ∧ fO9 = fO) := by
        obtain ⟨i9, hi, ei, hk⟩ := hXS
        refine ⟨gv_02b (by rw [ei]; exact vp_in_nI hi (by omega)) (by rw [ei, nI_clamp (by omega)]; exact fun z => z hk), fun i2 _ ei2 hk2 => ?_, fun _ => ⟨rfl, rfl⟩⟩
        cases gv_inj (ei2.symm.trans ei) (by omega) (by omega)
        exact absurd hk hk2
      have hP9 : va_P D vwCl [(g0, .inr (5, [.ref g1, .ref g2, .ref g3, .ref g4, .ref g5, .int (nI mo)])), (g3, .inr (3, [.ref n1, .ref n2, .ref n3, .int (nI nc)])), (n1, .inl (cI, 6, .inl kd)), (n2, .inl (cI, 6, .inl of_)), (n3, .inl (cI, 6, .inl td)), (o1, .inl (cJ, 1, .inr (.inl fO)))] H := hP
      have hD9 : va_D A [(g0, .inr (5, [.ref g1, .ref g2, .ref g3, .ref g4, .ref g5, .int (nI mo)])), (g3, .inr (3, [.ref n1, .ref n2, .ref n3, .int (nI nc)])), (n1, .inl (cI, 6, .inl kd)), (n2, .inl (cI, 6, .inl of_)), (n3, .inl (cI, 6, .inl td)), (o1, .inl (cJ, 1, .inr (.inl fO)))] := hD
      exact W.iret (v := nI 2) hx hb hr (fun t9 ht9 hW9 => ⟨⟨(nI 2), (td, fO), rfl, hpo, by rw [ht9]; exact hP9, hD9⟩, hS.F ht9⟩) hS.2.2 dL_tie_16
  have hP : va_P D vwCl [(g0, .inr (5, [.ref g1, .ref g2, .ref g3, .ref g4, .ref g5, .int (nI mo)])), (g3, .inr (3, [.ref n1, .ref n2, .ref n3, .int (nI nc)])), (n1, .inl (cI, 6, .inl kd)), (n2, .inl (cI, 6, .inl of_)), (n3, .inl (cI, 6, .inl (upd td i9 (nI mo)))), (o1, .inl (cJ, 1, .inr (.inl fO)))] H := hP
  have hD : va_D A [(g0, .inr (5, [.ref g1, .ref g2, .ref g3, .ref g4, .ref g5, .int (nI mo)])), (g3, .inr (3, [.ref n1, .ref n2, .ref n3, .int (nI nc)])), (n1, .inl (cI, 6, .inl kd)), (n2, .inl (cI, 6, .inl of_)), (n3, .inl (cI, 6, .inl (upd td i9 (nI mo)))), (o1, .inl (cJ, 1, .inr (.inl fO)))] := hD
  refine gv_ls hx hb hK hP hD hS 5 (k := 0) rfl (by omega) (by decide) dL_tie_7 (fun H locs hP hD hS => ?_)
  have hP : va_P D vwCl [(g0, .inr (5, [.ref g1, .ref g2, .ref g3, .ref g4, .ref g5, .int (nI mo)])), (g3, .inr (3, [.ref n1, .ref n2, .ref n3, .int (nI nc)])), (n1, .inl (cI, 6, .inl kd)), (n2, .inl (cI, 6, .inl of_)), (n3, .inl (cI, 6, .inl (upd td i9 (nI mo)))), (o1, .inl (cJ, 1, .inr (.inl (vp_updL fO 0 rv))))] H := hP
  have hD : va_D A [(g0, .inr (5, [.ref g1, .ref g2, .ref g3, .ref g4, .ref g5, .int (nI mo)])), (g3, .inr (3, [.ref n1, .ref n2, .ref n3, .int (nI nc)])), (n1, .inl (cI, 6, .inl kd)), (n2, .inl (cI, 6, .inl of_)), (n3, .inl (cI, 6, .inl (upd td i9 (nI mo)))), (o1, .inl (cJ, 1, .inr (.inl (vp_updL fO 0 rv))))] := hD
  refine lv_goto (tgt := 17) hx hb dL_tie_8 (by decide) ?_
  refine lv_iconst (v := nI 0) hx hb dL_tie_17 (by decide) ?_
  have hpo : match (upd td i9 (nI mo), vp_updL fO 0 rv) with | (td9, fO9) => (nI 0) = gv_02 (vp_in p0 nc) (¬ kd p0.toNatClampNeg = 0) ∧ (∀ i, i < nc → p0 = nI i → ¬ kd i = 0 → td9 = upd td i (nI mo) ∧ fO9 = vp_updL fO 0 (gv_off kd of_ td (nI mo) i)) ∧ (¬ gv_02 (vp_in p0 nc) (¬ kd p0.toNatClampNeg = 0) = 0 → td9 = td ∧ fO9 = fO) := by
    obtain ⟨hi, ei, hk, hv⟩ := hrp
    have hth := gv_02c (p := vp_in p0 nc) (q := ¬ kd p0.toNatClampNeg = 0) (by rw [ei]; exact vp_in_nI hi (by omega)) (by rw [ei, nI_clamp (by omega)]; exact hk)
    refine ⟨hth, fun i2 _ ei2 _ => ?_, fun z => absurd hth.symm z⟩
    cases gv_inj (ei2.symm.trans ei) (by omega) (by omega)
    exact ⟨rfl, by rw [hv]⟩
  have hP9 : va_P D vwCl [(g0, .inr (5, [.ref g1, .ref g2, .ref g3, .ref g4, .ref g5, .int (nI mo)])), (g3, .inr (3, [.ref n1, .ref n2, .ref n3, .int (nI nc)])), (n1, .inl (cI, 6, .inl kd)), (n2, .inl (cI, 6, .inl of_)), (n3, .inl (cI, 6, .inl (upd td i9 (nI mo)))), (o1, .inl (cJ, 1, .inr (.inl (vp_updL fO 0 rv))))] H := hP
  have hD9 : va_D A [(g0, .inr (5, [.ref g1, .ref g2, .ref g3, .ref g4, .ref g5, .int (nI mo)])), (g3, .inr (3, [.ref n1, .ref n2, .ref n3, .int (nI nc)])), (n1, .inl (cI, 6, .inl kd)), (n2, .inl (cI, 6, .inl of_)), (n3, .inl (cI, 6, .inl (upd td i9 (nI mo)))), (o1, .inl (cJ, 1, .inr (.inl (vp_updL fO 0 rv))))] := hD
  exact W.iret (v := nI 0) hx hb hr (fun t9 ht9 hW9 => ⟨⟨(nI 0), (upd td i9 (nI mo), vp_updL fO 0 rv), rfl, hpo, by rw [ht9]; exact hP9, hD9⟩, hS.F ht9⟩) hS.2.2 dL_tie_18
