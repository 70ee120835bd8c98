/-! the reference's search, and that both find the same doubts -/
theorem gv_srl_min {sa sb su : Nat → Nat} {d : Nat → Int32} : ∀ (n k : Nat), k < n → ¬ gv_db sa sb su d k = -1 → ¬ (gv_srl sa sb su d n).1 = -1 ∧ (gv_srl sa sb su d n).2 ≤ gv_db sa sb su d k ∨ 2 ^ 31 ≤ n
  | 0, k, hk, _ => absurd hk (Nat.not_lt_zero k)
  | n + 1, k, hk, hne => by
    by_cases hb : 2 ^ 31 ≤ n + 1
    · exact Or.inr hb
    left
    rw [gv_srl]
    by_cases c : ¬ gv_db sa sb su d n = -1 ∧ ((gv_srl sa sb su d n).1 = -1 ∨ gv_db sa sb su d n < (gv_srl sa sb su d n).2)
    · rw [if_pos c]
      refine ⟨gv_n1 (by omega), ?_⟩
      show gv_db sa sb su d n ≤ gv_db sa sb su d k
      by_cases e : k = n
      · subst e; exact Int32.le_iff_toInt_le.mpr (Int.le_refl _)
      · rcases gv_srl_min n k (by omega) hne with ⟨h1, h2⟩ | h
        · rcases c.2 with z | z
          · exact absurd z h1
          · rw [Int32.le_iff_toInt_le] at h2 ⊢
            rw [Int32.lt_iff_toInt_lt] at z
            omega
        · omega
    · rw [if_neg c]
      by_cases e : k = n
      · subst e
        have h1 : ¬ (gv_srl sa sb su d k).1 = -1 := fun z => c ⟨hne, Or.inl z⟩
        exact ⟨h1, gv_nlt32 (fun z => c ⟨hne, Or.inr z⟩)⟩
      · rcases gv_srl_min n k (by omega) hne with h | h
        · exact h
        · omega
def gv_DJ (sa sb su : Nat → Nat) (ln bn : Nat) (d : Nat → Int32) : Prop :=
  (∀ j, j < 10 → d j = -1 ∨ ∃ n s, d j = nI n ∧ n ≤ 1000 * (10 - gv_cn d bn) ∧ s + gv_cn d bn + 1 ≤ bn ∧ gv_wk sa sb su ln s j n) ∧
  (∀ k, k < ln → ∀ a b, gv_V d (sa k) a → gv_V d (sb k) b → a ≤ b + su k ∧ b ≤ a + su k) ∧
  (∀ k, k < ln → ∀ m, gv_db sa sb su d k = nI m → m ≤ 500000 → ∀ j, j < 10 → ∀ a, gv_V d j a → a ≤ m)
theorem gv_DJ_0 {sa sb su : Nat → Nat} {ln bn : Nat} (dd : Nat → Int32) (hsa : ∀ j, sa j < 10) (hsb : ∀ j, sb j < 10) (hbn : bn ≤ 10) (h1 : 1 ≤ bn) : gv_DJ sa sb su ln bn (gv_ko dd) := by
  have h0 : ∀ j, j < 10 → ¬ j = 0 → gv_ko dd j = -1 := fun j hj c => by
    unfold gv_ko gv_kn
    rw [if_neg c, if_pos hj]
  have hz : ∀ j a, j < 10 → gv_V (gv_ko dd) j a → a = 0 := fun j a hj h => by
    by_cases c : j = 0
    · subst c
      exact gv_V_u (t := gv_ko dd) (j := 0) h ⟨rfl, Nat.zero_le _⟩
    · exact absurd (h0 j hj c) (gv_V_n h)
  refine ⟨fun j hj => ?_, fun k hk a b ha hb => ?_, fun k hk m hm hm2 j hj a ha => ?_⟩
  · by_cases c : j = 0
    · subst c
      exact Or.inr ⟨0, 0, rfl, Nat.zero_le _, by rw [gv_cn_0 dd bn hbn]; omega, rfl, rfl⟩
    · exact Or.inl (h0 j hj c)
  · have e1 := hz _ _ (hsa k) ha
    have e2 := hz _ _ (hsb k) hb
    omega
  · have e1 := hz j a hj ha
    omega
set_option maxRecDepth 100000 in
theorem gv_DJ_s {sa sb su : Nat → Nat} {sr : Nat → Int32} {ln bn j : Nat} {d h : Nat → Int32} (hf : gv_DJ sa sb su ln bn d) (hsa : ∀ j, sa j < 10) (hsb : ∀ j, sb j < 10) (hsu : ∀ j, su j ≤ 1000) (hlb : ∀ k, k < ln → sa k < bn ∧ sb k < bn) (hbn : bn ≤ 10) (hln : ln ≤ 24) (hj : j < ln) (e : gv_srl sa sb su d ln = (nI j, gv_db sa sb su d j)) (hdb : ¬ gv_db sa sb su d j = -1) :
    gv_DJ sa sb su ln bn (gv_stp sa sb su sr (d, h) j).1 := by
  obtain ⟨hA, hB, hC⟩ := hf
  have hle := gv_cn_le d bn
  have huj := hsu j
  have hmin : ∀ k, k < ln → ¬ gv_db sa sb su d k = -1 → gv_db sa sb su d j ≤ gv_db sa sb su d k := fun k hk hne => by
    rcases gv_srl_min ln k hk hne with ⟨-, z⟩ | z
    · rw [e] at z; exact z
    · omega
  have key : ∀ (x y n s : Nat), x < bn → y < 10 → d x = -1 → d y = nI n → n ≤ 1000 * (10 - gv_cn d bn) → s + gv_cn d bn + 1 ≤ bn → gv_wk sa sb su ln (s + 1) x (n + su j) → gv_db sa sb su d j = nI (n + su j) → gv_DJ sa sb su ln bn (upd d x (nI (n + su j))) := by
    intro x y n s hx hy hdx hdy hn hs hw hgj
    have hc := gv_cn_up (v := nI (n + su j)) hdx (gv_n1 (by omega)) hx
    have hV : ∀ i a, gv_V (upd d x (nI (n + su j))) i a → i = x ∧ a = n + su j ∨ ¬ i = x ∧ gv_V d i a := by
      intro i a ha
      by_cases c : i = x
      · subst c
        exact Or.inl ⟨rfl, gv_V_u ha ⟨by rw [pk_us], by omega⟩⟩
      · refine Or.inr ⟨c, ?_, ha.2⟩
        have h1 := ha.1
        rw [pk_un c] at h1
        exact h1
    have hsm : ∀ i a, i < 10 → gv_V d i a → a ≤ 10000 := by
      intro i a hi ha
      rcases hA i hi with z | ⟨n2, s2, e2, hn2, -, -⟩
      · exact absurd z (gv_V_n ha)
      · have h1 : gv_V d i n2 := ⟨e2, by omega⟩
        have := gv_V_u ha h1
        omega
    have hlq : ∀ k a, k < ln → a ≤ 500000 → gv_db sa sb su d k = nI a → n + su j ≤ a := by
      intro k a hk ha h2
      have z := hmin k hk (by rw [h2]; exact gv_n1 (by omega))
      rw [hgj, h2] at z
      exact (nI_leI (by omega) (by omega)).mp z
    have hall : ∀ i a, i < 10 → gv_V d i a → a ≤ n + su j := fun i a hi ha => hC j hj (n + su j) hgj (by omega) i hi a ha
    have one : ∀ u w, w = -1 → gv_db2 w u 0 = gv_db2 w u 0 := fun _ _ _ => rfl
    have side : ∀ k, k < ln → ∀ b, (d (sa k) = -1 ∧ gv_V d (sb k) b) ∨ (d (sb k) = -1 ∧ gv_V d (sa k) b) → gv_db sa sb su d k = nI (b + su k) := by
      intro k hk b hb
      unfold gv_db gv_db2
      rcases hb with ⟨h1, h2⟩ | ⟨h1, h2⟩
      · rw [if_neg (fun z => gv_V_n h2 (z.mp h1)), if_pos h1, h2.1, nI_add]
      · rw [if_neg (fun z => gv_V_n h2 (z.mpr h1)), if_neg (gv_V_n h2), h2.1, nI_add]
    refine ⟨fun i hi => ?_, fun k hk a b ha hb => ?_, fun k hk m hm hm2 i hi a ha => ?_⟩
    · by_cases c : i = x
      · subst c
        exact Or.inr ⟨n + su j, s + 1, by rw [pk_us], by omega, by omega, hw⟩
      · rw [pk_un c]
        rcases hA i hi with z | ⟨n2, s2, e2, hn2, hs2, w2⟩
        · exact Or.inl z
        · exact Or.inr ⟨n2, s2, e2, by omega, by omega, w2⟩
    · have huk := hsu k
      rcases hV _ _ ha with ⟨c1, e1⟩ | ⟨c1, v1⟩
      · rcases hV _ _ hb with ⟨c2, e2⟩ | ⟨c2, v2⟩
        · omega
        · have h3 := side k hk b (Or.inl ⟨by rw [c1]; exact hdx, v2⟩)
          have h4 := hsm _ _ (hsb k) v2
          have h5 := hlq k (b + su k) hk (by omega) h3
          have h6 := hall _ _ (hsb k) v2
          omega
      · rcases hV _ _ hb with ⟨c2, e2⟩ | ⟨c2, v2⟩
        · have h3 := side k hk a (Or.inr ⟨by rw [c2]; exact hdx, v1⟩)
          have h4 := hsm _ _ (hsa k) v1
          have h5 := hlq k (a + su k) hk (by omega) h3
          have h6 := hall _ _ (hsa k) v1
          omega
        · exact hB k hk a b v1 v2
    · have huk := hsu k
      have hM : n + su j ≤ m := by
        have hne : ¬ gv_db2 (upd d x (nI (n + su j)) (sa k)) (upd d x (nI (n + su j)) (sb k)) (nI (su k)) = -1 := by
          show ¬ gv_db sa sb su (upd d x (nI (n + su j))) k = -1
          rw [hm]; exact gv_n1 (by omega)
        have hm' : gv_db2 (upd d x (nI (n + su j)) (sa k)) (upd d x (nI (n + su j)) (sb k)) (nI (su k)) = nI m := hm
        rcases gv_db_xy hne with ⟨p1, p2, p3⟩ | ⟨p1, p2, p3⟩
        · have cx : ¬ sa k = x := fun z => by rw [z, pk_us] at p1; exact gv_n1 (by omega) p1
          rw [pk_un cx] at p1
          by_cases c : sb k = x
          · rw [p3, c, pk_us, nI_add] at hm'
            have := gv_inj hm' (by omega) (by omega)
            omega
          · rw [p3, pk_un c] at hm'
            rw [pk_un c] at p2
            rcases hA _ (hsb k) with z | ⟨n2, s2, e2, hn2, -, -⟩
            · exact absurd z p2
            · rw [e2, nI_add] at hm'
              have h7 := gv_inj hm' (by omega) (by omega)
              have h8 := hlq k (n2 + su k) hk (by omega) (side k hk n2 (Or.inl ⟨p1, e2, by omega⟩))
              omega
        · have cx : ¬ sb k = x := fun z => by rw [z, pk_us] at p2; exact gv_n1 (by omega) p2
          rw [pk_un cx] at p2
          by_cases c : sa k = x
          · rw [p3, c, pk_us, nI_add] at hm'
            have := gv_inj hm' (by omega) (by omega)
            omega
          · rw [p3, pk_un c] at hm'
            rw [pk_un c] at p1
            rcases hA _ (hsa k) with z | ⟨n2, s2, e2, hn2, -, -⟩
            · exact absurd z p1
            · rw [e2, nI_add] at hm'
              have h7 := gv_inj hm' (by omega) (by omega)
              have h8 := hlq k (n2 + su k) hk (by omega) (side k hk n2 (Or.inr ⟨p2, e2, by omega⟩))
              omega
      rcases hV _ _ ha with ⟨-, e1⟩ | ⟨-, v1⟩
      · omega
      · have := hall i a hi v1
        omega
  rcases gv_db_xy hdb with ⟨h1, h2, h3⟩ | ⟨h1, h2, h3⟩
  · rcases hA _ (hsb j) with z | ⟨n, s, en, hn, hs, w⟩
    · exact absurd z h2
    have ev : gv_db sa sb su d j = nI (n + su j) := by show gv_db2 _ _ _ = _; rw [h3, en, nI_add]
    have z := key (sa j) (sb j) n s (hlb j hj).1 (hsb j) h1 en hn hs ⟨j, sb j, n, hj, w, rfl, Or.inr ⟨rfl, rfl⟩⟩ ev
    have es : (gv_stp sa sb su sr (d, h) j).1 = upd d (sa j) (nI (n + su j)) := by
      unfold gv_stp
      rw [if_neg h2]
      show upd d (sa j) (d (sb j) + nI (su j)) = _
      rw [en, nI_add]
    rw [es]
    exact z
  · rcases hA _ (hsa j) with z | ⟨n, s, en, hn, hs, w⟩
    · exact absurd z h1
    have ev : gv_db sa sb su d j = nI (n + su j) := by show gv_db2 _ _ _ = _; rw [h3, en, nI_add]
    have z := key (sb j) (sa j) n s (hlb j hj).2 (hsa j) h2 en hn hs ⟨j, sa j, n, hj, w, rfl, Or.inl ⟨rfl, rfl⟩⟩ ev
    have es : (gv_stp sa sb su sr (d, h) j).1 = upd d (sb j) (nI (n + su j)) := by
      unfold gv_stp
      rw [if_pos h2]
      show upd d (sb j) (d (sa j) + nI (su j)) = _
      rw [en, nI_add]
    rw [es]
    exact z
theorem gv_DJ_e {sa sb su : Nat → Nat} {sr : Nat → Int32} {ln bn : Nat} {goal : (Nat → Int32) × (Nat → Int32)} (hsa : ∀ j, sa j < 10) (hsb : ∀ j, sb j < 10) (hsu : ∀ j, su j ≤ 1000) (hlb : ∀ k, k < ln → sa k < bn ∧ sb k < bn) (hbn : bn ≤ 10) (hln : ln ≤ 24) : ∀ (c : Nat) (d h : Nat → Int32), gv_cn d bn ≤ c → gv_fi sa sb su sr ln bn d h goal → gv_DJ sa sb su ln bn d → gv_DJ sa sb su ln bn goal.1 ∧ ∀ k, k < ln → gv_db sa sb su goal.1 k = -1 := by
  intro c
  induction c with
  | zero =>
    intro d h hc hf hd
    by_cases z : (gv_srl sa sb su d ln).1 = -1
    · have hg : gv_itr sa sb su sr ln (gv_cn d bn) (d, h) = goal := hf.2
      rw [gv_itr_no z] at hg
      rw [← hg]
      refine ⟨hd, fun k hk => Classical.byContradiction (fun w => ?_)⟩
      rcases gv_srl_min ln k hk w with ⟨w1, -⟩ | w1
      · exact w1 z
      · omega
    · obtain ⟨j, hj, e, hdb⟩ := gv_srl_n hln z
      have := (gv_fi_s hf hsa hsb hsu hlb hbn hj (by omega) e hdb).2
      omega
  | succ c ih =>
    intro d h hc hf hd
    by_cases z : (gv_srl sa sb su d ln).1 = -1
    · have hg : gv_itr sa sb su sr ln (gv_cn d bn) (d, h) = goal := hf.2
      rw [gv_itr_no z] at hg
      rw [← hg]
      refine ⟨hd, fun k hk => Classical.byContradiction (fun w => ?_)⟩
      rcases gv_srl_min ln k hk w with ⟨w1, -⟩ | w1
      · exact w1 z
      · omega
    · obtain ⟨j, hj, e, hdb⟩ := gv_srl_n hln z
      obtain ⟨f1, f2⟩ := gv_fi_s hf hsa hsb hsu hlb hbn hj (by omega) e hdb
      exact ih _ _ (by omega) f1 (gv_DJ_s hd hsa hsb hsu hlb hbn hln hj e hdb)
theorem gv_DJ_w {sa sb su : Nat → Nat} {ln bn : Nat} {d : Nat → Int32} (hd : gv_DJ sa sb su ln bn d) (h0 : gv_V d 0 0) (hsa : ∀ j, sa j < 10) (hsb : ∀ j, sb j < 10) (hsu : ∀ j, su j ≤ 1000) (hcl : ∀ k, k < ln → gv_db sa sb su d k = -1) : ∀ (s i L : Nat), gv_wk sa sb su ln s i L → ∃ a, gv_V d i a ∧ a ≤ L
  | 0, i, L, w => by
    obtain ⟨e1, e2⟩ := w
    subst e1
    exact ⟨0, h0, Nat.zero_le _⟩
  | s + 1, i, L, w => by
    obtain ⟨k, i2, L2, hk, w2, e, hc⟩ := w
    obtain ⟨a, ha, hL⟩ := gv_DJ_w hd h0 hsa hsb hsu hcl s i2 L2 w2
    have hle := gv_cn_le d bn
    have hcl := hcl k hk
    have fnd : ∀ i, i < 10 → ¬ d i = -1 → ∃ b, gv_V d i b := fun i hi hne => by
      rcases hd.1 i hi with z | ⟨n, s, en, hn, -, -⟩
      · exact absurd z hne
      · exact ⟨n, en, by omega⟩
    have both : (d (sa k) = -1 ↔ d (sb k) = -1) := by
      by_cases c : d (sa k) = -1 ↔ d (sb k) = -1
      · exact c
      · exfalso
        have huk := hsu k
        unfold gv_db gv_db2 at hcl
        rw [if_neg c] at hcl
        by_cases x : d (sa k) = -1
        · have y : ¬ d (sb k) = -1 := fun z => c ⟨fun _ => z, fun _ => x⟩
          obtain ⟨n, hn⟩ := fnd (sb k) (hsb k) y
          have hn2 := hn.2
          rw [if_pos x, hn.1, nI_add] at hcl
          exact gv_n1 (by omega) hcl
        · obtain ⟨n, hn⟩ := fnd (sa k) (hsa k) x
          have hn2 := hn.2
          rw [if_neg x, hn.1, nI_add] at hcl
          exact gv_n1 (by omega) hcl
    rcases hc with ⟨c1, c2⟩ | ⟨c1, c2⟩
    · rw [c1] at ha
      obtain ⟨b, hb⟩ := fnd (sb k) (hsb k) (fun z => gv_V_n ha (both.mpr z))
      have := (hd.2.1 k hk a b ha hb).2
      exact ⟨b, by rw [c2]; exact hb, by omega⟩
    · rw [c1] at ha
      obtain ⟨b, hb⟩ := fnd (sa k) (hsa k) (fun z => gv_V_n ha (both.mp z))
      have := (hd.2.1 k hk b a hb ha).1
      exact ⟨b, by rw [c2]; exact hb, by omega⟩
theorem gv_stp_0 {sa sb su : Nat → Nat} {sr : Nat → Int32} {d h : Nat → Int32} {j : Nat} (h0 : gv_V d 0 0) (hdb : ¬ gv_db sa sb su d j = -1) : gv_V (gv_stp sa sb su sr (d, h) j).1 0 0 := by
  have h1 := gv_V_n h0
  rcases gv_db_xy hdb with ⟨a, b, -⟩ | ⟨a, b, -⟩
  · unfold gv_stp
    rw [if_neg b]
    exact ⟨by show upd d (sa j) _ 0 = _; rw [pk_un (fun z => h1 (by rw [z]; exact a))]; exact h0.1, h0.2⟩
  · unfold gv_stp
    rw [if_pos b]
    exact ⟨by show upd d (sb j) _ 0 = _; rw [pk_un (fun z => h1 (by rw [z]; exact b))]; exact h0.1, h0.2⟩
theorem gv_itr_0 {sa sb su : Nat → Nat} {sr : Nat → Int32} {ln : Nat} (hln : ln ≤ 24) : ∀ (n : Nat) (d h : Nat → Int32), gv_V d 0 0 → gv_V (gv_itr sa sb su sr ln n (d, h)).1 0 0
  | 0, _, _, h0 => h0
  | n + 1, d, h, h0 => by
    rw [gv_itr]
    by_cases c : (gv_srl sa sb su d ln).1 = -1
    · rw [if_pos c]; exact h0
    · rw [if_neg c]
      obtain ⟨j, hj, e, hdb⟩ := gv_srl_n hln c
      have e2 : (gv_srl sa sb su d ln).1.toNatClampNeg = j := by rw [e]; exact nI_clamp (by omega)
      show gv_V (gv_itr sa sb su sr ln n (gv_stp sa sb su sr (d, h) (gv_srl sa sb su d ln).1.toNatClampNeg)).1 0 0
      rw [e2]
      exact gv_itr_0 hln n _ _ (gv_stp_0 h0 hdb)
theorem gv_same {sa sb su : Nat → Nat} {sr dd hh tt : Nat → Int32} {ln bn i : Nat} (hsa : ∀ j, sa j < 10) (hsb : ∀ j, sb j < 10) (hsu : ∀ j, su j ≤ 1000) (hlb : ∀ k, k < ln → sa k < bn ∧ sb k < bn) (hbn : bn ≤ 10) (hln : ln ≤ 24) (hi : i < bn) :
    gv_tal sa sb su ln bn (gv_ko tt, nI 1) i = (gv_itr sa sb su sr ln (bn - 1) (gv_ko dd, gv_hz hh)).1 i := by
  obtain ⟨hD, hcl⟩ := gv_DJ_e (goal := gv_itr sa sb su sr ln (bn - 1) (gv_ko dd, gv_hz hh)) hsa hsb hsu hlb hbn hln (gv_cn (gv_ko dd) bn) (gv_ko dd) (gv_hz hh) (Nat.le_refl _) (gv_fi_0 hbn) (gv_DJ_0 dd hsa hsb hbn (by omega))
  have h0 := gv_itr_0 (sa := sa) (sb := sb) (su := su) (sr := sr) hln (bn - 1) (gv_ko dd) (gv_hz hh) ⟨rfl, Nat.zero_le _⟩
  have hw := gv_DJ_w hD h0 hsa hsb hsu hcl
  obtain ⟨hP, hC⟩ := gv_tal_e (tt := tt) hsa hsb hsu hln hbn
  generalize gv_tal sa sb su ln bn (gv_ko tt, nI 1) = t at hP hC ⊢
  generalize (gv_itr sa sb su sr ln (bn - 1) (gv_ko dd, gv_hz hh)).1 = d at hD hw h0 ⊢
  have hle := gv_cn_le d bn
  rcases hD.1 i (by omega) with z | ⟨n, s, en, hn, hs, w⟩
  · rcases hC i (by omega) with z2 | ⟨m, s2, em, hm, w2⟩
    · rw [z, z2]
    · obtain ⟨a, ha, -⟩ := hw s2 i m w2
      exact absurd z (gv_V_n ha)
  · obtain ⟨a, ha, han⟩ := hP s i n (by omega) w
    rcases hC i (by omega) with z2 | ⟨m, s2, em, hm, w2⟩
    · exact absurd z2 (gv_V_n ha)
    · obtain ⟨b, hb, hbm⟩ := hw s2 i m w2
      have e1 := gv_V_u ha ⟨em, hm⟩
      have e2 := gv_V_u hb ⟨en, by omega⟩
      rw [em, en, show m = n by omega]
