/-! walks along the lines, and the class's search anew -/
def gv_wk (sa sb su : Nat → Nat) (ln : Nat) : Nat → Nat → Nat → Prop
  | 0, j, L => j = 0 ∧ L = 0
  | s + 1, j, L => ∃ k i L2, k < ln ∧ gv_wk sa sb su ln s i L2 ∧ L = L2 + su k ∧ ((i = sa k ∧ j = sb k) ∨ (i = sb k ∧ j = sa k))
def gv_V (t : Nat → Int32) (j a : Nat) : Prop := t j = nI a ∧ a ≤ 500000
theorem gv_V_u {t : Nat → Int32} {j a b : Nat} (h : gv_V t j a) (h2 : gv_V t j b) : a = b :=
  gv_inj (h.1.symm.trans h2.1) (by have := h.2; omega) (by have := h2.2; omega)
theorem gv_V_n {t : Nat → Int32} {j a : Nat} (h : gv_V t j a) : ¬ t j = -1 := by
  rw [h.1]
  exact gv_n1 (by have := h.2; omega)
def gv_CI (sa sb su : Nat → Nat) (ln : Nat) (t : Nat → Int32) (B : Nat) : Prop := ∀ j, j < 10 → t j = -1 ∨ ∃ n s, t j = nI n ∧ n ≤ B ∧ gv_wk sa sb su ln s j n
def gv_Mo (t t2 : Nat → Int32) : Prop := ∀ j a, j < 10 → gv_V t j a → ∃ b, gv_V t2 j b ∧ b ≤ a
theorem gv_Mo_r (t : Nat → Int32) : gv_Mo t t := fun _ a _ h => ⟨a, h, Nat.le_refl a⟩
theorem gv_Mo_t {t t2 t3 : Nat → Int32} (h : gv_Mo t t2) (h2 : gv_Mo t2 t3) : gv_Mo t t3 := fun j a hj hv => by
  obtain ⟨b, hb, hba⟩ := h j a hj hv
  obtain ⟨c, hc, hcb⟩ := h2 j b hj hb
  exact ⟨c, hc, Nat.le_trans hcb hba⟩
theorem gv_CI_m {sa sb su : Nat → Nat} {ln : Nat} {t : Nat → Int32} {B B2 : Nat} (h : gv_CI sa sb su ln t B) (hB : B ≤ B2) : gv_CI sa sb su ln t B2 := fun j hj => by
  rcases h j hj with z | ⟨n, s, e, hn, w⟩
  · exact Or.inl z
  · exact Or.inr ⟨n, s, e, Nat.le_trans hn hB, w⟩
/-- along a line one way: what is told after -/
def gv_RL (t t2 : Nat → Int32) (f g u : Nat) : Prop := ∀ a, gv_V t f a → ∃ b, gv_V t2 g b ∧ b ≤ a + u
theorem gv_RL_m {t t2 t3 : Nat → Int32} {f g u : Nat} (hg : g < 10) (h : gv_RL t t2 f g u) (h2 : gv_Mo t2 t3) : gv_RL t t3 f g u := fun a ha => by
  obtain ⟨b, hb, hba⟩ := h a ha
  obtain ⟨c, hc, hcb⟩ := h2 g b hg hb
  exact ⟨c, hc, Nat.le_trans hcb hba⟩
theorem gv_RL_b {t t2 t3 : Nat → Int32} {f g u : Nat} (hf : f < 10) (h : gv_RL t2 t3 f g u) (h2 : gv_Mo t t2) : gv_RL t t3 f g u := fun a ha => by
  obtain ⟨b, hb, hba⟩ := h2 f a hf ha
  obtain ⟨c, hc, hcb⟩ := h b hb
  exact ⟨c, hc, by omega⟩
theorem gv_mkl_p {sa sb su : Nat → Nat} {ln : Nat} {t : Nat → Int32} {f g u B : Nat} (hf : f < 10) (hg : g < 10) (hu : u ≤ 1000) (hB : B + 1000 ≤ 500000) (h : gv_CI sa sb su ln t B) (hk : ∀ s n, gv_wk sa sb su ln s f n → gv_wk sa sb su ln (s + 1) g (n + u)) :
    gv_CI sa sb su ln (gv_mkl t f g (nI u)).1 (B + 1000) ∧ gv_Mo t (gv_mkl t f g (nI u)).1 ∧ gv_RL t (gv_mkl t f g (nI u)).1 f g u ∧ ((gv_mkl t f g (nI u)).2 = 0 → (gv_mkl t f g (nI u)).1 = t) ∧ (¬ (gv_mkl t f g (nI u)).2 = 0 → ∀ a, gv_V t g a → ∃ n, gv_V t f n ∧ n ≤ a) := by
  unfold gv_mkl
  by_cases c1 : t f = -1
  · rw [if_pos c1]
    exact ⟨gv_CI_m h (by omega), gv_Mo_r t, fun a ha => absurd c1 (gv_V_n ha), fun _ => rfl, fun z => absurd rfl z⟩
  · rw [if_neg c1]
    rcases h f hf with z | ⟨n, s, e, hn, w⟩
    · exact absurd z c1
    have hVf : gv_V t f n := ⟨e, by omega⟩
    have es : t f + nI u = nI (n + u) := by rw [e, nI_add]
    by_cases c2 : ¬ t g = -1 ∧ t g ≤ t f + nI u
    · rw [if_pos c2]
      refine ⟨gv_CI_m h (by omega), gv_Mo_r t, fun a ha => ?_, fun _ => rfl, fun z => absurd rfl z⟩
      rcases h g hg with z | ⟨m, s2, e2, hm, w2⟩
      · exact absurd z c2.1
      have h3 := c2.2
      rw [es, e2] at h3
      have h4 := (nI_leI (by omega) (by omega)).mp h3
      have h5 := gv_V_u ha hVf
      exact ⟨m, ⟨e2, by omega⟩, by omega⟩
    · rw [if_neg c2, es]
      have hnew : gv_V (upd t g (nI (n + u))) g (n + u) := ⟨by rw [pk_us], by omega⟩
      have hless : ∀ a, gv_V t g a → n + u < a := by
        intro a ha
        have h3 : ¬ t g ≤ t f + nI u := fun z => c2 ⟨gv_V_n ha, z⟩
        rw [es, ha.1] at h3
        have h4 := (not_congr (nI_leI (by have := ha.2; omega) (by omega))).mp h3
        omega
      refine ⟨fun j hj => ?_, fun j a hj ha => ?_, fun a ha => ?_, fun z => absurd (show (nI 1 : Int32) = 0 from z) (by decide), fun _ a ha => ⟨n, hVf, by have := hless a ha; omega⟩⟩
      · show upd t g (nI (n + u)) j = -1 ∨ _
        by_cases c : j = g
        · subst c
          exact Or.inr ⟨n + u, s + 1, by show upd t j (nI (n + u)) j = nI (n + u); rw [pk_us], by omega, hk s n w⟩
        · rw [pk_un c]
          rcases h j hj with z | ⟨m, s2, e2, hm, w2⟩
          · exact Or.inl z
          · exact Or.inr ⟨m, s2, by show upd t g (nI (n + u)) j = nI m; rw [pk_un c]; exact e2, by omega, w2⟩
      · by_cases c : j = g
        · subst c
          exact ⟨n + u, hnew, by have := hless a ha; omega⟩
        · exact ⟨a, ⟨by show upd t g (nI (n + u)) j = nI a; rw [pk_un c]; exact ha.1, ha.2⟩, Nat.le_refl a⟩
      · have h5 := gv_V_u ha hVf
        exact ⟨n + u, hnew, by omega⟩
theorem gv_ln1_p {sa sb su : Nat → Nat} {ln : Nat} {q : (Nat → Int32) × Int32} {k B : Nat} (hsa : ∀ j, sa j < 10) (hsb : ∀ j, sb j < 10) (hsu : ∀ j, su j ≤ 1000) (hk : k < ln) (hB : B + 2000 ≤ 500000) (h : gv_CI sa sb su ln q.1 B) :
    gv_CI sa sb su ln (gv_ln1 sa sb su q k).1 (B + 2000) ∧ gv_Mo q.1 (gv_ln1 sa sb su q k).1 ∧ gv_RL q.1 (gv_ln1 sa sb su q k).1 (sa k) (sb k) (su k) ∧ gv_RL q.1 (gv_ln1 sa sb su q k).1 (sb k) (sa k) (su k) ∧ ((gv_ln1 sa sb su q k).2 = 0 → (gv_ln1 sa sb su q k).1 = q.1 ∧ q.2 = 0) := by
  have w1 : ∀ s n, gv_wk sa sb su ln s (sa k) n → gv_wk sa sb su ln (s + 1) (sb k) (n + su k) := fun s n w => ⟨k, sa k, n, hk, w, rfl, Or.inl ⟨rfl, rfl⟩⟩
  have w2 : ∀ s n, gv_wk sa sb su ln s (sb k) n → gv_wk sa sb su ln (s + 1) (sa k) (n + su k) := fun s n w => ⟨k, sb k, n, hk, w, rfl, Or.inr ⟨rfl, rfl⟩⟩
  obtain ⟨a1, a2, a3, a4, a5⟩ := gv_mkl_p (hsa k) (hsb k) (hsu k) (by omega) h w1
  obtain ⟨b1, b2, b3, b4, b5⟩ := gv_mkl_p (hsb k) (hsa k) (hsu k) (by omega) a1 w2
  unfold gv_ln1
  by_cases c1 : ¬ (gv_mkl q.1 (sa k) (sb k) (nI (su k))).2 = 0
  · rw [if_pos c1]
    refine ⟨gv_CI_m a1 (by omega), a2, a3, fun a ha => ?_, fun z => absurd (show (nI 1 : Int32) = 0 from z) (by decide)⟩
    obtain ⟨n, hn, hna⟩ := a5 c1 a ha
    obtain ⟨b, hb, hbn⟩ := a2 (sa k) n (hsa k) hn
    exact ⟨b, hb, by omega⟩
  · rw [if_neg c1]
    have e1 := a4 (Classical.not_not.mp c1)
    by_cases c2 : ¬ (gv_mkl (gv_mkl q.1 (sa k) (sb k) (nI (su k))).1 (sb k) (sa k) (nI (su k))).2 = 0
    · rw [if_pos c2]
      exact ⟨gv_CI_m b1 (by omega), gv_Mo_t a2 b2, gv_RL_m (hsb k) a3 b2, gv_RL_b (hsb k) b3 a2, fun z => absurd (show (nI 1 : Int32) = 0 from z) (by decide)⟩
    · rw [if_neg c2]
      have e2 := b4 (Classical.not_not.mp c2)
      exact ⟨gv_CI_m b1 (by omega), gv_Mo_t a2 b2, gv_RL_m (hsb k) a3 b2, gv_RL_b (hsb k) b3 a2, fun z => ⟨e2.trans e1, z⟩⟩
set_option maxRecDepth 100000 in
theorem gv_rnd_p {sa sb su : Nat → Nat} {ln : Nat} {t : Nat → Int32} {B : Nat} (hsa : ∀ j, sa j < 10) (hsb : ∀ j, sb j < 10) (hsu : ∀ j, su j ≤ 1000) (h : gv_CI sa sb su ln t B) : ∀ n, n ≤ ln → B + 2000 * n ≤ 500000 →
    gv_CI sa sb su ln (gv_rnd sa sb su t n).1 (B + 2000 * n) ∧ gv_Mo t (gv_rnd sa sb su t n).1 ∧ (∀ k, k < n → gv_RL t (gv_rnd sa sb su t n).1 (sa k) (sb k) (su k) ∧ gv_RL t (gv_rnd sa sb su t n).1 (sb k) (sa k) (su k)) ∧ ((gv_rnd sa sb su t n).2 = 0 → (gv_rnd sa sb su t n).1 = t)
  | 0, _, _ => ⟨h, gv_Mo_r t, fun k hk => absurd hk (Nat.not_lt_zero k), fun _ => rfl⟩
  | n + 1, hn, hB => by
    obtain ⟨a1, a2, a3, a4⟩ := gv_rnd_p hsa hsb hsu h n (by omega) (by omega)
    have hnl : n < ln := by omega
    have hB2 : (B + 2000 * n) + 2000 ≤ 500000 := by omega
    obtain ⟨b1, b2, b3, b4, b5⟩ := gv_ln1_p (q := gv_rnd sa sb su t n) (k := n) (B := B + 2000 * n) hsa hsb hsu hnl hB2 a1
    have hB3 : B + 2000 * n + 2000 ≤ B + 2000 * (n + 1) := by omega
    rw [gv_rnd]
    refine ⟨gv_CI_m b1 hB3, gv_Mo_t a2 b2, fun k hk => ?_, fun z => ?_⟩
    · by_cases c : k = n
      · subst c
        exact ⟨gv_RL_b (hsa k) b3 a2, gv_RL_b (hsb k) b4 a2⟩
      · obtain ⟨c1, c2⟩ := a3 k (by omega)
        exact ⟨gv_RL_m (hsb k) c1 b2, gv_RL_m (hsa k) c2 b2⟩
    · obtain ⟨e1, e2⟩ := b5 z
      exact e1.trans (a4 e2)
/-- below every walk of at most r steps -/
def gv_PW (sa sb su : Nat → Nat) (ln : Nat) (t : Nat → Int32) (r : Nat) : Prop := ∀ s i L, s ≤ r → gv_wk sa sb su ln s i L → ∃ a, gv_V t i a ∧ a ≤ L
theorem gv_PW_s {sa sb su : Nat → Nat} {ln r : Nat} {t t2 : Nat → Int32} (h : gv_PW sa sb su ln t r) (hm : gv_Mo t t2) (hr : ∀ k, k < ln → gv_RL t t2 (sa k) (sb k) (su k) ∧ gv_RL t t2 (sb k) (sa k) (su k)) : gv_PW sa sb su ln t2 (r + 1)
  | 0, i, L, _, w => by
    obtain ⟨a, ha, hL⟩ := h 0 i L (Nat.zero_le _) w
    obtain ⟨b, hb, hba⟩ := hm i a (by rw [w.1]; decide) ha
    exact ⟨b, hb, by omega⟩
  | s + 1, i, L, hs, w => by
    obtain ⟨k, i2, L2, hk, w2, e, hc⟩ := w
    obtain ⟨a, ha, hL⟩ := h s i2 L2 (by omega) w2
    obtain ⟨r1, r2⟩ := hr k hk
    rcases hc with ⟨c1, c2⟩ | ⟨c1, c2⟩
    · obtain ⟨b, hb, hba⟩ := r1 a (by rw [← c1]; exact ha)
      exact ⟨b, by rw [c2]; exact hb, by omega⟩
    · obtain ⟨b, hb, hba⟩ := r2 a (by rw [← c1]; exact ha)
      exact ⟨b, by rw [c2]; exact hb, by omega⟩
theorem gv_PW_f {sa sb su : Nat → Nat} {ln r : Nat} {t : Nat → Int32} (h : gv_PW sa sb su ln t r) (hr : ∀ k, k < ln → gv_RL t t (sa k) (sb k) (su k) ∧ gv_RL t t (sb k) (sa k) (su k)) : ∀ n, gv_PW sa sb su ln t (r + n)
  | 0 => h
  | n + 1 => gv_PW_s (gv_PW_f h hr n) (gv_Mo_r t) hr
theorem gv_tal_p {sa sb su : Nat → Nat} {ln : Nat} (hsa : ∀ j, sa j < 10) (hsb : ∀ j, sb j < 10) (hsu : ∀ j, su j ≤ 1000) (hln : ln ≤ 24) : ∀ (j r B : Nat) (q : (Nat → Int32) × Int32), gv_CI sa sb su ln q.1 B → B + 48000 * j ≤ 500000 → gv_PW sa sb su ln q.1 r →
    (q.2 = 0 → ∀ k, k < ln → gv_RL q.1 q.1 (sa k) (sb k) (su k) ∧ gv_RL q.1 q.1 (sb k) (sa k) (su k)) → gv_PW sa sb su ln (gv_tal sa sb su ln j q) (r + j) ∧ gv_CI sa sb su ln (gv_tal sa sb su ln j q) 500000
  | 0, r, B, q, h, hB, hp, _ => ⟨hp, gv_CI_m h (by omega)⟩
  | j + 1, r, B, q, h, hB, hp, hf => by
    rw [gv_tal]
    by_cases c : q.2 = 0
    · rw [if_pos c]
      exact ⟨gv_PW_f hp (hf c) (j + 1), gv_CI_m h (by omega)⟩
    · rw [if_neg c]
      obtain ⟨a1, a2, a3, a4⟩ := gv_rnd_p hsa hsb hsu h ln (Nat.le_refl ln) (by omega)
      have z := gv_tal_p hsa hsb hsu hln j (r + 1) (B + 2000 * ln) (gv_rnd sa sb su q.1 ln) a1 (by omega) (gv_PW_s hp a2 a3) (fun z => by rw [a4 z]; rw [a4 z] at a3; exact a3)
      rw [show r + (j + 1) = r + 1 + j by omega]
      exact z
theorem gv_tal_e {sa sb su : Nat → Nat} {ln bn : Nat} {tt : Nat → Int32} (hsa : ∀ j, sa j < 10) (hsb : ∀ j, sb j < 10) (hsu : ∀ j, su j ≤ 1000) (hln : ln ≤ 24) (hbn : bn ≤ 10) : gv_PW sa sb su ln (gv_tal sa sb su ln bn (gv_ko tt, nI 1)) bn ∧ gv_CI sa sb su ln (gv_tal sa sb su ln bn (gv_ko tt, nI 1)) 500000 := by
  have z := gv_tal_p hsa hsb hsu hln bn 0 0 (gv_ko tt, nI 1) (fun j hj => ?_) (by omega) (fun s i L hs w => ?_) (fun z => absurd (show (nI 1 : Int32) = 0 from z) (by decide))
  · rw [Nat.zero_add] at z; exact z
  · show gv_ko tt j = -1 ∨ _
    by_cases c : j = 0
    · subst c
      exact Or.inr ⟨0, 0, rfl, Nat.le_refl 0, rfl, rfl⟩
    · left
      unfold gv_ko gv_kn
      rw [if_neg c, if_pos hj]
  · cases s with
    | zero =>
      obtain ⟨e1, e2⟩ := w
      subst e1
      exact ⟨0, ⟨rfl, by omega⟩, by omega⟩
    | succ s => exact absurd hs (by omega)
