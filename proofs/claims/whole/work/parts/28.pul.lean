theorem gv_sqs : ∀ a, a < 8 → ∀ b, b < 8 → (nI a - nI b) * (nI a - nI b) = (nI b - nI a) * (nI b - nI a) := by decide +kernel
theorem gv_sq_dir {x y la c k : Nat} (hc : c < 64) (hd : gv_dp k = (la + 1) * (la + 1)) : gv_sq x y la c = gv_sqm (64 * k + c) x y := by
  unfold gv_sq gv_sqm
  rw [show (64 * k + c) % 8 = c % 8 by omega, show (64 * k + c) % 64 / 8 = c / 8 by omega, show (64 * k + c) / 64 = k by omega, hd]
theorem gv_sq_sym {a b la j : Nat} (ha : a < 8) (hb : b < 8) (hj : j < 64) : gv_sq a b la j = gv_sq (j % 8) (j / 8) la (8 * b + a) := by
  rw [gv_sq_eq ha]
  unfold gv_sq
  rw [gv_sqs (j % 8) (by omega) a ha, gv_sqs (j / 8) (by omega) b hb]
theorem gv_pt_dir {m : Int64} {x y la c k : Nat} (hx : x < 8) (hy : y < 8) (hc : c < 64) (hk : k < 4) (hd : gv_dp k = (la + 1) * (la + 1)) : gv_pt m x y la c = gv_tm m (64 * k + c) x y := by
  unfold gv_pt gv_tm gv_plo
  rw [gv_sq_dir hc hd]
  obtain ⟨n, h1, h2, e⟩ := gv_sqm_n (k := 64 * k + c) (x := x) (y := y) (by omega) hx hy
  rw [if_neg]
  rw [e]
  intro h3
  rw [Int64.lt_iff_toInt_lt, lN_toInt (by omega)] at h3
  have h4 : (1 : Int64).toInt = 1 := rfl
  omega
theorem gv_pt_sym {m : Int64} {a b la j k : Nat} (ha : a < 8) (hb : b < 8) (hj : j < 64) (hk : k < 4) (hd : gv_dp k = (la + 1) * (la + 1)) : gv_pt m a b la j = gv_tm m (64 * k + (8 * b + a)) (j % 8) (j / 8) := by
  rw [← gv_pt_dir (x := j % 8) (y := j / 8) (by omega) (by omega) (by omega) hk hd]
  unfold gv_pt
  rw [gv_sq_sym ha hb hj]
theorem gv_dp_la {k : Nat} (h : k < 3) : gv_dp k = (k + 1) * (k + 1) := if_neg (by omega)
/-! sums -/
theorem gv_acc_s (s : Int64) (g : Nat → Int64) : ∀ n, gv_acc s g n = s + gv_acc 0 g n
  | 0 => (Int64.add_zero s).symm
  | n + 1 => by rw [gv_acc, gv_acc, gv_acc_s s g n, Int64.add_assoc]
theorem gv_acc_c {g g2 : Nat → Int64} : ∀ {n : Nat}, (∀ k, k < n → g k = g2 k) → gv_acc 0 g n = gv_acc 0 g2 n
  | 0, _ => rfl
  | n + 1, h => by rw [gv_acc, gv_acc, gv_acc_c (fun k hk => h k (by omega)), h n (by omega)]
theorem gv_acc_a (s : Int64) (g : Nat → Int64) (n : Nat) : ∀ m, gv_acc s g (n + m) = gv_acc (gv_acc s g n) (fun i => g (n + i)) m
  | 0 => rfl
  | m + 1 => by rw [← Nat.add_assoc, gv_acc, gv_acc, gv_acc_a s g n m]
theorem gv_ac4 (a b c d : Int64) : a + b + c + d = d + a + b + c := by
  rw [Int64.add_comm (a + b + c) d, ← Int64.add_assoc, ← Int64.add_assoc]
theorem gv_acc_4 (f0 f1 f2 f3 : Nat → Int64) : ∀ n, gv_acc 0 (fun c => f0 c + f1 c + f2 c + f3 c) n = gv_acc 0 f0 n + gv_acc 0 f1 n + gv_acc 0 f2 n + gv_acc 0 f3 n
  | 0 => rfl
  | n + 1 => by
    rw [gv_acc, gv_acc, gv_acc, gv_acc, gv_acc, gv_acc_4 f0 f1 f2 f3 n]
    ac_rfl
theorem gv_sumC_4 (fM fW : Nat → Int64) (x y : Nat) : ∀ n, gv_sumC fM fW x y n = gv_acc 0 (fun c => gv_pt (fW c) x y 0 c + gv_pt (fM (0 * 64 + c)) x y 0 c + gv_pt (fM (1 * 64 + c)) x y 1 c + gv_pt (fM (2 * 64 + c)) x y 2 c) n
  | 0 => rfl
  | n + 1 => by
    rw [gv_sumC, gv_acc, gv_acc, gv_acc, gv_acc, gv_acc, gv_sumC_4 fM fW x y n]
    ac_rfl
theorem gv_acc_256 (g : Nat → Int64) : gv_acc 0 g 256 = gv_acc 0 g 64 + gv_acc 0 (fun i => g (64 + i)) 64 + gv_acc 0 (fun i => g (64 + 64 + i)) 64 + gv_acc 0 (fun i => g (64 + 64 + 64 + i)) 64 := by
  have h1 := gv_acc_a 0 g (64 + 64 + 64) 64
  have h2 := gv_acc_a 0 g (64 + 64) 64
  have h3 := gv_acc_a 0 g 64 64
  rw [gv_acc_s (gv_acc 0 g (64 + 64 + 64)), h2, gv_acc_s (gv_acc 0 g (64 + 64)), h3, gv_acc_s (gv_acc 0 g 64)] at h1
  exact h1
theorem gv_cg4 {a b c d a2 b2 c2 d2 : Int64} (h1 : a = a2) (h2 : b = b2) (h3 : c = c2) (h4 : d = d2) : a + b + c + d = a2 + b2 + c2 + d2 := by subst h1 h2 h3 h4; rfl
theorem gv_anew {fM fW mm : Nat → Int64} {x y : Nat} (hx : x < 8) (hy : y < 8) (hM : ∀ k, k < 192 → mm k = fM k) (hW : ∀ k, k < 64 → mm (192 + k) = fW k) : gv_sumC fM fW x y 64 = gv_PA mm x y := by
  have e0 : gv_acc 0 (fun c => gv_pt (fW c) x y 0 c) 64 = gv_acc 0 (fun i => gv_tm (mm (64 + 64 + 64 + i)) (64 + 64 + 64 + i) x y) 64 := gv_acc_c (fun c hc => by
    show gv_pt (fW c) x y 0 c = gv_tm (mm (64 + 64 + 64 + c)) (64 + 64 + 64 + c) x y
    rw [gv_pt_dir (k := 3) hx hy hc (by decide) (by decide), ← hW c hc])
  have e1 : gv_acc 0 (fun c => gv_pt (fM (0 * 64 + c)) x y 0 c) 64 = gv_acc 0 (fun i => gv_tm (mm i) i x y) 64 := gv_acc_c (fun c hc => by
    show gv_pt (fM (0 * 64 + c)) x y 0 c = gv_tm (mm c) c x y
    rw [gv_pt_dir (k := 0) hx hy hc (by decide) (by decide), ← hM _ (by omega), show 0 * 64 + c = c by omega])
  have e2 : gv_acc 0 (fun c => gv_pt (fM (1 * 64 + c)) x y 1 c) 64 = gv_acc 0 (fun i => gv_tm (mm (64 + i)) (64 + i) x y) 64 := gv_acc_c (fun c hc => by
    show gv_pt (fM (1 * 64 + c)) x y 1 c = gv_tm (mm (64 + c)) (64 + c) x y
    rw [gv_pt_dir (k := 1) hx hy hc (by decide) (by decide), ← hM _ (by omega)])
  have e3 : gv_acc 0 (fun c => gv_pt (fM (2 * 64 + c)) x y 2 c) 64 = gv_acc 0 (fun i => gv_tm (mm (64 + 64 + i)) (64 + 64 + i) x y) 64 := gv_acc_c (fun c hc => by
    show gv_pt (fM (2 * 64 + c)) x y 2 c = gv_tm (mm (64 + 64 + c)) (64 + 64 + c) x y
    rw [gv_pt_dir (k := 2) hx hy hc (by decide) (by decide), ← hM _ (by omega)])
  exact (gv_sumC_4 fM fW x y 64).trans ((gv_acc_4 _ _ _ _ 64).trans ((gv_cg4 e0 e1 e2 e3).trans ((gv_ac4 _ _ _ _).symm.trans (gv_acc_256 (fun k => gv_tm (mm k) k x y)).symm)))
theorem gv_rg1 (x a b : Int64) : x + a = x + b + (a - b) := by
  rw [Int64.add_assoc, Int64.sub_eq_add_neg, Int64.add_comm a (-b), ← Int64.add_assoc b, Int64.add_right_neg, Int64.zero_add]
theorem gv_rg2 (x a d : Int64) : x + d + a = x + a + d := by
  rw [Int64.add_assoc, Int64.add_comm d a, ← Int64.add_assoc]
theorem gv_acc_u {g g2 : Nat → Int64} {i : Nat} (h : ∀ k, ¬ k = i → g2 k = g k) : ∀ n, gv_acc 0 g2 n = if i < n then gv_acc 0 g n + (g2 i - g i) else gv_acc 0 g n
  | 0 => by rw [if_neg (Nat.not_lt_zero i)]; rfl
  | n + 1 => by
    rw [gv_acc, gv_acc, gv_acc_u h n]
    by_cases c : i < n
    · rw [if_pos c, if_pos (by omega), h n (by omega), gv_rg2]
    · rw [if_neg c]
      by_cases c2 : n = i
      · rw [if_pos (by omega), c2]
        exact gv_rg1 _ _ _
      · rw [if_neg (by omega), h n c2]
theorem gv_PA_u {mm : Nat → Int64} {i x y : Nat} {v : Int64} (hi : i < 256) : gv_PA (vp_updL mm i v) x y = gv_PA mm x y + (gv_tm v i x y - gv_tm (mm i) i x y) := by
  unfold gv_PA
  rw [gv_acc_u (g := fun k => gv_tm (mm k) k x y) (g2 := fun k => gv_tm (vp_updL mm i v k) k x y) (i := i) (fun k hk => by show gv_tm (vp_updL mm i v k) k x y = _; unfold vp_updL; rw [if_neg hk]) 256, if_pos hi]
  show _ + (gv_tm (vp_updL mm i v i) i x y - _) = _
  unfold vp_updL
  rw [if_pos rfl]
/-- what the class keeps and the reference sums -/
def gv_RP (fM fW fP mm : Nat → Int64) : Prop := (∀ k, k < 192 → mm k = fM k) ∧ (∀ k, k < 64 → mm (192 + k) = fW k) ∧ (∀ j, j < 64 → fP j = gv_PA mm (j % 8) (j / 8))
theorem gv_RP.at {fM fW fP mm : Nat → Int64} (h : gv_RP fM fW fP mm) {a b : Nat} (ha : a < 8) (hb : b < 8) : fP (b * 8 + a) = gv_PA mm a b := by
  rw [h.2.2 _ (by omega), show (b * 8 + a) % 8 = a by omega, show (b * 8 + a) / 8 = b by omega]
theorem gv_RP_mass {fM fW fP mm : Nat → Int64} {a b k : Nat} {v : Int64} (h : gv_RP fM fW fP mm) (ha : a < 8) (hb : b < 8) (hk : k < 3) : gv_RP (vp_updL fM (k * 64 + (b * 8 + a)) v) fW (gv_chg fP (fun j => gv_pt v a b k j - gv_pt (fM (k * 64 + (b * 8 + a))) a b k j) 64) (vp_updL mm (64 * k + 8 * b + a) v) := by
  have hi : k * 64 + (b * 8 + a) = 64 * k + 8 * b + a := by omega
  have hi2 : 64 * k + (8 * b + a) = 64 * k + 8 * b + a := by omega
  rw [hi]
  refine ⟨fun i hi => ?_, fun i hi => ?_, fun j hj => ?_⟩
  · unfold vp_updL
    by_cases c : i = 64 * k + 8 * b + a
    · rw [if_pos c, if_pos c]
    · rw [if_neg c, if_neg c]; exact h.1 i hi
  · unfold vp_updL
    rw [if_neg (by omega)]
    exact h.2.1 i hi
  · rw [gv_PA_u (by omega), ← h.2.2 j hj]
    unfold gv_chg
    rw [if_pos hj]
    show fP j + (gv_pt v a b k j - gv_pt (fM (64 * k + 8 * b + a)) a b k j) = _
    rw [gv_pt_sym ha hb hj (k := k) (by omega) (gv_dp_la hk), gv_pt_sym ha hb hj (k := k) (by omega) (gv_dp_la hk), hi2, h.1 _ (by omega)]
theorem gv_RP_water {fM fW fP mm : Nat → Int64} {a b : Nat} {v : Int64} (h : gv_RP fM fW fP mm) (ha : a < 8) (hb : b < 8) : gv_RP fM (vp_updL fW (b * 8 + a) v) (gv_chg fP (fun j => gv_pt v a b 0 j - gv_pt (fW (b * 8 + a)) a b 0 j) 64) (vp_updL mm (192 + 8 * b + a) v) := by
  have hi2 : 64 * 3 + (8 * b + a) = 192 + 8 * b + a := by omega
  refine ⟨fun i hi => ?_, fun i hi => ?_, fun j hj => ?_⟩
  · unfold vp_updL
    rw [if_neg (by omega)]
    exact h.1 i hi
  · unfold vp_updL
    by_cases c : i = b * 8 + a
    · rw [if_pos c, if_pos (by omega)]
    · rw [if_neg c, if_neg (by omega)]; exact h.2.1 i hi
  · rw [gv_PA_u (by omega), ← h.2.2 j hj]
    unfold gv_chg
    rw [if_pos hj]
    show fP j + (gv_pt v a b 0 j - gv_pt (fW (b * 8 + a)) a b 0 j) = _
    rw [gv_pt_sym (la := 0) ha hb hj (k := 3) (by omega) (by decide), gv_pt_sym (la := 0) ha hb hj (k := 3) (by omega) (by decide), hi2, ← h.2.1 (b * 8 + a) (by omega), show 192 + (b * 8 + a) = 192 + 8 * b + a by omega]
theorem gv_RP_0 : gv_RP (fun _ => 0) (fun _ => 0) (fun _ => 0) (fun _ => 0) := by
  refine ⟨fun _ _ => rfl, fun _ _ => rfl, fun j hj => ?_⟩
  have key : ∀ n, n ≤ 256 → gv_acc 0 (fun k => gv_tm ((fun _ => (0 : Int64)) k) k (j % 8) (j / 8)) n = 0 := by
    intro n
    induction n with
    | zero => intro _; rfl
    | succ n ih =>
      intro hn
      rw [gv_acc, ih (by omega)]
      show 0 + gv_tm 0 n (j % 8) (j / 8) = 0
      unfold gv_tm
      rw [Int64.zero_mul, Int64.zero_div, Int64.zero_add]
  exact (key 256 (Nat.le_refl _)).symm
theorem gv_RP.kept {fM fW fP mm kp : Nat → Int64} {ac : Nat} (h : gv_RP fM fW fP mm) : va_cpy fP kp 0 (ac * 64) 64 = gv_kr mm kp ac 64 := by
  funext k
  unfold va_cpy gv_kr
  by_cases c : 64 * ac ≤ k ∧ k < 64 * ac + 64
  · rw [if_pos c, if_pos (by omega), h.2.2 _ (by omega), show 0 + (k - ac * 64) = k - 64 * ac by omega]
  · rw [if_neg c, if_neg (by omega)]
/-! rounding down -/
theorem gv_xneg {v b : Int64} (hb : 0 ≤ b.toInt) : (v ^^^ b) < 0 ↔ v.toInt < 0 := by
  have h0 : (0 : Int64).toInt = 0 := rfl
  have hb2 : b.toBitVec.msb = false := by rw [BitVec.msb_eq_toInt]; exact decide_eq_false (by show ¬ b.toInt < 0; omega)
  have hx : (v ^^^ b).toBitVec.msb = v.toBitVec.msb := by rw [Int64.toBitVec_xor, BitVec.msb_xor, hb2, Bool.xor_false]
  rw [BitVec.msb_eq_toInt, BitVec.msb_eq_toInt] at hx
  rw [Int64.lt_iff_toInt_lt, h0]
  exact decide_eq_decide.mp hx
theorem gv_tq (v b : Int) (hb : 0 < b) : ∃ q r, v.tdiv b = q ∧ v = q * b + r ∧ (0 ≤ v → 0 ≤ q ∧ q ≤ v ∧ 0 ≤ r ∧ 0 ≤ q * b) ∧ (v < 0 → v ≤ q ∧ q ≤ 0 ∧ r ≤ 0 ∧ q * b ≤ 0) := by
  have pos : ∀ w : Int, 0 ≤ w → 0 ≤ w / b ∧ w / b ≤ w ∧ 0 ≤ w % b ∧ w = w / b * b + w % b ∧ 0 ≤ w / b * b := by
    intro w hw
    have h1 := Int.ediv_nonneg hw (Int.le_of_lt hb)
    refine ⟨h1, Int.ediv_le_self b hw, Int.emod_nonneg w (by omega), ?_, Int.mul_nonneg h1 (Int.le_of_lt hb)⟩
    rw [Int.emod_def, Int.mul_comm b]
    omega
  by_cases h : 0 ≤ v
  · obtain ⟨p1, p2, p3, p4, p5⟩ := pos v h
    exact ⟨v / b, v % b, Int.tdiv_eq_ediv_of_nonneg h, p4, fun _ => ⟨p1, p2, p3, p5⟩, fun z => absurd z (by omega)⟩
  · obtain ⟨p1, p2, p3, p4, p5⟩ := pos (-v) (by omega)
    refine ⟨-((-v) / b), -((-v) % b), ?_, ?_, fun z => absurd z h, fun _ => ⟨by omega, by omega, by omega, ?_⟩⟩
    · have h2 : v = -(-v) := by omega
      rw [← Int.tdiv_eq_ediv_of_nonneg (show 0 ≤ -v by omega), Int.neg_tdiv, Int.neg_neg]
    · rw [Int.neg_mul]; omega
    · rw [Int.neg_mul]; omega
theorem gv_bm {n : Int} (h1 : -(2 : Int) ^ 63 ≤ n) (h2 : n < 2 ^ 63) : n.bmod (2 ^ 64) = n := Int.bmod_eq_of_le (by omega) (by omega)
theorem gv_fd {v b : Int64} (hb : 0 < b.toInt) : gv_fdiv v b = gv_down v b := by
  obtain ⟨q, r, h1, h2, h3, h4⟩ := gv_tq v.toInt b.toInt hb
  have l1 := v.le_toInt
  have l2 := v.toInt_lt
  have d1 : (v / b).toInt = q := by
    rw [Int64.toInt_div, h1]
    refine gv_bm ?_ ?_ <;> omega
  have d2 : (v / b * b).toInt = q * b.toInt := by
    rw [Int64.toInt_mul, d1]
    refine gv_bm ?_ ?_ <;> omega
  have d3 : (v - v / b * b).toInt = r := by
    rw [Int64.toInt_sub, d2, show v.toInt - q * b.toInt = r by omega]
    refine gv_bm ?_ ?_ <;> omega
  have c1 := gv_xneg (v := v) (b := b) (by omega)
  have c2 : v / b * b = v ↔ r = 0 := by
    rw [← Int64.toInt_inj, d2]
    omega
  have c3 : v - v / b * b < 0 ↔ r < 0 := by
    rw [Int64.lt_iff_toInt_lt, d3]
    exact Iff.rfl
  unfold gv_fdiv gv_down
  by_cases c : v - v / b * b < 0
  · have hr := c3.mp c
    rw [if_pos c, if_pos ⟨c1.mpr (by omega), fun z => by have := c2.mp z; omega⟩]
  · have hr : ¬ r < 0 := fun z => c (c3.mpr z)
    rw [if_neg c, if_neg]
    intro z
    have z1 := c1.mp z.1
    have z2 : ¬ r = 0 := fun w => z.2 (c2.mpr w)
    omega
theorem gv_fd_n {v : Int64} {n : Nat} (h0 : 0 < n) (h : n < 2 ^ 31) : gv_fdiv v (nI n).toInt64 = gv_down v (nI n).toInt64 := gv_fd (by rw [Int32.toInt_toInt64, nI_toInt h]; omega)
