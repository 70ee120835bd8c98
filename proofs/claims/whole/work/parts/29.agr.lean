/-! two searches that begin with the same doubts -/
def gv_ag (q q2 : (Nat → Int32) × (Nat → Int32)) : Prop := (∀ j, j < 10 → q.1 j = q2.1 j) ∧ (∀ j, j < 10 → ¬ q.1 j = -1 → q.2 j = q2.2 j)
theorem gv_ag_db {sa sb su : Nat → Nat} {d d2 : Nat → Int32} (h : ∀ j, j < 10 → d j = d2 j) (hsa : ∀ j, sa j < 10) (hsb : ∀ j, sb j < 10) (k : Nat) : gv_db sa sb su d k = gv_db sa sb su d2 k := by
  unfold gv_db
  rw [h _ (hsa k), h _ (hsb k)]
theorem gv_ag_srl {sa sb su : Nat → Nat} {d d2 : Nat → Int32} (h : ∀ j, j < 10 → d j = d2 j) (hsa : ∀ j, sa j < 10) (hsb : ∀ j, sb j < 10) : ∀ n, gv_srl sa sb su d n = gv_srl sa sb su d2 n
  | 0 => rfl
  | n + 1 => by rw [gv_srl, gv_srl, gv_ag_srl h hsa hsb n, gv_ag_db h hsa hsb n]
theorem gv_ag_stp {sa sb su : Nat → Nat} {sr : Nat → Int32} {q q2 : (Nat → Int32) × (Nat → Int32)} {k : Nat} (h : gv_ag q q2) (hsa : ∀ j, sa j < 10) (hsb : ∀ j, sb j < 10) (hdb : ¬ gv_db sa sb su q.1 k = -1) : gv_ag (gv_stp sa sb su sr q k) (gv_stp sa sb su sr q2 k) := by
  obtain ⟨h1, h2⟩ := h
  have key : ∀ (i : Nat) (v w w2 : Int32), (¬ v = -1 → w = w2) → gv_ag (upd q.1 i v, upd q.2 i w) (upd q2.1 i v, upd q2.2 i w2) := by
    intro i v w w2 hw
    refine ⟨fun j hj => ?_, fun j hj hne => ?_⟩
    · show upd q.1 i v j = upd q2.1 i v j
      by_cases c : j = i
      · subst c; rw [pk_us, pk_us]
      · rw [pk_un c, pk_un c]; exact h1 j hj
    · show upd q.2 i w j = upd q2.2 i w2 j
      have hne : ¬ upd q.1 i v j = -1 := hne
      by_cases c : j = i
      · subst c; rw [pk_us] at hne; rw [pk_us, pk_us]; exact hw hne
      · rw [pk_un c] at hne; rw [pk_un c, pk_un c]; exact h2 j hj hne
  rcases gv_db_xy hdb with ⟨a, b, -⟩ | ⟨a, b, -⟩
  · unfold gv_stp
    rw [if_neg b, if_neg (by rw [← h1 _ (hsb k)]; exact b), ← h1 _ (hsb k)]
    exact key _ _ _ _ (fun _ => by rw [h2 _ (hsb k) b])
  · unfold gv_stp
    rw [if_pos b, if_pos (by rw [← h1 _ (hsb k)]; exact b), ← h1 _ (hsa k)]
    exact key _ _ _ _ (fun _ => by rw [h2 _ (hsa k) a])
theorem gv_ag_itr {sa sb su : Nat → Nat} {sr : Nat → Int32} {ln : Nat} (hsa : ∀ j, sa j < 10) (hsb : ∀ j, sb j < 10) (hln : ln ≤ 24) : ∀ (n : Nat) {q q2 : (Nat → Int32) × (Nat → Int32)}, gv_ag q q2 → gv_ag (gv_itr sa sb su sr ln n q) (gv_itr sa sb su sr ln n q2)
  | 0, _, _, h => h
  | n + 1, q, q2, h => by
    rw [gv_itr, gv_itr, ← gv_ag_srl h.1 hsa hsb ln]
    by_cases c : (gv_srl sa sb su q.1 ln).1 = -1
    · rw [if_pos c, if_pos c]; exact h
    · rw [if_neg c, if_neg c]
      obtain ⟨j, hj, e, hdb⟩ := gv_srl_n hln c
      refine gv_ag_itr hsa hsb hln n (gv_ag_stp h hsa hsb ?_)
      rw [e, nI_clamp (by omega)]
      exact hdb
theorem gv_ag_0 (dd dd2 hh hh2 : Nat → Int32) : gv_ag (gv_ko dd, upd hh 0 (nI 0)) (gv_ko dd2, gv_hz hh2) := by
  refine ⟨fun j hj => ?_, fun j hj hne => ?_⟩
  · show gv_ko dd j = gv_ko dd2 j
    unfold gv_ko gv_kn
    by_cases c : j = 0
    · rw [if_pos c, if_pos c]
    · rw [if_neg c, if_neg c, if_pos hj, if_pos hj]
  · show upd hh 0 (nI 0) j = gv_hz hh2 j
    have hne : ¬ gv_ko dd j = -1 := hne
    unfold gv_ko gv_kn at hne
    by_cases c : j = 0
    · subst c; rfl
    · rw [if_neg c, if_pos hj] at hne
      exact absurd rfl hne
theorem gv_ag_con {sa sb su : Nat → Nat} {sr : Nat → Int32} {q q2 : (Nat → Int32) × (Nat → Int32)} {k : Nat} (h : gv_ag q q2) (hsa : ∀ j, sa j < 10) (hsb : ∀ j, sb j < 10) : gv_con sa sb su sr q.1 q.2 k ↔ gv_con sa sb su sr q2.1 q2.2 k := by
  have ea := h.1 _ (hsa k)
  have eb := h.1 _ (hsb k)
  unfold gv_con
  constructor
  · intro z
    rw [← ea, ← eb, ← h.2 _ (hsa k) z.1, ← h.2 _ (hsb k) z.2.1]
    exact z
  · intro z
    have z1 : ¬ q.1 (sa k) = -1 := by rw [ea]; exact z.1
    have z2 : ¬ q.1 (sb k) = -1 := by rw [eb]; exact z.2.1
    rw [ea, eb, h.2 _ (hsa k) z1, h.2 _ (hsb k) z2]
    exact z
