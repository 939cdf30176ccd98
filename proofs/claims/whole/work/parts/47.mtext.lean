/-! THE MODEL READS THE TEXT -/
def z_lm (L : Nat) (T : Nat → Int32) (i : Nat) : Int32 := if i < L then T i else -1
theorem m_letter (sx : QX) (d L i : Nat) (T : Nat → Int32) (H : QH) (hL : L ≤ 200) (h1 : H 165 13 = nI L) (h2 : ∀ j, j < L → H 172 j = T j) (hi : i < 1000000) : q_CL (q_tb sx) q_kpt (d + 1) (116, ([vr 9 165, vn i], H)) = rI (z_lm L T i) H := by
  refine (b_X7_letterAt_0 sx d (nI i) H).trans ?_
  rw [h1]
  unfold z_lm
  by_cases c : i < L
  · rw [if_pos c, ← h2 i c]
    simp (disch := omega) only [Bool.cond_decide, nI_add, pk_mul, q_inbN, q_cl_nI, q_ltN, q_leN, q_eqN, q_ifT, q_ifF, q_cIs, q_cVs, decide_false, decide_true, Bool.not_false, Bool.not_true, cond_true, cond_false, ne_eq, not_false_eq_true, not_true_eq_false, if_true, if_false]
  · rw [if_neg c]
    simp (disch := omega) only [Bool.cond_decide, nI_add, pk_mul, q_inbN, q_cl_nI, q_ltN, q_leN, q_eqN, q_ifT, q_ifF, q_cIs, q_cVs, decide_false, decide_true, Bool.not_false, Bool.not_true, cond_true, cond_false, ne_eq, not_false_eq_true, not_true_eq_false, if_true, if_false]
theorem z_lm_d (L : Nat) (T : Nat → Int32) (i : Nat) : (z_lm L T i = z_l L T i) ∨ (z_lm L T i = -1 ∧ z_l L T i = nI 0) := by
  unfold z_lm z_l
  by_cases c : i < L
  · rw [if_pos c, if_pos c]; exact Or.inl rfl
  · rw [if_neg c, if_neg c]; exact Or.inr ⟨rfl, rfl⟩
theorem z_lm_eq (L : Nat) (T : Nat → Int32) (i : Nat) {g : Int32} (h : g ≠ -1 ∧ g ≠ nI 0) : (z_lm L T i = g) = (z_l L T i = g) := by
  rcases z_lm_d L T i with e | ⟨e1, e2⟩
  · rw [e]
  · rw [e1, e2]
    exact propext ⟨fun k => absurd k.symm h.1, fun k => absurd k.symm h.2⟩
theorem z_lm_dig (L : Nat) (T : Nat → Int32) (i : Nat) : (decide (nI 48 ≤ z_lm L T i) && decide (z_lm L T i ≤ nI 57)) = (z_d (z_l L T i)).isSome := by
  have key : ∀ x, (decide (nI 48 ≤ x) && decide (x ≤ nI 57)) = (z_d x).isSome := fun x => by
    unfold z_d
    by_cases c : nI 48 ≤ x ∧ x ≤ nI 57
    · rw [if_pos c, decide_eq_true c.1, decide_eq_true c.2]; rfl
    · rw [if_neg c]
      by_cases c1 : nI 48 ≤ x
      · rw [decide_eq_false (fun k => c ⟨c1, k⟩), Bool.and_false]; rfl
      · rw [decide_eq_false c1]; rfl
  rcases z_lm_d L T i with e | ⟨e1, e2⟩
  · rw [e, key]
  · rw [e1, e2]
    decide +kernel
theorem e64_48 : (48 : Int64) = (nI 48).toInt64 := by decide +kernel
theorem e64_57 : (57 : Int64) = (nI 57).toInt64 := by decide +kernel
def m_tx (H : QH) (L : Nat) (T : Nat → Int32) (p : Nat) : Prop := H 165 13 = nI L ∧ (∀ j, j < L → H 172 j = T j) ∧ H 165 14 = nI p
theorem m_tx_of {H H' : QH} {L p : Nat} {T : Nat → Int32} (h : m_tx H L T p) (q : Nat) (h1 : H' 165 13 = H 165 13) (h2 : H' 172 = H 172) (h3 : H' 165 14 = nI q) : m_tx H' L T q := ⟨h1.trans h.1, fun j hj => by rw [h2]; exact h.2.1 j hj, h3⟩
/-- what stands behind a number: its end -/
theorem m_tnEnd (sx : QX) (d L p p0 v lo hi : Nat) (T : Nat → Int32) (hx g : Int32) (H : QH) (hL : L ≤ 200) (h : m_tx H L T p) (hp : p < 100000) (hv : H 165 15 = nI v) (hv2 : v < 1000) (hlo : lo < 1000) (hhi : ∀ v, v < 1000 → (nI v ≤ hx ↔ v < hi)) (hg : g ≠ -1 ∧ g ≠ nI 0) (hpp : p0 < p) : ∃ H', cond (decide (H 165 14 = nI p0)) (rI (nI 0) H) (q_cI (q_CL (q_tb sx) q_kpt (d + 2) (102, ([.inr (.inl (H 165 15).toInt64), .inr (.inl (nI lo).toInt64), .inr (.inl hx.toInt64)], H))) (fun y1 H1 => cond (decide (y1 = nI 0)) (rI (nI 0) H1) (q_cI (q_CL (q_tb sx) q_kpt (d + 2) (116, ([vr 9 165, vi (H1 165 14)], H1))) (fun y2 H2 => cond (decide (y2 = g)) (rI (nI 1) (q_hs H2 165 14 (H2 165 14 + nI 1))) (rI (nI 0) H2))))) = rI (z01 (decide (lo ≤ v ∧ v < hi ∧ z_l L T p = g))) H' ∧ (∀ a, a ≠ 165 → H' a = H a) ∧ (∀ j, j ≠ 14 → H' 165 j = H 165 j) ∧ ((lo ≤ v ∧ v < hi ∧ z_l L T p = g) → H' 165 14 = nI (p + 1)) := by
  obtain ⟨h1, h2, h3⟩ := h
  rw [h3, hv, in_eq, q_cIs, decide_eq_false (show ¬ nI p = nI p0 by rw [nI_eq (by omega) (by omega)]; omega), cond_false]
  have e1 : (decide (nI lo ≤ nI v) && decide (nI v ≤ hx)) = decide (lo ≤ v ∧ v < hi) := by
    by_cases c1 : lo ≤ v
    · rw [decide_eq_true ((nI_leI (by omega) (by omega)).mpr c1), Bool.true_and]
      by_cases c2 : v < hi
      · rw [decide_eq_true ((hhi v hv2).mpr c2), decide_eq_true ⟨c1, c2⟩]
      · rw [decide_eq_false (fun k => c2 ((hhi v hv2).mp k)), decide_eq_false (fun k => c2 k.2)]
    · rw [decide_eq_false (fun k => c1 ((nI_leI (by omega) (by omega)).mp k)), Bool.false_and, decide_eq_false (show ¬ (lo ≤ v ∧ v < hi) from fun k => c1 k.1)]
  rw [e1]
  by_cases c : lo ≤ v ∧ v < hi
  · rw [decide_eq_true c]
    show ∃ H', q_cI (q_CL (q_tb sx) q_kpt (d + 2) (116, ([vr 9 165, vi (H 165 14)], H))) _ = _ ∧ _
    rw [h3, m_letter sx (d + 1) L p T H hL h1 h2 (by omega), q_cIs]
    by_cases c2 : z_l L T p = g
    · rw [decide_eq_true (show z_lm L T p = g by rw [z_lm_eq L T p hg]; exact c2), cond_true, h3, nI_add]
      exact ⟨_, by rw [decide_eq_true (show lo ≤ v ∧ v < hi ∧ z_l L T p = g from ⟨c.1, c.2, c2⟩)]; rfl, fun a ha => q_hs_ne ha, fun j hj => q_hs_ix hj, fun _ => q_hs_at⟩
    · rw [decide_eq_false (show ¬ z_lm L T p = g by rw [z_lm_eq L T p hg]; exact c2), cond_false]
      exact ⟨H, by rw [decide_eq_false (show ¬ (lo ≤ v ∧ v < hi ∧ z_l L T p = g) from fun k => c2 k.2.2)]; rfl, fun _ _ => rfl, fun _ _ => rfl, fun k => absurd k.2.2 c2⟩
  · rw [decide_eq_false c]
    exact ⟨H, by rw [decide_eq_false (show ¬ (lo ≤ v ∧ v < hi ∧ z_l L T p = g) from fun k => c ⟨k.1, k.2.1⟩)]; rfl, fun _ _ => rfl, fun _ _ => rfl, fun k => absurd ⟨k.1, k.2.1⟩ c⟩
theorem m_takesNumber (sx : QX) (d L p lo hi : Nat) (T : Nat → Int32) (hx g : Int32) (H : QH) (hL : L ≤ 200) (h : m_tx H L T p) (hp : p < 90000) (hlo : lo < 1000) (hhi : ∀ v, v < 1000 → (nI v ≤ hx ↔ v < hi)) (hg : g ≠ -1 ∧ g ≠ nI 0) : ∃ H', q_CL (q_tb sx) q_kpt (d + 3) (117, ([vr 9 165, vn lo, vi hx, vi g], H)) = rI (z01 (z_tn (z_l L T) lo hi g p).isSome) H' ∧ (∀ a, a ≠ 165 → H' a = H a) ∧ (∀ j, j ≠ 14 → j ≠ 15 → H' 165 j = H 165 j) ∧ ∀ v, z_tn (z_l L T) lo hi g p = some v → H' 165 15 = nI v.1 ∧ H' 165 14 = nI v.2 := by
  have hb := b_X7_takesNumber_0 sx (d + 2) (nI lo) hx g H
  have ht0 : m_tx (q_hs H 165 15 (nI 0)) L T p := m_tx_of h p (q_hs_ix (by omega)) (q_hs_ne (by omega)) (by rw [q_hs_ix (by omega)]; exact h.2.2)
  rw [h.2.2] at hb
  have hb1 := b_X7_takesNumber_11 sx (d + 2) (nI lo) hx g (nI p) (q_hs H 165 15 (nI 0))
  rw [ht0.2.2, show nI p - nI p = nI 0 by rw [pk_sub (by omega), Nat.sub_self], decide_eq_false (show ¬ nI 2 ≤ nI 0 by decide), cond_false, m_letter sx (d + 1) L p T _ hL ht0.1 ht0.2.1 (by omega), q_cIs, e64_48, e64_57, in_eq, q_cIs, z_lm_dig, ht0.2.2, decide_eq_true rfl, cond_true] at hb1
  rcases z_d_cases (z_l L T p) with ⟨e, -, -⟩ | ⟨f, hf, ef, e⟩
  · have hn : z_num (z_l L T) p = none := by unfold z_num; rw [e]
    rw [z_tn_none hn]
    rw [e] at hb1
    exact ⟨_, hb.trans (hb1.trans rfl), fun a ha => q_hs_ne ha, fun j _ k2 => q_hs_ix k2, fun v hv => (by cases hv)⟩
  · rw [e] at hb1
    have el : z_lm L T p = nI (48 + f) := by
      rw [← ef]
      rcases z_lm_d L T p with k | ⟨-, k⟩
      · exact k
      · rw [k] at ef
        rw [nI_eq (by omega) (by omega)] at ef
        omega
    rw [m_letter sx (d + 1) L p T _ hL ht0.1 ht0.2.1 (by omega), q_cIs, q_hs_at, el, pk_mul, nI_add, pk_sub (by omega), show 10 * 0 + (48 + f) - 48 = f by omega, q_hs_ix (by omega), ht0.2.2, nI_add] at hb1
    have ht1 : m_tx (q_hs (q_hs (q_hs H 165 15 (nI 0)) 165 15 (nI f)) 165 14 (nI (p + 1))) L T (p + 1) := m_tx_of ht0 (p + 1) (by rw [q_hs_ix (by omega), q_hs_ix (by omega)]) (by rw [q_hs_ne (by omega), q_hs_ne (by omega)]) q_hs_at
    have hb2 := b_X7_takesNumber_11 sx (d + 2) (nI lo) hx g (nI p) (q_hs (q_hs (q_hs H 165 15 (nI 0)) 165 15 (nI f)) 165 14 (nI (p + 1)))
    have d1 : (q_hs (q_hs (q_hs H 165 15 (nI 0)) 165 15 (nI f)) 165 14 (nI (p + 1))) 165 14 - nI p = nI 1 := by rw [ht1.2.2, pk_sub (by omega), show p + 1 - p = 1 by omega]
    rw [d1, decide_eq_false (show ¬ nI 2 ≤ nI 1 by decide), cond_false] at hb2
    have lt1 : q_CL (q_tb sx) q_kpt (d + 2) (116, ([vr 9 165, vi ((q_hs (q_hs (q_hs H 165 15 (nI 0)) 165 15 (nI f)) 165 14 (nI (p + 1))) 165 14)], q_hs (q_hs (q_hs H 165 15 (nI 0)) 165 15 (nI f)) 165 14 (nI (p + 1)))) = rI (z_lm L T (p + 1)) (q_hs (q_hs (q_hs H 165 15 (nI 0)) 165 15 (nI f)) 165 14 (nI (p + 1))) := by
      rw [ht1.2.2]
      exact m_letter sx (d + 1) L (p + 1) T _ hL ht1.1 ht1.2.1 (by omega)
    rw [lt1, q_cIs, e64_48, e64_57, in_eq, q_cIs, z_lm_dig] at hb2
    rcases z_d_cases (z_l L T (p + 1)) with ⟨e2, -, -⟩ | ⟨k, hk, ek, e2⟩
    · have hn : z_num (z_l L T) p = some (f, p + 1) := by unfold z_num; rw [e]; show (match z_d (z_l L T (p + 1)) with | none => some (f, p + 1) | some g => some (10 * f + g, p + 2)) = _; rw [e2]
      rw [e2] at hb2
      obtain ⟨H', r, o1, o2, o3⟩ := m_tnEnd sx d L (p + 1) p f lo hi T hx g (q_hs (q_hs (q_hs H 165 15 (nI 0)) 165 15 (nI f)) 165 14 (nI (p + 1))) hL ht1 (by omega) (by rw [q_hs_ix (by omega), q_hs_at]) (by omega) hlo hhi hg (by omega)
      rw [z_tn_some hn]
      refine ⟨H', hb.trans (hb1.trans (hb2.trans (r.trans ?_))), fun a ha => by rw [o1 a ha, q_hs_ne ha, q_hs_ne ha, q_hs_ne ha], fun j k1 k2 => by rw [o2 j k1, q_hs_ix k1, q_hs_ix k2, q_hs_ix k2], fun v hv => ?_⟩
      · by_cases c : lo ≤ f ∧ f < hi ∧ z_l L T (p + 1) = g
        · rw [if_pos c, decide_eq_true c]; rfl
        · rw [if_neg c, decide_eq_false c]; rfl
      · by_cases c : lo ≤ f ∧ f < hi ∧ z_l L T (p + 1) = g
        · rw [if_pos c] at hv
          cases hv
          exact ⟨by rw [o2 15 (by omega), q_hs_ix (by omega), q_hs_at], o3 c⟩
        · rw [if_neg c] at hv; cases hv
    · have hn : z_num (z_l L T) p = some (10 * f + k, p + 2) := by unfold z_num; rw [e]; show (match z_d (z_l L T (p + 1)) with | none => some (f, p + 1) | some g => some (10 * f + g, p + 2)) = _; rw [e2]
      rw [e2] at hb2
      have el2 : z_lm L T (p + 1) = nI (48 + k) := by
        rw [← ek]
        rcases z_lm_d L T (p + 1) with k' | ⟨-, k'⟩
        · exact k'
        · rw [k'] at ek
          rw [nI_eq (by omega) (by omega)] at ek
          omega
      have hb2' : _ = _ := hb2
      rw [show decide (z01 (some k).isSome = nI 0) = false by rw [show (some k).isSome = true from rfl]; decide, cond_false, lt1, q_cIs, el2] at hb2'
      have v1 : (q_hs (q_hs (q_hs H 165 15 (nI 0)) 165 15 (nI f)) 165 14 (nI (p + 1))) 165 15 = nI f := by rw [q_hs_ix (by omega), q_hs_at]
      rw [v1, pk_mul, nI_add, pk_sub (by omega), show 10 * f + (48 + k) - 48 = 10 * f + k by omega, q_hs_ix (j := 15) (by omega), ht1.2.2, nI_add] at hb2'
      have ht2 : m_tx (q_hs (q_hs (q_hs (q_hs (q_hs H 165 15 (nI 0)) 165 15 (nI f)) 165 14 (nI (p + 1))) 165 15 (nI (10 * f + k))) 165 14 (nI (p + 1 + 1))) L T (p + 2) := m_tx_of ht1 (p + 2) (by rw [q_hs_ix (by omega), q_hs_ix (by omega)]) (by rw [q_hs_ne (by omega), q_hs_ne (by omega)]) (q_hs_at)
      have hb3 := b_X7_takesNumber_11 sx (d + 2) (nI lo) hx g (nI p) (q_hs (q_hs (q_hs (q_hs (q_hs H 165 15 (nI 0)) 165 15 (nI f)) 165 14 (nI (p + 1))) 165 15 (nI (10 * f + k))) 165 14 (nI (p + 1 + 1)))
      have d2 : (q_hs (q_hs (q_hs (q_hs (q_hs H 165 15 (nI 0)) 165 15 (nI f)) 165 14 (nI (p + 1))) 165 15 (nI (10 * f + k))) 165 14 (nI (p + 1 + 1))) 165 14 - nI p = nI 2 := by rw [ht2.2.2, pk_sub (by omega), show p + 2 - p = 2 by omega]
      rw [d2, decide_eq_true (Int32.le_refl _), cond_true] at hb3
      obtain ⟨H', r, o1, o2, o3⟩ := m_tnEnd sx d L (p + 2) p (10 * f + k) lo hi T hx g (q_hs (q_hs (q_hs (q_hs (q_hs H 165 15 (nI 0)) 165 15 (nI f)) 165 14 (nI (p + 1))) 165 15 (nI (10 * f + k))) 165 14 (nI (p + 1 + 1))) hL ht2 (by omega) (by rw [q_hs_ix (by omega), q_hs_at]) (by omega) hlo hhi hg (by omega)
      rw [z_tn_some hn]
      refine ⟨H', hb.trans (hb1.trans (hb2'.trans (hb3.trans (r.trans ?_)))), fun a ha => by rw [o1 a ha, q_hs_ne ha, q_hs_ne ha, q_hs_ne ha, q_hs_ne ha, q_hs_ne ha], fun j k1 k2 => by rw [o2 j k1, q_hs_ix k1, q_hs_ix k2, q_hs_ix k1, q_hs_ix k2, q_hs_ix k2], fun v hv => ?_⟩
      · by_cases c : lo ≤ 10 * f + k ∧ 10 * f + k < hi ∧ z_l L T (p + 2) = g
        · rw [if_pos c, decide_eq_true c]; rfl
        · rw [if_neg c, decide_eq_false c]; rfl
      · by_cases c : lo ≤ 10 * f + k ∧ 10 * f + k < hi ∧ z_l L T (p + 2) = g
        · rw [if_pos c] at hv
          cases hv
          exact ⟨by rw [o2 15 (by omega), q_hs_ix (by omega), q_hs_at], o3 c⟩
        · rw [if_neg c] at hv; cases hv
