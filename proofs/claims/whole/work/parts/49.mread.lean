/-! the model: items -/
theorem z_tn_up {l : Nat → Int32} {lo hi p : Nat} {g : Int32} {v : Nat × Nat} (h : z_tn l lo hi g p = some v) : v.2 ≤ p + 3 ∧ v.1 < 100 := by
  unfold z_tn at h
  cases e : z_num l p with
  | none => rw [e] at h; cases h
  | some w =>
    obtain ⟨a, q⟩ := w
    rw [e] at h
    have h' : (if lo ≤ a ∧ a < hi ∧ l q = g then some (a, q + 1) else none) = some v := h
    by_cases c : lo ≤ a ∧ a < hi ∧ l q = g
    · rw [if_pos c] at h'
      cases h'
      have := z_num_in e
      exact ⟨by show q + 1 ≤ p + 3; omega, by show a < 100; omega⟩
    · rw [if_neg c] at h'; cases h'
def m_res (sx : QX) (d mid L : Nat) (T : Nat → Int32) (H : QH) (o : Option (SB × Nat)) : Prop := ∃ H', q_CL (q_tb sx) q_kpt d (mid, ([vr 9 165], H)) = rI (z01 o.isSome) H' ∧ m_rf H H' ∧ ∀ v, o = some v → m_bed H' v.1 ∧ m_tx H' L T v.2
theorem m_takesBlock (sx : QX) (d L p : Nat) (T : Nat → Int32) (H : QH) (R : SB) (hL : L ≤ 200) (h : m_tx H L T p) (hp : p < 1000) (hR : q_rR R) (hB : m_bed H R) : m_res sx (d + 5) 118 L T H (if sNb R = 6 then none else (z_tn (z_l L T) 0 4 (nI 44) p).bind (fun v => (z_tn (z_l L T) 1 61 (nI 59) v.2).bind (fun w => some (r_b R v.1 w.1, w.2)))) := by
  obtain ⟨k1, k2, k3, -⟩ := hR
  have hb := b_X7_takesBlock_0 sx (d + 4) H
  rw [hB.1] at hb
  by_cases c : sNb R = 6
  · rw [if_pos c]
    rw [c] at hb
    exact ⟨H, hb.trans rfl, ⟨fun _ _ _ => rfl, fun _ _ => rfl⟩, fun v hv => (by cases hv)⟩
  · rw [if_neg c]
    rw [decide_eq_false (show ¬ nI (sNb R) = nI 6 by rw [nI_eq (by omega) (by omega)]; exact c), cond_false] at hb
    obtain ⟨H1, r1, f1, b1, s1⟩ := m_tnS sx (d + 1) L p 0 4 T (nI 3) (nI 44) H R hL h hB (by omega) (by omega) (hx_n (by omega)) g44
    rw [r1, q_cIs] at hb
    cases e1 : z_tn (z_l L T) 0 4 (nI 44) p with
    | none =>
      rw [e1] at hb
      exact ⟨H1, hb.trans rfl, f1, fun v hv => (by cases hv)⟩
    | some v =>
      rw [e1] at hb
      obtain ⟨n1, t1⟩ := s1 v e1
      have u1 := z_tn_up e1
      obtain ⟨H2, r2, f2, b2, s2⟩ := m_tnS sx (d + 1) L v.2 1 61 T (nI 60) (nI 59) H1 R hL t1 b1 (by omega) (by omega) (hx_n (by omega)) g59
      have hb2 : _ = q_cI (q_CL (q_tb sx) q_kpt (d + 4) (117, ([vr 9 165, vn 1, vn 60, vn 59], H1))) _ := hb
      rw [r2, q_cIs] at hb2
      rw [ob_s]
      cases e2 : z_tn (z_l L T) 1 61 (nI 59) v.2 with
      | none =>
        rw [e2] at hb2
        exact ⟨H2, hb2.trans rfl, m_rf_tr f1 f2, fun v hv => (by cases hv)⟩
      | some w =>
        rw [e2] at hb2
        obtain ⟨n2, t2⟩ := s2 w e2
        obtain ⟨H3, r3, o1, o2, b3⟩ := m_addsBlock sx (d + 3) v.1 w.1 H2 R b2 (by omega)
        have hb3 : _ = q_cV (q_CL (q_tb sx) q_kpt (d + 4) (110, ([vr 9 165, vi (H1 165 15), vi (H2 165 15)], H2))) _ := hb2
        rw [n1, n2, r3, q_cVs] at hb3
        refine ⟨H3, hb3.trans rfl, m_rf_tr (m_rf_tr f1 f2) ⟨fun a k1 k2 => o1 a k1 (by omega), fun j hj => o2 j (by omega)⟩, fun v hv => ?_⟩
        cases hv
        exact ⟨b3, m_tx_of t2 w.2 (o2 13 (by omega)) (o1 172 (by omega) (by omega)) ((o2 14 (by omega)).trans t2.2.2)⟩
theorem m_takesSpeaker (sx : QX) (d L p : Nat) (T : Nat → Int32) (H : QH) (R : SB) (hL : L ≤ 200) (h : m_tx H L T p) (hp : p < 1000) (hR : q_rR R) (hB : m_bed H R) : m_res sx (d + 5) 120 L T H (if sNs R = 4 then none else (z_tn (z_l L T) 0 4 (nI 44) p).bind (fun v => (z_tn (z_l L T) 1 10 (nI 59) v.2).bind (fun w => some (r_s R v.1 w.1, w.2)))) := by
  obtain ⟨k1, k2, k3, -⟩ := hR
  have hb := b_X7_takesSpeaker_0 sx (d + 4) H
  rw [hB.2.2.1] at hb
  by_cases c : sNs R = 4
  · rw [if_pos c]
    rw [c] at hb
    exact ⟨H, hb.trans rfl, ⟨fun _ _ _ => rfl, fun _ _ => rfl⟩, fun v hv => (by cases hv)⟩
  · rw [if_neg c]
    rw [decide_eq_false (show ¬ nI (sNs R) = nI 4 by rw [nI_eq (by omega) (by omega)]; exact c), cond_false] at hb
    obtain ⟨H1, r1, f1, b1, s1⟩ := m_tnS sx (d + 1) L p 0 4 T (nI 3) (nI 44) H R hL h hB (by omega) (by omega) (hx_n (by omega)) g44
    rw [r1, q_cIs] at hb
    cases e1 : z_tn (z_l L T) 0 4 (nI 44) p with
    | none =>
      rw [e1] at hb
      exact ⟨H1, hb.trans rfl, f1, fun v hv => (by cases hv)⟩
    | some v =>
      rw [e1] at hb
      obtain ⟨n1, t1⟩ := s1 v e1
      have u1 := z_tn_up e1
      obtain ⟨H2, r2, f2, b2, s2⟩ := m_tnS sx (d + 1) L v.2 1 10 T (nI 9) (nI 59) H1 R hL t1 b1 (by omega) (by omega) (hx_n (by omega)) g59
      have hb2 : _ = q_cI (q_CL (q_tb sx) q_kpt (d + 4) (117, ([vr 9 165, vn 1, vn 9, vn 59], H1))) _ := hb
      rw [r2, q_cIs] at hb2
      rw [ob_s]
      cases e2 : z_tn (z_l L T) 1 10 (nI 59) v.2 with
      | none =>
        rw [e2] at hb2
        exact ⟨H2, hb2.trans rfl, m_rf_tr f1 f2, fun v hv => (by cases hv)⟩
      | some w =>
        rw [e2] at hb2
        obtain ⟨n2, t2⟩ := s2 w e2
        obtain ⟨H3, r3, o1, o2, b3⟩ := m_addsSpeaker sx (d + 3) v.1 w.1 H2 R b2 (by omega)
        have hb3 : _ = q_cV (q_CL (q_tb sx) q_kpt (d + 4) (112, ([vr 9 165, vi (H1 165 15), vi (H2 165 15)], H2))) _ := hb2
        rw [n1, n2, r3, q_cVs] at hb3
        refine ⟨H3, hb3.trans rfl, m_rf_tr (m_rf_tr f1 f2) ⟨fun a k1 k2 => o1 a k1 (by omega), fun j hj => o2 j (by omega)⟩, fun v hv => ?_⟩
        cases hv
        exact ⟨b3, m_tx_of t2 w.2 (o2 13 (by omega)) (o1 172 (by omega) (by omega)) ((o2 14 (by omega)).trans t2.2.2)⟩
theorem m_takesWord (sx : QX) (d L p : Nat) (T : Nat → Int32) (H : QH) (R : SB) (hL : L ≤ 200) (h : m_tx H L T p) (hp : p < 1000) (hR : q_rR R) (hB : m_bed H R) : m_res sx (d + 5) 119 L T H (if sNw R = 6 then none else (z_tn (z_l L T) 1 21 (nI 59) p).bind (fun v => some (r_w R v.1, v.2))) := by
  obtain ⟨k1, k2, k3, -⟩ := hR
  have hb := b_X7_takesWord_0 sx (d + 4) H
  rw [hB.2.1] at hb
  by_cases c : sNw R = 6
  · rw [if_pos c]
    rw [c] at hb
    exact ⟨H, hb.trans rfl, ⟨fun _ _ _ => rfl, fun _ _ => rfl⟩, fun v hv => (by cases hv)⟩
  · rw [if_neg c]
    rw [decide_eq_false (show ¬ nI (sNw R) = nI 6 by rw [nI_eq (by omega) (by omega)]; exact c), cond_false] at hb
    obtain ⟨H1, r1, f1, b1, s1⟩ := m_tnS sx (d + 1) L p 1 21 T (nI 20) (nI 59) H R hL h hB (by omega) (by omega) (hx_n (by omega)) g59
    rw [r1, q_cIs] at hb
    cases e1 : z_tn (z_l L T) 1 21 (nI 59) p with
    | none =>
      rw [e1] at hb
      exact ⟨H1, hb.trans rfl, f1, fun v hv => (by cases hv)⟩
    | some v =>
      rw [e1] at hb
      obtain ⟨n1, t1⟩ := s1 v e1
      obtain ⟨H3, r3, o1, o2, b3⟩ := m_addsWord sx (d + 3) v.1 H1 R b1 (by omega)
      have hb3 : _ = q_cV (q_CL (q_tb sx) q_kpt (d + 4) (111, ([vr 9 165, vi (H1 165 15)], H1))) _ := hb
      rw [n1, r3, q_cVs] at hb3
      refine ⟨H3, hb3.trans rfl, m_rf_tr f1 ⟨fun a k1 k2 => o1 a k1 (by omega), fun j hj => o2 j (by omega)⟩, fun v hv => ?_⟩
      cases hv
      exact ⟨b3, m_tx_of t1 v.2 (o2 13 (by omega)) (o1 172 (by omega) (by omega)) ((o2 14 (by omega)).trans t1.2.2)⟩
theorem m_takesFrost (sx : QX) (d L p : Nat) (T : Nat → Int32) (H : QH) (R : SB) (hL : L ≤ 200) (h : m_tx H L T p) (hp : p < 1000) (hB : m_bed H R) : m_res sx (d + 5) 121 L T H ((z_tn (z_l L T) 0 10 (nI 59) p).bind (fun v => some (r_f R v.1, v.2))) := by
  have hb := b_X7_takesFrost_0 sx (d + 4) H
  obtain ⟨H1, r1, f1, b1, s1⟩ := m_tnS sx (d + 1) L p 0 10 T (nI 9) (nI 59) H R hL h hB (by omega) (by omega) (hx_n (by omega)) g59
  rw [r1, q_cIs] at hb
  cases e1 : z_tn (z_l L T) 0 10 (nI 59) p with
  | none =>
    rw [e1] at hb
    exact ⟨H1, hb.trans rfl, f1, fun v hv => (by cases hv)⟩
  | some v =>
    rw [e1] at hb
    obtain ⟨n1, t1⟩ := s1 v e1
    have hb3 : _ = rI (nI 1) (q_hs H1 165 22 (H1 165 15)) := hb
    rw [n1] at hb3
    refine ⟨_, hb3.trans rfl, m_rf_tr f1 ⟨fun a k1 k2 => q_hs_ne k1, fun j hj => q_hs_ix (by omega)⟩, fun v hv => ?_⟩
    cases hv
    exact ⟨m_setFrost b1, m_tx_of t1 v.2 (q_hs_ix (by omega)) (q_hs_ne (by omega)) (by rw [q_hs_ix (by omega)]; exact t1.2.2)⟩
theorem m_takesPromise (sx : QX) (d L p : Nat) (T : Nat → Int32) (H : QH) (R : SB) (hL : L ≤ 200) (h : m_tx H L T p) (hp : p < 1000) (hR : q_rR R) (hB : m_bed H R) : m_res sx (d + 5) 122 L T H ((z_tn (z_l L T) 0 (sNs R) (nI 44) p).bind (fun v => (z_tn (z_l L T) 0 (sNb R) (nI 44) v.2).bind (fun w => (z_tn (z_l L T) 0 8 (nI 59) w.2).bind (fun u => some (r_p R v.1 w.1 u.1, u.2))))) := by
  obtain ⟨k1, k2, k3, -⟩ := hR
  have hb := b_X7_takesPromise_0 sx (d + 4) H
  rw [hB.2.2.1] at hb
  obtain ⟨H1, r1, f1, b1, s1⟩ := m_tnS sx (d + 1) L p 0 (sNs R) T (nI (sNs R) - nI 1) (nI 44) H R hL h hB (by omega) (by omega) (hx_m (by omega)) g44
  rw [r1, q_cIs] at hb
  cases e1 : z_tn (z_l L T) 0 (sNs R) (nI 44) p with
  | none =>
    rw [e1] at hb
    exact ⟨H1, hb.trans rfl, f1, fun v hv => (by cases hv)⟩
  | some v =>
    rw [e1] at hb
    obtain ⟨n1, t1⟩ := s1 v e1
    have u1 := z_tn_up e1
    have i1 := z_tn_in e1
    rw [ob_s]
    obtain ⟨H2, r2, f2, b2, s2⟩ := m_tnS sx (d + 1) L v.2 0 (sNb R) T (nI (sNb R) - nI 1) (nI 44) H1 R hL t1 b1 (by omega) (by omega) (hx_m (by omega)) g44
    have hb2 : _ = q_cI (q_CL (q_tb sx) q_kpt (d + 4) (117, ([vr 9 165, vn 0, vi (H1 165 16 - nI 1), vn 44], H1))) _ := hb
    rw [b1.1, r2, q_cIs] at hb2
    cases e2 : z_tn (z_l L T) 0 (sNb R) (nI 44) v.2 with
    | none =>
      rw [e2] at hb2
      exact ⟨H2, hb2.trans rfl, m_rf_tr f1 f2, fun v hv => (by cases hv)⟩
    | some w =>
      rw [e2] at hb2
      obtain ⟨n2, t2⟩ := s2 w e2
      have u2 := z_tn_up e2
      have i2 := z_tn_in e2
      rw [ob_s]
      obtain ⟨H3, r3, f3, b3, s3⟩ := m_tnS sx (d + 1) L w.2 0 8 T (nI 7) (nI 59) H2 R hL t2 b2 (by omega) (by omega) (hx_n (by omega)) g59
      have hb3 : _ = q_cI (q_CL (q_tb sx) q_kpt (d + 4) (117, ([vr 9 165, vn 0, vn 7, vn 59], H2))) _ := hb2
      rw [r3, q_cIs] at hb3
      cases e3 : z_tn (z_l L T) 0 8 (nI 59) w.2 with
      | none =>
        rw [e3] at hb3
        exact ⟨H3, hb3.trans rfl, m_rf_tr (m_rf_tr f1 f2) f3, fun v hv => (by cases hv)⟩
      | some u =>
        rw [e3] at hb3
        obtain ⟨n3, t3⟩ := s3 u e3
        have hb4 : _ = cond (q_inb (nI 6 * H1 165 15 + H2 165 15) 24) (rI (nI 1) (q_hs H3 176 (nI 6 * H1 165 15 + H2 165 15).toNatClampNeg (H3 165 15))) none := hb3
        rw [n1, n2, n3, pk_mul, nI_add, q_inbN (by omega), decide_eq_true (show 6 * v.1 + w.1 < 24 by omega), cond_true, q_cl_nI (by omega)] at hb4
        refine ⟨_, hb4.trans rfl, m_rf_tr (m_rf_tr (m_rf_tr f1 f2) f3) ⟨fun a k1 k2 => q_hs_ne (by omega), fun j hj => by rw [q_hs_ne (by omega)]⟩, fun v hv => ?_⟩
        cases hv
        exact ⟨m_setVow b3, m_tx_of t3 u.2 (by rw [q_hs_ne (by omega)]) (q_hs_ne (by omega)) (by rw [q_hs_ne (by omega)]; exact t3.2.2)⟩
theorem z01_2 (b : Bool) (H : QH) : cond (decide (z01 b = nI 0) || decide (z01 b = nI 1)) (rI (z01 b) H) none = rI (z01 b) H := by cases b <;> rfl
theorem m_takesItem (sx : QX) (d L p : Nat) (T : Nat → Int32) (H : QH) (R : SB) (hL : L ≤ 200) (h : m_tx H L T p) (hp : p < 900) (hR : q_rR R) (hB : m_bed H R) : m_res sx (d + 6) 123 L T H (z_item (z_l L T) p R) := by
  rw [← z_item_eq _ p R hR]
  have h' := h
  obtain ⟨h1, h2, h3⟩ := h'
  have hb := b_X7_takesItem_0 sx (d + 5) H
  rw [h3, m_letter sx (d + 4) L p T H hL h1 h2 (by omega), q_cIs, h3, nI_add] at hb
  have ht : m_tx (q_hs H 165 14 (nI (p + 1))) L T (p + 1) := m_tx_of h (p + 1) (q_hs_ix (by omega)) (q_hs_ne (by omega)) q_hs_at
  have hBs : m_bed (q_hs H 165 14 (nI (p + 1))) R := m_bed_of hB (fun j k1 k2 => q_hs_ix k1) (fun a k1 k2 => q_hs_ne (by omega))
  have hf : m_rf H (q_hs H 165 14 (nI (p + 1))) := ⟨fun a k1 _ => q_hs_ne k1, fun j hj => q_hs_ix (by omega)⟩
  have fin : ∀ mid o, m_res sx (d + 5) mid L T (q_hs H 165 14 (nI (p + 1))) o → q_CL (q_tb sx) q_kpt (d + 6) (123, ([vr 9 165], H)) = q_cI (q_CL (q_tb sx) q_kpt (d + 5) (mid, ([vr 9 165], q_hs H 165 14 (nI (p + 1))))) (fun y H6 => cond (decide (y = nI 0) || decide (y = nI 1)) (rI y H6) none) → m_res sx (d + 6) 123 L T H o := by
    rintro mid o ⟨H', r, f, b⟩ e
    rw [r, q_cIs, z01_2] at e
    exact ⟨H', e, m_rf_tr hf f, b⟩
  have gl : ∀ n, 1 ≤ n → n < 1000 → (z_lm L T p = nI n) = (z_l L T p = nI n) := fun n k1 k2 => z_lm_eq L T p ⟨fun k => by
    have h1 : ¬ nI n < 0 := nI_pos (by omega)
    rw [k] at h1
    exact h1 (by decide), fun k => by rw [nI_eq (by omega) (by omega)] at k; omega⟩
  unfold z_itm
  by_cases c1 : z_l L T p = nI 98
  · rw [if_pos c1]
    rw [decide_eq_true (show z_lm L T p = nI 98 by rw [gl 98 (by omega) (by omega)]; exact c1), cond_true] at hb
    exact fin 118 _ (m_takesBlock sx d L (p + 1) T _ R hL ht (by omega) hR hBs) hb
  rw [if_neg c1]
  rw [decide_eq_false (show ¬ z_lm L T p = nI 98 by rw [gl 98 (by omega) (by omega)]; exact c1), cond_false] at hb
  by_cases c2 : z_l L T p = nI 102
  · rw [if_pos c2]
    rw [decide_eq_true (show z_lm L T p = nI 102 by rw [gl 102 (by omega) (by omega)]; exact c2), cond_true] at hb
    exact fin 121 _ (m_takesFrost sx d L (p + 1) T _ R hL ht (by omega) hBs) hb
  rw [if_neg c2]
  rw [decide_eq_false (show ¬ z_lm L T p = nI 102 by rw [gl 102 (by omega) (by omega)]; exact c2), cond_false] at hb
  by_cases c3 : z_l L T p = nI 112
  · rw [if_pos c3]
    rw [decide_eq_true (show z_lm L T p = nI 112 by rw [gl 112 (by omega) (by omega)]; exact c3), cond_true] at hb
    exact fin 122 _ (m_takesPromise sx d L (p + 1) T _ R hL ht (by omega) hR hBs) hb
  rw [if_neg c3]
  rw [decide_eq_false (show ¬ z_lm L T p = nI 112 by rw [gl 112 (by omega) (by omega)]; exact c3), cond_false] at hb
  by_cases c4 : z_l L T p = nI 115
  · rw [if_pos c4]
    rw [decide_eq_true (show z_lm L T p = nI 115 by rw [gl 115 (by omega) (by omega)]; exact c4), cond_true] at hb
    exact fin 120 _ (m_takesSpeaker sx d L (p + 1) T _ R hL ht (by omega) hR hBs) hb
  rw [if_neg c4]
  rw [decide_eq_false (show ¬ z_lm L T p = nI 115 by rw [gl 115 (by omega) (by omega)]; exact c4), cond_false] at hb
  by_cases c5 : z_l L T p = nI 119
  · rw [if_pos c5]
    rw [decide_eq_true (show z_lm L T p = nI 119 by rw [gl 119 (by omega) (by omega)]; exact c5), cond_true] at hb
    exact fin 119 _ (m_takesWord sx d L (p + 1) T _ R hL ht (by omega) hR hBs) hb
  rw [if_neg c5]
  rw [decide_eq_false (show ¬ z_lm L T p = nI 119 by rw [gl 119 (by omega) (by omega)]; exact c5), cond_false] at hb
  exact ⟨_, hb, hf, fun v hv => (by cases hv)⟩
theorem m_starts (sx : QX) (d : Nat) (H : QH) : ∃ H', q_CL (q_tb sx) q_kpt (d + 1) (109, ([vr 9 165], H)) = rV H' ∧ m_rf H H' ∧ m_bed H' r_0 := by
  have hl := z_loopI (fun i (G : QH) => (∀ a, a ≠ 176 → G a = (q_hs (q_hs (q_hs (q_hs H 165 16 (nI 0)) 165 18 (nI 0)) 165 20 (nI 0)) 165 22 (nI 1)) a) ∧ ∀ j, j < i → G 176 j = -4) 24 (fun k G => q_EV (q_tb sx) q_kpt (d + 1) 109 (22, ([(0, vr 9 165), (1, vn k)], ([], G)))) (fun k G => q_hs G 176 k (-4)) (q_hs (q_hs (q_hs (q_hs H 165 16 (nI 0)) 165 18 (nI 0)) 165 20 (nI 0)) 165 22 (nI 1)) ⟨fun _ _ => rfl, fun j hj => absurd hj (Nat.not_lt_zero _)⟩ (fun k G hk ⟨k1, k2⟩ => ⟨fun a ha => by rw [q_hs_ne ha]; exact k1 a ha, fun j hj => by
    by_cases c : j = k
    · subst c; exact q_hs_at
    · rw [q_hs_ix c]; exact k2 j (by omega)⟩) (fun k G hk _ => by
    refine (b_X7_starts_22 sx d (nI k) G).trans ?_
    simp (disch := omega) only [Bool.cond_decide, nI_add, pk_mul, q_inbN, q_cl_nI, q_ltN, q_leN, q_eqN, q_ifT, q_ifF, q_cIs, q_cVs, decide_false, decide_true, Bool.not_false, Bool.not_true, cond_true, cond_false, ne_eq, not_false_eq_true, not_true_eq_false, if_true, if_false])
  obtain ⟨hl, k1, k2⟩ := hl
  refine ⟨_, (b_X7_starts_0 sx d H).trans (hl.trans ((b_X7_starts_22 sx d (nI 24) _).trans (by simp (disch := omega) only [Bool.cond_decide, nI_add, pk_mul, q_inbN, q_cl_nI, q_ltN, q_leN, q_eqN, q_ifT, q_ifF, q_cIs, q_cVs, decide_false, decide_true, Bool.not_false, Bool.not_true, cond_true, cond_false, ne_eq, not_false_eq_true, not_true_eq_false, if_true, if_false]; rfl))), ⟨fun a q1 q2 => by rw [k1 a (by omega), q_hs_ne q1, q_hs_ne q1, q_hs_ne q1, q_hs_ne q1], fun j hj => by rw [k1 165 (by omega), q_hs_ix (by omega), q_hs_ix (by omega), q_hs_ix (by omega), q_hs_ix (by omega)]⟩, ?_, ?_, ?_, ?_, fun o ho => absurd ho (Nat.not_lt_zero _), fun o ho => absurd ho (Nat.not_lt_zero _), fun o ho => absurd ho (Nat.not_lt_zero _), fun o ho => absurd ho (Nat.not_lt_zero _), fun o ho => absurd ho (Nat.not_lt_zero _), fun o ho => ?_⟩
  · rw [k1 165 (by omega), q_hs_ix (by omega), q_hs_ix (by omega), q_hs_ix (by omega), q_hs_at]; rfl
  · rw [k1 165 (by omega), q_hs_ix (by omega), q_hs_ix (by omega), q_hs_at]; rfl
  · rw [k1 165 (by omega), q_hs_ix (by omega), q_hs_at]; rfl
  · rw [k1 165 (by omega), q_hs_at]; rfl
  · rw [k2 o ho]; rfl
theorem m_faultL (sx : QX) (d L : Nat) (T : Nat → Int32) (hL : L ≤ 200) : ∀ (n p : Nat) (R : SB) (H : QH), L ≤ p + n → m_tx H L T p → p < 900 → q_rR R → m_bed H R → ∃ H', q_EV (q_tb sx) q_kpt (d + 7) 124 (9, ([(0, vr 9 165)], ([], H))) = rI (z_flt (z_rd L (z_l L T) n p R).1) H' ∧ m_rf H H' ∧ ((z_rd L (z_l L T) n p R).1 = none → m_bed H' (z_rd L (z_l L T) n p R).2) := by
  intro n
  induction n with
  | zero =>
    intro p R H hn h hp hR hB
    refine ⟨H, (b_X7_faultOf_9 sx (d + 6) H).trans ?_, ⟨fun _ _ _ => rfl, fun _ _ => rfl⟩, fun _ => hB⟩
    rw [h.1, h.2.2, decide_eq_true (show nI L ≤ nI p by rw [nI_leI (by omega) (by omega)]; omega)]
    rfl
  | succ n ih =>
    intro p R H hn h hp hR hB
    have hb := b_X7_faultOf_9 sx (d + 6) H
    rw [h.1, h.2.2] at hb
    unfold z_rd
    by_cases c : p < L
    · rw [if_pos c]
      rw [decide_eq_false (show ¬ nI L ≤ nI p by rw [nI_leI (by omega) (by omega)]; omega), cond_false] at hb
      obtain ⟨H1, r, f, b⟩ := m_takesItem sx d L p T H R hL h hp hR hB
      rw [r, q_cIs] at hb
      cases e : z_item (z_l L T) p R with
      | none =>
        rw [e] at hb
        exact ⟨H1, hb, f, fun k => (by cases k)⟩
      | some v =>
        rw [e] at hb
        obtain ⟨k1, k2⟩ := b v e
        have hin := z_itm_in (q := v.2) (R' := v.1) hR ((z_item_eq _ p R hR).trans e)
        have hlen : v.2 ≤ p + 10 := by
          unfold z_item at e
          obtain ⟨w, e1, e⟩ := ob_some e
          obtain ⟨R', e2, e⟩ := ob_some e
          have := (z_nums_len 3 (p + 1) w e1).2.1
          cases e
          show w.2 ≤ p + 10
          omega
        obtain ⟨H2, r2, q1, q2⟩ := ih v.2 v.1 H1 (by omega) k2 (by omega) hin.1 k1
        exact ⟨H2, hb.trans r2, m_rf_tr f q1, q2⟩
    · rw [if_neg c]
      rw [decide_eq_true (show nI L ≤ nI p by rw [nI_leI (by omega) (by omega)]; omega), cond_true] at hb
      exact ⟨H, hb, ⟨fun _ _ _ => rfl, fun _ _ => rfl⟩, fun _ => hB⟩
theorem m_faultOf (sx : QX) (d L : Nat) (T : Nat → Int32) (H : QH) (hL : L ≤ 200) (h1 : H 165 13 = nI L) (h2 : ∀ j, j < L → H 172 j = T j) : ∃ H', q_CL (q_tb sx) q_kpt (d + 7) (124, ([vr 9 165], H)) = rI (z_flt (z_read L T).1) H' ∧ m_rf H H' ∧ ((z_read L T).1 = none → m_bed H' (z_read L T).2) := by
  have hb := b_X7_faultOf_0 sx (d + 6) H
  obtain ⟨H1, r, f, b⟩ := m_starts sx (d + 5) H
  rw [r, q_cVs] at hb
  obtain ⟨H2, r2, f2, b2⟩ := m_faultL sx d L T hL 200 0 r_0 (q_hs H1 165 14 (nI 0)) (by omega) ⟨by rw [q_hs_ix (by omega), f.2 13 (by omega)]; exact h1, fun j hj => by rw [q_hs_ne (by omega), f.1 172 (by omega) (by omega)]; exact h2 j hj, q_hs_at⟩ (by omega) rR_0 (m_bed_of b (fun j k1 k2 => q_hs_ix k1) (fun a k1 k2 => q_hs_ne (by omega)))
  exact ⟨H2, hb.trans r2, m_rf_tr f (m_rf_tr ⟨fun a k1 _ => q_hs_ne k1, fun j hj => q_hs_ix (by omega)⟩ f2), b2⟩
theorem rf_RM {A : SA} {n : Nat} {H H' : QH} (h : q_RM A H) (hA : q_sA n A) (f : m_rf H H') : q_RM A H' := q_RM_of h hA (fun j hj => f.2 j hj) (fun j hj => by rw [f.1 166 (by omega) (by omega)]) (fun a k1 k2 => f.1 a (by omega) (by omega))
theorem two_fault (sx : QX) (d n : Nat) (A : SA) (hA : q_sA n A) : q_two sx d 58 125 [] A n := by
  refine ⟨z_flt (z_read (aL A) (aT A)).1, A, q_sA_mono hA (by omega), fun H hR => ?_, fun H hR => ?_⟩
  · obtain ⟨H', r, o1, o2, -⟩ := q_readInto sx (d + 33) (aL A) 13 (aT A) H hA.1 (by omega) hR.1.1 hR.1.2
    refine ⟨H', (b_X6_fault_0 sx (d + 39) H).trans (by rw [r]; rfl), q_RC_of hR (o2 2 (by omega)) (fun a ha => o1 a (by omega) (by omega) (by omega)), fun a ha => o1 a (by omega) (by omega) (by omega)⟩
  · obtain ⟨H', r, f, -⟩ := m_faultOf sx (d + 32) (aL A) (aT A) H hA.1 hR.1.1 hR.1.2
    exact ⟨H', (b_X7_fault_0 sx (d + 39) H).trans (by rw [r]; rfl), rf_RM hR hA f, fun a ha => f.1 a (by omega) (by omega)⟩
