/-! the model: an item, all items, and what follows from them -/
def m_bed (H : QH) (R : SB) : Prop := H 165 16 = nI (sNb R) ∧ H 165 18 = nI (sNw R) ∧ H 165 20 = nI (sNs R) ∧ H 165 22 = sC R ∧ (∀ b, b < sNb R → H 173 (2 * b) = sK R b) ∧ (∀ b, b < sNb R → H 173 (2 * b + 1) = sN R b) ∧ (∀ k, k < sNw R → H 174 k = sT R k) ∧ (∀ s, s < sNs R → H 175 (2 * s) = sS R s) ∧ (∀ s, s < sNs R → H 175 (2 * s + 1) = sD R s) ∧ ∀ j, j < 24 → H 176 j = R.2 6 j
theorem m_bed_of {H H' : QH} {R : SB} (h : m_bed H R) (h1 : ∀ j, j ≠ 14 → j ≠ 15 → H' 165 j = H 165 j) (he : ∀ a, 173 ≤ a → a < 177 → H' a = H a) : m_bed H' R := by
  unfold m_bed at h ⊢
  rw [h1 16 (by omega) (by omega), h1 18 (by omega) (by omega), h1 20 (by omega) (by omega), h1 22 (by omega) (by omega), he 173 (by omega) (by omega), he 174 (by omega) (by omega), he 175 (by omega) (by omega), he 176 (by omega) (by omega)]
  exact h
theorem m_addsBlock (sx : QX) (d a b : Nat) (H : QH) (R : SB) (h : m_bed H R) (c : sNb R < 6) : ∃ H', q_CL (q_tb sx) q_kpt (d + 1) (110, ([vr 9 165, vn a, vn b], H)) = rV H' ∧ (∀ x, x ≠ 165 → x ≠ 173 → H' x = H x) ∧ (∀ j, j ≠ 16 → H' 165 j = H 165 j) ∧ m_bed H' (r_b R a b) := by
  obtain ⟨e0, e1, e2, e3, f1, f2, f3, f4, f5, f6⟩ := h
  refine ⟨q_hs (q_hs (q_hs H 173 (2 * sNb R) (nI a)) 173 (2 * sNb R + 1) (nI b)) 165 16 (nI (sNb R + 1)), (b_X7_addsBlock_0 sx d (nI a) (nI b) H).trans ?_, fun x k1 k2 => by rw [q_hs_ne k1, q_hs_ne k2, q_hs_ne k2], fun j hj => by rw [q_hs_ix hj, q_hs_ne (by omega), q_hs_ne (by omega)], q_hs_at, ?_, ?_, ?_, fun o ho => ?_, fun o ho => ?_, fun o ho => ?_, fun o ho => ?_, fun o ho => ?_, fun o ho => ?_⟩
  · rw [e0]
    simp (disch := omega) only [Bool.cond_decide, nI_add, pk_mul, q_inbN, q_cl_nI, q_ltN, q_leN, q_eqN, q_ifT, q_ifF, q_cIs, q_cVs, decide_false, decide_true, Bool.not_false, Bool.not_true, cond_true, cond_false, ne_eq, not_false_eq_true, not_true_eq_false, if_true, if_false, q_hs_ne, e0]
  · rw [q_hs_ix (by omega), q_hs_ne (by omega), q_hs_ne (by omega)]; exact e1
  · rw [q_hs_ix (by omega), q_hs_ne (by omega), q_hs_ne (by omega)]; exact e2
  · rw [q_hs_ix (by omega), q_hs_ne (by omega), q_hs_ne (by omega), e3]; exact (r_b_o R a b 5 0 (by omega)).symm
  · have ho' : o < sNb R + 1 := ho
    rw [q_hs_ne (by omega), r_b_0]
    by_cases k : o = sNb R
    · rw [if_pos k, k, q_hs_ix (by omega), q_hs_at]
    · rw [if_neg k, q_hs_ix (by omega), q_hs_ix (by omega)]; exact f1 o (by omega)
  · have ho' : o < sNb R + 1 := ho
    rw [q_hs_ne (by omega), r_b_1]
    by_cases k : o = sNb R
    · rw [if_pos k, k, q_hs_at]
    · rw [if_neg k, q_hs_ix (by omega), q_hs_ix (by omega)]; exact f2 o (by omega)
  · rw [q_hs_ne (by omega), q_hs_ne (by omega), q_hs_ne (by omega)]; exact (f3 o ho).trans (r_b_o R a b 2 o (by omega)).symm
  · rw [q_hs_ne (by omega), q_hs_ne (by omega), q_hs_ne (by omega)]; exact (f4 o ho).trans (r_b_o R a b 3 o (by omega)).symm
  · rw [q_hs_ne (by omega), q_hs_ne (by omega), q_hs_ne (by omega)]; exact (f5 o ho).trans (r_b_o R a b 4 o (by omega)).symm
  · rw [q_hs_ne (by omega), q_hs_ne (by omega), q_hs_ne (by omega)]; exact (f6 o ho).trans (r_b_o R a b 6 o (by omega)).symm
theorem m_addsWord (sx : QX) (d a : Nat) (H : QH) (R : SB) (h : m_bed H R) (c : sNw R < 6) : ∃ H', q_CL (q_tb sx) q_kpt (d + 1) (111, ([vr 9 165, vn a], H)) = rV H' ∧ (∀ x, x ≠ 165 → x ≠ 174 → H' x = H x) ∧ (∀ j, j ≠ 18 → H' 165 j = H 165 j) ∧ m_bed H' (r_w R a) := by
  obtain ⟨e0, e1, e2, e3, f1, f2, f3, f4, f5, f6⟩ := h
  refine ⟨q_hs (q_hs H 174 (sNw R) (nI a)) 165 18 (nI (sNw R + 1)), (b_X7_addsWord_0 sx d (nI a) H).trans ?_, fun x k1 k2 => by rw [q_hs_ne k1, q_hs_ne k2], fun j hj => by rw [q_hs_ix hj, q_hs_ne (by omega)], ?_, q_hs_at, ?_, ?_, fun o ho => ?_, fun o ho => ?_, fun o ho => ?_, fun o ho => ?_, fun o ho => ?_, fun o ho => ?_⟩
  · rw [e1]
    simp (disch := omega) only [Bool.cond_decide, nI_add, pk_mul, q_inbN, q_cl_nI, q_ltN, q_leN, q_eqN, q_ifT, q_ifF, q_cIs, q_cVs, decide_false, decide_true, Bool.not_false, Bool.not_true, cond_true, cond_false, ne_eq, not_false_eq_true, not_true_eq_false, if_true, if_false, q_hs_ne, e1]
  · rw [q_hs_ix (by omega), q_hs_ne (by omega)]; exact e0
  · rw [q_hs_ix (by omega), q_hs_ne (by omega)]; exact e2
  · rw [q_hs_ix (by omega), q_hs_ne (by omega), e3]; exact (r_w_o R a 5 0 (by omega)).symm
  · rw [q_hs_ne (by omega), q_hs_ne (by omega)]; exact (f1 o ho).trans (r_w_o R a 0 o (by omega)).symm
  · rw [q_hs_ne (by omega), q_hs_ne (by omega)]; exact (f2 o ho).trans (r_w_o R a 1 o (by omega)).symm
  · have ho' : o < sNw R + 1 := ho
    rw [q_hs_ne (by omega), r_w_2]
    by_cases k : o = sNw R
    · rw [if_pos k, k, q_hs_at]
    · rw [if_neg k, q_hs_ix (by omega)]; exact f3 o (by omega)
  · rw [q_hs_ne (by omega), q_hs_ne (by omega)]; exact (f4 o ho).trans (r_w_o R a 3 o (by omega)).symm
  · rw [q_hs_ne (by omega), q_hs_ne (by omega)]; exact (f5 o ho).trans (r_w_o R a 4 o (by omega)).symm
  · rw [q_hs_ne (by omega), q_hs_ne (by omega)]; exact (f6 o ho).trans (r_w_o R a 6 o (by omega)).symm
theorem m_addsSpeaker (sx : QX) (d a b : Nat) (H : QH) (R : SB) (h : m_bed H R) (c : sNs R < 4) : ∃ H', q_CL (q_tb sx) q_kpt (d + 1) (112, ([vr 9 165, vn a, vn b], H)) = rV H' ∧ (∀ x, x ≠ 165 → x ≠ 175 → H' x = H x) ∧ (∀ j, j ≠ 20 → H' 165 j = H 165 j) ∧ m_bed H' (r_s R a b) := by
  obtain ⟨e0, e1, e2, e3, f1, f2, f3, f4, f5, f6⟩ := h
  refine ⟨q_hs (q_hs (q_hs H 175 (2 * sNs R) (nI a)) 175 (2 * sNs R + 1) (nI b)) 165 20 (nI (sNs R + 1)), (b_X7_addsSpeaker_0 sx d (nI a) (nI b) H).trans ?_, fun x k1 k2 => by rw [q_hs_ne k1, q_hs_ne k2, q_hs_ne k2], fun j hj => by rw [q_hs_ix hj, q_hs_ne (by omega), q_hs_ne (by omega)], ?_, ?_, q_hs_at, ?_, fun o ho => ?_, fun o ho => ?_, fun o ho => ?_, fun o ho => ?_, fun o ho => ?_, fun o ho => ?_⟩
  · rw [e2]
    simp (disch := omega) only [Bool.cond_decide, nI_add, pk_mul, q_inbN, q_cl_nI, q_ltN, q_leN, q_eqN, q_ifT, q_ifF, q_cIs, q_cVs, decide_false, decide_true, Bool.not_false, Bool.not_true, cond_true, cond_false, ne_eq, not_false_eq_true, not_true_eq_false, if_true, if_false, q_hs_ne, e2]
  · rw [q_hs_ix (by omega), q_hs_ne (by omega), q_hs_ne (by omega)]; exact e0
  · rw [q_hs_ix (by omega), q_hs_ne (by omega), q_hs_ne (by omega)]; exact e1
  · rw [q_hs_ix (by omega), q_hs_ne (by omega), q_hs_ne (by omega), e3]; exact (r_s_o R a b 5 0 (by omega)).symm
  · rw [q_hs_ne (by omega), q_hs_ne (by omega), q_hs_ne (by omega)]; exact (f1 o ho).trans (r_s_o R a b 0 o (by omega)).symm
  · rw [q_hs_ne (by omega), q_hs_ne (by omega), q_hs_ne (by omega)]; exact (f2 o ho).trans (r_s_o R a b 1 o (by omega)).symm
  · rw [q_hs_ne (by omega), q_hs_ne (by omega), q_hs_ne (by omega)]; exact (f3 o ho).trans (r_s_o R a b 2 o (by omega)).symm
  · have ho' : o < sNs R + 1 := ho
    rw [q_hs_ne (by omega), r_s_3]
    by_cases k : o = sNs R
    · rw [if_pos k, k, q_hs_ix (by omega), q_hs_at]
    · rw [if_neg k, q_hs_ix (by omega), q_hs_ix (by omega)]; exact f4 o (by omega)
  · have ho' : o < sNs R + 1 := ho
    rw [q_hs_ne (by omega), r_s_4]
    by_cases k : o = sNs R
    · rw [if_pos k, k, q_hs_at]
    · rw [if_neg k, q_hs_ix (by omega), q_hs_ix (by omega)]; exact f5 o (by omega)
  · rw [q_hs_ne (by omega), q_hs_ne (by omega), q_hs_ne (by omega)]; exact (f6 o ho).trans (r_s_o R a b 6 o (by omega)).symm
theorem m_setFrost {a : Nat} {H : QH} {R : SB} (h : m_bed H R) : m_bed (q_hs H 165 22 (nI a)) (r_f R a) := by
  obtain ⟨e0, e1, e2, e3, f1, f2, f3, f4, f5, f6⟩ := h
  refine ⟨?_, ?_, ?_, q_hs_at, fun o ho => ?_, fun o ho => ?_, fun o ho => ?_, fun o ho => ?_, fun o ho => ?_, fun o ho => ?_⟩
  · rw [q_hs_ix (by omega)]; exact e0
  · rw [q_hs_ix (by omega)]; exact e1
  · rw [q_hs_ix (by omega)]; exact e2
  · rw [q_hs_ne (by omega)]; exact (f1 o ho).trans (r_f_o R a 0 o (by omega)).symm
  · rw [q_hs_ne (by omega)]; exact (f2 o ho).trans (r_f_o R a 1 o (by omega)).symm
  · rw [q_hs_ne (by omega)]; exact (f3 o ho).trans (r_f_o R a 2 o (by omega)).symm
  · rw [q_hs_ne (by omega)]; exact (f4 o ho).trans (r_f_o R a 3 o (by omega)).symm
  · rw [q_hs_ne (by omega)]; exact (f5 o ho).trans (r_f_o R a 4 o (by omega)).symm
  · rw [q_hs_ne (by omega)]; exact (f6 o ho).trans (r_f_o R a 6 o (by omega)).symm
theorem m_setVow {s b u : Nat} {H : QH} {R : SB} (h : m_bed H R) : m_bed (q_hs H 176 (6 * s + b) (nI u)) (r_p R s b u) := by
  obtain ⟨e0, e1, e2, e3, f1, f2, f3, f4, f5, f6⟩ := h
  refine ⟨?_, ?_, ?_, ?_, fun o ho => ?_, fun o ho => ?_, fun o ho => ?_, fun o ho => ?_, fun o ho => ?_, fun o ho => ?_⟩
  · rw [q_hs_ne (by omega)]; exact e0
  · rw [q_hs_ne (by omega)]; exact e1
  · rw [q_hs_ne (by omega)]; exact e2
  · rw [q_hs_ne (by omega), e3]; exact (r_p_o R s b u 5 0 (by omega)).symm
  · rw [q_hs_ne (by omega)]; exact (f1 o ho).trans (r_p_o R s b u 0 o (by omega)).symm
  · rw [q_hs_ne (by omega)]; exact (f2 o ho).trans (r_p_o R s b u 1 o (by omega)).symm
  · rw [q_hs_ne (by omega)]; exact (f3 o ho).trans (r_p_o R s b u 2 o (by omega)).symm
  · rw [q_hs_ne (by omega)]; exact (f4 o ho).trans (r_p_o R s b u 3 o (by omega)).symm
  · rw [q_hs_ne (by omega)]; exact (f5 o ho).trans (r_p_o R s b u 4 o (by omega)).symm
  · rw [r_p_6]
    by_cases k : o = 6 * s + b
    · rw [if_pos k, k, q_hs_at]
    · rw [if_neg k, q_hs_ix k]; exact f6 o ho
/-- the heap after a piece of the reading: the text lies, only what is read may change -/
def m_rf (H H' : QH) : Prop := (∀ a, a ≠ 165 → ¬ (173 ≤ a ∧ a < 177) → H' a = H a) ∧ ∀ j, j < 14 → H' 165 j = H 165 j
theorem m_rf_tr {H H1 H2 : QH} (h1 : m_rf H H1) (h2 : m_rf H1 H2) : m_rf H H2 := ⟨fun a k1 k2 => (h2.1 a k1 k2).trans (h1.1 a k1 k2), fun j hj => (h2.2 j hj).trans (h1.2 j hj)⟩
/-- a number, as a step: the bed lies as it was -/
theorem m_tnS (sx : QX) (d L p lo hi : Nat) (T : Nat → Int32) (hx g : Int32) (H : QH) (R : SB) (hL : L ≤ 200) (h : m_tx H L T p) (hB : m_bed H R) (hp : p < 90000) (hlo : lo < 1000) (hhi : ∀ v, v < 1000 → (nI v ≤ hx ↔ v < hi)) (hg : g ≠ -1 ∧ g ≠ nI 0) : ∃ H', q_CL (q_tb sx) q_kpt (d + 3) (117, ([vr 9 165, vn lo, vi hx, vi g], H)) = rI (z01 (z_tn (z_l L T) lo hi g p).isSome) H' ∧ m_rf H H' ∧ m_bed H' R ∧ ∀ v, z_tn (z_l L T) lo hi g p = some v → H' 165 15 = nI v.1 ∧ m_tx H' L T v.2 := by
  obtain ⟨H', r, o1, o2, o3⟩ := m_takesNumber sx d L p lo hi T hx g H hL h hp hlo hhi hg
  refine ⟨H', r, ⟨fun a k1 _ => o1 a k1, fun j hj => o2 j (by omega) (by omega)⟩, m_bed_of hB o2 (fun a k1 k2 => o1 a (by omega)), fun v hv => ?_⟩
  obtain ⟨k1, k2⟩ := o3 v hv
  exact ⟨k1, m_tx_of h v.2 (o2 13 (by omega) (by omega)) (o1 172 (by omega)) k2⟩
theorem hx_n {n : Nat} (hn : n < 1000) : ∀ v, v < 1000 → (nI v ≤ nI n ↔ v < n + 1) := fun v hv => by
  rw [nI_leI (by omega) (by omega)]
  omega
theorem hx_m {n : Nat} (hn : n < 1000) : ∀ v, v < 1000 → (nI v ≤ nI n - nI 1 ↔ v < n) := fun v hv => by
  by_cases c : n = 0
  · subst c
    have e : nI 0 - nI 1 = -1 := by decide
    rw [e]
    refine ⟨fun k => ?_, fun k => absurd k (Nat.not_lt_zero _)⟩
    have h1 : nI v < 0 := Int32.lt_of_le_of_lt k (by decide)
    exact absurd h1 (nI_pos (by omega))
  · rw [pk_sub (by omega), nI_leI (by omega) (by omega)]
    omega
theorem g44 : nI 44 ≠ -1 ∧ nI 44 ≠ nI 0 := by decide
theorem g59 : nI 59 ≠ -1 ∧ nI 59 ≠ nI 0 := by decide
