/-! the class: an item, all items, and what follows from them -/
theorem r_b_0 (R : SB) (a b o : Nat) : sK (r_b R a b) o = if o = sNb R then nI a else sK R o := by
  show (if 0 = 0 ∧ o = sNb R then nI a else if 0 = 1 ∧ o = sNb R then nI b else R.2 0 o) = _
  by_cases c : o = sNb R
  · rw [if_pos ⟨rfl, c⟩, if_pos c]
  · rw [if_neg (fun q => c q.2), if_neg (fun q => c q.2), if_neg c]; rfl
theorem r_b_1 (R : SB) (a b o : Nat) : sN (r_b R a b) o = if o = sNb R then nI b else sN R o := by
  show (if 1 = 0 ∧ o = sNb R then nI a else if 1 = 1 ∧ o = sNb R then nI b else R.2 1 o) = _
  by_cases c : o = sNb R
  · rw [if_neg (by omega), if_pos ⟨rfl, c⟩, if_pos c]
  · rw [if_neg (fun q => c q.2), if_neg (fun q => c q.2), if_neg c]; rfl
theorem r_b_o (R : SB) (a b i o : Nat) (h : 2 ≤ i) : (r_b R a b).2 i o = R.2 i o := by
  show (if i = 0 ∧ o = sNb R then nI a else if i = 1 ∧ o = sNb R then nI b else R.2 i o) = _
  rw [if_neg (by omega), if_neg (by omega)]
theorem r_w_2 (R : SB) (a o : Nat) : sT (r_w R a) o = if o = sNw R then nI a else sT R o := by
  show (if 2 = 2 ∧ o = sNw R then nI a else R.2 2 o) = _
  by_cases c : o = sNw R
  · rw [if_pos ⟨rfl, c⟩, if_pos c]
  · rw [if_neg (fun q => c q.2), if_neg c]; rfl
theorem r_w_o (R : SB) (a i o : Nat) (h : i ≠ 2) : (r_w R a).2 i o = R.2 i o := if_neg (fun q => h q.1)
theorem r_s_3 (R : SB) (a b o : Nat) : sS (r_s R a b) o = if o = sNs R then nI a else sS R o := by
  show (if 3 = 3 ∧ o = sNs R then nI a else if 3 = 4 ∧ o = sNs R then nI b else R.2 3 o) = _
  by_cases c : o = sNs R
  · rw [if_pos ⟨rfl, c⟩, if_pos c]
  · rw [if_neg (fun q => c q.2), if_neg (fun q => c q.2), if_neg c]; rfl
theorem r_s_4 (R : SB) (a b o : Nat) : sD (r_s R a b) o = if o = sNs R then nI b else sD R o := by
  show (if 4 = 3 ∧ o = sNs R then nI a else if 4 = 4 ∧ o = sNs R then nI b else R.2 4 o) = _
  by_cases c : o = sNs R
  · rw [if_neg (by omega), if_pos ⟨rfl, c⟩, if_pos c]
  · rw [if_neg (fun q => c q.2), if_neg (fun q => c q.2), if_neg c]; rfl
theorem r_s_o (R : SB) (a b i o : Nat) (h : i ≠ 3 ∧ i ≠ 4) : (r_s R a b).2 i o = R.2 i o := by
  show (if i = 3 ∧ o = sNs R then nI a else if i = 4 ∧ o = sNs R then nI b else R.2 i o) = _
  rw [if_neg (by omega), if_neg (by omega)]
theorem r_f_o (R : SB) (a i o : Nat) (h : i ≠ 5) : (r_f R a).2 i o = R.2 i o := if_neg (fun q => h q.1)
theorem r_p_6 (R : SB) (s b u o : Nat) : (r_p R s b u).2 6 o = if o = 6 * s + b then nI u else R.2 6 o := by
  show (if 6 = 6 ∧ o = 6 * s + b then nI u else R.2 6 o) = _
  by_cases c : o = 6 * s + b
  · rw [if_pos ⟨rfl, c⟩, if_pos c]
  · rw [if_neg (fun q => c q.2), if_neg c]
theorem r_p_o (R : SB) (s b u i o : Nat) (h : i ≠ 6) : (r_p R s b u).2 i o = R.2 i o := if_neg (fun q => h q.1)
theorem upd_if (f : Nat → Int32) (k j : Nat) (x : Int32) : upd f k x j = if j = k then x else f j := rfl
theorem q_addBlock (sx : QX) (d q a b : Nat) (H : QH) (R : SB) (hR : q_rR R) (h : c_bed H q R) (ha : a < 100) (hb : b < 100) : ∃ H', q_CL (q_tb sx) q_kpt (d + 2) (2, ([vr 1 q, vn a, vn b], H)) = rI (z01 (decide (sNb R < 6 ∧ a < 4 ∧ 1 ≤ b ∧ b ≤ 60))) H' ∧ (∀ x, x < q ∨ q + 9 ≤ x → H' x = H x) ∧ c_bed H' q (if sNb R < 6 ∧ a < 4 ∧ 1 ≤ b ∧ b ≤ 60 then r_b R a b else R) := by
  have h' := h
  obtain ⟨e0, e1, e2, e3, f1, f2, f3, f4, f5, f6⟩ := h'
  obtain ⟨k1, k2, k3, -⟩ := hR
  have hb9 := b_X0_addBlock_0 sx (d + 1) q (nI a) (nI b) H
  rw [e0] at hb9
  by_cases c : sNb R < 6 ∧ a < 4 ∧ 1 ≤ b ∧ b ≤ 60
  · rw [decide_eq_true c, if_pos c]
    obtain ⟨c1, c2, c3, c4⟩ := c
    refine ⟨q_hs (q_hs (q_hs H (q + 1) (sNb R) (nI a)) (q + 2) (sNb R) (nI b)) q 0 (nI (sNb R + 1)), hb9.trans ?_, fun x hx => by rw [q_hs_ne (by omega), q_hs_ne (by omega), q_hs_ne (by omega)], q_hs_at, ?_, ?_, ?_, fun o ho => ?_, fun o ho => ?_, fun o ho => ?_, fun o ho => ?_, fun o ho => ?_, fun o ho => ?_⟩
    · simp (disch := omega) only [Bool.cond_decide, nI_add, pk_mul, q_inbN, q_cl_nI, q_ltN, q_leN, q_eqN, q_ifT, q_ifF, q_cIs, q_cVs, decide_false, decide_true, Bool.not_false, Bool.not_true, cond_true, cond_false, ne_eq, not_false_eq_true, not_true_eq_false, if_true, if_false]
      rw [put_6 sx d (q + 1) _ _ H c1, q_cVs, q_hs_ne (by omega), e0, put_6 sx d (q + 2) _ _ _ c1, q_cVs, q_hs_ne (by omega), q_hs_ne (by omega), e0, nI_add]
      rfl
    · rw [q_hs_ix (by omega), q_hs_ne (by omega), q_hs_ne (by omega)]; exact e1
    · rw [q_hs_ix (by omega), q_hs_ne (by omega), q_hs_ne (by omega)]; exact e2
    · rw [q_hs_ix (by omega), q_hs_ne (by omega), q_hs_ne (by omega), e3]; exact (r_b_o R a b 5 0 (by omega)).symm
    · have ho' : o < sNb R + 1 := ho
      rw [q_hs_ne (by omega), q_hs_ne (by omega), q_hs_eq, upd_if, r_b_0]
      by_cases k : o = sNb R
      · rw [if_pos k, if_pos k]
      · rw [if_neg k, if_neg k]; exact f1 o (by omega)
    · have ho' : o < sNb R + 1 := ho
      rw [q_hs_ne (by omega), q_hs_eq, upd_if, r_b_1]
      by_cases k : o = sNb R
      · rw [if_pos k, if_pos k]
      · rw [if_neg k, if_neg k, q_hs_ne (by omega)]; exact f2 o (by omega)
    · rw [q_hs_ne (by omega), q_hs_ne (by omega), q_hs_ne (by omega)]; exact (f3 o ho).trans (r_b_o R a b 2 o (by omega)).symm
    · rw [q_hs_ne (by omega), q_hs_ne (by omega), q_hs_ne (by omega)]; exact (f4 o ho).trans (r_b_o R a b 3 o (by omega)).symm
    · rw [q_hs_ne (by omega), q_hs_ne (by omega), q_hs_ne (by omega)]; exact (f5 o ho).trans (r_b_o R a b 4 o (by omega)).symm
    · rw [q_hs_ne (by omega), q_hs_ne (by omega), q_hs_ne (by omega)]; exact (f6 o ho).trans (r_b_o R a b 6 o (by omega)).symm
  · rw [decide_eq_false c, if_neg c]
    refine ⟨H, hb9.trans ?_, fun _ _ => rfl, h⟩
    by_cases c1 : sNb R < 6
    · by_cases c2 : a < 4
      · by_cases c3 : 1 ≤ b
        · simp (disch := omega) only [Bool.cond_decide, nI_add, pk_mul, q_inbN, q_cl_nI, q_ltN, q_leN, q_eqN, q_ifT, q_ifF, q_cIs, q_cVs, decide_false, decide_true, Bool.not_false, Bool.not_true, cond_true, cond_false, ne_eq, not_false_eq_true, not_true_eq_false, if_true, if_false]; rfl
        · simp (disch := omega) only [Bool.cond_decide, nI_add, pk_mul, q_inbN, q_cl_nI, q_ltN, q_leN, q_eqN, q_ifT, q_ifF, q_cIs, q_cVs, decide_false, decide_true, Bool.not_false, Bool.not_true, cond_true, cond_false, ne_eq, not_false_eq_true, not_true_eq_false, if_true, if_false]; rfl
      · simp (disch := omega) only [Bool.cond_decide, nI_add, pk_mul, q_inbN, q_cl_nI, q_ltN, q_leN, q_eqN, q_ifT, q_ifF, q_cIs, q_cVs, decide_false, decide_true, Bool.not_false, Bool.not_true, cond_true, cond_false, ne_eq, not_false_eq_true, not_true_eq_false, if_true, if_false]; rfl
    · simp (disch := omega) only [Bool.cond_decide, nI_add, pk_mul, q_inbN, q_cl_nI, q_ltN, q_leN, q_eqN, q_ifT, q_ifF, q_cIs, q_cVs, decide_false, decide_true, Bool.not_false, Bool.not_true, cond_true, cond_false, ne_eq, not_false_eq_true, not_true_eq_false, if_true, if_false]; rfl
theorem q_addWord (sx : QX) (d q a : Nat) (H : QH) (R : SB) (hR : q_rR R) (h : c_bed H q R) (ha : a < 100) : ∃ H', q_CL (q_tb sx) q_kpt (d + 2) (3, ([vr 1 q, vn a], H)) = rI (z01 (decide (sNw R < 6 ∧ 1 ≤ a ∧ a ≤ 20))) H' ∧ (∀ x, x < q ∨ q + 9 ≤ x → H' x = H x) ∧ c_bed H' q (if sNw R < 6 ∧ 1 ≤ a ∧ a ≤ 20 then r_w R a else R) := by
  have h' := h
  obtain ⟨e0, e1, e2, e3, f1, f2, f3, f4, f5, f6⟩ := h'
  obtain ⟨k1, k2, k3, -⟩ := hR
  have hb9 := b_X0_addWord_0 sx (d + 1) q (nI a) H
  rw [e1] at hb9
  by_cases c : sNw R < 6 ∧ 1 ≤ a ∧ a ≤ 20
  · rw [decide_eq_true c, if_pos c]
    obtain ⟨c1, c2, c3⟩ := c
    refine ⟨q_hs (q_hs H (q + 3) (sNw R) (nI a)) q 1 (nI (sNw R + 1)), hb9.trans ?_, fun x hx => by rw [q_hs_ne (by omega), q_hs_ne (by omega)], ?_, q_hs_at, ?_, ?_, fun o ho => ?_, fun o ho => ?_, fun o ho => ?_, fun o ho => ?_, fun o ho => ?_, fun o ho => ?_⟩
    · simp (disch := omega) only [Bool.cond_decide, nI_add, pk_mul, q_inbN, q_cl_nI, q_ltN, q_leN, q_eqN, q_ifT, q_ifF, q_cIs, q_cVs, decide_false, decide_true, Bool.not_false, Bool.not_true, cond_true, cond_false, ne_eq, not_false_eq_true, not_true_eq_false, if_true, if_false]
      rw [put_6 sx d (q + 3) _ _ H c1, q_cVs, q_hs_ne (by omega), e1, nI_add]
      rfl
    · rw [q_hs_ix (by omega), q_hs_ne (by omega)]; exact e0
    · rw [q_hs_ix (by omega), q_hs_ne (by omega)]; exact e2
    · rw [q_hs_ix (by omega), q_hs_ne (by omega), e3]; exact (r_w_o R a 5 0 (by omega)).symm
    · rw [q_hs_ne (by omega), q_hs_ne (by omega)]; exact (f1 o ho).trans (r_w_o R a 0 o (by omega)).symm
    · rw [q_hs_ne (by omega), q_hs_ne (by omega)]; exact (f2 o ho).trans (r_w_o R a 1 o (by omega)).symm
    · have ho' : o < sNw R + 1 := ho
      rw [q_hs_ne (by omega), q_hs_eq, upd_if, r_w_2]
      by_cases k : o = sNw R
      · rw [if_pos k, if_pos k]
      · rw [if_neg k, if_neg k]; exact f3 o (by omega)
    · rw [q_hs_ne (by omega), q_hs_ne (by omega)]; exact (f4 o ho).trans (r_w_o R a 3 o (by omega)).symm
    · rw [q_hs_ne (by omega), q_hs_ne (by omega)]; exact (f5 o ho).trans (r_w_o R a 4 o (by omega)).symm
    · rw [q_hs_ne (by omega), q_hs_ne (by omega)]; exact (f6 o ho).trans (r_w_o R a 6 o (by omega)).symm
  · rw [decide_eq_false c, if_neg c]
    refine ⟨H, hb9.trans ?_, fun _ _ => rfl, h⟩
    by_cases c1 : sNw R < 6
    · by_cases c3 : 1 ≤ a
      · simp (disch := omega) only [Bool.cond_decide, nI_add, pk_mul, q_inbN, q_cl_nI, q_ltN, q_leN, q_eqN, q_ifT, q_ifF, q_cIs, q_cVs, decide_false, decide_true, Bool.not_false, Bool.not_true, cond_true, cond_false, ne_eq, not_false_eq_true, not_true_eq_false, if_true, if_false]; rfl
      · simp (disch := omega) only [Bool.cond_decide, nI_add, pk_mul, q_inbN, q_cl_nI, q_ltN, q_leN, q_eqN, q_ifT, q_ifF, q_cIs, q_cVs, decide_false, decide_true, Bool.not_false, Bool.not_true, cond_true, cond_false, ne_eq, not_false_eq_true, not_true_eq_false, if_true, if_false]; rfl
    · simp (disch := omega) only [Bool.cond_decide, nI_add, pk_mul, q_inbN, q_cl_nI, q_ltN, q_leN, q_eqN, q_ifT, q_ifF, q_cIs, q_cVs, decide_false, decide_true, Bool.not_false, Bool.not_true, cond_true, cond_false, ne_eq, not_false_eq_true, not_true_eq_false, if_true, if_false]; rfl
theorem q_addSpeaker (sx : QX) (d q a b : Nat) (H : QH) (R : SB) (hR : q_rR R) (h : c_bed H q R) (ha : a < 100) (hb : b < 100) : ∃ H', q_CL (q_tb sx) q_kpt (d + 2) (4, ([vr 1 q, vn a, vn b], H)) = rI (z01 (decide (sNs R < 4 ∧ a < 4 ∧ 1 ≤ b ∧ b ≤ 9))) H' ∧ (∀ x, x < q ∨ q + 9 ≤ x → H' x = H x) ∧ c_bed H' q (if sNs R < 4 ∧ a < 4 ∧ 1 ≤ b ∧ b ≤ 9 then r_s R a b else R) := by
  have h' := h
  obtain ⟨e0, e1, e2, e3, f1, f2, f3, f4, f5, f6⟩ := h'
  obtain ⟨k1, k2, k3, -⟩ := hR
  have hb9 := b_X0_addSpeaker_0 sx (d + 1) q (nI a) (nI b) H
  rw [e2] at hb9
  by_cases c : sNs R < 4 ∧ a < 4 ∧ 1 ≤ b ∧ b ≤ 9
  · rw [decide_eq_true c, if_pos c]
    obtain ⟨c1, c2, c3, c4⟩ := c
    refine ⟨q_hs (q_hs (q_hs H (q + 4) (sNs R) (nI a)) (q + 5) (sNs R) (nI b)) q 2 (nI (sNs R + 1)), hb9.trans ?_, fun x hx => by rw [q_hs_ne (by omega), q_hs_ne (by omega), q_hs_ne (by omega)], ?_, ?_, q_hs_at, ?_, fun o ho => ?_, fun o ho => ?_, fun o ho => ?_, fun o ho => ?_, fun o ho => ?_, fun o ho => ?_⟩
    · simp (disch := omega) only [Bool.cond_decide, nI_add, pk_mul, q_inbN, q_cl_nI, q_ltN, q_leN, q_eqN, q_ifT, q_ifF, q_cIs, q_cVs, decide_false, decide_true, Bool.not_false, Bool.not_true, cond_true, cond_false, ne_eq, not_false_eq_true, not_true_eq_false, if_true, if_false]
      rw [put_4 sx d (q + 4) _ _ H c1, q_cVs, q_hs_ne (by omega), e2, put_4 sx d (q + 5) _ _ _ c1, q_cVs, q_hs_ne (by omega), q_hs_ne (by omega), e2, nI_add]
      rfl
    · rw [q_hs_ix (by omega), q_hs_ne (by omega), q_hs_ne (by omega)]; exact e0
    · rw [q_hs_ix (by omega), q_hs_ne (by omega), q_hs_ne (by omega)]; exact e1
    · rw [q_hs_ix (by omega), q_hs_ne (by omega), q_hs_ne (by omega), e3]; exact (r_s_o R a b 5 0 (by omega)).symm
    · rw [q_hs_ne (by omega), q_hs_ne (by omega), q_hs_ne (by omega)]; exact (f1 o ho).trans (r_s_o R a b 0 o (by omega)).symm
    · rw [q_hs_ne (by omega), q_hs_ne (by omega), q_hs_ne (by omega)]; exact (f2 o ho).trans (r_s_o R a b 1 o (by omega)).symm
    · rw [q_hs_ne (by omega), q_hs_ne (by omega), q_hs_ne (by omega)]; exact (f3 o ho).trans (r_s_o R a b 2 o (by omega)).symm
    · have ho' : o < sNs R + 1 := ho
      rw [q_hs_ne (by omega), q_hs_ne (by omega), q_hs_eq, upd_if, r_s_3]
      by_cases k : o = sNs R
      · rw [if_pos k, if_pos k]
      · rw [if_neg k, if_neg k]; exact f4 o (by omega)
    · have ho' : o < sNs R + 1 := ho
      rw [q_hs_ne (by omega), q_hs_eq, upd_if, r_s_4]
      by_cases k : o = sNs R
      · rw [if_pos k, if_pos k]
      · rw [if_neg k, if_neg k, q_hs_ne (by omega)]; exact f5 o (by omega)
    · rw [q_hs_ne (by omega), q_hs_ne (by omega), q_hs_ne (by omega)]; exact (f6 o ho).trans (r_s_o R a b 6 o (by omega)).symm
  · rw [decide_eq_false c, if_neg c]
    refine ⟨H, hb9.trans ?_, fun _ _ => rfl, h⟩
    by_cases c1 : sNs R < 4
    · by_cases c2 : a < 4
      · by_cases c3 : 1 ≤ b
        · simp (disch := omega) only [Bool.cond_decide, nI_add, pk_mul, q_inbN, q_cl_nI, q_ltN, q_leN, q_eqN, q_ifT, q_ifF, q_cIs, q_cVs, decide_false, decide_true, Bool.not_false, Bool.not_true, cond_true, cond_false, ne_eq, not_false_eq_true, not_true_eq_false, if_true, if_false]; rfl
        · simp (disch := omega) only [Bool.cond_decide, nI_add, pk_mul, q_inbN, q_cl_nI, q_ltN, q_leN, q_eqN, q_ifT, q_ifF, q_cIs, q_cVs, decide_false, decide_true, Bool.not_false, Bool.not_true, cond_true, cond_false, ne_eq, not_false_eq_true, not_true_eq_false, if_true, if_false]; rfl
      · simp (disch := omega) only [Bool.cond_decide, nI_add, pk_mul, q_inbN, q_cl_nI, q_ltN, q_leN, q_eqN, q_ifT, q_ifF, q_cIs, q_cVs, decide_false, decide_true, Bool.not_false, Bool.not_true, cond_true, cond_false, ne_eq, not_false_eq_true, not_true_eq_false, if_true, if_false]; rfl
    · simp (disch := omega) only [Bool.cond_decide, nI_add, pk_mul, q_inbN, q_cl_nI, q_ltN, q_leN, q_eqN, q_ifT, q_ifF, q_cIs, q_cVs, decide_false, decide_true, Bool.not_false, Bool.not_true, cond_true, cond_false, ne_eq, not_false_eq_true, not_true_eq_false, if_true, if_false]; rfl
theorem q_setFrost (sx : QX) (d q a : Nat) (H : QH) (R : SB) (h : c_bed H q R) (ha : a < 100) : ∃ H', q_CL (q_tb sx) q_kpt (d + 2) (5, ([vr 1 q, vn a], H)) = rI (z01 (decide (a ≤ 9))) H' ∧ (∀ x, x < q ∨ q + 9 ≤ x → H' x = H x) ∧ c_bed H' q (if a ≤ 9 then r_f R a else R) := by
  have h' := h
  obtain ⟨e0, e1, e2, e3, f1, f2, f3, f4, f5, f6⟩ := h'
  have hb9 := b_X0_setFrost_0 sx (d + 1) q (nI a) H
  by_cases c : a ≤ 9
  · rw [decide_eq_true c, if_pos c]
    refine ⟨q_hs H q 3 (nI a), hb9.trans (by simp (disch := omega) only [Bool.cond_decide, nI_add, pk_mul, q_inbN, q_cl_nI, q_ltN, q_leN, q_eqN, q_ifT, q_ifF, q_cIs, q_cVs, decide_false, decide_true, Bool.not_false, Bool.not_true, cond_true, cond_false, ne_eq, not_false_eq_true, not_true_eq_false, if_true, if_false]; rfl), fun x hx => q_hs_ne (by omega), ?_, ?_, ?_, ?_, fun o ho => ?_, fun o ho => ?_, fun o ho => ?_, fun o ho => ?_, fun o ho => ?_, fun o ho => ?_⟩
    · rw [q_hs_ix (by omega)]; exact e0
    · rw [q_hs_ix (by omega)]; exact e1
    · rw [q_hs_ix (by omega)]; exact e2
    · exact q_hs_at
    · rw [q_hs_ne (by omega)]; exact (f1 o ho).trans (r_f_o R a 0 o (by omega)).symm
    · rw [q_hs_ne (by omega)]; exact (f2 o ho).trans (r_f_o R a 1 o (by omega)).symm
    · rw [q_hs_ne (by omega)]; exact (f3 o ho).trans (r_f_o R a 2 o (by omega)).symm
    · rw [q_hs_ne (by omega)]; exact (f4 o ho).trans (r_f_o R a 3 o (by omega)).symm
    · rw [q_hs_ne (by omega)]; exact (f5 o ho).trans (r_f_o R a 4 o (by omega)).symm
    · rw [q_hs_ne (by omega)]; exact (f6 o ho).trans (r_f_o R a 6 o (by omega)).symm
  · rw [decide_eq_false c, if_neg c]
    exact ⟨H, hb9.trans (by simp (disch := omega) only [Bool.cond_decide, nI_add, pk_mul, q_inbN, q_cl_nI, q_ltN, q_leN, q_eqN, q_ifT, q_ifF, q_cIs, q_cVs, decide_false, decide_true, Bool.not_false, Bool.not_true, cond_true, cond_false, ne_eq, not_false_eq_true, not_true_eq_false, if_true, if_false]; rfl), fun _ _ => rfl, h⟩
theorem q_addVow (sx : QX) (d q s b u : Nat) (H : QH) (R : SB) (hR : q_rR R) (h : c_bed H q R) (hs : s < 100) (hb : b < 100) (hu : u < 100) : ∃ H', q_CL (q_tb sx) q_kpt (d + 2) (6, ([vr 1 q, vn s, vn b, vn u], H)) = rI (z01 (decide (s < sNs R ∧ b < sNb R ∧ u < 8))) H' ∧ (∀ x, x < q ∨ q + 9 ≤ x → H' x = H x) ∧ c_bed H' q (if s < sNs R ∧ b < sNb R ∧ u < 8 then r_p R s b u else R) := by
  have h' := h
  obtain ⟨e0, e1, e2, e3, f1, f2, f3, f4, f5, f6⟩ := h'
  obtain ⟨k1, k2, k3, -⟩ := hR
  have hb9 := b_X0_addVow_0 sx (d + 1) q (nI s) (nI b) (nI u) H
  rw [e2, e0, isUse_eq, q_cIs, q_inbN (by omega)] at hb9
  by_cases c : s < sNs R ∧ b < sNb R ∧ u < 8
  · rw [decide_eq_true c, if_pos c]
    obtain ⟨c1, c2, c3⟩ := c
    refine ⟨q_hs H (q + 6) (s * 6 + b) (nI u), hb9.trans ?_, fun x hx => q_hs_ne (by omega), ?_, ?_, ?_, ?_, fun o ho => ?_, fun o ho => ?_, fun o ho => ?_, fun o ho => ?_, fun o ho => ?_, fun o ho => ?_⟩
    · simp (disch := omega) only [Bool.cond_decide, nI_add, pk_mul, q_inbN, q_cl_nI, q_ltN, q_leN, q_eqN, q_ifT, q_ifF, q_cIs, q_cVs, decide_false, decide_true, Bool.not_false, Bool.not_true, cond_true, cond_false, ne_eq, not_false_eq_true, not_true_eq_false, if_true, if_false, z01]
      rw [vowPlace_eq, q_cIs, put_24 sx d (q + 6) _ _ H (by omega), q_cVs]
    · rw [q_hs_ne (by omega)]; exact e0
    · rw [q_hs_ne (by omega)]; exact e1
    · rw [q_hs_ne (by omega)]; exact e2
    · rw [q_hs_ne (by omega), e3]; exact (r_p_o R s b u 5 0 (by omega)).symm
    · rw [q_hs_ne (by omega)]; exact (f1 o ho).trans (r_p_o R s b u 0 o (by omega)).symm
    · rw [q_hs_ne (by omega)]; exact (f2 o ho).trans (r_p_o R s b u 1 o (by omega)).symm
    · rw [q_hs_ne (by omega)]; exact (f3 o ho).trans (r_p_o R s b u 2 o (by omega)).symm
    · rw [q_hs_ne (by omega)]; exact (f4 o ho).trans (r_p_o R s b u 3 o (by omega)).symm
    · rw [q_hs_ne (by omega)]; exact (f5 o ho).trans (r_p_o R s b u 4 o (by omega)).symm
    · rw [q_hs_eq, upd_if, r_p_6, show s * 6 + b = 6 * s + b by omega]
      by_cases k : o = 6 * s + b
      · rw [if_pos k, if_pos k]
      · rw [if_neg k, if_neg k]; exact f6 o ho
  · rw [decide_eq_false c, if_neg c]
    refine ⟨H, hb9.trans ?_, fun _ _ => rfl, h⟩
    by_cases c1 : s < sNs R
    · by_cases c2 : b < sNb R
      · simp (disch := omega) only [Bool.cond_decide, nI_add, pk_mul, q_inbN, q_cl_nI, q_ltN, q_leN, q_eqN, q_ifT, q_ifF, q_cIs, q_cVs, decide_false, decide_true, Bool.not_false, Bool.not_true, cond_true, cond_false, ne_eq, not_false_eq_true, not_true_eq_false, if_true, if_false, z01]
      · simp (disch := omega) only [Bool.cond_decide, nI_add, pk_mul, q_inbN, q_cl_nI, q_ltN, q_leN, q_eqN, q_ifT, q_ifF, q_cIs, q_cVs, decide_false, decide_true, Bool.not_false, Bool.not_true, cond_true, cond_false, ne_eq, not_false_eq_true, not_true_eq_false, if_true, if_false, z01]
    · simp (disch := omega) only [Bool.cond_decide, nI_add, pk_mul, q_inbN, q_cl_nI, q_ltN, q_leN, q_eqN, q_ifT, q_ifF, q_cIs, q_cVs, decide_false, decide_true, Bool.not_false, Bool.not_true, cond_true, cond_false, ne_eq, not_false_eq_true, not_true_eq_false, if_true, if_false, z01]
