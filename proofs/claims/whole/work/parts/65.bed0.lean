/-! THE FIRST BED, as the text tells it and as the model adds it up -/
def q_T : Nat → Int32 := fun j => nI (q_txt.getD j 0)
def q_R : SB := (z_read 93 q_T).2
def q_RM1 : SB := r_p (r_p (r_p (r_f (r_s (r_s (r_s (r_s (r_w (r_w (r_w (r_w (r_w (r_b (r_b (r_b (r_b (r_b (r_b r_0 0 20) 1 14) 2 9) 3 6) 0 30) 1 25) 6) 4) 5) 9) 2) 0 4) 1 6) 2 2) 3 3) 2) 0 0 3) 1 0 5) 1 2 1
theorem q_R_n : sNb q_R = 6 ∧ sNw q_R = 5 ∧ sNs q_R = 4 ∧ sC q_R = nI 2 := by decide +kernel
theorem q_R_K : ∀ b, b < 6 → sK q_R b = nI ([0, 1, 2, 3, 0, 1].getD b 0) := by decide +kernel
theorem q_R_N : ∀ b, b < 6 → sN q_R b = nI ([20, 14, 9, 6, 30, 25].getD b 0) := by decide +kernel
theorem q_R_T : ∀ b, b < 5 → sT q_R b = nI ([6, 4, 5, 9, 2].getD b 0) := by decide +kernel
theorem q_R_S : ∀ b, b < 4 → sS q_R b = nI ([0, 1, 2, 3].getD b 0) := by decide +kernel
theorem q_R_D : ∀ b, b < 4 → sD q_R b = nI ([4, 6, 2, 3].getD b 0) := by decide +kernel
theorem q_M_n : sNb q_RM1 = 6 ∧ sNw q_RM1 = 5 ∧ sNs q_RM1 = 4 ∧ sC q_RM1 = nI 2 := by decide +kernel
theorem q_M_K : ∀ b, b < 6 → sK q_RM1 b = sK q_R b := by decide +kernel
theorem q_M_N : ∀ b, b < 6 → sN q_RM1 b = sN q_R b := by decide +kernel
theorem q_M_T : ∀ b, b < 5 → sT q_RM1 b = sT q_R b := by decide +kernel
theorem q_M_S : ∀ b, b < 4 → sS q_RM1 b = sS q_R b := by decide +kernel
theorem q_M_D : ∀ b, b < 4 → sD q_RM1 b = sD q_R b := by decide +kernel
theorem q_M_V : ∀ j, j < 24 → q_RM1.2 6 j = q_R.2 6 j := by decide +kernel
theorem q_R_ok : q_sB q_R := by
  obtain ⟨e1, e2, e3, e4⟩ := q_R_n
  unfold q_sB
  rw [e1, e2, e3, e4]
  have lb : ∀ b, b < 6 → [0, 1, 2, 3, 0, 1].getD b 0 < 4 ∧ 1 ≤ [20, 14, 9, 6, 30, 25].getD b 0 ∧ [20, 14, 9, 6, 30, 25].getD b 0 ≤ 60 := by decide
  have lw : ∀ b, b < 5 → 1 ≤ [6, 4, 5, 9, 2].getD b 0 ∧ [6, 4, 5, 9, 2].getD b 0 ≤ 20 := by decide
  have ls : ∀ b, b < 4 → [0, 1, 2, 3].getD b 0 < 4 ∧ 1 ≤ [4, 6, 2, 3].getD b 0 ∧ [4, 6, 2, 3].getD b 0 ≤ 9 := by decide
  exact ⟨⟨by decide, by decide⟩, ⟨by decide, by decide⟩, ⟨by decide, by decide⟩, fun b hb => ⟨⟨_, (lb b hb).1, q_R_K b hb⟩, _, (lb b hb).2.1, (lb b hb).2.2, q_R_N b hb⟩, fun k hk => ⟨_, (lw k hk).1, (lw k hk).2, q_R_T k hk⟩, fun s hs => ⟨⟨_, (ls s hs).1, q_R_S s hs⟩, _, (ls s hs).2.1, (ls s hs).2.2, q_R_D s hs⟩, 2, by decide, rfl⟩
theorem m_bed_R {H : QH} (h : m_bed H q_RM1) : m_bed H q_R := by
  obtain ⟨e1, e2, e3, e4⟩ := q_R_n
  obtain ⟨f1, f2, f3, f4⟩ := q_M_n
  unfold m_bed at h ⊢
  rw [f1, f2, f3, f4] at h
  rw [e1, e2, e3, e4]
  obtain ⟨h1, h2, h3, h4, h5, h6, h7, h8, h9, h10⟩ := h
  exact ⟨h1, h2, h3, h4, fun b hb => (h5 b hb).trans (q_M_K b hb), fun b hb => (h6 b hb).trans (q_M_N b hb), fun b hb => (h7 b hb).trans (q_M_T b hb), fun b hb => (h8 b hb).trans (q_M_S b hb), fun b hb => (h9 b hb).trans (q_M_D b hb), fun j hj => (h10 j hj).trans (q_M_V j hj)⟩
def q_A0 : SA := ((0, q_T), (q_R, (z_w0 q_R, ([], []))))
theorem q_A0_ok : q_sA 0 q_A0 := ⟨Nat.zero_le _, q_R_ok, vw_w0 q_R_ok, fun w hw => (by cases hw), fun w hw => (by cases hw), Nat.zero_le _, Nat.zero_le _⟩
theorem q_append (sx : QX) (d k : Nat) (x : Int32) (H : QH) (h : H 1 2 = nI k) (hk : k < 200) : q_CL (q_tb sx) q_kpt (d + 2) (50, ([vr 7 1, vi x], H)) = rV (q_hs (q_hs H 2 k x) 1 2 (nI (k + 1))) := by
  refine (b_X5_append_0 sx (d + 1) x H).trans ?_
  rw [h]
  simp (disch := omega) only [Bool.cond_decide, nI_add, pk_mul, q_inbN, q_cl_nI, q_ltN, q_leN, q_eqN, q_ifT, q_ifF, q_cIs, q_cVs, decide_false, decide_true, Bool.not_false, Bool.not_true, cond_true, cond_false, ne_eq, not_false_eq_true, not_true_eq_false, if_true, if_false, put_200, q_hs_ne, h]
theorem sa_lay (sx : QX) (H : QH) (h1 : H 1 2 = nI 93) (h2 : ∀ j, j < 93 → H 2 j = q_T j) (h3 : ∀ a, a ≠ 1 → a ≠ 2 → H a = fun _ => nI 0) : ∃ H', k_ev sx tl_S 20 8 (160, ([(0, vr 8 0)], ([], H))) = some (none, H') ∧ q_RC q_A0 H' := by
  have pn : ∀ p n, 0 < n → p ≠ 1 → p ≠ 2 → q_pile H p n q_R [] := fun p n hn k1 k2 => ⟨0, hn, by rw [h3 p k1 k2], by rw [h3 p k1 k2]; rfl, Nat.zero_le _, fun i w hw => by simp at hw⟩
  obtain ⟨H1, r, hRC, o⟩ := q_layOut sx 13 ((93, q_T), (q_R, (z_w0 q_R, ([], [])))) H q_R q_R [] [] (by decide) h1 h2 (pn 36 8 (by decide) (by decide) (by decide)) (pn 94 2 (by decide) (by decide) (by decide)) q_R_ok
  refine ⟨q_hs H1 1 2 (nI 0), ?_, ?_⟩
  · show q_cV (q_CL (q_tb sx) q_kpt 20 (85, ([vr 8 0], H))) (fun H1 => some (none, q_hs H1 1 2 (nI 0))) = _
    rw [show (20 : Nat) = 13 + 7 by rfl, r, q_cVs]
  · exact q_RC_text (A := aLay ((93, q_T), (q_R, (z_w0 q_R, ([], [])))) q_R) (t := (0, q_T)) hRC q_hs_at (fun j hj => absurd hj (Nat.not_lt_zero _)) (fun a ha => q_hs_ne (by omega))
