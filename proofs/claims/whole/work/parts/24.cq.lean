/-! THE CLASS'S QUARRY: every method as a function of (bed, quarry) -/
def q_rB (H : QH) (B : SB) : Prop := H 4 0 = nI (sNb B) ∧ H 4 1 = nI (sNw B) ∧ H 4 2 = nI (sNs B) ∧ H 4 3 = sC B ∧ (∀ b, b < sNb B → H 5 b = sK B b) ∧ (∀ b, b < sNb B → H 6 b = sN B b) ∧ (∀ k, k < sNw B → H 7 k = sT B k) ∧ (∀ s, s < sNs B → H 8 s = sS B s) ∧ (∀ s, s < sNs B → H 9 s = sD B s) ∧ (∀ b k, b < sNb B → k < sNw B → H 11 (b * 6 + k) = z_byKind B b k) ∧ (∀ s b k, s < sNs B → b < sNb B → k < sNw B → H 12 ((s * 6 + b) * 6 + k) = z_spk B s b k)
theorem q_rB_of {H H' : QH} {B : SB} (h : q_rB H B) (he : ∀ a, a < 13 → H' a = H a) : q_rB H' B := by
  unfold q_rB at h ⊢
  rw [he 4 (by omega), he 5 (by omega), he 6 (by omega), he 7 (by omega), he 8 (by omega), he 9 (by omega), he 11 (by omega), he 12 (by omega)]
  exact h
theorem q_rB_put {H : QH} {B : SB} {p : Nat} {w : SW} (h : q_rB H B) (hp : 13 ≤ p) : q_rB (c_put H p w) B := q_rB_of h (fun a ha => c_put_out H p w (Or.inl (by omega)))
theorem c_r1 (H : QH) (p : Nat) : ∀ b, b < 6 → H (p + 1) b = c_get H p (1 + b) := fun _ h => c_rd (c_j1 h)
theorem c_r2 (H : QH) (p : Nat) : ∀ b, b < 6 → H (p + 2) b = c_get H p (7 + b) := fun _ h => c_rd (c_j2 h)
theorem c_r3 (H : QH) (p : Nat) : ∀ b, b < 6 → H (p + 3) b = c_get H p (13 + b) := fun _ h => c_rd (c_j3 h)
theorem c_r4 (H : QH) (p : Nat) : ∀ b, b < 4 → H (p + 4) b = c_get H p (79 + b) := fun _ h => c_rd (c_j4 h)
theorem c_r5 (H : QH) (p : Nat) : ∀ b k, b * 6 + k < 36 → H (p + 5) (b * 6 + k) = c_get H p (19 + 6 * b + k) := fun b k h => (c_rd (c_j5 h)).trans (by rw [show 19 + (b * 6 + k) = 19 + 6 * b + k by omega])
theorem c_r6 (H : QH) (p : Nat) : ∀ s b, s * 6 + b < 24 → H (p + 6) (s * 6 + b) = c_get H p (55 + 6 * s + b) := fun s b h => (c_rd (c_j6 h)).trans (by rw [show 55 + (s * 6 + b) = 55 + 6 * s + b by omega])
theorem c_r0 (H : QH) (p : Nat) : H p 1 = c_get H p 0 := rfl
theorem c_h0 (H : QH) (p : Nat) (x : Int32) : q_hs H p 1 x = c_put H p (upd (c_get H p) 0 x) := c_hs (a := 0) c_j0
theorem c_h1 (H : QH) (p : Nat) (x : Int32) : ∀ b, b < 6 → q_hs H (p + 1) b x = c_put H p (upd (c_get H p) (1 + b) x) := fun _ h => c_hs (c_j1 h)
theorem c_h2 (H : QH) (p : Nat) (x : Int32) : ∀ b, b < 6 → q_hs H (p + 2) b x = c_put H p (upd (c_get H p) (7 + b) x) := fun _ h => c_hs (c_j2 h)
theorem c_h3 (H : QH) (p : Nat) (x : Int32) : ∀ b, b < 6 → q_hs H (p + 3) b x = c_put H p (upd (c_get H p) (13 + b) x) := fun _ h => c_hs (c_j3 h)
theorem c_h4 (H : QH) (p : Nat) (x : Int32) : ∀ b, b < 4 → q_hs H (p + 4) b x = c_put H p (upd (c_get H p) (79 + b) x) := fun _ h => c_hs (c_j4 h)
theorem c_h5 (H : QH) (p : Nat) (x : Int32) : ∀ b k, b * 6 + k < 36 → q_hs H (p + 5) (b * 6 + k) x = c_put H p (upd (c_get H p) (19 + 6 * b + k) x) := fun b k h => (c_hs (c_j5 h)).trans (by rw [show 19 + (b * 6 + k) = 19 + 6 * b + k by omega])
theorem c_h6 (H : QH) (p : Nat) (x : Int32) : ∀ s b, s * 6 + b < 24 → q_hs H (p + 6) (s * 6 + b) x = c_put H p (upd (c_get H p) (55 + 6 * s + b) x) := fun s b h => (c_hs (c_j6 h)).trans (by rw [show 55 + (s * 6 + b) = 55 + 6 * s + b by omega])
theorem wordPlace_eq (sx : QX) (d b k : Nat) (H : QH) : q_CL (q_tb sx) q_kpt (d + 1) (12, ([vn b, vn k], H)) = rI (nI (b * 6 + k)) H := by
  refine (b_X0_wordPlace_0 sx d (nI b) (nI k) H).trans ?_
  simp (disch := omega) only [Bool.cond_decide, nI_add, pk_mul, q_inbN, q_cl_nI, q_ltN, q_leN, q_eqN, q_ifT, q_ifF, q_cIs, q_cVs, decide_false, decide_true, Bool.not_false, Bool.not_true, cond_true, cond_false, ne_eq, not_false_eq_true, not_true_eq_false, if_true, if_false]
theorem vowPlace_eq (sx : QX) (d b k : Nat) (H : QH) : q_CL (q_tb sx) q_kpt (d + 1) (11, ([vn b, vn k], H)) = rI (nI (b * 6 + k)) H := by
  refine (b_X0_vowPlace_0 sx d (nI b) (nI k) H).trans ?_
  simp (disch := omega) only [Bool.cond_decide, nI_add, pk_mul, q_inbN, q_cl_nI, q_ltN, q_leN, q_eqN, q_ifT, q_ifF, q_cIs, q_cVs, decide_false, decide_true, Bool.not_false, Bool.not_true, cond_true, cond_false, ne_eq, not_false_eq_true, not_true_eq_false, if_true, if_false]
theorem sayingPlace_eq (sx : QX) (d s b k : Nat) (H : QH) : q_CL (q_tb sx) q_kpt (d + 1) (13, ([vn s, vn b, vn k], H)) = rI (nI ((s * 6 + b) * 6 + k)) H := by
  refine (b_X0_sayingPlace_0 sx d (nI s) (nI b) (nI k) H).trans ?_
  simp (disch := omega) only [Bool.cond_decide, nI_add, pk_mul, q_inbN, q_cl_nI, q_ltN, q_leN, q_eqN, q_ifT, q_ifF, q_cIs, q_cVs, decide_false, decide_true, Bool.not_false, Bool.not_true, cond_true, cond_false, ne_eq, not_false_eq_true, not_true_eq_false, if_true, if_false]
theorem q_isIn (sx : QX) (d p b : Nat) (x : Int32) (H : QH) (hb : b < 6) : q_CL (q_tb sx) q_kpt (d + 2) (21, ([vr 5 p, vn b, vi x], H)) = rI (z01 (decide (c_get H p (7 + b) = x))) H := by
  refine (b_X3_isIn_0 sx (d + 1) p (nI b) x H).trans ?_
  simp (disch := omega) only [Bool.cond_decide, nI_add, pk_mul, q_inbN, q_cl_nI, q_ltN, q_leN, q_eqN, q_ifT, q_ifF, q_cIs, q_cVs, decide_false, decide_true, Bool.not_false, Bool.not_true, cond_true, cond_false, ne_eq, not_false_eq_true, not_true_eq_false, if_true, if_false, at_6, c_r2 H p]
  by_cases h : c_get H p (7 + b) = x <;> simp [h, z01]
theorem q_tally (sx : QX) (d p : Nat) (x : Int32) (H : QH) (B : SB) (hB : q_rB H B) (hs : q_sB B) : q_CL (q_tb sx) q_kpt (d + 2) (22, ([vr 5 p, vi x], H)) = rI (nI (z_tally B (c_get H p) x)) H := by
  obtain ⟨⟨h1, h2⟩, -⟩ := hs
  obtain ⟨hB1, -⟩ := hB
  refine (b_X3_tally_0 sx (d + 1) p x H).trans ?_
  have hl := z_loop (sNb B) (fun b n => q_EV (q_tb sx) q_kpt (d + 2) 22 (4, ([(0, vr 5 p), (1, vi x), (2, vn n), (3, vn b)], ([], H)))) (fun b n => if c_get H p (7 + b) = x then n + 1 else n) (fun b n hb => by
    refine (b_X3_tally_4 sx (d + 1) p x (nI n) (nI b) H).trans ?_
    rw [hB1]
    simp (disch := omega) only [Bool.cond_decide, nI_add, pk_mul, q_inbN, q_cl_nI, q_ltN, q_leN, q_eqN, q_ifT, q_ifF, q_cIs, q_cVs, decide_false, decide_true, Bool.not_false, Bool.not_true, cond_true, cond_false, ne_eq, not_false_eq_true, not_true_eq_false, if_true, if_false, at_6, c_r2 H p]
    by_cases h : c_get H p (7 + b) = x <;> simp [h]) 0
  refine Eq.trans hl ?_
  refine (b_X3_tally_4 sx (d + 1) p x (nI _) (nI (sNb B)) H).trans ?_
  rw [hB1]
  simp (disch := omega) only [Bool.cond_decide, nI_add, pk_mul, q_inbN, q_cl_nI, q_ltN, q_leN, q_eqN, q_ifT, q_ifF, q_cIs, q_cVs, decide_false, decide_true, Bool.not_false, Bool.not_true, cond_true, cond_false, ne_eq, not_false_eq_true, not_true_eq_false, if_true, if_false]
  rfl
theorem q_hoursLeft (sx : QX) (d p : Nat) (H : QH) (B : SB) (hB : q_rB H B) (hs : q_sB B) : q_CL (q_tb sx) q_kpt (d + 2) (23, ([vr 5 p], H)) = rI (z_fold (sNs B) (fun s a => a + c_get H p (79 + s)) (nI 0)) H := by
  obtain ⟨-, -, ⟨h1, h2⟩, -⟩ := hs
  obtain ⟨-, -, hB1, -⟩ := hB
  refine (b_X3_hoursLeft_0 sx (d + 1) p H).trans ?_
  have hl := z_loop (sNs B) (fun b n => q_EV (q_tb sx) q_kpt (d + 2) 23 (4, ([(0, vr 5 p), (1, vi n), (2, vn b)], ([], H)))) (fun s a => a + c_get H p (79 + s)) (fun b n hb => by
    refine (b_X3_hoursLeft_4 sx (d + 1) p n (nI b) H).trans ?_
    rw [hB1]
    simp (disch := omega) only [Bool.cond_decide, nI_add, pk_mul, q_inbN, q_cl_nI, q_ltN, q_leN, q_eqN, q_ifT, q_ifF, q_cIs, q_cVs, decide_false, decide_true, Bool.not_false, Bool.not_true, cond_true, cond_false, ne_eq, not_false_eq_true, not_true_eq_false, if_true, if_false, at_4, c_r4 H p]) (nI 0)
  refine Eq.trans hl ?_
  refine (b_X3_hoursLeft_4 sx (d + 1) p _ (nI (sNs B)) H).trans ?_
  rw [hB1]
  simp (disch := omega) only [Bool.cond_decide, nI_add, pk_mul, q_inbN, q_cl_nI, q_ltN, q_leN, q_eqN, q_ifT, q_ifF, q_cIs, q_cVs, decide_false, decide_true, Bool.not_false, Bool.not_true, cond_true, cond_false, ne_eq, not_false_eq_true, not_true_eq_false, if_true, if_false]
theorem q_lackOf (sx : QX) (d p b : Nat) (H : QH) (B : SB) (hB : q_rB H B) (hs : q_sB B) (hb : b < sNb B) : q_CL (q_tb sx) q_kpt (d + 2) (24, ([vr 5 p, vn b], H)) = rI (sN B b - c_get H p (1 + b)) H := by
  obtain ⟨⟨h1, h2⟩, -⟩ := hs
  obtain ⟨-, -, -, -, -, hN, -⟩ := hB
  refine (b_X3_lackOf_0 sx (d + 1) p (nI b) H).trans ?_
  simp (disch := omega) only [Bool.cond_decide, nI_add, pk_mul, q_inbN, q_cl_nI, q_ltN, q_leN, q_eqN, q_ifT, q_ifF, q_cIs, q_cVs, decide_false, decide_true, Bool.not_false, Bool.not_true, cond_true, cond_false, ne_eq, not_false_eq_true, not_true_eq_false, if_true, if_false, at_6, c_r1 H p, hN b hb]
theorem q_timesHeard (sx : QX) (d p b k : Nat) (H : QH) (hb : b < 6) (hk : k < 6) : q_CL (q_tb sx) q_kpt (d + 2) (25, ([vr 5 p, vn b, vn k], H)) = rI (c_get H p (19 + 6 * b + k)) H := by
  refine (b_X3_timesHeard_0 sx (d + 1) p (nI b) (nI k) H).trans ?_
  simp (disch := omega) only [Bool.cond_decide, nI_add, pk_mul, q_inbN, q_cl_nI, q_ltN, q_leN, q_eqN, q_ifT, q_ifF, q_cIs, q_cVs, decide_false, decide_true, Bool.not_false, Bool.not_true, cond_true, cond_false, ne_eq, not_false_eq_true, not_true_eq_false, if_true, if_false, wordPlace_eq, at_36, c_r5 H p]
theorem q_worthOf (sx : QX) (d p s b k N : Nat) (H : QH) (B : SB) (hB : q_rB H B) (hs : q_sB B) (hh : q_hd B (c_get H p) N) (hN : N < 1000000) (h1 : s < sNs B) (h2 : b < sNb B) (h3 : k < sNw B) : q_CL (q_tb sx) q_kpt (d + 2) (26, ([vr 5 p, vn s, vn b, vn k], H)) = rI (z_worth B (c_get H p) s b k) H := by
  obtain ⟨n, hn, e1, e2⟩ := z_worth_n hs hh hN (s := s) h2 h3
  obtain ⟨⟨-, g1⟩, ⟨-, g2⟩, ⟨-, g3⟩, -⟩ := hs
  obtain ⟨-, -, -, -, -, -, -, -, -, -, hS⟩ := hB
  refine (b_X3_worthOf_0 sx (d + 1) p (nI s) (nI b) (nI k) H).trans ?_
  simp (disch := omega) only [Bool.cond_decide, nI_add, pk_mul, q_inbN, q_cl_nI, q_ltN, q_leN, q_eqN, q_ifT, q_ifF, q_cIs, q_cVs, decide_false, decide_true, Bool.not_false, Bool.not_true, cond_true, cond_false, ne_eq, not_false_eq_true, not_true_eq_false, if_true, if_false, wordPlace_eq, sayingPlace_eq, at_36, at_144, c_r5 H p, hS s b k h1 h2 h3]
  rw [e1]
  exact congrArg (fun x => rI x H) e2
theorem q_vowOf (sx : QX) (d p s b : Nat) (H : QH) (hs : s < 4) (hb : b < 6) : q_CL (q_tb sx) q_kpt (d + 2) (27, ([vr 5 p, vn s, vn b], H)) = rI (c_get H p (55 + 6 * s + b)) H := by
  refine (b_X3_vowOf_0 sx (d + 1) p (nI s) (nI b) H).trans ?_
  simp (disch := omega) only [Bool.cond_decide, nI_add, pk_mul, q_inbN, q_cl_nI, q_ltN, q_leN, q_eqN, q_ifT, q_ifF, q_cIs, q_cVs, decide_false, decide_true, Bool.not_false, Bool.not_true, cond_true, cond_false, ne_eq, not_false_eq_true, not_true_eq_false, if_true, if_false, vowPlace_eq, at_24, c_r6 H p]
theorem q_canSay (sx : QX) (d p s b : Nat) (H : QH) (hs : s < 4) (hb : b < 6) : q_CL (q_tb sx) q_kpt (d + 2) (28, ([vr 5 p, vn s, vn b], H)) = rI (z01 (decide (nI 0 < c_get H p (79 + s)) && decide (c_get H p (7 + b) = nI 0))) H := by
  refine (b_X3_canSay_0 sx (d + 1) p (nI s) (nI b) H).trans ?_
  simp (disch := omega) only [Bool.cond_decide, nI_add, pk_mul, q_inbN, q_cl_nI, q_ltN, q_leN, q_eqN, q_ifT, q_ifF, q_cIs, q_cVs, decide_false, decide_true, Bool.not_false, Bool.not_true, cond_true, cond_false, ne_eq, not_false_eq_true, not_true_eq_false, if_true, if_false, at_4, at_6, c_r4 H p, c_r2 H p]
  by_cases h : c_get H p (79 + s) ≤ nI 0
  · rw [if_pos h, decide_eq_false (Int32.not_lt.mpr h)]; rfl
  · rw [if_neg h, decide_eq_true (Int32.not_le.mp h)]
    by_cases h2 : c_get H p (7 + b) = nI 0 <;> simp [h2, z01]
theorem q_hear (sx : QX) (d p b k : Nat) (x : Int32) (H : QH) (hb : b < 6) (hk : k < 6) : q_CL (q_tb sx) q_kpt (d + 2) (30, ([vr 5 p, vn b, vn k, vi x], H)) = rV (c_put H p (upd (c_get H p) (19 + 6 * b + k) (c_get H p (19 + 6 * b + k) + x))) := by
  refine (b_X3_hear_0 sx (d + 1) p (nI b) (nI k) x H).trans ?_
  simp (disch := omega) only [Bool.cond_decide, nI_add, pk_mul, q_inbN, q_cl_nI, q_ltN, q_leN, q_eqN, q_ifT, q_ifF, q_cIs, q_cVs, decide_false, decide_true, Bool.not_false, Bool.not_true, cond_true, cond_false, ne_eq, not_false_eq_true, not_true_eq_false, if_true, if_false, wordPlace_eq, at_36, put_36, c_r5 H p]
  rw [c_h5 H p _ b k (by omega)]
theorem q_soften (sx : QX) (d p b : Nat) (x : Int32) (H : QH) (B : SB) (hB : q_rB H B) (hs : q_sB B) (hp : 13 ≤ p) (hb : b < sNb B) : q_CL (q_tb sx) q_kpt (d + 2) (32, ([vr 5 p, vn b, vi x], H)) = rV (c_put H p (z_soften B (c_get H p) b x)) := by
  obtain ⟨⟨g1, g2⟩, -⟩ := hs
  have hb6 : b < 6 := by omega
  refine (b_X3_soften_0 sx (d + 1) p (nI b) x H).trans ?_
  simp (disch := omega) only [Bool.cond_decide, nI_add, pk_mul, q_inbN, q_cl_nI, q_ltN, q_leN, q_eqN, q_ifT, q_ifF, q_cIs, q_cVs, decide_false, decide_true, Bool.not_false, Bool.not_true, cond_true, cond_false, ne_eq, not_false_eq_true, not_true_eq_false, if_true, if_false, at_6, put_6, c_r1 H p]
  rw [c_h1 H p _ b hb6, (q_rB_put hB hp).2.2.2.2.2.1 b hb]
  unfold z_soften
  by_cases h : c_get H p (1 + b) + x < sN B b
  · rw [if_pos h, if_pos h]
  · rw [if_neg h, if_neg h, c_h2 _ p _ b hb6, c_get_put, c_put_put]
theorem q_vow (sx : QX) (d p s b : Nat) (u : Int32) (H : QH) (hs : s < 4) (hb : b < 6) : q_CL (q_tb sx) q_kpt (d + 2) (33, ([vr 5 p, vn s, vn b, vi u], H)) = rV (c_put H p (upd (c_get H p) (55 + 6 * s + b) u)) := by
  refine (b_X3_vow_0 sx (d + 1) p (nI s) (nI b) u H).trans ?_
  simp (disch := omega) only [Bool.cond_decide, nI_add, pk_mul, q_inbN, q_cl_nI, q_ltN, q_leN, q_eqN, q_ifT, q_ifF, q_cIs, q_cVs, decide_false, decide_true, Bool.not_false, Bool.not_true, cond_true, cond_false, ne_eq, not_false_eq_true, not_true_eq_false, if_true, if_false, vowPlace_eq, put_24]
  rw [c_h6 H p _ s b (by omega)]
theorem q_belies (sx : QX) (d p s b : Nat) (u : Int32) (H : QH) (hs : s < 4) (hb : b < 6) : q_CL (q_tb sx) q_kpt (d + 3) (36, ([vr 5 p, vn s, vn b, vi u], H)) = rI (z01 (decide (c_get H p (55 + 6 * s + b) ≠ -4) && decide (c_get H p (55 + 6 * s + b) ≠ u))) H := by
  refine (b_X3_belies_0 sx (d + 2) p (nI s) (nI b) u H).trans ?_
  simp (disch := omega) only [Bool.cond_decide, nI_add, pk_mul, q_inbN, q_cl_nI, q_ltN, q_leN, q_eqN, q_ifT, q_ifF, q_cIs, q_cVs, decide_false, decide_true, Bool.not_false, Bool.not_true, cond_true, cond_false, ne_eq, not_false_eq_true, not_true_eq_false, if_true, if_false, q_vowOf]
  by_cases h : c_get H p (55 + 6 * s + b) = -4
  · simp [h, z01]
  · by_cases h2 : c_get H p (55 + 6 * s + b) = u
    · simp [h, h2, z01]
    · simp [h, h2, z01]
theorem q_coldFor (sx : QX) (d b : Nat) (H : QH) (B : SB) (hB : q_rB H B) (hs : q_sB B) (hb : b < sNb B) : q_CL (q_tb sx) q_kpt (d + 2) (10, ([vr 1 4, vn b], H)) = rI (z_cold B b) H := by
  obtain ⟨⟨g1, g2⟩, -⟩ := hs
  obtain ⟨-, -, -, hc, hK, -⟩ := hB
  refine (b_X0_coldFor_0 sx (d + 1) 4 (nI b) H).trans ?_
  simp (disch := omega) only [Bool.cond_decide, nI_add, pk_mul, q_inbN, q_cl_nI, q_ltN, q_leN, q_eqN, q_ifT, q_ifF, q_cIs, q_cVs, decide_false, decide_true, Bool.not_false, Bool.not_true, cond_true, cond_false, ne_eq, not_false_eq_true, not_true_eq_false, if_true, if_false, at_6]
  rw [show (4 + 1 : Nat) = 5 from rfl, hK b hb]
  unfold z_cold
  by_cases h : sK B b = nI 2
  · simp [h, hc]
  · simp [h, hc]
