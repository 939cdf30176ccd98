/-! the model begins; lay -/
theorem m_begins (sx : QX) (d : Nat) (H : QH) (R : SB) (hR : q_sB R) (h : m_bed H R) : ∃ H', q_CL (q_tb sx) q_kpt (d + 1) (113, ([vr 9 165], H)) = rV H' ∧ (∀ a, a < 165 ∨ 172 ≤ a → H' a = H a) ∧ H' 165 13 = H 165 13 ∧ q_mB H' R ∧ H' 165 1 = nI 0 ∧ H' 165 2 = nI 0 ∧ ∀ j, j < 83 → H' 166 j = z_w0 R j := by
  have hR' := hR
  obtain ⟨⟨g1, g2⟩, ⟨g3, g4⟩, ⟨g5, g6⟩, -⟩ := hR'
  obtain ⟨e0, e1, e2, e3, f1, f2, f3, f4, f5, f6⟩ := h
  have hb0 := b_X7_begins_0 sx d H
  generalize hG0 : (q_hs (q_hs (q_hs (q_hs H 165 3 (H 165 16)) 165 6 ((q_hs H 165 3 (H 165 16)) 165 18)) 165 8 ((q_hs (q_hs H 165 3 (H 165 16)) 165 6 ((q_hs H 165 3 (H 165 16)) 165 18)) 165 20)) 165 11 ((q_hs (q_hs (q_hs H 165 3 (H 165 16)) 165 6 ((q_hs H 165 3 (H 165 16)) 165 18)) 165 8 ((q_hs (q_hs H 165 3 (H 165 16)) 165 6 ((q_hs H 165 3 (H 165 16)) 165 18)) 165 20)) 165 22)) = G0 at hb0
  have b0 : (∀ a, a ≠ 165 → G0 a = H a) ∧ G0 165 13 = H 165 13 ∧ G0 165 3 = nI (sNb R) ∧ G0 165 6 = nI (sNw R) ∧ G0 165 8 = nI (sNs R) ∧ G0 165 11 = sC R := by
    subst hG0
    refine ⟨fun a ha => by rw [q_hs_ne ha, q_hs_ne ha, q_hs_ne ha, q_hs_ne ha], ?_, ?_, ?_, ?_, ?_⟩
    · rw [q_hs_ix (by omega), q_hs_ix (by omega), q_hs_ix (by omega), q_hs_ix (by omega)]
    · rw [q_hs_ix (by omega), q_hs_ix (by omega), q_hs_ix (by omega), q_hs_at]; exact e0
    · rw [q_hs_ix (by omega), q_hs_ix (by omega), q_hs_at, q_hs_ix (by omega)]; exact e1
    · rw [q_hs_ix (by omega), q_hs_at, q_hs_ix (by omega), q_hs_ix (by omega)]; exact e2
    · rw [q_hs_at, q_hs_ix (by omega), q_hs_ix (by omega), q_hs_ix (by omega)]; exact e3
  clear hG0
  obtain ⟨o0, t13, c3, c6, c8, c11⟩ := b0
  -- noughts
  obtain ⟨l1, a1, v1⟩ := z_loopI (fun i (G : QH) => (∀ a, a < 166 ∨ 172 ≤ a → G a = G0 a) ∧ ∀ j, j < i → G 166 j = nI 0) 83 (fun k G => q_EV (q_tb sx) q_kpt (d + 1) 113 (34, ([(0, vr 9 165), (1, vn k)], ([], G)))) (fun k G => q_hs G 166 k (nI 0)) G0 ⟨fun _ _ => rfl, fun j hj => absurd hj (Nat.not_lt_zero _)⟩ (fun k G hk ⟨k1, k2⟩ => ⟨fun a ha => by rw [q_hs_ne (by omega)]; exact k1 a ha, fun j hj => by
    by_cases c : j = k
    · subst c; exact q_hs_at
    · rw [q_hs_ix c]; exact k2 j (by omega)⟩) (fun k G hk _ => by
    refine (b_X7_begins_34 sx d (nI k) G).trans ?_
    simp (disch := omega) only [Bool.cond_decide, nI_add, pk_mul, q_inbN, q_cl_nI, q_ltN, q_leN, q_eqN, q_ifT, q_ifF, q_cIs, q_cVs, decide_false, decide_true, Bool.not_false, Bool.not_true, cond_true, cond_false, ne_eq, not_false_eq_true, not_true_eq_false, if_true, if_false])
  generalize z_fold 83 (fun k G => q_hs G 166 k (nI 0)) G0 = G1 at l1 a1 v1
  have m1 := b_X7_begins_34 sx d (nI 83) G1
  rw [decide_eq_true (Int32.le_refl _), cond_true] at m1
  -- taken for nothing
  obtain ⟨l2, a2, v2⟩ := z_loopI (fun i (G : QH) => (∀ a, a < 166 ∨ 172 ≤ a → G a = G0 a) ∧ ∀ j, j < 83 → G 166 j = if 13 ≤ j ∧ j < 13 + i then -4 else nI 0) 6 (fun k G => q_EV (q_tb sx) q_kpt (d + 1) 113 (55, ([(0, vr 9 165), (1, vn k)], ([], G)))) (fun k G => q_hs G 166 (13 + k) (-4)) G1 ⟨a1, fun j hj => by rw [if_neg (by omega)]; exact v1 j hj⟩ (fun k G hk ⟨k1, k2⟩ => ⟨fun a ha => by rw [q_hs_ne (by omega)]; exact k1 a ha, fun j hj => by
    by_cases c : j = 13 + k
    · subst c; rw [q_hs_at, if_pos (by omega)]
    · rw [q_hs_ix c, k2 j hj]
      by_cases c2 : 13 ≤ j ∧ j < 13 + k
      · rw [if_pos c2, if_pos (by omega)]
      · rw [if_neg c2, if_neg (by omega)]⟩) (fun k G hk _ => by
    refine (b_X7_begins_55 sx d (nI k) G).trans ?_
    simp (disch := omega) only [Bool.cond_decide, nI_add, pk_mul, q_inbN, q_cl_nI, q_ltN, q_leN, q_eqN, q_ifT, q_ifF, q_cIs, q_cVs, decide_false, decide_true, Bool.not_false, Bool.not_true, cond_true, cond_false, ne_eq, not_false_eq_true, not_true_eq_false, if_true, if_false])
  generalize z_fold 6 (fun k G => q_hs G 166 (13 + k) (-4)) G1 = G2 at l2 a2 v2
  have m2 := b_X7_begins_55 sx d (nI 6) G2
  rw [decide_eq_true (Int32.le_refl _), cond_true] at m2
  -- blocks
  obtain ⟨l3, a3, v3, w3⟩ := z_loopI (fun i (G : QH) => (∀ a, a < 166 ∨ 172 ≤ a → G a = G0 a) ∧ G 166 = G2 166 ∧ ∀ b, b < i → G 167 b = sK R b ∧ G 168 b = sN R b) (sNb R) (fun b G => q_EV (q_tb sx) q_kpt (d + 1) 113 (80, ([(0, vr 9 165), (1, vn b)], ([], G)))) (fun b G => q_hs (q_hs G 167 b (sK R b)) 168 b (sN R b)) G2 ⟨a2, rfl, fun j hj => absurd hj (Nat.not_lt_zero _)⟩ (fun k G hk ⟨k1, k2, k3⟩ => ⟨fun a ha => by rw [q_hs_ne (by omega), q_hs_ne (by omega)]; exact k1 a ha, by rw [q_hs_ne (by omega), q_hs_ne (by omega)]; exact k2, fun j hj => by
    by_cases c : j = k
    · subst c; exact ⟨by rw [q_hs_ne (by omega), q_hs_at], q_hs_at⟩
    · rw [q_hs_ne (by omega), q_hs_ix c, q_hs_ix c, q_hs_ne (by omega)]; exact k3 j (by omega)⟩) (fun b G hb ⟨k1, k2, k3⟩ => by
    refine (b_X7_begins_80 sx d (nI b) G).trans ?_
    have x1 : G 173 (2 * b) = sK R b := by rw [k1 173 (by omega), o0 173 (by omega)]; exact f1 b hb
    have x2 : G 173 (2 * b + 1) = sN R b := by rw [k1 173 (by omega), o0 173 (by omega)]; exact f2 b hb
    rw [k1 165 (by omega), c3]
    simp (disch := omega) only [Bool.cond_decide, nI_add, pk_mul, q_inbN, q_cl_nI, q_ltN, q_leN, q_eqN, q_ifT, q_ifF, q_cIs, q_cVs, decide_false, decide_true, Bool.not_false, Bool.not_true, cond_true, cond_false, ne_eq, not_false_eq_true, not_true_eq_false, if_true, if_false, q_hs_ne, x1, x2])
  generalize z_fold (sNb R) (fun b G => q_hs (q_hs G 167 b (sK R b)) 168 b (sN R b)) G2 = G3 at l3 a3 v3 w3
  have m3 := b_X7_begins_80 sx d (nI (sNb R)) G3
  rw [a3 165 (by omega), c3, decide_eq_true (Int32.le_refl _), cond_true] at m3
  -- words
  obtain ⟨l4, a4, v4, w4, w4'⟩ := z_loopI (fun i (G : QH) => (∀ a, a < 166 ∨ 172 ≤ a → G a = G0 a) ∧ G 166 = G2 166 ∧ (∀ a, a = 167 ∨ a = 168 → G a = G3 a) ∧ ∀ k, k < i → G 169 k = sT R k) (sNw R) (fun k G => q_EV (q_tb sx) q_kpt (d + 1) 113 (126, ([(0, vr 9 165), (1, vn k)], ([], G)))) (fun k G => q_hs G 169 k (sT R k)) G3 ⟨a3, v3, fun _ _ => rfl, fun j hj => absurd hj (Nat.not_lt_zero _)⟩ (fun k G hk ⟨k1, k2, k3, k4⟩ => ⟨fun a ha => by rw [q_hs_ne (by omega)]; exact k1 a ha, by rw [q_hs_ne (by omega)]; exact k2, fun a ha => by rw [q_hs_ne (by omega)]; exact k3 a ha, fun j hj => by
    by_cases c : j = k
    · subst c; exact q_hs_at
    · rw [q_hs_ix c]; exact k4 j (by omega)⟩) (fun b G hb ⟨k1, k2, k3, k4⟩ => by
    refine (b_X7_begins_126 sx d (nI b) G).trans ?_
    have x1 : G 174 b = sT R b := by rw [k1 174 (by omega), o0 174 (by omega)]; exact f3 b hb
    rw [k1 165 (by omega), c6]
    simp (disch := omega) only [Bool.cond_decide, nI_add, pk_mul, q_inbN, q_cl_nI, q_ltN, q_leN, q_eqN, q_ifT, q_ifF, q_cIs, q_cVs, decide_false, decide_true, Bool.not_false, Bool.not_true, cond_true, cond_false, ne_eq, not_false_eq_true, not_true_eq_false, if_true, if_false, q_hs_ne, x1])
  generalize z_fold (sNw R) (fun k G => q_hs G 169 k (sT R k)) G3 = G4 at l4 a4 v4 w4 w4'
  have m4 := b_X7_begins_126 sx d (nI (sNw R)) G4
  rw [a4 165 (by omega), c6, decide_eq_true (Int32.le_refl _), cond_true] at m4
  -- speakers
  obtain ⟨l5, a5, v5, w5, w5'⟩ := z_loopI (fun i (G : QH) => (∀ a, a < 166 ∨ 172 ≤ a → G a = G0 a) ∧ (∀ j, j < 83 → G 166 j = if 13 ≤ j ∧ j < 13 + 6 then -4 else if 79 ≤ j ∧ j < 79 + i then sD R (j - 79) else nI 0) ∧ (∀ a, 167 ≤ a → a < 170 → G a = G4 a) ∧ ∀ s, s < i → G 170 s = sS R s ∧ G 171 s = sD R s) (sNs R) (fun s G => q_EV (q_tb sx) q_kpt (d + 1) 113 (154, ([(0, vr 9 165), (1, vn s)], ([], G)))) (fun s G => q_hs (q_hs (q_hs G 170 s (sS R s)) 171 s (sD R s)) 166 (79 + s) (sD R s)) G4 ⟨a4, fun j hj => by rw [v4, v2 j hj, if_neg (show ¬ (79 ≤ j ∧ j < 79 + 0) by omega)], fun _ _ _ => rfl, fun j hj => absurd hj (Nat.not_lt_zero _)⟩ (fun k G hk ⟨k1, k2, k3, k4⟩ => ⟨fun a ha => by rw [q_hs_ne (by omega), q_hs_ne (by omega), q_hs_ne (by omega)]; exact k1 a ha, fun j hj => by
      by_cases c : j = 79 + k
      · subst c; rw [q_hs_at, if_neg (by omega), if_pos (by omega), Nat.add_sub_cancel_left]
      · rw [q_hs_ix c, q_hs_ne (by omega), q_hs_ne (by omega), k2 j hj]
        by_cases c2 : 13 ≤ j ∧ j < 13 + 6
        · rw [if_pos c2, if_pos c2]
        · rw [if_neg c2, if_neg c2]
          by_cases c3 : 79 ≤ j ∧ j < 79 + k
          · rw [if_pos c3, if_pos (by omega)]
          · rw [if_neg c3, if_neg (by omega)], fun a q1 q2 => by rw [q_hs_ne (by omega), q_hs_ne (by omega), q_hs_ne (by omega)]; exact k3 a q1 q2, fun j hj => by
    by_cases c : j = k
    · subst c; exact ⟨by rw [q_hs_ne (by omega), q_hs_ne (by omega), q_hs_at], by rw [q_hs_ne (by omega), q_hs_at]⟩
    · rw [q_hs_ne (by omega), q_hs_ne (by omega), q_hs_ix c, q_hs_ne (by omega), q_hs_ix c, q_hs_ne (by omega)]; exact k4 j (by omega)⟩) (fun b G hb ⟨k1, k2, k3, k4⟩ => by
    refine (b_X7_begins_154 sx d (nI b) G).trans ?_
    have x1 : G 175 (2 * b) = sS R b := by rw [k1 175 (by omega), o0 175 (by omega)]; exact f4 b hb
    have x2 : G 175 (2 * b + 1) = sD R b := by rw [k1 175 (by omega), o0 175 (by omega)]; exact f5 b hb
    rw [k1 165 (by omega), c8]
    simp (disch := omega) only [Bool.cond_decide, nI_add, pk_mul, q_inbN, q_cl_nI, q_ltN, q_leN, q_eqN, q_ifT, q_ifF, q_cIs, q_cVs, decide_false, decide_true, Bool.not_false, Bool.not_true, cond_true, cond_false, ne_eq, not_false_eq_true, not_true_eq_false, if_true, if_false, q_hs_ne, x1, x2, q_hs_at])
  generalize z_fold (sNs R) (fun s G => q_hs (q_hs (q_hs G 170 s (sS R s)) 171 s (sD R s)) 166 (79 + s) (sD R s)) G4 = G5 at l5 a5 v5 w5 w5'
  have m5 := b_X7_begins_154 sx d (nI (sNs R)) G5
  rw [a5 165 (by omega), c8, decide_eq_true (Int32.le_refl _), cond_true] at m5
  -- promises
  obtain ⟨l6, a6, v6, w6⟩ := z_loopI (fun i (G : QH) => (∀ a, a < 166 ∨ 172 ≤ a → G a = G0 a) ∧ (∀ j, j < 83 → G 166 j = if 13 ≤ j ∧ j < 13 + 6 then -4 else if 79 ≤ j ∧ j < 79 + sNs R then sD R (j - 79) else if 55 ≤ j ∧ j < 55 + i then R.2 6 (j - 55) else nI 0) ∧ ∀ a, 167 ≤ a → a < 172 → G a = G5 a) 24 (fun k G => q_EV (q_tb sx) q_kpt (d + 1) 113 (215, ([(0, vr 9 165), (1, vn k)], ([], G)))) (fun k G => q_hs G 166 (55 + k) (R.2 6 k)) G5 ⟨a5, fun j hj => by rw [v5 j hj, if_neg (show ¬ (55 ≤ j ∧ j < 55 + 0) by omega)], fun _ _ _ => rfl⟩ (fun k G hk ⟨k1, k2, k3⟩ => ⟨fun a ha => by rw [q_hs_ne (by omega)]; exact k1 a ha, fun j hj => by
      by_cases c : j = 55 + k
      · subst c; rw [q_hs_at, if_neg (by omega), if_neg (by omega), if_pos (by omega), Nat.add_sub_cancel_left]
      · rw [q_hs_ix c, k2 j hj]
        by_cases c2 : 13 ≤ j ∧ j < 13 + 6
        · rw [if_pos c2, if_pos c2]
        · rw [if_neg c2, if_neg c2]
          by_cases c3 : 79 ≤ j ∧ j < 79 + sNs R
          · rw [if_pos c3, if_pos c3]
          · rw [if_neg c3, if_neg c3]
            by_cases c4 : 55 ≤ j ∧ j < 55 + k
            · rw [if_pos c4, if_pos (by omega)]
            · rw [if_neg c4, if_neg (by omega)], fun a q1 q2 => by rw [q_hs_ne (by omega)]; exact k3 a q1 q2⟩) (fun b G hb ⟨k1, k2, k3⟩ => by
    refine (b_X7_begins_215 sx d (nI b) G).trans ?_
    have x1 : G 176 b = R.2 6 b := by rw [k1 176 (by omega), o0 176 (by omega)]; exact f6 b hb
    simp (disch := omega) only [Bool.cond_decide, nI_add, pk_mul, q_inbN, q_cl_nI, q_ltN, q_leN, q_eqN, q_ifT, q_ifF, q_cIs, q_cVs, decide_false, decide_true, Bool.not_false, Bool.not_true, cond_true, cond_false, ne_eq, not_false_eq_true, not_true_eq_false, if_true, if_false, x1])
  generalize z_fold 24 (fun k G => q_hs G 166 (55 + k) (R.2 6 k)) G5 = G6 at l6 a6 v6 w6
  have m6 := b_X7_begins_215 sx d (nI 24) G6
  rw [decide_eq_true (Int32.le_refl _), cond_true] at m6
  refine ⟨_, hb0.trans (l1.trans (m1.trans (l2.trans (m2.trans (l3.trans (m3.trans (l4.trans (m4.trans (l5.trans (m5.trans (l6.trans m6))))))))))), fun a ha => ?_, ?_, ⟨?_, ?_, ?_, ?_, fun b hb => ?_, fun b hb => ?_, fun k hk => ?_, fun s hs => ?_, fun s hs => ?_⟩, ?_, q_hs_at, fun j hj => ?_⟩
  · rw [q_hs_ne (by omega), q_hs_ne (by omega), a6 a (by omega), o0 a (by omega)]
  · rw [q_hs_ix (by omega), q_hs_ix (by omega), a6 165 (by omega)]; exact t13
  · rw [q_hs_ix (by omega), q_hs_ix (by omega), a6 165 (by omega)]; exact c3
  · rw [q_hs_ix (by omega), q_hs_ix (by omega), a6 165 (by omega)]; exact c6
  · rw [q_hs_ix (by omega), q_hs_ix (by omega), a6 165 (by omega)]; exact c8
  · rw [q_hs_ix (by omega), q_hs_ix (by omega), a6 165 (by omega)]; exact c11
  · rw [q_hs_ne (by omega), q_hs_ne (by omega), w6 167 (by omega) (by omega), w5 167 (by omega) (by omega), w4 167 (by omega)]; exact (w3 b hb).1
  · rw [q_hs_ne (by omega), q_hs_ne (by omega), w6 168 (by omega) (by omega), w5 168 (by omega) (by omega), w4 168 (by omega)]; exact (w3 b hb).2
  · rw [q_hs_ne (by omega), q_hs_ne (by omega), w6 169 (by omega) (by omega), w5 169 (by omega) (by omega)]; exact w4' k hk
  · rw [q_hs_ne (by omega), q_hs_ne (by omega), w6 170 (by omega) (by omega)]; exact (w5' s hs).1
  · rw [q_hs_ne (by omega), q_hs_ne (by omega), w6 171 (by omega) (by omega)]; exact (w5' s hs).2
  · rw [q_hs_ix (by omega), q_hs_at]
  · rw [q_hs_ne (by omega), q_hs_ne (by omega), v6 j hj]
    unfold z_w0
    by_cases c1 : 13 ≤ j ∧ j < 13 + 6
    · rw [if_pos c1, if_neg (by omega), if_pos (by omega)]
    · rw [if_neg c1]
      by_cases c2 : 79 ≤ j ∧ j < 79 + sNs R
      · rw [if_pos c2, if_neg (by omega), if_neg (by omega), if_neg (by omega), if_neg (by omega), if_pos (by omega)]
      · rw [if_neg c2]
        by_cases c3 : 55 ≤ j ∧ j < 55 + 24
        · rw [if_pos c3, if_neg (by omega), if_neg (by omega), if_neg (by omega), if_pos (by omega)]
        · rw [if_neg c3]
          by_cases d1 : j < 13
          · rw [if_pos d1]
          · rw [if_neg d1, if_neg (by omega)]
            by_cases d2 : j < 55
            · rw [if_pos d2]
            · rw [if_neg d2, if_neg (by omega), if_neg (by omega)]
theorem z_rd_lt {L : Nat} {l : Nat → Int32} : ∀ (n p : Nat) (R : SB) (q : Nat), (z_rd L l n p R).1 = some q → q < L := by
  intro n
  induction n with
  | zero => intro p R q h; cases h
  | succ n ih =>
    intro p R q h
    unfold z_rd at h
    by_cases c : p < L
    · rw [if_pos c] at h
      cases e : z_item l p R with
      | none =>
        rw [e] at h
        cases h
        exact c
      | some v =>
        rw [e] at h
        exact ih v.2 v.1 q h
    · rw [if_neg c] at h; cases h
theorem sA_lay {n : Nat} {A : SA} {R : SB} (h : q_sA n A) (hR : q_sB R) : q_sA (n + 1) (aLay A R) := ⟨h.1, hR, vw_mono (vw_w0 hR) (by omega), fun w hw => (by cases hw), fun w hw => (by cases hw), Nat.zero_le _, Nat.zero_le _⟩
theorem RM_lay {A : SA} {R : SB} {H : QH} (hR : q_sB R) (h1 : H 165 13 = nI (aL A)) (h2 : ∀ j, j < aL A → H 172 j = aT A j) (h3 : q_mB H R) (h4 : H 165 1 = nI 0) (h5 : H 165 2 = nI 0) (h6 : ∀ j, j < 83 → H 166 j = z_w0 R j) : q_RM (aLay A R) H := by
  obtain ⟨-, -, ⟨g5, g6⟩, -⟩ := hR
  refine ⟨⟨h1, h2⟩, h3, ⟨fun j hj => ?_, fun s k1 k2 => ?_⟩, ⟨h4, fun i w hw => (by simp [aLay, aU] at hw)⟩, h5, fun i w hw => (by simp [aLay, aK] at hw)⟩
  · have hj' : j < 79 + sNs R := hj
    rw [m_get0, h6 j (by omega)]
    rfl
  · have k2' : sNs R ≤ s := k2
    rw [m_get0, h6 _ (by omega)]
    unfold z_w0
    rw [if_neg (by omega), if_neg (by omega), if_neg (by omega), if_neg (by omega), if_neg (by omega)]
theorem two_lay (sx : QX) (d n : Nat) (A : SA) (hA : q_sA n A) : q_two sx d 59 126 [] A n := by
  have hrR : q_rR (z_read (aL A) (aT A)).2 := z_rd_in 200 0 r_0 rR_0
  have hrR' := hrR
  obtain ⟨k1, k2, k3, -⟩ := hrR'
  have hc : ∀ H, q_RC A H → ∃ H', q_CL (q_tb sx) q_kpt (d + 39) (51, ([vr 7 1, vr 1 13], H)) = rI (z_flt (z_read (aL A) (aT A)).1) H' ∧ q_RC A H' ∧ (∀ a, 165 ≤ a → H' a = H a) ∧ c_bed H' 13 (z_read (aL A) (aT A)).2 := fun H hR => by
    obtain ⟨H', r, o1, o2, b⟩ := q_readInto sx (d + 33) (aL A) 13 (aT A) H hA.1 (by omega) hR.1.1 hR.1.2
    exact ⟨H', r, q_RC_of hR (o2 2 (by omega)) (fun a ha => o1 a (by omega) (by omega) (by omega)), fun a ha => o1 a (by omega) (by omega) (by omega), b⟩
  have hm : ∀ H, q_RM A H → ∃ H', q_CL (q_tb sx) q_kpt (d + 39) (124, ([vr 9 165], H)) = rI (z_flt (z_read (aL A) (aT A)).1) H' ∧ q_RM A H' ∧ (∀ a, a < 165 → H' a = H a) ∧ ((z_read (aL A) (aT A)).1 = none → m_bed H' (z_read (aL A) (aT A)).2) := fun H hR => by
    obtain ⟨H', r, f, b⟩ := m_faultOf sx (d + 32) (aL A) (aT A) H hA.1 hR.1.1 hR.1.2
    exact ⟨H', r, rf_RM hR hA f, fun a ha => f.1 a (by omega) (by omega), b⟩
  cases e : (z_read (aL A) (aT A)).1 with
  | some p =>
    have hp := z_rd_lt 200 0 r_0 p e
    have hL := hA.1
    have hne : nI p ≠ -4 := z_codeW_m4 (by omega)
    refine ⟨-2, A, q_sA_mono hA (by omega), fun H hR => ?_, fun H hR => ?_⟩
    · obtain ⟨H', r, R', o, b⟩ := hc H hR
      refine ⟨H', (b_X6_lay_0 sx (d + 39) H).trans ?_, R', o⟩
      rw [r, e, q_cIs, show z_flt (some p) = nI p from rfl, decide_eq_true hne]
      rfl
    · obtain ⟨H', r, R', o, b⟩ := hm H hR
      refine ⟨H', (b_X7_lay_0 sx (d + 39) H).trans ?_, R', o⟩
      rw [r, e, q_cIs, show z_flt (some p) = nI p from rfl, decide_eq_true hne]
      rfl
  | none =>
    have hf : decide (z_flt none ≠ -4) = false := by decide
    by_cases c : 1 ≤ sNb (z_read (aL A) (aT A)).2 ∧ 1 ≤ sNw (z_read (aL A) (aT A)).2 ∧ 1 ≤ sNs (z_read (aL A) (aT A)).2
    · have hsB := rR_sB hrR c.1 c.2.1 c.2.2
      refine ⟨nI (sNb (z_read (aL A) (aT A)).2), aLay A (z_read (aL A) (aT A)).2, sA_lay hA hsB, fun H hR => ?_, fun H hR => ?_⟩
      · obtain ⟨H', r, R', o, b⟩ := hc H hR
        obtain ⟨H2, r2, R2, o2⟩ := q_layOut sx (d + 32) A H' (aB A) (aB A) (aU A) (aK A) hA.1 R'.1.1 R'.1.2 R'.2.2.2.1 R'.2.2.2.2 hsB
        refine ⟨H2, (b_X6_lay_0 sx (d + 39) H).trans ?_, R2, fun a ha => (o2 a ha).trans (o a ha)⟩
        have hw : q_CL (q_tb sx) q_kpt (d + 39) (1, ([vr 1 13], H')) = rI (nI 1) H' := by
          refine (b_X0_isWhole_0 sx (d + 38) 13 H').trans ?_
          rw [b.1, b.2.1, b.2.2.1]
          obtain ⟨c1, c2, c3⟩ := c
          simp (disch := omega) only [Bool.cond_decide, nI_add, pk_mul, q_inbN, q_cl_nI, q_ltN, q_leN, q_eqN, q_ifT, q_ifF, q_cIs, q_cVs, decide_false, decide_true, Bool.not_false, Bool.not_true, cond_true, cond_false, ne_eq, not_false_eq_true, not_true_eq_false, if_true, if_false]
        rw [r, e, q_cIs, hf, cond_false, hw, q_cIs]
        rw [show decide (nI 1 ≠ nI 0) = true by decide, cond_true, r2, q_cVs, R2.2.1.1]
        rfl
      · obtain ⟨H', r, R', o, b⟩ := hm H hR
        have bb := b e
        obtain ⟨H2, r2, o2, t13, mB, u1, u2, w⟩ := m_begins sx (d + 38) H' _ hsB bb
        refine ⟨H2, (b_X7_lay_0 sx (d + 39) H).trans ?_, RM_lay hsB (t13.trans R'.1.1) (fun j hj => by rw [o2 172 (by omega)]; exact R'.1.2 j hj) mB u1 u2 w, fun a ha => (o2 a (by omega)).trans (o a ha)⟩
        obtain ⟨c1, c2, c3⟩ := c
        rw [r, e, q_cIs, hf, cond_false, bb.1, bb.2.1, bb.2.2.1]
        rw [decide_eq_false (show ¬ nI (sNb (z_read (aL A) (aT A)).2) = nI 0 by rw [nI_eq (by omega) (by omega)]; omega), cond_false, decide_eq_false (show ¬ nI (sNw (z_read (aL A) (aT A)).2) = nI 0 by rw [nI_eq (by omega) (by omega)]; omega), cond_false, decide_eq_true (show nI (sNs (z_read (aL A) (aT A)).2) ≠ nI 0 by rw [ne_eq, nI_eq (by omega) (by omega)]; omega), cond_true, r2, q_cVs, mB.1]
    · refine ⟨-2, A, q_sA_mono hA (by omega), fun H hR => ?_, fun H hR => ?_⟩
      · obtain ⟨H', r, R', o, b⟩ := hc H hR
        refine ⟨H', (b_X6_lay_0 sx (d + 39) H).trans ?_, R', o⟩
        have hw : q_CL (q_tb sx) q_kpt (d + 39) (1, ([vr 1 13], H')) = rI (nI 0) H' := by
          refine (b_X0_isWhole_0 sx (d + 38) 13 H').trans ?_
          rw [b.1, b.2.1, b.2.2.1]
          by_cases c1 : 1 ≤ sNb (z_read (aL A) (aT A)).2
          · by_cases c2 : 1 ≤ sNw (z_read (aL A) (aT A)).2
            · simp (disch := omega) only [Bool.cond_decide, nI_add, pk_mul, q_inbN, q_cl_nI, q_ltN, q_leN, q_eqN, q_ifT, q_ifF, q_cIs, q_cVs, decide_false, decide_true, Bool.not_false, Bool.not_true, cond_true, cond_false, ne_eq, not_false_eq_true, not_true_eq_false, if_true, if_false]
            · simp (disch := omega) only [Bool.cond_decide, nI_add, pk_mul, q_inbN, q_cl_nI, q_ltN, q_leN, q_eqN, q_ifT, q_ifF, q_cIs, q_cVs, decide_false, decide_true, Bool.not_false, Bool.not_true, cond_true, cond_false, ne_eq, not_false_eq_true, not_true_eq_false, if_true, if_false]
          · simp (disch := omega) only [Bool.cond_decide, nI_add, pk_mul, q_inbN, q_cl_nI, q_ltN, q_leN, q_eqN, q_ifT, q_ifF, q_cIs, q_cVs, decide_false, decide_true, Bool.not_false, Bool.not_true, cond_true, cond_false, ne_eq, not_false_eq_true, not_true_eq_false, if_true, if_false]
        rw [r, e, q_cIs, hf, cond_false, hw, q_cIs]
        rfl
      · obtain ⟨H', r, R', o, b⟩ := hm H hR
        have bb := b e
        refine ⟨H', (b_X7_lay_0 sx (d + 39) H).trans ?_, R', o⟩
        rw [r, e, q_cIs, hf, cond_false, bb.1, bb.2.1, bb.2.2.1]
        by_cases c1 : 1 ≤ sNb (z_read (aL A) (aT A)).2
        · by_cases c2 : 1 ≤ sNw (z_read (aL A) (aT A)).2
          · have c3 : sNs (z_read (aL A) (aT A)).2 = 0 := by omega
            rw [c3, decide_eq_false (show ¬ nI (sNb (z_read (aL A) (aT A)).2) = nI 0 by rw [nI_eq (by omega) (by omega)]; omega), cond_false, decide_eq_false (show ¬ nI (sNw (z_read (aL A) (aT A)).2) = nI 0 by rw [nI_eq (by omega) (by omega)]; omega), cond_false]
            rfl
          · have c3 : sNw (z_read (aL A) (aT A)).2 = 0 := by omega
            rw [c3, decide_eq_false (show ¬ nI (sNb (z_read (aL A) (aT A)).2) = nI 0 by rw [nI_eq (by omega) (by omega)]; omega), cond_false]
            rfl
        · have c3 : sNb (z_read (aL A) (aT A)).2 = 0 := by omega
          rw [c3]
          rfl
