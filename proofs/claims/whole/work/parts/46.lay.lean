/-! the class: what is reckoned, laid out -/
theorem q_plainW (sx : QX) (d q b k : Nat) (H : QH) (R : SB) (hR : q_sB R) (h : c_bed H q R) (hb : b < sNb R) (hk : k < sNw R) : q_CL (q_tb sx) q_kpt (d + 2) (8, ([vr 1 q, vi (sK R b), vn k], H)) = rI (z_byKind R b k) H := by
  obtain ⟨-, ⟨g3, g4⟩, -⟩ := hR
  obtain ⟨e0, e1, e2, e3, f1, f2, f3, f4, f5, f6⟩ := h
  refine (b_X0_plainWorth_0 sx (d + 1) q (sK R b) (nI k) H).trans ?_
  rw [at_6 sx d (q + 3) k H (by omega), q_cIs, f3 k hk]
  unfold z_byKind
  simp (disch := omega) only [Bool.cond_decide, nI_add, pk_mul, q_inbN, q_cl_nI, q_ltN, q_leN, q_eqN, q_ifT, q_ifF, q_cIs, q_cVs, decide_false, decide_true, Bool.not_false, Bool.not_true, cond_true, cond_false, ne_eq, not_false_eq_true, not_true_eq_false, if_true, if_false, q_nd]
  by_cases h1 : sK R b = nI 1
  · by_cases e : k = 0
    · subst e; simp [h1]
    · simp [h1, e]
  · by_cases h2 : sK R b = nI 2
    · by_cases e : k = 1
      · subst e; simp [h2, nI_eq]
      · simp [h2, e, nI_eq]
    · by_cases h3 : sK R b = nI 3
      · by_cases e : k = 2
        · subst e; simp [h3, nI_eq]
        · simp [h3, e, nI_eq]
      · simp [h1, h2, h3]
theorem q_spokenW (sx : QX) (d q s b k : Nat) (H : QH) (R : SB) (hR : q_sB R) (h : c_bed H q R) (hs : s < sNs R) (hb : b < sNb R) (hk : k < sNw R) : q_CL (q_tb sx) q_kpt (d + 2) (9, ([vr 1 q, vn s, vn b, vn k, vi (z_byKind R b k)], H)) = rI (z_spk R s b k) H := by
  obtain ⟨⟨g1, g2⟩, ⟨g3, g4⟩, ⟨g5, g6⟩, -⟩ := hR
  obtain ⟨e0, e1, e2, e3, f1, f2, f3, f4, f5, f6⟩ := h
  refine (b_X0_spokenWorth_0 sx (d + 1) q (nI s) (nI b) (nI k) (z_byKind R b k) H).trans ?_
  rw [at_4 sx d (q + 4) s H (by omega), q_cIs, f4 s hs, at_6 sx d (q + 2) b H (by omega), q_cIs, f2 b hb]
  unfold z_spk
  simp (disch := omega) only [Bool.cond_decide, nI_add, pk_mul, q_inbN, q_cl_nI, q_ltN, q_leN, q_eqN, q_ifT, q_ifF, q_cIs, q_cVs, decide_false, decide_true, Bool.not_false, Bool.not_true, cond_true, cond_false, ne_eq, not_false_eq_true, not_true_eq_false, if_true, if_false]
  by_cases e1 : sS R s = nI 1
  · simp [e1]
  · by_cases e2 : sS R s = nI 2
    · by_cases e : sN R b ≤ nI 10
      · simp only [e2, if_pos e, if_neg (Int32.not_lt.mpr e)]; simp [nI_eq]
      · simp only [e2, if_neg e, if_pos (Int32.not_le.mp e)]; simp [nI_eq]
    · by_cases e3 : sS R s = nI 3
      · by_cases e : k = 0
        · subst e; simp [e3, nI_eq]
        · simp [e3, e, nI_eq]
      · simp [e1, e2, e3]
def c_w7 (G : QH) (q : Nat) (R : SB) (b k : Nat) : Prop := G (q + 7) (b * 6 + k) = z_byKind R b k ∧ ∀ s, s < sNs R → G (q + 8) ((s * 6 + b) * 6 + k) = z_spk R s b k
theorem q_reckon (sx : QX) (d q : Nat) (H : QH) (R : SB) (hR : q_sB R) (h : c_bed H q R) : ∃ H', q_CL (q_tb sx) q_kpt (d + 4) (7, ([vr 1 q], H)) = rV H' ∧ (∀ a, a ≠ q + 7 → a ≠ q + 8 → H' a = H a) ∧ ∀ b k, b < sNb R → k < sNw R → c_w7 H' q R b k := by
  have hR' := hR
  obtain ⟨⟨g1, g2⟩, ⟨g3, g4⟩, ⟨g5, g6⟩, -⟩ := hR'
  have bed : ∀ G : QH, (∀ a, a ≠ q + 7 → a ≠ q + 8 → G a = H a) → c_bed G q R := fun G hG => c_bed_of h (fun a k1 k2 => hG a (by omega) (by omega))
  obtain ⟨hl, hi⟩ := z_loopI (fun i (G : QH) => (∀ a, a ≠ q + 7 → a ≠ q + 8 → G a = H a) ∧ ∀ b k, b < i → k < sNw R → c_w7 G q R b k) (sNb R) (fun b G => q_EV (q_tb sx) q_kpt (d + 4) 7 (2, ([(0, vr 1 q), (1, vn b)], ([], G)))) (fun b G => z_fold (sNw R) (fun k G => z_fold (sNs R) (fun s G => q_hs G (q + 8) ((s * 6 + b) * 6 + k) (z_spk R s b k)) (q_hs G (q + 7) (b * 6 + k) (z_byKind R b k))) G) H ⟨fun _ _ _ => rfl, fun b k hb => absurd hb (Nat.not_lt_zero _)⟩ (fun b G hb ⟨hG1, hG2⟩ => by
    have key := z_fold_inv (fun i (G : QH) => (∀ a, a ≠ q + 7 → a ≠ q + 8 → G a = H a) ∧ (∀ b' k, b' < b → k < sNw R → c_w7 G q R b' k) ∧ ∀ k, k < i → c_w7 G q R b k) (sNw R) (fun k G => z_fold (sNs R) (fun s G => q_hs G (q + 8) ((s * 6 + b) * 6 + k) (z_spk R s b k)) (q_hs G (q + 7) (b * 6 + k) (z_byKind R b k))) G ⟨hG1, hG2, fun k hk => absurd hk (Nat.not_lt_zero _)⟩ (fun k G hk ⟨k1, k2, k3⟩ => by
      have key2 := z_fold_inv (fun i (G : QH) => (∀ a, a ≠ q + 7 → a ≠ q + 8 → G a = H a) ∧ (∀ b' k', b' < b → k' < sNw R → c_w7 G q R b' k') ∧ (∀ k', k' < k → c_w7 G q R b k') ∧ G (q + 7) (b * 6 + k) = z_byKind R b k ∧ ∀ s, s < i → G (q + 8) ((s * 6 + b) * 6 + k) = z_spk R s b k) (sNs R) (fun s G => q_hs G (q + 8) ((s * 6 + b) * 6 + k) (z_spk R s b k)) (q_hs G (q + 7) (b * 6 + k) (z_byKind R b k)) ⟨fun a q1 q2 => by rw [q_hs_ne q1]; exact k1 a q1 q2, fun b' k' q1 q2 => by
          obtain ⟨m1, m2⟩ := k2 b' k' q1 q2
          exact ⟨by rw [q_hs_ix (by omega)]; exact m1, fun s hs => by rw [q_hs_ne (by omega)]; exact m2 s hs⟩, fun k' q1 => by
          obtain ⟨m1, m2⟩ := k3 k' q1
          exact ⟨by rw [q_hs_ix (by omega)]; exact m1, fun s hs => by rw [q_hs_ne (by omega)]; exact m2 s hs⟩, q_hs_at, fun s hs => absurd hs (Nat.not_lt_zero _)⟩ (fun s G hs ⟨n1, n2, n3, n4, n5⟩ => by
        refine ⟨fun a q1 q2 => by rw [q_hs_ne q2]; exact n1 a q1 q2, fun b' k' q1 q2 => ?_, fun k' q1 => ?_, by rw [q_hs_ne (by omega)]; exact n4, fun s' q1 => ?_⟩
        · obtain ⟨m1, m2⟩ := n2 b' k' q1 q2
          exact ⟨by rw [q_hs_ne (by omega)]; exact m1, fun t ht => by rw [q_hs_ix (by omega)]; exact m2 t ht⟩
        · obtain ⟨m1, m2⟩ := n3 k' q1
          exact ⟨by rw [q_hs_ne (by omega)]; exact m1, fun t ht => by rw [q_hs_ix (by omega)]; exact m2 t ht⟩
        · by_cases c : s' = s
          · subst c; exact q_hs_at
          · rw [q_hs_ix (by omega)]; exact n5 s' (by omega))
      obtain ⟨n1, n2, n3, n4, n5⟩ := key2
      refine ⟨n1, n2, fun k' q1 => ?_⟩
      by_cases c : k' = k
      · subst c; exact ⟨n4, n5⟩
      · exact n3 k' (by omega))
    obtain ⟨k1, k2, k3⟩ := key
    refine ⟨k1, fun b' k q1 q2 => ?_⟩
    by_cases c : b' = b
    · subst c; exact k3 k q2
    · exact k2 b' k (by omega) q2) (fun b G hb ⟨hG1, hG2⟩ => by
    have hG := bed G hG1
    refine (b_X0_reckon_2 sx (d + 3) q (nI b) G).trans ?_
    rw [hG.1]
    simp (disch := omega) only [Bool.cond_decide, nI_add, pk_mul, q_inbN, q_cl_nI, q_ltN, q_leN, q_eqN, q_ifT, q_ifF, q_cIs, q_cVs, decide_false, decide_true, Bool.not_false, Bool.not_true, cond_true, cond_false, ne_eq, not_false_eq_true, not_true_eq_false, if_true, if_false]
    obtain ⟨hl2, -⟩ := z_loopI (fun _ (G : QH) => ∀ a, a ≠ q + 7 → a ≠ q + 8 → G a = H a) (sNw R) (fun k G => q_EV (q_tb sx) q_kpt (d + 4) 7 (12, ([(0, vr 1 q), (1, vn b), (2, vn k)], ([], G)))) (fun k G => z_fold (sNs R) (fun s G => q_hs G (q + 8) ((s * 6 + b) * 6 + k) (z_spk R s b k)) (q_hs G (q + 7) (b * 6 + k) (z_byKind R b k))) G hG1 (fun k G hk h1 => z_fold_inv (fun _ (G : QH) => ∀ a, a ≠ q + 7 → a ≠ q + 8 → G a = H a) (sNs R) _ _ (fun a q1 q2 => by rw [q_hs_ne q1]; exact h1 a q1 q2) (fun s G hs h2 a q1 q2 => by
        show q_hs G (q + 8) _ _ a = H a
        rw [q_hs_ne q2]; exact h2 a q1 q2)) (fun k G hk h1 => by
      have hG' := bed G h1
      refine (b_X0_reckon_12 sx (d + 3) q (nI b) (nI k) G).trans ?_
      rw [hG'.2.1, at_6 sx _ (q + 1) b G (by omega), q_cIs, hG'.2.2.2.2.1 b hb, q_plainW sx (d + 1) q b k G R hR hG' hb hk, q_cIs, wordPlace_eq, q_cIs, put_36 sx _ (q + 7) _ _ G (by omega), q_cVs]
      simp (disch := omega) only [Bool.cond_decide, nI_add, pk_mul, q_inbN, q_cl_nI, q_ltN, q_leN, q_eqN, q_ifT, q_ifF, q_cIs, q_cVs, decide_false, decide_true, Bool.not_false, Bool.not_true, cond_true, cond_false, ne_eq, not_false_eq_true, not_true_eq_false, if_true, if_false]
      have hG7 : ∀ a, a ≠ q + 7 → a ≠ q + 8 → (q_hs G (q + 7) (b * 6 + k) (z_byKind R b k)) a = H a := fun a q1 q2 => by rw [q_hs_ne q1]; exact h1 a q1 q2
      obtain ⟨hl3, hi3⟩ := z_loopI (fun _ (G : QH) => ∀ a, a ≠ q + 7 → a ≠ q + 8 → G a = H a) (sNs R) (fun s G => q_EV (q_tb sx) q_kpt (d + 4) 7 (50, ([(0, vr 1 q), (1, vn b), (2, vn k), (3, vi (z_byKind R b k)), (4, vn s)], ([], G)))) (fun s G => q_hs G (q + 8) ((s * 6 + b) * 6 + k) (z_spk R s b k)) (q_hs G (q + 7) (b * 6 + k) (z_byKind R b k)) hG7 (fun s G hs h2 a q1 q2 => by rw [q_hs_ne q2]; exact h2 a q1 q2) (fun s G hs h2 => by
        have hG2 := bed G h2
        refine (b_X0_reckon_50 sx (d + 3) q (nI b) (nI k) _ (nI s) G).trans ?_
        rw [hG2.2.2.1, sayingPlace_eq, q_cIs, q_spokenW sx (d + 1) q s b k G R hR hG2 hs hb hk, q_cIs, put_144 sx _ (q + 8) _ _ G (by omega), q_cVs]
        simp (disch := omega) only [Bool.cond_decide, nI_add, pk_mul, q_inbN, q_cl_nI, q_ltN, q_leN, q_eqN, q_ifT, q_ifF, q_cIs, q_cVs, decide_false, decide_true, Bool.not_false, Bool.not_true, cond_true, cond_false, ne_eq, not_false_eq_true, not_true_eq_false, if_true, if_false])
      refine hl3.trans ?_
      refine (b_X0_reckon_50 sx (d + 3) q (nI b) (nI k) _ (nI (sNs R)) _).trans ?_
      rw [(bed _ hi3).2.2.1]
      simp (disch := omega) only [Bool.cond_decide, nI_add, pk_mul, q_inbN, q_cl_nI, q_ltN, q_leN, q_eqN, q_ifT, q_ifF, q_cIs, q_cVs, decide_false, decide_true, Bool.not_false, Bool.not_true, cond_true, cond_false, ne_eq, not_false_eq_true, not_true_eq_false, if_true, if_false])
    refine hl2.trans ?_
    have hi2 := z_fold_inv (fun _ (G : QH) => ∀ a, a ≠ q + 7 → a ≠ q + 8 → G a = H a) (sNw R) (fun k G => z_fold (sNs R) (fun s G => q_hs G (q + 8) ((s * 6 + b) * 6 + k) (z_spk R s b k)) (q_hs G (q + 7) (b * 6 + k) (z_byKind R b k))) G hG1 (fun k G hk h1 => z_fold_inv (fun _ (G : QH) => ∀ a, a ≠ q + 7 → a ≠ q + 8 → G a = H a) (sNs R) _ _ (fun a q1 q2 => by rw [q_hs_ne q1]; exact h1 a q1 q2) (fun s G hs h2 a q1 q2 => by
        show q_hs G (q + 8) _ _ a = H a
        rw [q_hs_ne q2]; exact h2 a q1 q2))
    refine (b_X0_reckon_12 sx (d + 3) q (nI b) (nI (sNw R)) _).trans ?_
    rw [(bed _ hi2).2.1]
    simp (disch := omega) only [Bool.cond_decide, nI_add, pk_mul, q_inbN, q_cl_nI, q_ltN, q_leN, q_eqN, q_ifT, q_ifF, q_cIs, q_cVs, decide_false, decide_true, Bool.not_false, Bool.not_true, cond_true, cond_false, ne_eq, not_false_eq_true, not_true_eq_false, if_true, if_false])
  refine ⟨_, (b_X0_reckon_0 sx (d + 3) q H).trans (hl.trans ((b_X0_reckon_2 sx (d + 3) q (nI (sNb R)) _).trans ?_)), hi.1, fun b k q1 q2 => hi.2 b k q1 q2⟩
  rw [(bed _ hi.1).1]
  simp (disch := omega) only [Bool.cond_decide, nI_add, pk_mul, q_inbN, q_cl_nI, q_ltN, q_leN, q_eqN, q_ifT, q_ifF, q_cIs, q_cVs, decide_false, decide_true, Bool.not_false, Bool.not_true, cond_true, cond_false, ne_eq, not_false_eq_true, not_true_eq_false, if_true, if_false]
/-- how a quarry begins -/
def z_w0 (R : SB) : SW := fun j => if j < 13 then nI 0 else if j < 19 then -4 else if j < 55 then nI 0 else if j < 79 then R.2 6 (j - 55) else if j < 79 + sNs R then sD R (j - 79) else nI 0
theorem vw_w0 {R : SB} (hR : q_sB R) : q_vw R 0 (z_w0 R) := by
  obtain ⟨⟨g1, g2⟩, ⟨g3, g4⟩, ⟨g5, g6⟩, gK, -, gS, -⟩ := hR
  refine ⟨fun b k hb hk => ⟨0, by omega, ?_⟩, fun b hb => ⟨⟨0, by omega, ?_⟩, fun _ => ⟨0, ?_, by omega, ?_⟩⟩, fun s hs => ?_⟩
  · unfold z_w0; rw [if_neg (by omega), if_neg (by omega), if_pos (by omega)]
  · unfold z_w0; rw [if_pos (by omega)]
  · unfold z_w0; rw [if_pos (by omega)]
  · obtain ⟨-, t, ht1, ht2, et⟩ := gK b hb
    rw [et, nI_ltI (by omega) (by omega)]
    omega
  · obtain ⟨-, m, -, hm, em⟩ := gS s hs
    refine ⟨m, hm, ?_⟩
    unfold z_w0
    rw [if_neg (by omega), if_neg (by omega), if_neg (by omega), if_neg (by omega), if_pos (by omega), Nat.add_sub_cancel_left]
    exact em
theorem ag_w0 {R : SB} {w : SW} (hR : q_sB R) {dl fv : Nat → Int32} (h1 : ∀ s, s < sNs R → dl s = sD R s) (h2 : ∀ j, j < 24 → fv j = R.2 6 j) : q_ag R (z_new dl fv w) (z_w0 R) := fun j hj => by
  obtain ⟨-, -, ⟨g5, g6⟩, -⟩ := hR
  unfold z_new z_w0
  by_cases a1 : j < 13
  · rw [if_pos a1, if_pos a1]
  · rw [if_neg a1, if_neg a1]
    by_cases a2 : j < 19
    · rw [if_pos a2, if_pos a2]
    · rw [if_neg a2, if_neg a2]
      by_cases a3 : j < 55
      · rw [if_pos a3, if_pos a3]
      · rw [if_neg a3, if_neg a3]
        by_cases a4 : j < 79
        · rw [if_pos a4, if_pos a4]; exact h2 _ (by omega)
        · rw [if_neg a4, if_neg a4, if_pos (by omega), if_pos (by omega)]; exact h1 _ (by omega)
def aLay (A : SA) (R : SB) : SA := (A.1, (R, (z_w0 R, ([], []))))
theorem q_pile_nil {H : QH} {p n : Nat} {B B' : SB} (h : q_pile H p n B []) : q_pile H p n B' [] := by
  obtain ⟨x, hx, e1, e2, hl, hi⟩ := h
  exact ⟨x, hx, e1, e2, hl, fun i w hw => by simp at hw⟩
theorem q_layOut (sx : QX) (d : Nat) (A : SA) (H : QH) (B B' : SB) (u k : List SW) (hL : aL A ≤ 200) (h1 : H 1 2 = nI (aL A)) (h2 : ∀ j, j < aL A → H 2 j = aT A j) (p1 : q_pile H 36 8 B u) (p2 : q_pile H 94 2 B' k) (hR : q_sB (z_read (aL A) (aT A)).2) : ∃ H', q_CL (q_tb sx) q_kpt (d + 7) (85, ([vr 8 0], H)) = rV H' ∧ q_RC (aLay A (z_read (aL A) (aT A)).2) H' ∧ ∀ a, 165 ≤ a → H' a = H a := by
  have hb := b_X6_layOut_0 sx (d + 6) H
  obtain ⟨H1, r1, o1, o2, c1⟩ := q_readInto sx d (aL A) 4 (aT A) H hL (by omega) h1 h2
  rw [r1, q_cIs] at hb
  obtain ⟨H2, r2, o3, w7⟩ := q_reckon sx (d + 2) 4 H1 _ hR c1
  rw [r2, q_cVs, q_begin sx (d + 4) 22 H2 (by omega), q_cVs] at hb
  have pp1 : q_pile (c_put H2 22 (z_new (H2 9) (H2 10) (c_get H2 22))) 36 8 B u := q_pile_of8 p1 (fun a k1 k2 => by rw [c_put_out H2 _ _ (by omega), o3 a (by omega) (by omega), o1 a (by omega) (by omega) (by omega)])
  obtain ⟨r3, p3⟩ := q_clear8 sx (d + 5) _ B u pp1
  have pp2 : q_pile (q_hs (c_put H2 22 (z_new (H2 9) (H2 10) (c_get H2 22))) 36 2 (nI 0)) 94 2 B' k := q_pile_of2 p2 (fun a k1 k2 => by rw [q_hs_ne (by omega), c_put_out H2 _ _ (by omega), o3 a (by omega) (by omega), o1 a (by omega) (by omega) (by omega)])
  obtain ⟨r4, p4⟩ := q_clear2 sx (d + 5) _ B' k pp2
  rw [r3, q_cVs, r4, q_cVs] at hb
  have far : ∀ a, a ≠ 36 → a ≠ 94 → (a < 22 ∨ 29 ≤ a) → (q_hs (q_hs (c_put H2 22 (z_new (H2 9) (H2 10) (c_get H2 22))) 36 2 (nI 0)) 94 2 (nI 0)) a = H2 a := fun a k1 k2 k3 => by rw [q_hs_ne k2, q_hs_ne k1, c_put_out H2 _ _ (by omega)]
  have cB : c_bed H2 4 (z_read (aL A) (aT A)).2 := c_bed_of c1 (fun a k1 k2 => o3 a (by omega) (by omega))
  refine ⟨_, hb, ⟨⟨?_, fun j hj => ?_⟩, ?_, ?_, q_pile_nil (q_pile_of8 p3 (fun a k1 k2 => q_hs_ne (by omega))), q_pile_nil p4⟩, fun a ha => ?_⟩
  · rw [far 1 (by omega) (by omega) (by omega), o3 1 (by omega) (by omega), o2 2 (by omega)]; exact h1
  · rw [far 2 (by omega) (by omega) (by omega), o3 2 (by omega) (by omega), o1 2 (by omega) (by omega) (by omega)]; exact h2 j hj
  · obtain ⟨e0, e1, e2, e3, f1, f2, f3, f4, f5, f6⟩ := cB
    show q_rB _ (z_read (aL A) (aT A)).2
    unfold q_rB
    rw [far 4 (by omega) (by omega) (by omega), far 5 (by omega) (by omega) (by omega), far 6 (by omega) (by omega) (by omega), far 7 (by omega) (by omega) (by omega), far 8 (by omega) (by omega) (by omega), far 9 (by omega) (by omega) (by omega), far 11 (by omega) (by omega) (by omega), far 12 (by omega) (by omega) (by omega)]
    exact ⟨e0, e1, e2, e3, f1, f2, f3, f4, f5, fun b k q1 q2 => (w7 b k q1 q2).1, fun s b k q0 q1 q2 => (w7 b k q1 q2).2 s q0⟩
  · show q_ag (z_read (aL A) (aT A)).2 _ (z_w0 (z_read (aL A) (aT A)).2)
    rw [c_get_of (H := c_put H2 22 (z_new (H2 9) (H2 10) (c_get H2 22))) (fun a k1 k2 => by rw [q_hs_ne (by omega), q_hs_ne (by omega)]), c_get_put]
    exact ag_w0 hR cB.2.2.2.2.2.2.2.2.1 cB.2.2.2.2.2.2.2.2.2
  · rw [far a (by omega) (by omega) (by omega), o3 a (by omega) (by omega), o1 a (by omega) (by omega) (by omega)]
