/-! THE LAW'S LOOP -/
theorem q_RM_ext {A : SA} {H H' : QH} (h : q_RM A H) (he : ∀ a, 165 ≤ a → H' a = H a) : q_RM A H' := by
  obtain ⟨⟨e1, e2⟩, e3, e4, ⟨e5, e6⟩, e7, e8⟩ := h
  have mv : ∀ (r : Nat), m_get H' r = m_get H r := fun r => m_get_of (he 166 (by omega)) r
  refine ⟨⟨by rw [he 165 (by omega)]; exact e1, fun j hj => by rw [he 172 (by omega)]; exact e2 j hj⟩, ?_, by rw [mv]; exact e4, ⟨by rw [he 165 (by omega)]; exact e5, fun i w hw => by rw [mv]; exact e6 i w hw⟩, by rw [he 165 (by omega)]; exact e7, fun i w hw => by rw [mv]; exact e8 i w hw⟩
  exact q_mB_of e3 (fun a ha => he a (by omega))
theorem q_RC_ext {A : SA} {H H' : QH} (h : q_RC A H) (he : ∀ a, a < 165 → H' a = H a) : q_RC A H' := q_RC_of h (by rw [he 1 (by omega)]) (fun a ha => he a (by omega))
theorem law_two {sx : QX} {d mc mm : Nat} {as : List QV} {A : SA} {n : Nat} {H : QH} (h : q_two sx d mc mm as A n) (hC : q_RC A H) (hM : q_RM A H) : ∃ x H1 H2 A', q_CL (q_tb sx) q_kpt (d + 40) (mc, (vr 8 0 :: as, H)) = rI x H1 ∧ q_CL (q_tb sx) q_kpt (d + 40) (mm, (vr 9 165 :: as, H1)) = rI x H2 ∧ q_RC A' H2 ∧ q_RM A' H2 ∧ q_sA (n + 1) A' := by
  obtain ⟨x, A', hA', h1, h2⟩ := h
  obtain ⟨H1, r1, c1, f1⟩ := h1 H hC
  obtain ⟨H2, r2, c2, f2⟩ := h2 H1 (q_RM_ext hM f1)
  exact ⟨x, H1, H2, A', r1, r2, q_RC_ext c1 f2, c2, hA'⟩
set_option maxRecDepth 100000 in
set_option maxHeartbeats 4000000 in
theorem law_loop (sx : QX) (d : Nat) (hL : sx.1 ≤ 3584) : ∀ (f i : Nat) (A : SA) (H : QH), i + f = 513 → q_sA i A → q_RC A H → q_RM A H → ∃ H', q_EV (q_tb sx) q_kpt (d + 40 + 1) 178 (18, ([(0, vr 10 183), (1, vr 8 0), (2, vr 9 165), (3, vn (7 * i))], ([], H))) = rI (nI 1) H' := by
  intro f
  induction f with
  | zero =>
    intro i A H hi hA hC hM
    refine ⟨H, (b_L_law_18 sx (d + 40) (nI (7 * i)) H).trans ?_⟩
    have c0 : nI sx.1 - nI 7 < nI (7 * i) := by
      rw [Int32.lt_iff_toInt_lt, pk_sub_toInt (by omega) (by omega), nI_toInt (by omega)]
      omega
    rw [q_of, decide_eq_true c0, cond_true]
  | succ f ih =>
    intro i A H hi hA hC hM
    have hb := b_L_law_18 sx (d + 40) (nI (7 * i)) H
    rw [q_of] at hb
    by_cases cL : 7 * i + 7 ≤ sx.1
    · have c0 : ¬ nI sx.1 - nI 7 < nI (7 * i) := by
        rw [Int32.lt_iff_toInt_lt, pk_sub_toInt (by omega) (by omega), nI_toInt (by omega)]
        omega
      rw [decide_eq_false c0, cond_false] at hb
      have h0 : q_inb (nI (7 * i)) sx.1 = true := by rw [q_inbN (by omega), decide_eq_true (by omega)]
      have h1 : q_inb (nI (7 * i) + nI 1) sx.1 = true := by rw [nI_add, q_inbN (by omega), decide_eq_true (by omega)]
      have h2 : q_inb (nI (7 * i) + nI 2) sx.1 = true := by rw [nI_add, q_inbN (by omega), decide_eq_true (by omega)]
      have h3 : q_inb (nI (7 * i) + nI 3) sx.1 = true := by rw [nI_add, q_inbN (by omega), decide_eq_true (by omega)]
      have h4 : q_inb (nI (7 * i) + nI 4) sx.1 = true := by rw [nI_add, q_inbN (by omega), decide_eq_true (by omega)]
      have h5 : q_inb (nI (7 * i) + nI 5) sx.1 = true := by rw [nI_add, q_inbN (by omega), decide_eq_true (by omega)]
      have h6 : q_inb (nI (7 * i) + nI 6) sx.1 = true := by rw [nI_add, q_inbN (by omega), decide_eq_true (by omega)]
      rw [h0, cond_true] at hb
      have next : ∀ A' H2, q_sA (i + 1) A' → q_RC A' H2 → q_RM A' H2 → ∃ H', q_EV (q_tb sx) q_kpt (d + 40 + 1) 178 (983, ([(0, vr 10 183), (1, vr 8 0), (2, vr 9 165), (3, vn (7 * i))], ([], H2))) = rI (nI 1) H' := fun A' H2 q1 q2 q3 => by
        obtain ⟨H', e⟩ := ih (i + 1) A' H2 (by omega) q1 q2 q3
        refine ⟨H', (b_L_law_983 sx (d + 40) (nI (7 * i)) H2).trans ?_⟩
        rw [nI_add]
        exact e
      generalize sx.2 (nI (7 * i)).toNatClampNeg &&& nI 31 = v at hb
      by_cases c0 : v = nI 0
      · rw [decide_eq_true c0, cond_true] at hb
        obtain ⟨x, H1, H2, A', r1, r2, hC', hM', hA'⟩ := law_two (two_write sx d i A hA (sx.2 (nI (7 * i) + nI 1).toNatClampNeg)) hC hM
        simp only [h1, h2, h3, h4, h5, h6, cond_true, r1, q_cIs, r2, eq_self, decide_true] at hb
        obtain ⟨H', e⟩ := next A' H2 hA' hC' hM'
        exact ⟨H', hb.trans e⟩
      rw [decide_eq_false c0, cond_false] at hb
      by_cases c1 : v = nI 1
      · rw [decide_eq_true c1, cond_true] at hb
        obtain ⟨x, H1, H2, A', r1, r2, hC', hM', hA'⟩ := law_two (two_wipe sx d i A hA) hC hM
        simp only [h1, h2, h3, h4, h5, h6, cond_true, r1, q_cIs, r2, eq_self, decide_true] at hb
        obtain ⟨H', e⟩ := next A' H2 hA' hC' hM'
        exact ⟨H', hb.trans e⟩
      rw [decide_eq_false c1, cond_false] at hb
      by_cases c2 : v = nI 2
      · rw [decide_eq_true c2, cond_true] at hb
        obtain ⟨x, H1, H2, A', r1, r2, hC', hM', hA'⟩ := law_two (two_fault sx d i A hA) hC hM
        simp only [h1, h2, h3, h4, h5, h6, cond_true, r1, q_cIs, r2, eq_self, decide_true] at hb
        obtain ⟨H', e⟩ := next A' H2 hA' hC' hM'
        exact ⟨H', hb.trans e⟩
      rw [decide_eq_false c2, cond_false] at hb
      by_cases c3 : v = nI 3
      · rw [decide_eq_true c3, cond_true] at hb
        obtain ⟨x, H1, H2, A', r1, r2, hC', hM', hA'⟩ := law_two (two_lay sx d i A hA) hC hM
        simp only [h1, h2, h3, h4, h5, h6, cond_true, r1, q_cIs, r2, eq_self, decide_true] at hb
        obtain ⟨H', e⟩ := next A' H2 hA' hC' hM'
        exact ⟨H', hb.trans e⟩
      rw [decide_eq_false c3, cond_false] at hb
      by_cases c4 : v = nI 4
      · rw [decide_eq_true c4, cond_true] at hb
        obtain ⟨x, H1, H2, A', r1, r2, hC', hM', hA'⟩ := law_two (two_block sx d i A hA (sx.2 (nI (7 * i) + nI 1).toNatClampNeg) (sx.2 (nI (7 * i) + nI 2).toNatClampNeg)) hC hM
        simp only [h1, h2, h3, h4, h5, h6, cond_true, r1, q_cIs, r2, eq_self, decide_true] at hb
        obtain ⟨H', e⟩ := next A' H2 hA' hC' hM'
        exact ⟨H', hb.trans e⟩
      rw [decide_eq_false c4, cond_false] at hb
      by_cases c5 : v = nI 5
      · rw [decide_eq_true c5, cond_true] at hb
        obtain ⟨x, H1, H2, A', r1, r2, hC', hM', hA'⟩ := law_two (two_word sx d i A hA (sx.2 (nI (7 * i) + nI 1).toNatClampNeg)) hC hM
        simp only [h1, h2, h3, h4, h5, h6, cond_true, r1, q_cIs, r2, eq_self, decide_true] at hb
        obtain ⟨H', e⟩ := next A' H2 hA' hC' hM'
        exact ⟨H', hb.trans e⟩
      rw [decide_eq_false c5, cond_false] at hb
      by_cases c6 : v = nI 6
      · rw [decide_eq_true c6, cond_true] at hb
        obtain ⟨x, H1, H2, A', r1, r2, hC', hM', hA'⟩ := law_two (two_speaker sx d i A hA (sx.2 (nI (7 * i) + nI 1).toNatClampNeg) (sx.2 (nI (7 * i) + nI 2).toNatClampNeg)) hC hM
        simp only [h1, h2, h3, h4, h5, h6, cond_true, r1, q_cIs, r2, eq_self, decide_true] at hb
        obtain ⟨H', e⟩ := next A' H2 hA' hC' hM'
        exact ⟨H', hb.trans e⟩
      rw [decide_eq_false c6, cond_false] at hb
      by_cases c7 : v = nI 7
      · rw [decide_eq_true c7, cond_true] at hb
        obtain ⟨x, H1, H2, A', r1, r2, hC', hM', hA'⟩ := law_two (two_heard sx d i A hA (sx.2 (nI (7 * i) + nI 1).toNatClampNeg) (sx.2 (nI (7 * i) + nI 2).toNatClampNeg)) hC hM
        simp only [h1, h2, h3, h4, h5, h6, cond_true, r1, q_cIs, r2, eq_self, decide_true] at hb
        obtain ⟨H', e⟩ := next A' H2 hA' hC' hM'
        exact ⟨H', hb.trans e⟩
      rw [decide_eq_false c7, cond_false] at hb
      by_cases c8 : v = nI 8
      · rw [decide_eq_true c8, cond_true] at hb
        obtain ⟨x, H1, H2, A', r1, r2, hC', hM', hA'⟩ := law_two (two_promised sx d i A hA (sx.2 (nI (7 * i) + nI 1).toNatClampNeg) (sx.2 (nI (7 * i) + nI 2).toNatClampNeg)) hC hM
        simp only [h1, h2, h3, h4, h5, h6, cond_true, r1, q_cIs, r2, eq_self, decide_true] at hb
        obtain ⟨H', e⟩ := next A' H2 hA' hC' hM'
        exact ⟨H', hb.trans e⟩
      rw [decide_eq_false c8, cond_false] at hb
      by_cases c9 : v = nI 9
      · rw [decide_eq_true c9, cond_true] at hb
        obtain ⟨x, H1, H2, A', r1, r2, hC', hM', hA'⟩ := law_two (two_worth sx d i A hA (by omega) (sx.2 (nI (7 * i) + nI 1).toNatClampNeg) (sx.2 (nI (7 * i) + nI 2).toNatClampNeg) (sx.2 (nI (7 * i) + nI 3).toNatClampNeg)) hC hM
        simp only [h1, h2, h3, h4, h5, h6, cond_true, r1, q_cIs, r2, eq_self, decide_true] at hb
        obtain ⟨H', e⟩ := next A' H2 hA' hC' hM'
        exact ⟨H', hb.trans e⟩
      rw [decide_eq_false c9, cond_false] at hb
      by_cases c10 : v = nI 10
      · rw [decide_eq_true c10, cond_true] at hb
        obtain ⟨x, H1, H2, A', r1, r2, hC', hM', hA'⟩ := law_two (two_say sx d i A hA (by omega) (sx.2 (nI (7 * i) + nI 1).toNatClampNeg) (sx.2 (nI (7 * i) + nI 2).toNatClampNeg) (sx.2 (nI (7 * i) + nI 3).toNatClampNeg)) hC hM
        simp only [h1, h2, h3, h4, h5, h6, cond_true, r1, q_cIs, r2, eq_self, decide_true] at hb
        obtain ⟨H', e⟩ := next A' H2 hA' hC' hM'
        exact ⟨H', hb.trans e⟩
      rw [decide_eq_false c10, cond_false] at hb
      by_cases c11 : v = nI 11
      · rw [decide_eq_true c11, cond_true] at hb
        obtain ⟨x, H1, H2, A', r1, r2, hC', hM', hA'⟩ := law_two (two_promise sx d i A hA (sx.2 (nI (7 * i) + nI 1).toNatClampNeg) (sx.2 (nI (7 * i) + nI 2).toNatClampNeg) (sx.2 (nI (7 * i) + nI 3).toNatClampNeg)) hC hM
        simp only [h1, h2, h3, h4, h5, h6, cond_true, r1, q_cIs, r2, eq_self, decide_true] at hb
        obtain ⟨H', e⟩ := next A' H2 hA' hC' hM'
        exact ⟨H', hb.trans e⟩
      rw [decide_eq_false c11, cond_false] at hb
      by_cases c12 : v = nI 12
      · rw [decide_eq_true c12, cond_true] at hb
        obtain ⟨x, H1, H2, A', r1, r2, hC', hM', hA'⟩ := law_two (two_take sx d i A hA (sx.2 (nI (7 * i) + nI 1).toNatClampNeg) (sx.2 (nI (7 * i) + nI 2).toNatClampNeg)) hC hM
        simp only [h1, h2, h3, h4, h5, h6, cond_true, r1, q_cIs, r2, eq_self, decide_true] at hb
        obtain ⟨H', e⟩ := next A' H2 hA' hC' hM'
        exact ⟨H', hb.trans e⟩
      rw [decide_eq_false c12, cond_false] at hb
      by_cases c13 : v = nI 13
      · rw [decide_eq_true c13, cond_true] at hb
        obtain ⟨x, H1, H2, A', r1, r2, hC', hM', hA'⟩ := law_two (two_pass sx d i A hA (sx.2 (nI (7 * i) + nI 1).toNatClampNeg)) hC hM
        simp only [h1, h2, h3, h4, h5, h6, cond_true, r1, q_cIs, r2, eq_self, decide_true] at hb
        obtain ⟨H', e⟩ := next A' H2 hA' hC' hM'
        exact ⟨H', hb.trans e⟩
      rw [decide_eq_false c13, cond_false] at hb
      by_cases c14 : v = nI 14
      · rw [decide_eq_true c14, cond_true] at hb
        obtain ⟨x, H1, H2, A', r1, r2, hC', hM', hA'⟩ := law_two (two_undo sx d i A hA) hC hM
        simp only [h1, h2, h3, h4, h5, h6, cond_true, r1, q_cIs, r2, eq_self, decide_true] at hb
        obtain ⟨H', e⟩ := next A' H2 hA' hC' hM'
        exact ⟨H', hb.trans e⟩
      rw [decide_eq_false c14, cond_false] at hb
      by_cases c15 : v = nI 15
      · rw [decide_eq_true c15, cond_true] at hb
        obtain ⟨x, H1, H2, A', r1, r2, hC', hM', hA'⟩ := law_two (two_least sx d i A hA (by omega) (sx.2 (nI (7 * i) + nI 1).toNatClampNeg) (sx.2 (nI (7 * i) + nI 2).toNatClampNeg)) hC hM
        simp only [h1, h2, h3, h4, h5, h6, cond_true, r1, q_cIs, r2, eq_self, decide_true] at hb
        obtain ⟨H', e⟩ := next A' H2 hA' hC' hM'
        exact ⟨H', hb.trans e⟩
      rw [decide_eq_false c15, cond_false] at hb
      by_cases c16 : v = nI 16
      · rw [decide_eq_true c16, cond_true] at hb
        obtain ⟨x, H1, H2, A', r1, r2, hC', hM', hA'⟩ := law_two (two_best sx d i A hA (by omega) (sx.2 (nI (7 * i) + nI 1).toNatClampNeg)) hC hM
        simp only [h1, h2, h3, h4, h5, h6, cond_true, r1, q_cIs, r2, eq_self, decide_true] at hb
        obtain ⟨H', e⟩ := next A' H2 hA' hC' hM'
        exact ⟨H', hb.trans e⟩
      rw [decide_eq_false c16, cond_false] at hb
      by_cases c17 : v = nI 17
      · rw [decide_eq_true c17, cond_true] at hb
        obtain ⟨x, H1, H2, A', r1, r2, hC', hM', hA'⟩ := law_two (two_order sx d i A hA (by omega) (sx.2 (nI (7 * i) + nI 1).toNatClampNeg)) hC hM
        simp only [h1, h2, h3, h4, h5, h6, cond_true, r1, q_cIs, r2, eq_self, decide_true] at hb
        obtain ⟨H', e⟩ := next A' H2 hA' hC' hM'
        exact ⟨H', hb.trans e⟩
      rw [decide_eq_false c17, cond_false] at hb
      by_cases c18 : v = nI 18
      · rw [decide_eq_true c18, cond_true] at hb
        obtain ⟨x, H1, H2, A', r1, r2, hC', hM', hA'⟩ := law_two (two_days sx d i A hA (by omega) (sx.2 (nI (7 * i) + nI 1).toNatClampNeg) (sx.2 (nI (7 * i) + nI 2).toNatClampNeg)) hC hM
        simp only [h1, h2, h3, h4, h5, h6, cond_true, r1, q_cIs, r2, eq_self, decide_true] at hb
        obtain ⟨H', e⟩ := next A' H2 hA' hC' hM'
        exact ⟨H', hb.trans e⟩
      rw [decide_eq_false c18, cond_false] at hb
      by_cases c19 : v = nI 19
      · rw [decide_eq_true c19, cond_true] at hb
        obtain ⟨x, H1, H2, A', r1, r2, hC', hM', hA'⟩ := law_two (two_frost sx d i A hA (sx.2 (nI (7 * i) + nI 1).toNatClampNeg)) hC hM
        simp only [h1, h2, h3, h4, h5, h6, cond_true, r1, q_cIs, r2, eq_self, decide_true] at hb
        obtain ⟨H', e⟩ := next A' H2 hA' hC' hM'
        exact ⟨H', hb.trans e⟩
      rw [decide_eq_false c19, cond_false] at hb
      by_cases c20 : v = nI 20
      · rw [decide_eq_true c20, cond_true] at hb
        obtain ⟨x, H1, H2, A', r1, r2, hC', hM', hA'⟩ := law_two (two_uses sx d i A hA (sx.2 (nI (7 * i) + nI 1).toNatClampNeg)) hC hM
        simp only [h1, h2, h3, h4, h5, h6, cond_true, r1, q_cIs, r2, eq_self, decide_true] at hb
        obtain ⟨H', e⟩ := next A' H2 hA' hC' hM'
        exact ⟨H', hb.trans e⟩
      rw [decide_eq_false c20, cond_false] at hb
      by_cases c21 : v = nI 21
      · rw [decide_eq_true c21, cond_true] at hb
        obtain ⟨x, H1, H2, A', r1, r2, hC', hM', hA'⟩ := law_two (two_harm sx d i A hA (by omega) (sx.2 (nI (7 * i) + nI 1).toNatClampNeg)) hC hM
        simp only [h1, h2, h3, h4, h5, h6, cond_true, r1, q_cIs, r2, eq_self, decide_true] at hb
        obtain ⟨H', e⟩ := next A' H2 hA' hC' hM'
        exact ⟨H', hb.trans e⟩
      rw [decide_eq_false c21, cond_false] at hb
      by_cases c22 : v = nI 22
      · rw [decide_eq_true c22, cond_true] at hb
        obtain ⟨x, H1, H2, A', r1, r2, hC', hM', hA'⟩ := law_two (two_liars sx d i A hA) hC hM
        simp only [h1, h2, h3, h4, h5, h6, cond_true, r1, q_cIs, r2, eq_self, decide_true] at hb
        obtain ⟨H', e⟩ := next A' H2 hA' hC' hM'
        exact ⟨H', hb.trans e⟩
      rw [decide_eq_false c22, cond_false] at hb
      by_cases c23 : v = nI 23
      · rw [decide_eq_true c23, cond_true] at hb
        obtain ⟨x, H1, H2, A', r1, r2, hC', hM', hA'⟩ := law_two (two_said sx d i A hA (by omega) (sx.2 (nI (7 * i) + nI 1).toNatClampNeg) (sx.2 (nI (7 * i) + nI 2).toNatClampNeg) (sx.2 (nI (7 * i) + nI 3).toNatClampNeg)) hC hM
        simp only [h1, h2, h3, h4, h5, h6, cond_true, r1, q_cIs, r2, eq_self, decide_true] at hb
        obtain ⟨H', e⟩ := next A' H2 hA' hC' hM'
        exact ⟨H', hb.trans e⟩
      rw [decide_eq_false c23, cond_false] at hb
      by_cases c24 : v = nI 24
      · rw [decide_eq_true c24, cond_true] at hb
        obtain ⟨x, H1, H2, A', r1, r2, hC', hM', hA'⟩ := law_two (two_deaf sx d i A hA (by omega) (sx.2 (nI (7 * i) + nI 1).toNatClampNeg) (sx.2 (nI (7 * i) + nI 2).toNatClampNeg) (sx.2 (nI (7 * i) + nI 3).toNatClampNeg) (sx.2 (nI (7 * i) + nI 4).toNatClampNeg) (sx.2 (nI (7 * i) + nI 5).toNatClampNeg) (sx.2 (nI (7 * i) + nI 6).toNatClampNeg)) hC hM
        simp only [h1, h2, h3, h4, h5, h6, cond_true, r1, q_cIs, r2, eq_self, decide_true] at hb
        obtain ⟨H', e⟩ := next A' H2 hA' hC' hM'
        exact ⟨H', hb.trans e⟩
      rw [decide_eq_false c24, cond_false] at hb
      by_cases c25 : v = nI 25
      · rw [decide_eq_true c25, cond_true] at hb
        obtain ⟨x, H1, H2, A', r1, r2, hC', hM', hA'⟩ := law_two (two_year sx d i A hA (by omega) (sx.2 (nI (7 * i) + nI 1).toNatClampNeg) (sx.2 (nI (7 * i) + nI 2).toNatClampNeg) (sx.2 (nI (7 * i) + nI 3).toNatClampNeg)) hC hM
        simp only [h1, h2, h3, h4, h5, h6, cond_true, r1, q_cIs, r2, eq_self, decide_true] at hb
        obtain ⟨H', e⟩ := next A' H2 hA' hC' hM'
        exact ⟨H', hb.trans e⟩
      rw [decide_eq_false c25, cond_false] at hb
      by_cases c26 : v = nI 26
      · rw [decide_eq_true c26, cond_true] at hb
        obtain ⟨x, H1, H2, A', r1, r2, hC', hM', hA'⟩ := law_two (two_keep sx d i A hA) hC hM
        simp only [h1, h2, h3, h4, h5, h6, cond_true, r1, q_cIs, r2, eq_self, decide_true] at hb
        obtain ⟨H', e⟩ := next A' H2 hA' hC' hM'
        exact ⟨H', hb.trans e⟩
      rw [decide_eq_false c26, cond_false] at hb
      by_cases c27 : v = nI 27
      · rw [decide_eq_true c27, cond_true] at hb
        obtain ⟨x, H1, H2, A', r1, r2, hC', hM', hA'⟩ := law_two (two_back sx d i A hA) hC hM
        simp only [h1, h2, h3, h4, h5, h6, cond_true, r1, q_cIs, r2, eq_self, decide_true] at hb
        obtain ⟨H', e⟩ := next A' H2 hA' hC' hM'
        exact ⟨H', hb.trans e⟩
      rw [decide_eq_false c27, cond_false] at hb
      by_cases c28 : v = nI 28
      · rw [decide_eq_true c28, cond_true] at hb
        obtain ⟨x, H1, H2, A', r1, r2, hC', hM', hA'⟩ := law_two (two_count sx d i A hA (sx.2 (nI (7 * i) + nI 1).toNatClampNeg)) hC hM
        simp only [h1, h2, h3, h4, h5, h6, cond_true, r1, q_cIs, r2, eq_self, decide_true] at hb
        obtain ⟨H', e⟩ := next A' H2 hA' hC' hM'
        exact ⟨H', hb.trans e⟩
      rw [decide_eq_false c28, cond_false] at hb
      obtain ⟨H', e⟩ := next A H (q_sA_mono hA (by omega)) hC hM
      exact ⟨H', hb.trans e⟩
    · have c0 : nI sx.1 - nI 7 < nI (7 * i) := by
        rw [Int32.lt_iff_toInt_lt, pk_sub_toInt (by omega) (by omega), nI_toInt (by omega)]
        omega
      rw [decide_eq_true c0, cond_true] at hb
      exact ⟨H, hb⟩
