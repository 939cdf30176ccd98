/-! pass, undo, keep, back, best, count -/
def z_pass (B : SB) : Nat → SW → SW
  | 0, w => w
  | n + 1, w => z_pass B n (z_night B w)
theorem vw_pass {B : SB} {n : Nat} (hs : q_sB B) : ∀ (m : Nat) (w : SW), q_vw B n w → q_vw B n (z_pass B m w) := by
  intro m
  induction m with
  | zero => intro w h; exact h
  | succ m ih => intro w h; exact ih _ (vw_night hs h)
theorem q_dl {A : SA} {H : QH} (hR : q_RC A H) : ∀ s, s < sNs (aB A) → H 9 s = sD (aB A) s := hR.2.1.2.2.2.2.2.2.2.2.1
theorem q_pass_loop (sx : QX) (d n : Nat) (A : SA) (hs : q_sB (aB A)) (hn : n < 1000000) : ∀ (m k : Nat) (w : SW) (H : QH), k + m = n → q_RC (aSW A w) H → ∃ H', q_EV (q_tb sx) q_kpt (d + 4) 69 (26, ([(0, vr 8 0), (1, vn n), (2, vn k)], ([], H))) = rI (z_pass (aB A) m w 0) H' ∧ q_RC (aSW A (z_pass (aB A) m w)) H' ∧ ∀ a, 165 ≤ a → H' a = H a := by
  intro m
  induction m with
  | zero =>
    intro k w H hk hR
    refine ⟨H, (b_X6_pass_26 sx (d + 3) (nI n) (nI k) H).trans ?_, hR, fun a _ => rfl⟩
    have e := hR.2.2.1 0 (by omega)
    have e2 : H 22 1 = w 0 := e
    simp (disch := omega) only [Bool.cond_decide, nI_add, pk_mul, q_inbN, q_cl_nI, q_ltN, q_leN, q_eqN, q_ifT, q_ifF, q_cIs, q_cVs, decide_false, decide_true, Bool.not_false, Bool.not_true, cond_true, cond_false, ne_eq, not_false_eq_true, not_true_eq_false, if_true, if_false, e2]
    rfl
  | succ m ih =>
    intro k w H hk hR
    have hR2 : q_RC (aSW A (z_night (aB A) w)) _ := q_RC_w (A := aSW A w) hR (ag_night (B := aB A) (v := c_get H 22) (w := w) hs hR.2.2.1 (q_dl (A := aSW A w) hR))
    obtain ⟨H', r, R', o⟩ := ih (k + 1) (z_night (aB A) w) _ (by omega) hR2
    refine ⟨H', (b_X6_pass_26 sx (d + 3) (nI n) (nI k) H).trans ?_, R', fun a ha => by rw [o a ha, c_put_out H _ _ (by omega)]⟩
    simp (disch := omega) only [Bool.cond_decide, nI_add, pk_mul, q_inbN, q_cl_nI, q_ltN, q_leN, q_eqN, q_ifT, q_ifF, q_cIs, q_cVs, decide_false, decide_true, Bool.not_false, Bool.not_true, cond_true, cond_false, ne_eq, not_false_eq_true, not_true_eq_false, if_true, if_false, q_night sx d 22 H (aB A) hR.2.1 hs (by omega)]
    exact r
theorem m_pass_loop (sx : QX) (d n N : Nat) (A : SA) (hs : q_sB (aB A)) (hn : n < 1000000) : ∀ (m k : Nat) (w : SW) (H : QH), k + m = n → q_sA N (aSW A w) → q_RM (aSW A w) H → ∃ H', q_EV (q_tb sx) q_kpt (d + 5) 150 (20, ([(0, vr 9 165), (1, vn n), (2, vn k)], ([], H))) = rI (z_pass (aB A) m w 0) H' ∧ q_RM (aSW A (z_pass (aB A) m w)) H' ∧ ∀ a, a < 165 → H' a = H a := by
  intro m
  induction m with
  | zero =>
    intro k w H hk hA hR
    refine ⟨H, (b_X7_pass_20 sx (d + 4) (nI n) (nI k) H).trans ?_, hR, fun a _ => rfl⟩
    have e := hR.2.2.1.1 0 (by omega)
    rw [m_get0] at e
    have e2 : H 166 0 = w 0 := e
    simp (disch := omega) only [Bool.cond_decide, nI_add, pk_mul, q_inbN, q_cl_nI, q_ltN, q_leN, q_eqN, q_ifT, q_ifF, q_cIs, q_cVs, decide_false, decide_true, Bool.not_false, Bool.not_true, cond_true, cond_false, ne_eq, not_false_eq_true, not_true_eq_false, if_true, if_false, e2]
    rfl
  | succ m ih =>
    intro k w H hk hA hR
    have hR2 : q_RM (aSW A (z_night (aB A) w)) (m_put H 0 (z_night (aB A) (m_get H 0))) := q_RM_w (A := aSW A w) hA hR (fr_night hs) (ag_nightm hs hR.2.2.1.1)
    have hA2 : q_sA N (aSW A (z_night (aB A) w)) := ⟨hA.1, hA.2.1, vw_night hs hA.2.2.1, hA.2.2.2⟩
    obtain ⟨H', r, R', o⟩ := ih (k + 1) (z_night (aB A) w) _ (by omega) hA2 hR2
    refine ⟨H', (b_X7_pass_20 sx (d + 4) (nI n) (nI k) H).trans ?_, R', fun a ha => by rw [o a ha, m_put_ne H _ _ (by omega)]⟩
    simp (disch := omega) only [Bool.cond_decide, nI_add, pk_mul, q_inbN, q_cl_nI, q_ltN, q_leN, q_eqN, q_ifT, q_ifF, q_cIs, q_cVs, decide_false, decide_true, Bool.not_false, Bool.not_true, cond_true, cond_false, ne_eq, not_false_eq_true, not_true_eq_false, if_true, if_false, m_passes sx d 0 H (aB A) hR.2.1 hs (by omega)]
    exact r
theorem in_lo (x : Int32) (a n : Nat) (ha : a < 1000000) (hn : n < 1000000) : (decide (nI a ≤ x) && decide (x ≤ nI n)) = true ↔ ∃ k, a ≤ k ∧ k ≤ n ∧ x = nI k := by
  constructor
  · intro h
    have h' : nI a ≤ x ∧ x ≤ nI n := by simpa using h
    have h0 : ¬ x < 0 := fun q => by
      have := Int32.lt_of_le_of_lt h'.1 q
      exact nI_pos (show a < 2147483648 by omega) this
    obtain ⟨k, hk, rfl⟩ := nI_of h0
    rw [nI_leI (by omega) hk, nI_leI hk (by omega)] at h'
    exact ⟨k, h'.1, h'.2, rfl⟩
  · rintro ⟨k, h1, h2, rfl⟩
    rw [decide_eq_true ((nI_leI (by omega) (by omega)).mpr h1), decide_eq_true ((nI_leI (by omega) (by omega)).mpr h2)]
    rfl
theorem two_pass (sx : QX) (d n : Nat) (A : SA) (hA : q_sA n A) (x : Int32) : q_two sx d 69 150 [vi x] A n := by
  have hA' := hA
  obtain ⟨-, hs, hv, -⟩ := hA'
  have hc := fun H => b_X6_pass_0 sx (d + 39) x H
  have hm := fun H => b_X7_pass_0 sx (d + 39) x H
  simp only [e64_1, e64_20, in_eq, q_cIs] at hm
  simp only [Bool.cond_decide] at hc
  by_cases c : (decide (nI 1 ≤ x) && decide (x ≤ nI 20)) = true
  · obtain ⟨k, h1, h2, rfl⟩ := (in_lo x 1 20 (by omega) (by omega)).mp c
    refine ⟨z_pass (aB A) k (aW A) 0, aSW (aSU A (aW A :: (aU A).take 7)) (z_pass (aB A) k (aW A)), q_sA_w (q_sA_push hA) (by omega) (vw_mono (vw_pass hs k _ hv) (by omega)), fun H hR => ?_, fun H hR => ?_⟩
    · obtain ⟨H1, r1, R1, o1⟩ := q_RC_push sx (d + 36) hs hR
      obtain ⟨H2, r2, R2, o2⟩ := q_pass_loop sx (d + 36) k (aSU A (aW A :: (aU A).take 7)) hs (by omega) k 0 (aW A) H1 (by omega) R1
      refine ⟨H2, (hc H).trans ?_, R2, fun a ha => by rw [o2 a ha, o1 a ha]⟩
      rw [if_neg (by rw [nI_ltI (by omega) (by omega)]; omega), if_pos (by rw [nI_leI (by omega) (by omega)]; omega), r1, q_cVs]
      exact r2
    · obtain ⟨H1, r1, R1, o1⟩ := m_minds sx (d + 37) hA hR
      obtain ⟨H2, r2, R2, o2⟩ := m_pass_loop sx (d + 35) k n (aSU A (aW A :: (aU A).take 7)) hs (by omega) k 0 (aW A) H1 (by omega) (q_sA_push hA) R1
      refine ⟨H2, (hm H).trans ?_, R2, fun a ha => by rw [o2 a ha, o1 a ha]⟩
      rw [c]
      simp (disch := omega) only [Bool.cond_decide, nI_add, pk_mul, q_inbN, q_cl_nI, q_ltN, q_leN, q_eqN, q_ifT, q_ifF, q_cIs, q_cVs, decide_false, decide_true, Bool.not_false, Bool.not_true, cond_true, cond_false, ne_eq, not_false_eq_true, not_true_eq_false, if_true, if_false, z01]
      rw [r1, q_cVs]
      exact r2
  · refine two_same hA (-1) (fun H hR => (hc H).trans ?_) (fun H hR => (hm H).trans ?_)
    · by_cases c1 : x < nI 1
      · rw [if_pos c1]
      · rw [if_neg c1]
        by_cases c2 : x ≤ nI 20
        · rw [decide_eq_true c2, decide_eq_true (Int32.not_lt.mp c1)] at c
          exact absurd rfl c
        · rw [if_neg c2]
    · rw [Bool.eq_false_iff.mpr c]; rfl
theorem sA_drop {n : Nat} {A : SA} {w : SW} {t : List SW} (h : q_sA n A) (e : aU A = w :: t) : q_sA n (aSU (aSW A w) t) := by
  obtain ⟨h1, h2, h3, h4, h5, h6, h7⟩ := h
  refine ⟨h1, h2, h4 w (by rw [e]; exact List.mem_cons_self), fun v hv => h4 v (by rw [e]; exact List.mem_cons_of_mem _ hv), h5, ?_, h7⟩
  rw [e, List.length_cons] at h6
  show t.length ≤ 8
  omega
theorem q_RM_fld {A : SA} {H : QH} {j : Nat} {x : Int32} (h : q_mB H (aB A)) (hj : j = 1 ∨ j = 2) : q_mB (q_hs H 165 j x) (aB A) := by
  unfold q_mB at h ⊢
  rw [q_hs_ix (by omega), q_hs_ix (by omega), q_hs_ix (by omega), q_hs_ix (by omega), q_hs_ne (by omega), q_hs_ne (by omega), q_hs_ne (by omega), q_hs_ne (by omega), q_hs_ne (by omega)]
  exact h
theorem q_RM_dropU {A : SA} {H : QH} {w : SW} {t : List SW} (h : q_RM A H) (e : aU A = w :: t) : q_RM (aSU A t) (q_hs H 165 1 (nI t.length)) := by
  obtain ⟨⟨e1, e2⟩, e3, e4, ⟨e5, e6⟩, e7, e8⟩ := h
  have mv : ∀ r, m_get (q_hs H 165 1 (nI t.length)) r = m_get H r := fun r => m_get_of (q_hs_ne (by omega)) r
  refine ⟨⟨by rw [q_hs_ix (by omega)]; exact e1, fun j hj => by rw [q_hs_ne (by omega)]; exact e2 j hj⟩, q_RM_fld e3 (Or.inl rfl), by rw [mv]; exact e4, ⟨q_hs_at, fun i v hv => ?_⟩, by rw [q_hs_ix (by omega)]; exact e7, fun i v hv => by rw [mv]; exact e8 i v hv⟩
  rw [mv]
  have e9 := e6 (i + 1) v (by rw [e]; exact hv)
  rw [e, List.length_cons] at e9
  show q_mw (aB A) (m_get H (332 + 83 * (t.length - 1 - i))) v
  rw [show t.length - 1 - i = t.length + 1 - 1 - (i + 1) by omega]
  exact e9
theorem q_RM_dropK {A : SA} {H : QH} {w : SW} {t : List SW} (h : q_RM A H) (e : aK A = w :: t) : q_RM (aSK A t) (q_hs H 165 2 (nI t.length)) := by
  obtain ⟨⟨e1, e2⟩, e3, e4, ⟨e5, e6⟩, e7, e8⟩ := h
  have mv : ∀ r, m_get (q_hs H 165 2 (nI t.length)) r = m_get H r := fun r => m_get_of (q_hs_ne (by omega)) r
  refine ⟨⟨by rw [q_hs_ix (by omega)]; exact e1, fun j hj => by rw [q_hs_ne (by omega)]; exact e2 j hj⟩, q_RM_fld e3 (Or.inr rfl), by rw [mv]; exact e4, ⟨by rw [q_hs_ix (by omega)]; exact e5, fun i v hv => by rw [mv]; exact e6 i v hv⟩, q_hs_at, fun i v hv => ?_⟩
  rw [mv]
  have e9 := e8 (i + 1) v (by rw [e]; exact hv)
  rw [e, List.length_cons] at e9
  show q_mw (aB A) (m_get H (166 + 83 * (t.length - 1 - i))) v
  rw [show t.length - 1 - i = t.length + 1 - 1 - (i + 1) by omega]
  exact e9
theorem mw_ov {B : SB} {u v w w' : SW} (hs : q_sB B) (h : q_mw B u w) (h' : q_mw B v w') : z_fr B (z_ov u v) v := fun j hj => by
  unfold z_ov
  by_cases c : j < 83
  · rw [if_pos c]
    have a1 := h.2 (j - 79) (by omega) (by omega)
    have a2 := h'.2 (j - 79) (by omega) (by omega)
    rw [show 79 + (j - 79) = j by omega] at a1 a2
    rw [a1, a2]
  · rw [if_neg c]
theorem two_undo (sx : QX) (d n : Nat) (A : SA) (hA : q_sA n A) : q_two sx d 70 151 [] A n := by
  have hA' := hA
  obtain ⟨-, hs, hv, -, -, l8, l2⟩ := hA'
  cases e : aU A with
  | nil =>
    refine two_same hA (-2) (fun H hR => (b_X6_undo_0 sx (d + 39) H).trans ?_) (fun H hR => (b_X7_undo_0 sx (d + 39) H).trans ?_)
    · have hp := hR.2.2.2.1
      rw [e] at hp
      rw [q_pop8_no sx (d + 36) H _ hp]
      rfl
    · have hp := hR.2.2.2.1.1
      rw [e] at hp
      rw [hp]
      rfl
  | cons w t =>
    refine ⟨nI t.length, aSU (aSW A w) t, q_sA_mono (sA_drop hA e) (by omega), fun H hR => ?_, fun H hR => ?_⟩
    · obtain ⟨⟨e1, e2⟩, e3, e4, e5, e6⟩ := hR
      rw [e] at e5
      obtain ⟨H1, r, h1, h2, o⟩ := q_pop8 sx (d + 36) H _ w t hs e5
      refine ⟨H1, (b_X6_undo_0 sx (d + 39) H).trans ?_, ⟨⟨by rw [o 1 (by omega)]; exact e1, fun j hj => by rw [o 2 (by omega)]; exact e2 j hj⟩, q_rB_of e3 (fun a ha => o a (by omega)), h1, h2, q_pile_of2 e6 (fun a q1 q2 => o a (by omega))⟩, fun a ha => o a (by omega)⟩
      rw [r, q_cIs]
      obtain ⟨x, -, -, hz, -⟩ := h2
      rw [hz]
      rfl
    · have hR2 := q_RM_dropU hR e
      have hl : t.length ≤ 7 := by rw [e, List.length_cons] at l8; omega
      have h9 : q_mw (aB A) (m_get (q_hs H 165 1 (nI t.length)) (332 + 83 * t.length)) w := by
        have h8 := hR.2.2.2.1.2 0 w (by rw [e]; rfl)
        rw [e, List.length_cons] at h8
        rw [m_get_of (q_hs_ne (by omega))]
        exact h8
      have hA2 : q_sA n (aSU A t) := by
        obtain ⟨k1, k2, k3, k4, k5, k6, k7⟩ := sA_drop hA e
        exact ⟨k1, k2, hv, k4, k5, k6, k7⟩
      have hR3 := q_RM_w (v := w) hA2 hR2 (mw_ov hs h9 hR2.2.2.1) (ag_tr (ag_ov hs _ _) h9.1)
      refine ⟨_, (b_X7_undo_0 sx (d + 39) H).trans ?_, hR3, fun a ha => by rw [m_put_ne _ _ _ (by omega), q_hs_ne (by omega)]⟩
      have e5 := hR.2.2.2.1.1
      rw [e, List.length_cons] at e5
      rw [e5, pk_sub (by omega), Nat.add_sub_cancel, q_hs_at]
      simp (disch := omega) only [Bool.cond_decide, nI_add, pk_mul, q_inbN, q_cl_nI, q_ltN, q_leN, q_eqN, q_ifT, q_ifF, q_cIs, q_cVs, decide_false, decide_true, Bool.not_false, Bool.not_true, cond_true, cond_false, ne_eq, not_false_eq_true, not_true_eq_false, if_true, if_false]
      rw [m_copy sx _ _ 0 _ (by omega) (by omega) (by omega), q_cVs, m_put_ne _ _ _ (by omega), q_hs_at]
theorem two_keep (sx : QX) (d n : Nat) (A : SA) (hA : q_sA n A) : q_two sx d 82 174 [] A n := by
  have hA' := hA
  obtain ⟨h1, hs, hv, h4, h5, l8, l2⟩ := hA'
  have hs' := hs
  obtain ⟨-, -, ⟨g5, g6⟩, -⟩ := hs'
  by_cases c : (aK A).length = 2
  · refine two_same hA (-3) (fun H hR => (b_X6_keep_0 sx (d + 39) H).trans ?_) (fun H hR => (b_X7_keep_0 sx (d + 39) H).trans ?_)
    · obtain ⟨x, -, -, hz, -⟩ := hR.2.2.2.2
      rw [hz, c]
      rfl
    · rw [hR.2.2.2.2.1, c]
      rfl
  · have l1 : (aK A).take 1 = aK A := List.take_of_length_le (by omega)
    refine ⟨nI ((aK A).length + 1), aSK A (aW A :: aK A), ⟨h1, hs, vw_mono hv (by omega), fun w hw => vw_mono (h4 w hw) (by omega), fun w hw => ?_, l8, ?_⟩, fun H hR => ?_, fun H hR => ?_⟩
    · rcases List.mem_cons.mp (show w ∈ aW A :: aK A from hw) with e | e
      · rw [e]; exact vw_mono hv (by omega)
      · exact vw_mono (h5 w e) (by omega)
    · show (aW A :: aK A).length ≤ 2
      rw [List.length_cons]
      omega
    · obtain ⟨⟨e1, e2⟩, e3, e4, e5, e6⟩ := hR
      obtain ⟨H1, r, p1, o⟩ := q_push2 sx (d + 36) H _ _ hs e6
      rw [l1] at p1
      refine ⟨H1, (b_X6_keep_0 sx (d + 39) H).trans ?_, ⟨⟨by rw [o 1 (by omega)]; exact e1, fun j hj => by rw [o 2 (by omega)]; exact e2 j hj⟩, q_rB_of e3 (fun a ha => o a (by omega)), ?_, q_pile_of8 e5 (fun a q1 q2 => o a (by omega)), q_pile_ag p1 e4⟩, fun a ha => o a (by omega)⟩
      · obtain ⟨x, -, -, hz, -⟩ := e6
        rw [hz]
        simp (disch := omega) only [Bool.cond_decide, nI_add, pk_mul, q_inbN, q_cl_nI, q_ltN, q_leN, q_eqN, q_ifT, q_ifF, q_cIs, q_cVs, decide_false, decide_true, Bool.not_false, Bool.not_true, cond_true, cond_false, ne_eq, not_false_eq_true, not_true_eq_false, if_true, if_false]
        rw [r, q_cVs]
        obtain ⟨x, -, -, hz, -⟩ := p1
        rw [hz]
        rfl
      · show q_ag (aB A) (c_get H1 22) (aW A)
        rw [c_get_of (H := H) (H' := H1) (fun a q1 q2 => o a (by omega))]
        exact e4
    · obtain ⟨⟨e1, e2⟩, e3, e4, ⟨e5, e6⟩, e7, e8⟩ := hR
      have lowm : ∀ w r, m_get (q_hs (m_put H (166 + 83 * (aK A).length) w) 165 2 (nI ((aK A).length + 1))) r = m_get (m_put H (166 + 83 * (aK A).length) w) r := fun w r => m_get_of (q_hs_ne (by omega)) r
      have lo : ∀ w r j, r + j < 166 + 83 * (aK A).length → m_get (m_put H (166 + 83 * (aK A).length) w) r j = m_get H r j := fun w r j hj => m_put_lt _ _ _ hj
      have hi : ∀ r j, 332 ≤ r + j → m_get (m_put H (166 + 83 * (aK A).length) (z_ov (m_get H 0) (m_get H (166 + 83 * (aK A).length)))) r j = m_get H r j := fun r j hj => by
        unfold m_get m_put z_ov
        rw [if_pos (by omega), if_neg (by omega)]
        exact congrArg (H 166) (by omega)
      refine ⟨q_hs (m_put H (166 + 83 * (aK A).length) (z_ov (m_get H 0) (m_get H (166 + 83 * (aK A).length)))) 165 2 (nI ((aK A).length + 1)), (b_X7_keep_0 sx (d + 39) H).trans ?_, ⟨⟨by rw [q_hs_ix (by omega), m_put_ne _ _ _ (by omega)]; exact e1, fun j hj => by rw [q_hs_ne (by omega), m_put_ne _ _ _ (by omega)]; exact e2 j hj⟩, q_RM_fld (q_mB_put e3) (Or.inr rfl), ?_, ⟨by rw [q_hs_ix (by omega), m_put_ne _ _ _ (by omega)]; exact e5, fun i w hw => ?_⟩, q_hs_at, fun i w hw => ?_⟩, fun a ha => by rw [q_hs_ne (by omega), m_put_ne _ _ _ (by omega)]⟩
      · rw [e7]
        simp (disch := omega) only [Bool.cond_decide, nI_add, pk_mul, q_inbN, q_cl_nI, q_ltN, q_leN, q_eqN, q_ifT, q_ifF, q_cIs, q_cVs, decide_false, decide_true, Bool.not_false, Bool.not_true, cond_true, cond_false, ne_eq, not_false_eq_true, not_true_eq_false, if_true, if_false]
        rw [m_copy sx _ 0 _ _ (by omega) (by omega) (by omega), q_cVs, m_put_ne _ _ _ (by omega), e7, nI_add, q_hs_at]
      · rw [lowm]
        exact ⟨fun j (hj : j < 79 + sNs (aB A)) => (lo _ 0 j (by omega)).trans (e4.1 j hj), fun s q1 q2 => (lo _ 0 _ (by omega)).trans (e4.2 s q1 q2)⟩
      · rw [lowm]
        have e9 := e6 i w hw
        exact ⟨fun j hj => (hi _ j (by omega)).trans (e9.1 j hj), fun s q1 q2 => (hi _ _ (by omega)).trans (e9.2 s q1 q2)⟩
      · rw [lowm]
        have hw2 : (aW A :: aK A)[i]? = some w := hw
        show q_mw (aB A) (m_get _ (166 + 83 * ((aW A :: aK A).length - 1 - i))) w
        rw [List.length_cons]
        cases i with
        | zero =>
          have e : aW A = w := by simpa using hw2
          subst e
          rw [show (aK A).length + 1 - 1 - 0 = (aK A).length by omega, m_get_put]
          exact ⟨ag_tr (ag_ov hs _ _) e4.1, fun s q1 q2 => by
            have e9 := e4.2 s q1 q2
            unfold z_ov
            rw [if_pos (by omega)]
            exact e9⟩
        | succ i =>
          rw [List.getElem?_cons_succ] at hw2
          have hlen : i < (aK A).length := by
            by_cases q : i < (aK A).length
            · exact q
            · rw [List.getElem?_eq_none (by omega)] at hw2; cases hw2
          have e9 := e8 i w hw2
          rw [show (aK A).length + 1 - 1 - (i + 1) = (aK A).length - 1 - i by omega]
          exact ⟨fun j hj => (lo _ _ j (by omega)).trans (e9.1 j hj), fun s q1 q2 => (lo _ _ _ (by omega)).trans (e9.2 s q1 q2)⟩
theorem two_back (sx : QX) (d n : Nat) (A : SA) (hA : q_sA n A) : q_two sx d 83 175 [] A n := by
  have hA' := hA
  obtain ⟨h1, hs, hv, h4, h5, l8, l2⟩ := hA'
  cases e : aK A with
  | nil =>
    refine two_same hA (-2) (fun H hR => (b_X6_back_0 sx (d + 39) H).trans ?_) (fun H hR => (b_X7_back_0 sx (d + 39) H).trans ?_)
    · have hp := hR.2.2.2.2
      rw [e] at hp
      rw [q_pop2_no sx (d + 36) H _ hp]
      rfl
    · have hp := hR.2.2.2.2.1
      rw [e] at hp
      rw [hp]
      rfl
  | cons w t =>
    have hl : t.length ≤ 1 := by rw [e, List.length_cons] at l2; omega
    have hAt : q_sA (n + 1) (aSU (aSK (aSW A w) t) []) := by
      refine q_sA_mono ⟨h1, hs, h5 w (by rw [e]; exact List.mem_cons_self), fun v hv => (by cases hv), fun v hv => h5 v (by rw [e]; exact List.mem_cons_of_mem _ hv), Nat.zero_le _, ?_⟩ (show n ≤ n + 1 by omega)
      show t.length ≤ 2
      omega
    refine ⟨nI t.length, aSU (aSK (aSW A w) t) [], hAt, fun H hR => ?_, fun H hR => ?_⟩
    · obtain ⟨⟨e1, e2⟩, e3, e4, e5, e6⟩ := hR
      rw [e] at e6
      obtain ⟨H1, r, p1, p2, o⟩ := q_pop2 sx (d + 36) H _ w t hs e6
      have e5' : q_pile H1 36 8 (aB A) (aU A) := q_pile_of8 e5 (fun a q1 q2 => o a (by omega))
      obtain ⟨rc, pc⟩ := q_clear8 sx (d + 38) H1 _ _ e5'
      refine ⟨q_hs H1 36 2 (nI 0), (b_X6_back_0 sx (d + 39) H).trans ?_, ⟨⟨by rw [q_hs_ne (by omega), o 1 (by omega)]; exact e1, fun j hj => by rw [q_hs_ne (by omega), o 2 (by omega)]; exact e2 j hj⟩, q_rB_of e3 (fun a ha => by rw [q_hs_ne (by omega), o a (by omega)]), ?_, pc, q_pile_of2 p2 (fun a q1 q2 => q_hs_ne (by omega))⟩, fun a ha => by rw [q_hs_ne (by omega), o a (by omega)]⟩
      · rw [r, q_cIs]
        simp (disch := omega) only [Bool.cond_decide, nI_add, pk_mul, q_inbN, q_cl_nI, q_ltN, q_leN, q_eqN, q_ifT, q_ifF, q_cIs, q_cVs, decide_false, decide_true, Bool.not_false, Bool.not_true, cond_true, cond_false, ne_eq, not_false_eq_true, not_true_eq_false, if_true, if_false]
        rw [rc, q_cVs, q_hs_ne (by omega)]
        obtain ⟨x, -, -, hz, -⟩ := p2
        rw [hz]
      · rw [c_get_of (H := H1) (fun a q1 q2 => q_hs_ne (by omega))]
        exact p1
    · have hR2 := q_RM_dropK hR e
      have h9 : q_mw (aB A) (m_get (q_hs H 165 2 (nI t.length)) (166 + 83 * t.length)) w := by
        have h8 := hR.2.2.2.2.2 0 w (by rw [e]; rfl)
        rw [e, List.length_cons] at h8
        rw [m_get_of (q_hs_ne (by omega))]
        exact h8
      have hA2 : q_sA n (aSK A t) := ⟨h1, hs, hv, h4, fun v hv => h5 v (by rw [e]; exact List.mem_cons_of_mem _ hv), l8, show t.length ≤ 2 by omega⟩
      have hR3 := q_RM_w (v := w) hA2 hR2 (mw_ov hs h9 hR2.2.2.1) (ag_tr (ag_ov hs _ _) h9.1)
      obtain ⟨⟨f1, f2⟩, f3, f4, ⟨f5, f6⟩, f7, f8⟩ := hR3
      refine ⟨q_hs _ 165 1 (nI 0), (b_X7_back_0 sx (d + 39) H).trans ?_, ⟨⟨(q_hs_ix (by omega)).trans f1, fun j hj => (congrFun (q_hs_ne (by omega)) j).trans (f2 j hj)⟩, q_RM_fld f3 (Or.inl rfl), ?_, ⟨q_hs_at, fun i v hv => (by cases hv)⟩, (q_hs_ix (by omega)).trans f7, fun i v hv => ?_⟩, fun a ha => by rw [q_hs_ne (by omega), m_put_ne _ _ _ (by omega), q_hs_ne (by omega)]⟩
      · have e5 := hR.2.2.2.2.1
        rw [e, List.length_cons] at e5
        rw [e5, pk_sub (by omega), Nat.add_sub_cancel, q_hs_at]
        simp (disch := omega) only [Bool.cond_decide, nI_add, pk_mul, q_inbN, q_cl_nI, q_ltN, q_leN, q_eqN, q_ifT, q_ifF, q_cIs, q_cVs, decide_false, decide_true, Bool.not_false, Bool.not_true, cond_true, cond_false, ne_eq, not_false_eq_true, not_true_eq_false, if_true, if_false]
        rw [m_copy sx _ _ 0 _ (by omega) (by omega) (by omega), q_cVs, q_hs_ix (by omega), m_put_ne _ _ _ (by omega), q_hs_at]
      · rw [m_get_of (q_hs_ne (by omega))]
        exact f4
      · rw [m_get_of (q_hs_ne (by omega))]
        exact f8 i v hv
theorem two_best (sx : QX) (d n : Nat) (A : SA) (hA : q_sA n A) (hn : n < 900000) (x : Int32) : q_two sx d 72 156 [vi x] A n := by
  have hA' := hA
  obtain ⟨-, hs, hv, -⟩ := hA'
  have hs' := hs
  obtain ⟨⟨g1, g2⟩, ⟨g3, g4⟩, ⟨g5, g6⟩, -⟩ := hs'
  rcases q_inb_cases x (sNb (aB A)) (by omega) with ⟨e, -⟩ | ⟨b, h2, rfl⟩
  · refine two_same hA (-1) (fun H hR => (b_X6_best_0 sx (d + 39) x H).trans ?_) (fun H hR => (b_X7_best_0 sx (d + 39) x H).trans ?_)
    · rw [q_isB sx _ _ x H hR.2.1.1 (by omega), e]; rfl
    · rw [m_isB sx _ _ x H hR.2.1.1 (by omega) (by omega), e]; rfl
  · by_cases hin : aW A (7 + b) = nI 0
    · refine two_same hA (z_code (z_best (aB A) (aW A) b)) (fun H hR => (b_X6_best_0 sx (d + 39) _ H).trans ?_) (fun H hR => (b_X7_best_0 sx (d + 39) _ H).trans ?_)
      · rw [q_isB sx _ _ _ H hR.2.1.1 (by omega)]
        simp (disch := omega) only [Bool.cond_decide, nI_add, pk_mul, q_inbN, q_cl_nI, q_ltN, q_leN, q_eqN, q_ifT, q_ifF, q_cIs, q_cVs, decide_false, decide_true, Bool.not_false, Bool.not_true, cond_true, cond_false, ne_eq, not_false_eq_true, not_true_eq_false, if_true, if_false, z01]
        rw [q_isIn sx _ 22 b _ H (by omega), hR.2.2.1 (7 + b) (by omega), decide_eq_true hin]
        simp (disch := omega) only [Bool.cond_decide, nI_add, pk_mul, q_inbN, q_cl_nI, q_ltN, q_leN, q_eqN, q_ifT, q_ifF, q_cIs, q_cVs, decide_false, decide_true, Bool.not_false, Bool.not_true, cond_true, cond_false, ne_eq, not_false_eq_true, not_true_eq_false, if_true, if_false, z01]
        rw [q_dearest sx _ 22 b n H (aB A) hR.2.1 hs (q_hdA hA hR) (by omega) h2, ag_best hs hR.2.2.1 h2]
        rfl
      · rw [m_isB sx _ _ _ H hR.2.1.1 (by omega) (by omega)]
        simp (disch := omega) only [Bool.cond_decide, nI_add, pk_mul, q_inbN, q_cl_nI, q_ltN, q_leN, q_eqN, q_ifT, q_ifF, q_cIs, q_cVs, decide_false, decide_true, Bool.not_false, Bool.not_true, cond_true, cond_false, ne_eq, not_false_eq_true, not_true_eq_false, if_true, if_false, z01]
        rw [m_inBed sx _ 0 b H (aB A) hR.2.1 hs (by omega) (by omega), z_inT h2, hR.2.2.1.1 (7 + b) (by omega), decide_eq_true hin]
        simp (disch := omega) only [Bool.cond_decide, nI_add, pk_mul, q_inbN, q_cl_nI, q_ltN, q_leN, q_eqN, q_ifT, q_ifF, q_cIs, q_cVs, decide_false, decide_true, Bool.not_false, Bool.not_true, cond_true, cond_false, ne_eq, not_false_eq_true, not_true_eq_false, if_true, if_false, z01]
        rw [m_bestOf sx _ 0 b H (aB A) hR.2.1 hs (by omega) h2, ag_best hs hR.2.2.1.1 h2]
        rfl
    · refine two_same hA (-2) (fun H hR => (b_X6_best_0 sx (d + 39) _ H).trans ?_) (fun H hR => (b_X7_best_0 sx (d + 39) _ H).trans ?_)
      · rw [q_isB sx _ _ _ H hR.2.1.1 (by omega)]
        simp (disch := omega) only [Bool.cond_decide, nI_add, pk_mul, q_inbN, q_cl_nI, q_ltN, q_leN, q_eqN, q_ifT, q_ifF, q_cIs, q_cVs, decide_false, decide_true, Bool.not_false, Bool.not_true, cond_true, cond_false, ne_eq, not_false_eq_true, not_true_eq_false, if_true, if_false, z01]
        rw [q_isIn sx _ 22 b _ H (by omega), hR.2.2.1 (7 + b) (by omega), decide_eq_false hin]
        rfl
      · rw [m_isB sx _ _ _ H hR.2.1.1 (by omega) (by omega)]
        simp (disch := omega) only [Bool.cond_decide, nI_add, pk_mul, q_inbN, q_cl_nI, q_ltN, q_leN, q_eqN, q_ifT, q_ifF, q_cIs, q_cVs, decide_false, decide_true, Bool.not_false, Bool.not_true, cond_true, cond_false, ne_eq, not_false_eq_true, not_true_eq_false, if_true, if_false, z01]
        rw [m_inBed sx _ 0 b H (aB A) hR.2.1 hs (by omega) (by omega), z_inT h2, hR.2.2.1.1 (7 + b) (by omega), decide_eq_false hin]
        rfl
