/-! count, uses, said, harm -/
theorem z_hours4 {B : SB} {v w : SW} (hs : q_sB B) (h : q_mw B v w) : v 79 + v 80 + v 81 + v 82 = z_fold (sNs B) (fun s a => a + w (79 + s)) (nI 0) := by
  obtain ⟨-, -, ⟨g5, g6⟩, -⟩ := hs
  obtain ⟨h1, h2⟩ := h
  have z : nI 0 = (0 : Int32) := rfl
  rcases (show sNs B = 1 ∨ sNs B = 2 ∨ sNs B = 3 ∨ sNs B = 4 by omega) with e | e | e | e
  · have a0 := h1 79 (by omega)
    have a1 := h2 1 (by omega) (by omega)
    have a2 := h2 2 (by omega) (by omega)
    have a3 := h2 3 (by omega) (by omega)
    rw [e, a0, show v 80 = nI 0 from a1, show v 81 = nI 0 from a2, show v 82 = nI 0 from a3]
    show _ = nI 0 + w 79
    rw [z, Int32.add_zero, Int32.add_zero, Int32.add_zero, Int32.zero_add]
  · have a0 := h1 79 (by omega)
    have a1 := h1 80 (by omega)
    have a2 := h2 2 (by omega) (by omega)
    have a3 := h2 3 (by omega) (by omega)
    rw [e, a0, a1, show v 81 = nI 0 from a2, show v 82 = nI 0 from a3]
    show _ = nI 0 + w 79 + w 80
    rw [z, Int32.add_zero, Int32.add_zero, Int32.zero_add]
  · have a0 := h1 79 (by omega)
    have a1 := h1 80 (by omega)
    have a2 := h1 81 (by omega)
    have a3 := h2 3 (by omega) (by omega)
    rw [e, a0, a1, a2, show v 82 = nI 0 from a3]
    show _ = nI 0 + w 79 + w 80 + w 81
    rw [z, Int32.add_zero, Int32.zero_add]
  · have a0 := h1 79 (by omega)
    have a1 := h1 80 (by omega)
    have a2 := h1 81 (by omega)
    have a3 := h1 82 (by omega)
    rw [e, a0, a1, a2, a3]
    show _ = nI 0 + w 79 + w 80 + w 81 + w 82
    rw [z, Int32.zero_add]
theorem two_count (sx : QX) (d n : Nat) (A : SA) (hA : q_sA n A) (x : Int32) : q_two sx d 84 176 [vi x] A n := by
  have hA' := hA
  obtain ⟨h1, hs, hv, h4, h5, l8, l2⟩ := hA'
  have hs' := hs
  obtain ⟨⟨g1, g2⟩, ⟨g3, g4⟩, ⟨g5, g6⟩, -⟩ := hs'
  have hc := fun H => b_X6_count_0 sx (d + 39) x H
  have hm := fun H => b_X7_count_0 sx (d + 39) x H
  simp only [Bool.cond_decide] at hc hm
  have ht : ∀ H, q_RC A H → ∀ y, q_CL (q_tb sx) q_kpt (d + 39) (22, ([vr 5 22, vi y], H)) = rI (nI (z_tally (aB A) (aW A) y)) H := fun H hR y => by
    rw [q_tally sx (d + 37) 22 y H (aB A) hR.2.1 hs, ag_tally hs hR.2.2.1]
  have htm : ∀ H, q_RM A H → ∀ y, q_CL (q_tb sx) q_kpt (d + 39) (171, ([vr 9 165, vn 0, vi y], H)) = rI (nI (z_tally (aB A) (aW A) y)) H := fun H hR y => by
    rw [m_manyHow sx (d + 38) 0 y H (aB A) hR.2.1 hs (by omega), ag_tally hs hR.2.2.1.1]
  by_cases c0 : x = nI 0
  · subst c0
    exact two_same hA (nI (sNb (aB A))) (fun H hR => (hc H).trans (by rw [if_pos rfl, hR.2.1.1])) (fun H hR => (hm H).trans (by rw [if_pos rfl, hR.2.1.1]))
  by_cases c1 : x = nI 1
  · subst c1
    exact two_same hA (nI (sNw (aB A))) (fun H hR => (hc H).trans (by rw [if_neg c0, if_pos rfl, hR.2.1.2.1])) (fun H hR => (hm H).trans (by rw [if_neg c0, if_pos rfl, hR.2.1.2.1]))
  by_cases c2 : x = nI 2
  · subst c2
    exact two_same hA (nI (sNs (aB A))) (fun H hR => (hc H).trans (by rw [if_neg c0, if_neg c1, if_pos rfl, hR.2.1.2.2.1])) (fun H hR => (hm H).trans (by rw [if_neg c0, if_neg c1, if_pos rfl, hR.2.1.2.2.1]))
  by_cases c3 : x = nI 3
  · subst c3
    refine two_same hA (aW A 0) (fun H hR => (hc H).trans ?_) (fun H hR => (hm H).trans ?_)
    · rw [if_neg c0, if_neg c1, if_neg c2, if_pos rfl]
      have e := hR.2.2.1 0 (by omega)
      rw [show H 22 1 = aW A 0 from e]
    · rw [if_neg c0, if_neg c1, if_neg c2, if_pos rfl]
      have e := hR.2.2.1.1 0 (by omega)
      rw [m_get0] at e
      simp (disch := omega) only [Bool.cond_decide, nI_add, pk_mul, q_inbN, q_cl_nI, q_ltN, q_leN, q_eqN, q_ifT, q_ifF, q_cIs, q_cVs, decide_false, decide_true, Bool.not_false, Bool.not_true, cond_true, cond_false, ne_eq, not_false_eq_true, not_true_eq_false, if_true, if_false, e]
  by_cases c4 : x = nI 4
  · subst c4
    refine two_same hA (nI (z_tally (aB A) (aW A) (nI 0))) (fun H hR => (hc H).trans ?_) (fun H hR => (hm H).trans ?_)
    · rw [if_neg c0, if_neg c1, if_neg c2, if_neg c3, if_pos rfl, ht H hR]; rfl
    · rw [if_neg c0, if_neg c1, if_neg c2, if_neg c3, if_pos rfl, htm H hR]; rfl
  by_cases c5 : x = nI 5
  · subst c5
    refine two_same hA (nI (z_tally (aB A) (aW A) (nI 1))) (fun H hR => (hc H).trans ?_) (fun H hR => (hm H).trans ?_)
    · rw [if_neg c0, if_neg c1, if_neg c2, if_neg c3, if_neg c4, if_pos rfl, ht H hR]; rfl
    · rw [if_neg c0, if_neg c1, if_neg c2, if_neg c3, if_neg c4, if_pos rfl, htm H hR]; rfl
  by_cases c6 : x = nI 6
  · subst c6
    refine two_same hA (nI (z_tally (aB A) (aW A) (nI 2))) (fun H hR => (hc H).trans ?_) (fun H hR => (hm H).trans ?_)
    · rw [if_neg c0, if_neg c1, if_neg c2, if_neg c3, if_neg c4, if_neg c5, if_pos rfl, ht H hR]; rfl
    · rw [if_neg c0, if_neg c1, if_neg c2, if_neg c3, if_neg c4, if_neg c5, if_pos rfl, htm H hR]; rfl
  by_cases c7 : x = nI 7
  · subst c7
    refine two_same hA (nI (z_tally (aB A) (aW A) (nI 3))) (fun H hR => (hc H).trans ?_) (fun H hR => (hm H).trans ?_)
    · rw [if_neg c0, if_neg c1, if_neg c2, if_neg c3, if_neg c4, if_neg c5, if_neg c6, if_pos rfl, ht H hR]; rfl
    · rw [if_neg c0, if_neg c1, if_neg c2, if_neg c3, if_neg c4, if_neg c5, if_neg c6, if_pos rfl, htm H hR]; rfl
  by_cases c8 : x = nI 8
  · subst c8
    refine two_same hA (z_fold (sNs (aB A)) (fun s a => a + aW A (79 + s)) (nI 0)) (fun H hR => (hc H).trans ?_) (fun H hR => (hm H).trans ?_)
    · rw [if_neg c0, if_neg c1, if_neg c2, if_neg c3, if_neg c4, if_neg c5, if_neg c6, if_neg c7, if_pos rfl, q_hoursLeft sx (d + 37) 22 H (aB A) hR.2.1 hs]
      rw [z_fold_congr (sNs (aB A)) _ (fun s a => a + aW A (79 + s)) _ (fun s a h => by rw [hR.2.2.1 (79 + s) (by omega)])]
      rfl
    · rw [if_neg c0, if_neg c1, if_neg c2, if_neg c3, if_neg c4, if_neg c5, if_neg c6, if_neg c7, if_pos rfl]
      have e := z_hours4 hs hR.2.2.1
      simp only [m_get0] at e
      simp (disch := omega) only [Bool.cond_decide, nI_add, pk_mul, q_inbN, q_cl_nI, q_ltN, q_leN, q_eqN, q_ifT, q_ifF, q_cIs, q_cVs, decide_false, decide_true, Bool.not_false, Bool.not_true, cond_true, cond_false, ne_eq, not_false_eq_true, not_true_eq_false, if_true, if_false, e]
  by_cases c9 : x = nI 9
  · subst c9
    refine two_same hA (nI (aU A).length) (fun H hR => (hc H).trans ?_) (fun H hR => (hm H).trans ?_)
    · rw [if_neg c0, if_neg c1, if_neg c2, if_neg c3, if_neg c4, if_neg c5, if_neg c6, if_neg c7, if_neg c8, if_pos rfl]
      obtain ⟨x, -, -, hz, -⟩ := hR.2.2.2.1
      rw [hz]
    · rw [if_neg c0, if_neg c1, if_neg c2, if_neg c3, if_neg c4, if_neg c5, if_neg c6, if_neg c7, if_neg c8, if_pos rfl, hR.2.2.2.1.1]
  by_cases c10 : x = nI 10
  · subst c10
    refine two_same hA (nI (aK A).length) (fun H hR => (hc H).trans ?_) (fun H hR => (hm H).trans ?_)
    · rw [if_neg c0, if_neg c1, if_neg c2, if_neg c3, if_neg c4, if_neg c5, if_neg c6, if_neg c7, if_neg c8, if_neg c9, if_pos rfl]
      obtain ⟨x, -, -, hz, -⟩ := hR.2.2.2.2
      rw [hz]
    · rw [if_neg c0, if_neg c1, if_neg c2, if_neg c3, if_neg c4, if_neg c5, if_neg c6, if_neg c7, if_neg c8, if_neg c9, if_pos rfl, hR.2.2.2.2.1]
  by_cases c11 : x = nI 11
  · subst c11
    refine two_same hA (nI (aL A)) (fun H hR => (hc H).trans ?_) (fun H hR => (hm H).trans ?_)
    · rw [if_neg c0, if_neg c1, if_neg c2, if_neg c3, if_neg c4, if_neg c5, if_neg c6, if_neg c7, if_neg c8, if_neg c9, if_neg c10, if_pos rfl, hR.1.1]
    · rw [if_neg c0, if_neg c1, if_neg c2, if_neg c3, if_neg c4, if_neg c5, if_neg c6, if_neg c7, if_neg c8, if_neg c9, if_neg c10, if_pos rfl, hR.1.1]
  refine two_same hA (-1) (fun H hR => (hc H).trans ?_) (fun H hR => (hm H).trans ?_)
  · rw [if_neg c0, if_neg c1, if_neg c2, if_neg c3, if_neg c4, if_neg c5, if_neg c6, if_neg c7, if_neg c8, if_neg c9, if_neg c10, if_neg c11]
  · rw [if_neg c0, if_neg c1, if_neg c2, if_neg c3, if_neg c4, if_neg c5, if_neg c6, if_neg c7, if_neg c8, if_neg c9, if_neg c10, if_neg c11]
/-! uses -/
def z_ustep (B : SB) (w : SW) (b u : Nat) (m : Int32) : Int32 := if z_else B w b (nI u) = true then m else m ||| (nI 1 <<< (nI u &&& nI 31))
theorem ag_ustep {B : SB} {v w : SW} {b : Nat} (hs : q_sB B) (h : q_ag B v w) (hb : b < sNb B) : z_ustep B v b = z_ustep B w b := by
  funext u m
  unfold z_ustep
  rw [ag_else hs h hb]
theorem e31 : (31 : Int32) = nI 31 := rfl
theorem two_uses (sx : QX) (d n : Nat) (A : SA) (hA : q_sA n A) (x : Int32) : q_two sx d 76 164 [vi x] A n := by
  have hA' := hA
  obtain ⟨-, hs, hv, -⟩ := hA'
  have hs' := hs
  obtain ⟨⟨g1, g2⟩, ⟨g3, g4⟩, ⟨g5, g6⟩, -⟩ := hs'
  rcases q_inb_cases x (sNb (aB A)) (by omega) with ⟨e, -⟩ | ⟨b, h2, rfl⟩
  · refine two_same hA (-1) (fun H hR => (b_X6_uses_0 sx (d + 39) x H).trans ?_) (fun H hR => (b_X7_uses_0 sx (d + 39) x H).trans ?_)
    · rw [q_isB sx _ _ x H hR.2.1.1 (by omega), e]; rfl
    · rw [m_isB sx _ _ x H hR.2.1.1 (by omega) (by omega), e]; rfl
  · obtain ⟨m, hm, em⟩ := (hv.2.1 b h2).1
    by_cases c : m < 2
    · refine two_same hA (z_fold 8 (z_ustep (aB A) (aW A) b) (nI 0)) (fun H hR => (b_X6_uses_0 sx (d + 39) _ H).trans ?_) (fun H hR => (b_X7_uses_0 sx (d + 39) _ H).trans ?_)
      · rw [q_isB sx _ _ _ H hR.2.1.1 (by omega)]
        simp (disch := omega) only [Bool.cond_decide, nI_add, pk_mul, q_inbN, q_cl_nI, q_ltN, q_leN, q_eqN, q_ifT, q_ifF, q_cIs, q_cVs, decide_false, decide_true, Bool.not_false, Bool.not_true, cond_true, cond_false, ne_eq, not_false_eq_true, not_true_eq_false, if_true, if_false, z01]
        rw [q_isIn sx (d + 37) 22 b _ H (by omega), hR.2.2.1 (7 + b) (by omega), em]
        simp (disch := omega) only [Bool.cond_decide, nI_add, pk_mul, q_inbN, q_cl_nI, q_ltN, q_leN, q_eqN, q_ifT, q_ifF, q_cIs, q_cVs, decide_false, decide_true, Bool.not_false, Bool.not_true, cond_true, cond_false, ne_eq, not_false_eq_true, not_true_eq_false, if_true, if_false]
        rw [decide_eq_false (show ¬ (m = 2) by omega)]
        simp (disch := omega) only [Bool.cond_decide, nI_add, pk_mul, q_inbN, q_cl_nI, q_ltN, q_leN, q_eqN, q_ifT, q_ifF, q_cIs, q_cVs, decide_false, decide_true, Bool.not_false, Bool.not_true, cond_true, cond_false, ne_eq, not_false_eq_true, not_true_eq_false, if_true, if_false, z01]
        rw [q_isIn sx _ 22 b _ H (by omega), hR.2.2.1 (7 + b) (by omega), em]
        simp (disch := omega) only [Bool.cond_decide, nI_add, pk_mul, q_inbN, q_cl_nI, q_ltN, q_leN, q_eqN, q_ifT, q_ifF, q_cIs, q_cVs, decide_false, decide_true, Bool.not_false, Bool.not_true, cond_true, cond_false, ne_eq, not_false_eq_true, not_true_eq_false, if_true, if_false, z01]
        have hl := z_loop 8 (fun u m => q_EV (q_tb sx) q_kpt (d + 40) 76 (41, ([(0, vr 8 0), (1, vn b), (2, vi m), (3, vn u)], ([], H)))) (z_ustep (aB A) (c_get H 22) b) (fun u m hu => by
          refine (b_X6_uses_41 sx (d + 39) (nI b) m (nI u) H).trans ?_
          rw [q_wouldCrack sx (d + 35) 22 b (nI u) H (aB A) hR.2.1 hs h2]
          unfold z_ustep
          cases z_else (aB A) (c_get H 22) b (nI u) with
          | true => simp (disch := omega) only [Bool.cond_decide, nI_add, pk_mul, q_inbN, q_cl_nI, q_ltN, q_leN, q_eqN, q_ifT, q_ifF, q_cIs, q_cVs, decide_false, decide_true, Bool.not_false, Bool.not_true, cond_true, cond_false, ne_eq, not_false_eq_true, not_true_eq_false, if_true, if_false, z01]
          | false => 
            simp (disch := omega) only [Bool.cond_decide, nI_add, pk_mul, q_inbN, q_cl_nI, q_ltN, q_leN, q_eqN, q_ifT, q_ifF, q_cIs, q_cVs, decide_false, decide_true, Bool.not_false, Bool.not_true, cond_true, cond_false, ne_eq, not_false_eq_true, not_true_eq_false, if_true, if_false, z01]
            rfl) (nI 0)
        refine hl.trans ?_
        rw [ag_ustep hs hR.2.2.1 h2]
        refine (b_X6_uses_41 sx (d + 39) (nI b) _ (nI 8) H).trans ?_
        simp (disch := omega) only [Bool.cond_decide, nI_add, pk_mul, q_inbN, q_cl_nI, q_ltN, q_leN, q_eqN, q_ifT, q_ifF, q_cIs, q_cVs, decide_false, decide_true, Bool.not_false, Bool.not_true, cond_true, cond_false, ne_eq, not_false_eq_true, not_true_eq_false, if_true, if_false]
      · rw [m_isB sx _ _ _ H hR.2.1.1 (by omega) (by omega)]
        have e9 := hR.2.2.1.1 (7 + b) (by omega)
        rw [m_get0, em] at e9
        simp (disch := omega) only [Bool.cond_decide, nI_add, pk_mul, q_inbN, q_cl_nI, q_ltN, q_leN, q_eqN, q_ifT, q_ifF, q_cIs, q_cVs, decide_false, decide_true, Bool.not_false, Bool.not_true, cond_true, cond_false, ne_eq, not_false_eq_true, not_true_eq_false, if_true, if_false, z01, e9]
        have hl := z_loop 8 (fun u m => q_EV (q_tb sx) q_kpt (d + 40) 164 (30, ([(0, vr 9 165), (1, vn b), (2, vi m), (3, vn u)], ([], H)))) (z_ustep (aB A) (m_get H 0) b) (fun u m hu => by
          refine (b_X7_uses_30 sx (d + 39) (nI b) m (nI u) H).trans ?_
          rw [m_isElse sx (d + 38) 0 b (nI u) H (aB A) hR.2.1 hs (by omega) h2]
          unfold z_ustep
          cases z_else (aB A) (m_get H 0) b (nI u) with
          | true =>
            simp (disch := omega) only [Bool.cond_decide, nI_add, pk_mul, q_inbN, q_cl_nI, q_ltN, q_leN, q_eqN, q_ifT, q_ifF, q_cIs, q_cVs, decide_false, decide_true, Bool.not_false, Bool.not_true, cond_true, cond_false, ne_eq, not_false_eq_true, not_true_eq_false, if_true, if_false, z01]
            rw [show nI 0 = (0 : Int32) from rfl, Int32.or_zero]
          | false =>
            simp (disch := omega) only [Bool.cond_decide, nI_add, pk_mul, q_inbN, q_cl_nI, q_ltN, q_leN, q_eqN, q_ifT, q_ifF, q_cIs, q_cVs, decide_false, decide_true, Bool.not_false, Bool.not_true, cond_true, cond_false, ne_eq, not_false_eq_true, not_true_eq_false, if_true, if_false, z01]
            rfl) (nI 0)
        refine hl.trans ?_
        rw [ag_ustep hs hR.2.2.1.1 h2]
        refine (b_X7_uses_30 sx (d + 39) (nI b) _ (nI 8) H).trans ?_
        simp (disch := omega) only [Bool.cond_decide, nI_add, pk_mul, q_inbN, q_cl_nI, q_ltN, q_leN, q_eqN, q_ifT, q_ifF, q_cIs, q_cVs, decide_false, decide_true, Bool.not_false, Bool.not_true, cond_true, cond_false, ne_eq, not_false_eq_true, not_true_eq_false, if_true, if_false]
    · refine two_same hA (-2) (fun H hR => (b_X6_uses_0 sx (d + 39) _ H).trans ?_) (fun H hR => (b_X7_uses_0 sx (d + 39) _ H).trans ?_)
      · rw [q_isB sx _ _ _ H hR.2.1.1 (by omega)]
        simp (disch := omega) only [Bool.cond_decide, nI_add, pk_mul, q_inbN, q_cl_nI, q_ltN, q_leN, q_eqN, q_ifT, q_ifF, q_cIs, q_cVs, decide_false, decide_true, Bool.not_false, Bool.not_true, cond_true, cond_false, ne_eq, not_false_eq_true, not_true_eq_false, if_true, if_false, z01]
        rw [q_isIn sx (d + 37) 22 b _ H (by omega), hR.2.2.1 (7 + b) (by omega), em]
        simp (disch := omega) only [Bool.cond_decide, nI_add, pk_mul, q_inbN, q_cl_nI, q_ltN, q_leN, q_eqN, q_ifT, q_ifF, q_cIs, q_cVs, decide_false, decide_true, Bool.not_false, Bool.not_true, cond_true, cond_false, ne_eq, not_false_eq_true, not_true_eq_false, if_true, if_false]
        by_cases c2 : m = 2
        · subst c2; rfl
        · have e3 : m = 3 := by omega
          subst e3
          simp (disch := omega) only [Bool.cond_decide, nI_add, pk_mul, q_inbN, q_cl_nI, q_ltN, q_leN, q_eqN, q_ifT, q_ifF, q_cIs, q_cVs, decide_false, decide_true, Bool.not_false, Bool.not_true, cond_true, cond_false, ne_eq, not_false_eq_true, not_true_eq_false, if_true, if_false, z01]
          rw [q_isIn sx _ 22 b _ H (by omega), hR.2.2.1 (7 + b) (by omega), em]
          rfl
      · rw [m_isB sx _ _ _ H hR.2.1.1 (by omega) (by omega)]
        have e9 := hR.2.2.1.1 (7 + b) (by omega)
        rw [m_get0, em] at e9
        simp (disch := omega) only [Bool.cond_decide, nI_add, pk_mul, q_inbN, q_cl_nI, q_ltN, q_leN, q_eqN, q_ifT, q_ifF, q_cIs, q_cVs, decide_false, decide_true, Bool.not_false, Bool.not_true, cond_true, cond_false, ne_eq, not_false_eq_true, not_true_eq_false, if_true, if_false, z01, e9]
/-! said -/
def z_sstep (B : SB) (w : SW) (b : Nat) (x : Int32) (s k : Nat) (a : Int32 × Int32) : Int32 × Int32 := if z_worth B w s b k = x then (a.1 + nI 1, if a.1 = nI 0 then nI (10 * s + k) else a.2) else a
def z_said (B : SB) (w : SW) (b : Nat) (x : Int32) : Int32 × Int32 := z_fold (sNs B) (fun s a => z_fold (sNw B) (z_sstep B w b x s) a) (nI 0, -4)
theorem ag_said {B : SB} {v w : SW} {b : Nat} {x : Int32} (hs : q_sB B) (h : q_ag B v w) (hb : b < sNb B) : z_said B v b x = z_said B w b x := by
  unfold z_said
  refine z_fold_congr _ _ _ _ (fun s a h1 => z_fold_congr _ _ _ _ (fun k a hk => ?_))
  unfold z_sstep
  rw [ag_worth hs h hb hk]
theorem q_saidL (sx : QX) (d b n : Nat) (x y : Int32) (A : SA) (hA : q_sA n A) (hn : n < 900000) (H : QH) (hR : q_RC A H) (h2 : b < sNb (aB A)) : q_EV (q_tb sx) q_kpt (d + 4) 79 (52, ([(0, vr 8 0), (1, vn b), (2, vi x), (3, vi y), (4, vn 0), (5, vi (-4)), (6, vn 0)], ([], H))) = rI (if y = nI 0 then (z_said (aB A) (aW A) b x).1 else (z_said (aB A) (aW A) b x).2) H := by
  have hA' := hA
  obtain ⟨-, hs, hv, -⟩ := hA'
  have hs' := hs
  obtain ⟨⟨g1, g2⟩, ⟨g3, g4⟩, ⟨g5, g6⟩, -⟩ := hs'
  have hl := z_loop (sNs (aB A)) (fun s (a : Int32 × Int32) => q_EV (q_tb sx) q_kpt (d + 4) 79 (52, ([(0, vr 8 0), (1, vn b), (2, vi x), (3, vi y), (4, vi a.1), (5, vi a.2), (6, vn s)], ([], H)))) (fun s a => z_fold (sNw (aB A)) (z_sstep (aB A) (c_get H 22) b x s) a) (fun s a hsn => by
    refine (b_X6_said_52 sx (d + 3) (nI b) x y _ _ (nI s) H).trans ?_
    rw [hR.2.1.2.2.1]
    simp (disch := omega) only [Bool.cond_decide, nI_add, pk_mul, q_inbN, q_cl_nI, q_ltN, q_leN, q_eqN, q_ifT, q_ifF, q_cIs, q_cVs, decide_false, decide_true, Bool.not_false, Bool.not_true, cond_true, cond_false, ne_eq, not_false_eq_true, not_true_eq_false, if_true, if_false]
    have hl2 := z_loop (sNw (aB A)) (fun k (a : Int32 × Int32) => q_EV (q_tb sx) q_kpt (d + 4) 79 (67, ([(0, vr 8 0), (1, vn b), (2, vi x), (3, vi y), (4, vi a.1), (5, vi a.2), (6, vn s), (7, vn k)], ([], H)))) (z_sstep (aB A) (c_get H 22) b x s) (fun k a hk => by
      refine (b_X6_said_67 sx (d + 3) (nI b) x y _ _ (nI s) (nI k) H).trans ?_
      rw [hR.2.1.2.1, q_worthOf sx (d + 1) 22 s b k n H (aB A) hR.2.1 hs (q_hdA hA hR) (by omega) hsn h2 hk]
      simp (disch := omega) only [Bool.cond_decide, nI_add, pk_mul, q_inbN, q_cl_nI, q_ltN, q_leN, q_eqN, q_ifT, q_ifF, q_cIs, q_cVs, decide_false, decide_true, Bool.not_false, Bool.not_true, cond_true, cond_false, ne_eq, not_false_eq_true, not_true_eq_false, if_true, if_false, saying_eq]
      unfold z_sstep
      by_cases e1 : z_worth (aB A) (c_get H 22) s b k = x
      · by_cases e2 : a.1 = nI 0
        · simp [e1, e2]
        · simp [e1, e2]
      · simp [e1]) a
    refine hl2.trans ?_
    refine (b_X6_said_67 sx (d + 3) (nI b) x y _ _ (nI s) (nI (sNw (aB A))) H).trans ?_
    rw [hR.2.1.2.1]
    simp (disch := omega) only [Bool.cond_decide, nI_add, pk_mul, q_inbN, q_cl_nI, q_ltN, q_leN, q_eqN, q_ifT, q_ifF, q_cIs, q_cVs, decide_false, decide_true, Bool.not_false, Bool.not_true, cond_true, cond_false, ne_eq, not_false_eq_true, not_true_eq_false, if_true, if_false]) (nI 0, -4)
  refine hl.trans ?_
  refine (b_X6_said_52 sx (d + 3) (nI b) x y _ _ (nI (sNs (aB A))) H).trans ?_
  rw [hR.2.1.2.2.1]
  simp (disch := omega) only [Bool.cond_decide, nI_add, pk_mul, q_inbN, q_cl_nI, q_ltN, q_leN, q_eqN, q_ifT, q_ifF, q_cIs, q_cVs, decide_false, decide_true, Bool.not_false, Bool.not_true, cond_true, cond_false, ne_eq, not_false_eq_true, not_true_eq_false, if_true, if_false]
  have e9 : z_said (aB A) (c_get H 22) b x = z_said (aB A) (aW A) b x := ag_said hs hR.2.2.1 h2
  unfold z_said at e9 ⊢
  rw [e9]
  by_cases e : y = nI 0 <;> simp [e]
theorem m_saidL (sx : QX) (d b n : Nat) (x y : Int32) (A : SA) (hA : q_sA n A) (H : QH) (hR : q_RM A H) (h2 : b < sNb (aB A)) : q_EV (q_tb sx) q_kpt (d + 4) 169 (54, ([(0, vr 9 165), (1, vn b), (2, vi x), (3, vi y), (4, vn 0), (5, vi (-4)), (6, vn 0)], ([], H))) = rI (if y = nI 0 then (z_said (aB A) (aW A) b x).1 else (z_said (aB A) (aW A) b x).2) H := by
  have hA' := hA
  obtain ⟨-, hs, hv, -⟩ := hA'
  have hs' := hs
  obtain ⟨⟨g1, g2⟩, ⟨g3, g4⟩, ⟨g5, g6⟩, -⟩ := hs'
  have hl := z_loop (sNs (aB A)) (fun s (a : Int32 × Int32) => q_EV (q_tb sx) q_kpt (d + 4) 169 (54, ([(0, vr 9 165), (1, vn b), (2, vi x), (3, vi y), (4, vi a.1), (5, vi a.2), (6, vn s)], ([], H)))) (fun s a => z_fold (sNw (aB A)) (z_sstep (aB A) (m_get H 0) b x s) a) (fun s a hsn => by
    refine (b_X7_said_54 sx (d + 3) (nI b) x y _ _ (nI s) H).trans ?_
    rw [hR.2.1.2.2.1]
    simp (disch := omega) only [Bool.cond_decide, nI_add, pk_mul, q_inbN, q_cl_nI, q_ltN, q_leN, q_eqN, q_ifT, q_ifF, q_cIs, q_cVs, decide_false, decide_true, Bool.not_false, Bool.not_true, cond_true, cond_false, ne_eq, not_false_eq_true, not_true_eq_false, if_true, if_false]
    have hl2 := z_loop (sNw (aB A)) (fun k (a : Int32 × Int32) => q_EV (q_tb sx) q_kpt (d + 4) 169 (66, ([(0, vr 9 165), (1, vn b), (2, vi x), (3, vi y), (4, vi a.1), (5, vi a.2), (6, vn s), (7, vn k)], ([], H)))) (z_sstep (aB A) (m_get H 0) b x s) (fun k a hk => by
      refine (b_X7_said_66 sx (d + 3) (nI b) x y _ _ (nI s) (nI k) H).trans ?_
      rw [hR.2.1.2.1, m_worthOf sx d 0 s b k H (aB A) hR.2.1 hs (by omega) hsn h2 hk]
      simp (disch := omega) only [Bool.cond_decide, nI_add, pk_mul, q_inbN, q_cl_nI, q_ltN, q_leN, q_eqN, q_ifT, q_ifF, q_cIs, q_cVs, decide_false, decide_true, Bool.not_false, Bool.not_true, cond_true, cond_false, ne_eq, not_false_eq_true, not_true_eq_false, if_true, if_false]
      unfold z_sstep
      by_cases e1 : z_worth (aB A) (m_get H 0) s b k = x
      · by_cases e2 : a.1 = nI 0
        · simp [e1, e2]
        · simp [e1, e2]
      · simp [e1, i32_add0]) a
    refine hl2.trans ?_
    refine (b_X7_said_66 sx (d + 3) (nI b) x y _ _ (nI s) (nI (sNw (aB A))) H).trans ?_
    rw [hR.2.1.2.1]
    simp (disch := omega) only [Bool.cond_decide, nI_add, pk_mul, q_inbN, q_cl_nI, q_ltN, q_leN, q_eqN, q_ifT, q_ifF, q_cIs, q_cVs, decide_false, decide_true, Bool.not_false, Bool.not_true, cond_true, cond_false, ne_eq, not_false_eq_true, not_true_eq_false, if_true, if_false]) (nI 0, -4)
  refine hl.trans ?_
  refine (b_X7_said_54 sx (d + 3) (nI b) x y _ _ (nI (sNs (aB A))) H).trans ?_
  rw [hR.2.1.2.2.1]
  simp (disch := omega) only [Bool.cond_decide, nI_add, pk_mul, q_inbN, q_cl_nI, q_ltN, q_leN, q_eqN, q_ifT, q_ifF, q_cIs, q_cVs, decide_false, decide_true, Bool.not_false, Bool.not_true, cond_true, cond_false, ne_eq, not_false_eq_true, not_true_eq_false, if_true, if_false]
  have e9 : z_said (aB A) (m_get H 0) b x = z_said (aB A) (aW A) b x := ag_said hs hR.2.2.1.1 h2
  unfold z_said at e9 ⊢
  rw [e9]
  by_cases e : y = nI 0 <;> simp [e]
theorem in_1 (x : Int32) : (decide (nI 0 ≤ x) && decide (x ≤ nI 1)) = q_inb x 2 := in_inb x 2 (by omega) (by omega)
theorem in_99 (x : Int32) : (decide (nI 0 ≤ x) && decide (x ≤ nI 99)) = q_inb x 100 := in_inb x 100 (by omega) (by omega)
theorem two_said (sx : QX) (d n : Nat) (A : SA) (hA : q_sA n A) (hn : n < 900000) (x y z : Int32) : q_two sx d 79 169 [vi x, vi y, vi z] A n := by
  have hA' := hA
  obtain ⟨-, hs, hv, -⟩ := hA'
  have hs' := hs
  obtain ⟨⟨g1, g2⟩, ⟨g3, g4⟩, ⟨g5, g6⟩, -⟩ := hs'
  have hc := fun H => b_X6_said_0 sx (d + 39) x y z H
  have hm := fun H => b_X7_said_0 sx (d + 39) x y z H
  simp only [e64_0, e64_99, e64_1, in_eq, in_99, in_1, isPart_eq, Bool.cond_decide] at hm hc
  rcases q_inb_cases x (sNb (aB A)) (by omega) with ⟨e, -⟩ | ⟨b, h2, rfl⟩
  · refine two_same hA (-1) (fun H hR => (hc H).trans ?_) (fun H hR => (hm H).trans ?_)
    · rw [q_isB sx _ _ x H hR.2.1.1 (by omega), e]; rfl
    · rw [m_isB sx _ _ x H hR.2.1.1 (by omega) (by omega), e]; rfl
  · have hc2 : ∀ H, q_RC A H → _ := fun H hR => (hc H).trans (by rw [q_isB sx _ _ _ H hR.2.1.1 (by omega), q_inbN (by omega), decide_eq_true h2, q_cIs, q_cIs])
    have hm2 : ∀ H, q_RM A H → _ := fun H hR => (hm H).trans (by rw [m_isB sx _ _ _ H hR.2.1.1 (by omega) (by omega), q_inbN (by omega), decide_eq_true h2, q_cIs, q_cIs, q_cIs])
    rcases q_inb_cases y 100 (by omega) with ⟨e, e1⟩ | ⟨v, hv2, rfl⟩
    · refine two_same hA (-1) (fun H hR => (hc2 H hR).trans ?_) (fun H hR => (hm2 H hR).trans ?_)
      · rw [if_neg (show ¬ z01 true = nI 0 by decide)]
        by_cases f1 : y < nI 0
        · rw [if_pos f1]
        · rw [if_neg f1]
          obtain ⟨j, hj, rfl⟩ := nI_of f1
          rcases e1 with e1 | e1
          · exact absurd e1 f1
          · rw [nI_leI (by omega) hj] at e1
            rw [if_pos ((nI_ltI (by omega) hj).mpr (by omega))]
      · rw [e, if_neg (show ¬ z01 true = nI 0 by decide)]; rfl
    · have f0 : ¬ nI v < nI 0 := by rw [nI_ltI (by omega) (by omega)]; omega
      have f1 : ¬ nI 99 < nI v := by rw [nI_ltI (by omega) (by omega)]; omega
      have f2 : q_inb (nI v) 100 = true := by rw [q_inbN (by omega), decide_eq_true hv2]
      cases e : q_inb z 2 with
      | false =>
        refine two_same hA (-1) (fun H hR => (hc2 H hR).trans ?_) (fun H hR => (hm2 H hR).trans ?_)
        · rw [if_neg (show ¬ z01 true = nI 0 by decide), if_neg f0, if_neg f1, e]; rfl
        · rw [f2, e]; rfl
      | true =>
        by_cases hin : aW A (7 + b) = nI 0
        · refine two_same hA (if z = nI 0 then (z_said (aB A) (aW A) b (nI v)).1 else (z_said (aB A) (aW A) b (nI v)).2) (fun H hR => (hc2 H hR).trans ?_) (fun H hR => (hm2 H hR).trans ?_)
          · rw [if_neg (show ¬ z01 true = nI 0 by decide), if_neg f0, if_neg f1, e, if_pos (show z01 true ≠ nI 0 by decide), q_isIn sx _ 22 b _ H (by omega), hR.2.2.1 (7 + b) (by omega), decide_eq_true hin, q_cIs, if_pos (show z01 true ≠ nI 0 by decide)]
            exact q_saidL sx (d + 36) b n (nI v) z A hA hn H hR h2
          · rw [f2, e, if_neg (show ¬ z01 true = nI 0 by decide), if_neg (show ¬ z01 true = nI 0 by decide), if_pos (show z01 true ≠ nI 0 by decide), m_inBed sx _ 0 b H (aB A) hR.2.1 hs (by omega) (by omega), z_inT h2, hR.2.2.1.1 (7 + b) (by omega), decide_eq_true hin, q_cIs, if_pos (show z01 true ≠ nI 0 by decide)]
            exact m_saidL sx (d + 36) b n (nI v) z A hA H hR h2
        · refine two_same hA (-2) (fun H hR => (hc2 H hR).trans ?_) (fun H hR => (hm2 H hR).trans ?_)
          · rw [if_neg (show ¬ z01 true = nI 0 by decide), if_neg f0, if_neg f1, e, if_pos (show z01 true ≠ nI 0 by decide), q_isIn sx _ 22 b _ H (by omega), hR.2.2.1 (7 + b) (by omega), decide_eq_false hin]
            rfl
          · rw [f2, e, if_neg (show ¬ z01 true = nI 0 by decide), if_neg (show ¬ z01 true = nI 0 by decide), if_pos (show z01 true ≠ nI 0 by decide), m_inBed sx _ 0 b H (aB A) hR.2.1 hs (by omega) (by omega), z_inT h2, hR.2.2.1.1 (7 + b) (by omega), decide_eq_false hin]
            rfl
