/-! harm, liars -/
def q_bc (x0 : Int32) : Int32 := (((((((x0 - (((x0.toUInt32 >>> ((nI 1).toUInt32 &&& Int32.toUInt32 31)).toInt32) &&& (nI 1431655765))) &&& (nI 858993459)) + ((((x0 - (((x0.toUInt32 >>> ((nI 1).toUInt32 &&& Int32.toUInt32 31)).toInt32) &&& (nI 1431655765))).toUInt32 >>> ((nI 2).toUInt32 &&& Int32.toUInt32 31)).toInt32) &&& (nI 858993459))) + (((((x0 - (((x0.toUInt32 >>> ((nI 1).toUInt32 &&& Int32.toUInt32 31)).toInt32) &&& (nI 1431655765))) &&& (nI 858993459)) + ((((x0 - (((x0.toUInt32 >>> ((nI 1).toUInt32 &&& Int32.toUInt32 31)).toInt32) &&& (nI 1431655765))).toUInt32 >>> ((nI 2).toUInt32 &&& Int32.toUInt32 31)).toInt32) &&& (nI 858993459))).toUInt32 >>> ((nI 4).toUInt32 &&& Int32.toUInt32 31)).toInt32)) &&& (nI 252645135)) + (((((((x0 - (((x0.toUInt32 >>> ((nI 1).toUInt32 &&& Int32.toUInt32 31)).toInt32) &&& (nI 1431655765))) &&& (nI 858993459)) + ((((x0 - (((x0.toUInt32 >>> ((nI 1).toUInt32 &&& Int32.toUInt32 31)).toInt32) &&& (nI 1431655765))).toUInt32 >>> ((nI 2).toUInt32 &&& Int32.toUInt32 31)).toInt32) &&& (nI 858993459))) + (((((x0 - (((x0.toUInt32 >>> ((nI 1).toUInt32 &&& Int32.toUInt32 31)).toInt32) &&& (nI 1431655765))) &&& (nI 858993459)) + ((((x0 - (((x0.toUInt32 >>> ((nI 1).toUInt32 &&& Int32.toUInt32 31)).toInt32) &&& (nI 1431655765))).toUInt32 >>> ((nI 2).toUInt32 &&& Int32.toUInt32 31)).toInt32) &&& (nI 858993459))).toUInt32 >>> ((nI 4).toUInt32 &&& Int32.toUInt32 31)).toInt32)) &&& (nI 252645135)).toUInt32 >>> ((nI 8).toUInt32 &&& Int32.toUInt32 31)).toInt32)) + ((((((((x0 - (((x0.toUInt32 >>> ((nI 1).toUInt32 &&& Int32.toUInt32 31)).toInt32) &&& (nI 1431655765))) &&& (nI 858993459)) + ((((x0 - (((x0.toUInt32 >>> ((nI 1).toUInt32 &&& Int32.toUInt32 31)).toInt32) &&& (nI 1431655765))).toUInt32 >>> ((nI 2).toUInt32 &&& Int32.toUInt32 31)).toInt32) &&& (nI 858993459))) + (((((x0 - (((x0.toUInt32 >>> ((nI 1).toUInt32 &&& Int32.toUInt32 31)).toInt32) &&& (nI 1431655765))) &&& (nI 858993459)) + ((((x0 - (((x0.toUInt32 >>> ((nI 1).toUInt32 &&& Int32.toUInt32 31)).toInt32) &&& (nI 1431655765))).toUInt32 >>> ((nI 2).toUInt32 &&& Int32.toUInt32 31)).toInt32) &&& (nI 858993459))).toUInt32 >>> ((nI 4).toUInt32 &&& Int32.toUInt32 31)).toInt32)) &&& (nI 252645135)) + (((((((x0 - (((x0.toUInt32 >>> ((nI 1).toUInt32 &&& Int32.toUInt32 31)).toInt32) &&& (nI 1431655765))) &&& (nI 858993459)) + ((((x0 - (((x0.toUInt32 >>> ((nI 1).toUInt32 &&& Int32.toUInt32 31)).toInt32) &&& (nI 1431655765))).toUInt32 >>> ((nI 2).toUInt32 &&& Int32.toUInt32 31)).toInt32) &&& (nI 858993459))) + (((((x0 - (((x0.toUInt32 >>> ((nI 1).toUInt32 &&& Int32.toUInt32 31)).toInt32) &&& (nI 1431655765))) &&& (nI 858993459)) + ((((x0 - (((x0.toUInt32 >>> ((nI 1).toUInt32 &&& Int32.toUInt32 31)).toInt32) &&& (nI 1431655765))).toUInt32 >>> ((nI 2).toUInt32 &&& Int32.toUInt32 31)).toInt32) &&& (nI 858993459))).toUInt32 >>> ((nI 4).toUInt32 &&& Int32.toUInt32 31)).toInt32)) &&& (nI 252645135)).toUInt32 >>> ((nI 8).toUInt32 &&& Int32.toUInt32 31)).toInt32)).toUInt32 >>> ((nI 16).toUInt32 &&& Int32.toUInt32 31)).toInt32)) &&& (nI 63)
theorem q_bc_ones : ∀ m, m < 16 → q_bc (nI m) = nI (z_ones m) := by decide +kernel
theorem bitCount_eq (sx : QX) (d m : Nat) (H : QH) (hm : m < 16) : q_CL (q_tb sx) q_kpt (d + 1) (177, ([vn m], H)) = rI (nI (z_ones m)) H := by
  refine (b_J6_bitCount_0f7a4_0 sx d (nI m) H).trans ?_
  rw [← q_bc_ones m hm]
  rfl
theorem z_harmOf_n {B : SB} {w : SW} {N b k : Nat} (hs : q_sB B) (hw : q_hd B w N) (hN : N < 1000000) (hk : k < sNw B) : ∃ t, t ≤ 360 ∧ z_harmOf B w b k = nI t := by
  have hs' := hs
  obtain ⟨⟨g1, g2⟩, -⟩ := hs'
  unfold z_harmOf
  obtain ⟨t, h1, h2⟩ := z_fold_inv (fun i (a : Int32) => ∃ t, t ≤ 60 * i ∧ a = nI t) (sNb B) (fun o a => a + z_hterm B w b k o) (nI 0) ⟨0, by omega, rfl⟩ (fun o a ho ⟨t, h1, h2⟩ => by
    obtain ⟨u, hu, eu⟩ := z_byKind_b hs ho hk
    obtain ⟨v, hv, ev⟩ := hw o k ho hk
    show ∃ t, t ≤ 60 * (o + 1) ∧ a + z_hterm B w b k o = nI t
    unfold z_hterm
    split
    · rw [eu, ev, z_less_n (by omega) (by omega), h2, nI_add]
      exact ⟨t + (u - v), by omega, rfl⟩
    · rw [h2, nI_add]
      exact ⟨t + 0, by omega, rfl⟩)
  exact ⟨t, by omega, h2⟩
def z_far (a : Option (Nat × Nat) × (Int32 × Int32)) : Int32 := if a.1 = none then nI 1000000 else a.2.1
theorem m_harm137 (sx : QX) (d : Nat) (x1 x3 x4 x5 x6 x7 x8 x9 z0 : Int32) (H : QH) : q_EV (q_tb sx) q_kpt (d + 1) 166 (137, ([(0, vr 9 165), (1, vi x1), (3, vi x3), (4, vi x4), (5, vi x5), (6, vi x6), (7, vi x7), (8, vi x8), (9, vi x9)], ([vi z0], H))) = q_EV (q_tb sx) q_kpt (d + 1) 166 (46, ([(0, vr 9 165), (1, vi x1), (2, vi z0), (3, vi (if x9 = nI 0 then x3 else x8)), (4, vi (if x9 = nI 0 then x4 else x7)), (5, vi x5), (6, vi (x6 + nI 1))], ([], H))) := by
  refine (b_X7_harm_137 sx d x1 x3 x4 x5 x6 x7 x8 x9 z0 H).trans ?_
  by_cases c : x9 = nI 0
  · rw [decide_eq_true c, if_pos c, if_pos c, cond_true]
    refine (b_X7_harm_149 sx d x1 z0 x4 x5 x6 x7 x9 x3 H).trans ?_
    rw [decide_eq_true c, cond_true]
    exact b_X7_harm_162 sx d x1 z0 x3 x5 x6 x4 H
  · rw [decide_eq_false c, if_neg c, if_neg c, cond_false]
    refine (b_X7_harm_149 sx d x1 z0 x4 x5 x6 x7 x9 x8 H).trans ?_
    rw [decide_eq_false c, cond_false]
    exact b_X7_harm_162 sx d x1 z0 x8 x5 x6 x7 H
theorem m_harm117 (sx : QX) (d : Nat) (x1 x2 x3 x4 x5 x6 x7 x8 : Int32) (H : QH) : q_EV (q_tb sx) q_kpt (d + 1) 166 (117, ([(0, vr 9 165), (1, vi x1), (2, vi x2), (3, vi x3), (4, vi x4), (5, vi x5), (6, vi x6), (7, vi x7), (8, vi x8)], ([], H))) = q_EV (q_tb sx) q_kpt (d + 1) 166 (46, ([(0, vr 9 165), (1, vi x1), (2, vi x2), (3, vi x3), (4, vi x4), (5, vi x5), (6, vi (x6 + nI 1))], ([], H))) := by
  refine (b_X7_harm_117 sx d x1 x2 x3 x4 x5 x6 x7 x8 H).trans ((b_X7_harm_118 sx d x1 x2 x3 x4 x5 x6 x7 x8 (nI 0) H).trans ?_)
  rw [decide_eq_true rfl, cond_true]
  exact m_harm137 sx d x1 x3 x4 x5 x6 x7 x8 (nI 0) x2 H
theorem m_harm113 (sx : QX) (d : Nat) (x1 x2 x3 x4 x5 x6 x7 x8 : Int32) (H : QH) : q_EV (q_tb sx) q_kpt (d + 1) 166 (113, ([(0, vr 9 165), (1, vi x1), (2, vi x2), (3, vi x3), (4, vi x4), (5, vi x5), (6, vi x6), (7, vi x7), (8, vi x8)], ([], H))) = q_EV (q_tb sx) q_kpt (d + 1) 166 (46, ([(0, vr 9 165), (1, vi x1), (2, vi (nI 10 * x5 + x6)), (3, vi x8), (4, vi x7), (5, vi x5), (6, vi (x6 + nI 1))], ([], H))) := by
  refine (b_X7_harm_113 sx d x1 x2 x3 x4 x5 x6 x7 x8 H).trans ((b_X7_harm_118 sx d x1 x2 x3 x4 x5 x6 x7 x8 (nI 1) H).trans ?_)
  rw [decide_eq_false (show ¬ nI 1 = nI 0 by decide), cond_false]
  exact m_harm137 sx d x1 x3 x4 x5 x6 x7 x8 (nI 1) (nI 10 * x5 + x6) H
theorem m_harmL (sx : QX) (d b n : Nat) (H : QH) (B : SB) (hB : q_mB H B) (hs : q_sB B) (hh : q_hd B (m_get H 0) n) (hn : n < 900000) (h2 : b < sNb B) : q_EV (q_tb sx) q_kpt (d + 6) 166 (34, ([(0, vr 9 165), (1, vn b), (2, vi (-4)), (3, vn 1000000), (4, vn 0), (5, vn 0)], ([], H))) = rI (z_code (z_harm B (m_get H 0) b)) H := by
  have hs' := hs
  have hB' := hB
  obtain ⟨-, ⟨g3, g4⟩, ⟨g5, g6⟩, -⟩ := hs'
  obtain ⟨-, hnw, hns, -⟩ := hB'
  have hl := z_loop (sNs B) (fun s a => q_EV (q_tb sx) q_kpt (d + 6) 166 (34, ([(0, vr 9 165), (1, vn b), (2, vi (z_code a.1)), (3, vi (z_far a)), (4, vi a.2.2), (5, vn s)], ([], H)))) (z_hmsp B (m_get H 0) b) (fun s a hsn => by
    refine (b_X7_harm_34 sx (d + 5) (nI b) _ _ _ (nI s) H).trans ?_
    rw [hns]
    simp (disch := omega) only [Bool.cond_decide, nI_add, pk_mul, q_inbN, q_cl_nI, q_ltN, q_leN, q_eqN, q_ifT, q_ifF, q_cIs, q_cVs, decide_false, decide_true, Bool.not_false, Bool.not_true, cond_true, cond_false, ne_eq, not_false_eq_true, not_true_eq_false, if_true, if_false]
    unfold z_hmsp
    by_cases h : nI 0 < m_get H 0 (79 + s)
    · rw [if_pos h]
      have hl2 := z_loop (sNw B) (fun k a => q_EV (q_tb sx) q_kpt (d + 6) 166 (46, ([(0, vr 9 165), (1, vn b), (2, vi (z_code a.1)), (3, vi (z_far a)), (4, vi a.2.2), (5, vn s), (6, vn k)], ([], H)))) (z_hmstep B (m_get H 0) b s) (fun k a hk => by
        refine (b_X7_harm_46 sx (d + 5) (nI b) _ _ _ (nI s) (nI k) H).trans ?_
        obtain ⟨t, ht, et⟩ := z_harmOf_n (b := b) hs hh (by omega) hk
        have h' : nI 0 < H 166 (79 + s) := by rw [m_get0] at h; exact h
        rw [hnw, m_worthOf sx (d + 2) 0 s b k H B hB hs (by omega) hsn h2 hk, q_cIs, m_harmOf sx (d + 1) b k H B hB hs h2 hk, q_cIs]
        simp (disch := omega) only [Bool.cond_decide, nI_add, pk_mul, q_inbN, q_cl_nI, q_ltN, q_leN, q_eqN, q_ifT, q_ifF, q_cIs, q_cVs, decide_false, decide_true, Bool.not_false, Bool.not_true, cond_true, cond_false, ne_eq, not_false_eq_true, not_true_eq_false, if_true, if_false]
        rw [if_neg (Int32.not_le.mpr h'), m_harm117, m_harm113]
        simp (disch := omega) only [Bool.cond_decide, nI_add, pk_mul, q_inbN, q_cl_nI, q_ltN, q_leN, q_eqN, q_ifT, q_ifF, q_cIs, q_cVs, decide_false, decide_true, Bool.not_false, Bool.not_true, cond_true, cond_false, ne_eq, not_false_eq_true, not_true_eq_false, if_true, if_false]
        unfold z_hmstep
        by_cases c1 : nI 0 < z_worth B (m_get H 0) s b k
        · rw [if_neg (Int32.not_le.mpr c1), if_pos c1]
          by_cases c2 : a.1 = none
          · rw [if_pos (Or.inl (Or.inl c2))]
            have e1 : z_far a = nI 1000000 := if_pos c2
            rw [e1, if_pos (show z_harmOf B (m_get H 0) b k < nI 1000000 by rw [et, nI_ltI (by omega) (by omega)]; omega)]
            rfl
          · have e1 : z_far a = a.2.1 := if_neg c2
            rw [e1]
            by_cases c3 : z_harmOf B (m_get H 0) b k < a.2.1
            · rw [if_pos c3, if_pos (Or.inl (Or.inr c3))]
              rfl
            · rw [if_neg c3]
              by_cases c4 : z_harmOf B (m_get H 0) b k = a.2.1
              · rw [if_neg (fun q => q c4)]
                by_cases c5 : a.2.2 < z_worth B (m_get H 0) s b k
                · rw [if_neg (Int32.not_le.mpr c5), if_pos (Or.inr ⟨c4, c5⟩)]
                  rfl
                · rw [if_pos (Int32.not_lt.mp c5), if_neg (by rintro ((q | q) | ⟨-, q⟩); exact c2 q; exact c3 q; exact c5 q), e1]
              · rw [if_pos c4, if_neg (by rintro ((q | q) | ⟨q, -⟩); exact c2 q; exact c3 q; exact c4 q), e1]
        · rw [if_pos (Int32.not_lt.mp c1), if_neg c1]) a
      refine Eq.trans hl2 ?_
      refine (b_X7_harm_46 sx (d + 5) (nI b) _ _ _ (nI s) (nI (sNw B)) H).trans ?_
      rw [hnw]
      simp (disch := omega) only [Bool.cond_decide, nI_add, pk_mul, q_inbN, q_cl_nI, q_ltN, q_leN, q_eqN, q_ifT, q_ifF, q_cIs, q_cVs, decide_false, decide_true, Bool.not_false, Bool.not_true, cond_true, cond_false, ne_eq, not_false_eq_true, not_true_eq_false, if_true, if_false]
      refine (b_X7_harm_170 sx (d + 5) (nI b) _ _ _ (nI s) H).trans ?_
      simp (disch := omega) only [Bool.cond_decide, nI_add, pk_mul, q_inbN, q_cl_nI, q_ltN, q_leN, q_eqN, q_ifT, q_ifF, q_cIs, q_cVs, decide_false, decide_true, Bool.not_false, Bool.not_true, cond_true, cond_false, ne_eq, not_false_eq_true, not_true_eq_false, if_true, if_false]
    · rw [if_neg h]
      refine (b_X7_harm_46 sx (d + 5) (nI b) _ _ _ (nI s) (nI 0) H).trans ?_
      have h' : ¬ nI 0 < H 166 (79 + s) := by rw [m_get0] at h; exact h
      rw [hnw]
      simp (disch := omega) only [Bool.cond_decide, nI_add, pk_mul, q_inbN, q_cl_nI, q_ltN, q_leN, q_eqN, q_ifT, q_ifF, q_cIs, q_cVs, decide_false, decide_true, Bool.not_false, Bool.not_true, cond_true, cond_false, ne_eq, not_false_eq_true, not_true_eq_false, if_true, if_false]
      rw [if_pos (Int32.not_lt.mp h')]
      refine (b_X7_harm_170 sx (d + 5) (nI b) _ _ _ (nI s) H).trans ?_
      simp (disch := omega) only [Bool.cond_decide, nI_add, pk_mul, q_inbN, q_cl_nI, q_ltN, q_leN, q_eqN, q_ifT, q_ifF, q_cIs, q_cVs, decide_false, decide_true, Bool.not_false, Bool.not_true, cond_true, cond_false, ne_eq, not_false_eq_true, not_true_eq_false, if_true, if_false]) (none, (nI 0, nI 0))
  refine Eq.trans hl ?_
  refine (b_X7_harm_34 sx (d + 5) (nI b) _ _ _ (nI (sNs B)) H).trans ?_
  rw [hns]
  simp (disch := omega) only [Bool.cond_decide, nI_add, pk_mul, q_inbN, q_cl_nI, q_ltN, q_leN, q_eqN, q_ifT, q_ifF, q_cIs, q_cVs, decide_false, decide_true, Bool.not_false, Bool.not_true, cond_true, cond_false, ne_eq, not_false_eq_true, not_true_eq_false, if_true, if_false]
  rfl
theorem two_harm (sx : QX) (d n : Nat) (A : SA) (hA : q_sA n A) (hn : n < 900000) (x : Int32) : q_two sx d 77 166 [vi x] A n := by
  have hA' := hA
  obtain ⟨-, hs, hv, -⟩ := hA'
  have hs' := hs
  obtain ⟨⟨g1, g2⟩, ⟨g3, g4⟩, ⟨g5, g6⟩, -⟩ := hs'
  rcases q_inb_cases x (sNb (aB A)) (by omega) with ⟨e, -⟩ | ⟨b, h2, rfl⟩
  · refine two_same hA (-1) (fun H hR => (b_X6_harm_0 sx (d + 39) x H).trans ?_) (fun H hR => (b_X7_harm_0 sx (d + 39) x H).trans ?_)
    · rw [q_isB sx _ _ x H hR.2.1.1 (by omega), e]; rfl
    · rw [m_isB sx _ _ x H hR.2.1.1 (by omega) (by omega), e]; rfl
  · by_cases hin : aW A (7 + b) = nI 0
    · refine two_same hA (z_code (z_harm (aB A) (aW A) b)) (fun H hR => (b_X6_harm_0 sx (d + 39) _ H).trans ?_) (fun H hR => (b_X7_harm_0 sx (d + 39) _ H).trans ?_)
      · rw [q_isB sx _ _ _ H hR.2.1.1 (by omega)]
        simp (disch := omega) only [Bool.cond_decide, nI_add, pk_mul, q_inbN, q_cl_nI, q_ltN, q_leN, q_eqN, q_ifT, q_ifF, q_cIs, q_cVs, decide_false, decide_true, Bool.not_false, Bool.not_true, cond_true, cond_false, ne_eq, not_false_eq_true, not_true_eq_false, if_true, if_false, z01]
        rw [q_isIn sx _ 22 b _ H (by omega), hR.2.2.1 (7 + b) (by omega), decide_eq_true hin]
        simp (disch := omega) only [Bool.cond_decide, nI_add, pk_mul, q_inbN, q_cl_nI, q_ltN, q_leN, q_eqN, q_ifT, q_ifF, q_cIs, q_cVs, decide_false, decide_true, Bool.not_false, Bool.not_true, cond_true, cond_false, ne_eq, not_false_eq_true, not_true_eq_false, if_true, if_false, z01]
        rw [q_mildest sx _ 22 b n H (aB A) hR.2.1 hs (q_hdA hA hR) (by omega) h2, ag_harm hs hR.2.2.1 h2]
        rfl
      · rw [m_isB sx _ _ _ H hR.2.1.1 (by omega) (by omega)]
        simp (disch := omega) only [Bool.cond_decide, nI_add, pk_mul, q_inbN, q_cl_nI, q_ltN, q_leN, q_eqN, q_ifT, q_ifF, q_cIs, q_cVs, decide_false, decide_true, Bool.not_false, Bool.not_true, cond_true, cond_false, ne_eq, not_false_eq_true, not_true_eq_false, if_true, if_false, z01]
        rw [m_inBed sx _ 0 b H (aB A) hR.2.1 hs (by omega) (by omega), z_inT h2, hR.2.2.1.1 (7 + b) (by omega), decide_eq_true hin]
        simp (disch := omega) only [Bool.cond_decide, nI_add, pk_mul, q_inbN, q_cl_nI, q_ltN, q_leN, q_eqN, q_ifT, q_ifF, q_cIs, q_cVs, decide_false, decide_true, Bool.not_false, Bool.not_true, cond_true, cond_false, ne_eq, not_false_eq_true, not_true_eq_false, if_true, if_false, z01]
        rw [← ag_harm hs hR.2.2.1.1 h2]
        exact m_harmL sx (d + 34) b n H (aB A) hR.2.1 hs (vw_ag hs hv hR.2.2.1.1).1 hn h2
    · refine two_same hA (-2) (fun H hR => (b_X6_harm_0 sx (d + 39) _ H).trans ?_) (fun H hR => (b_X7_harm_0 sx (d + 39) _ H).trans ?_)
      · rw [q_isB sx _ _ _ H hR.2.1.1 (by omega)]
        simp (disch := omega) only [Bool.cond_decide, nI_add, pk_mul, q_inbN, q_cl_nI, q_ltN, q_leN, q_eqN, q_ifT, q_ifF, q_cIs, q_cVs, decide_false, decide_true, Bool.not_false, Bool.not_true, cond_true, cond_false, ne_eq, not_false_eq_true, not_true_eq_false, if_true, if_false, z01]
        rw [q_isIn sx _ 22 b _ H (by omega), hR.2.2.1 (7 + b) (by omega), decide_eq_false hin]
        rfl
      · rw [m_isB sx _ _ _ H hR.2.1.1 (by omega) (by omega)]
        simp (disch := omega) only [Bool.cond_decide, nI_add, pk_mul, q_inbN, q_cl_nI, q_ltN, q_leN, q_eqN, q_ifT, q_ifF, q_cIs, q_cVs, decide_false, decide_true, Bool.not_false, Bool.not_true, cond_true, cond_false, ne_eq, not_false_eq_true, not_true_eq_false, if_true, if_false, z01]
        rw [m_inBed sx _ 0 b H (aB A) hR.2.1 hs (by omega) (by omega), z_inT h2, hR.2.2.1.1 (7 + b) (by omega), decide_eq_false hin]
        rfl
/-! liars -/
theorem m_lies (sx : QX) (d m b : Nat) (H : QH) (B : SB) (hB : q_mB H B) (hs : q_sB B) (hb : b < sNb B) (hm : m < 256) : q_CL (q_tb sx) q_kpt (d + 2) (167, ([vr 9 165, vn m, vn b], H)) = rI (z01 (z_lies B (m_get H 0) m b)) H := by
  have hs' := hs
  have hB' := hB
  obtain ⟨⟨g1, g2⟩, -, ⟨g5, g6⟩, -⟩ := hs'
  obtain ⟨-, -, hns, -⟩ := hB'
  refine (b_X7_lies_0 sx (d + 1) (nI m) (nI b) H).trans ?_
  have hl := z_loop (sNs B) (fun s (a : Bool) => q_EV (q_tb sx) q_kpt (d + 2) 167 (5, ([(0, vr 9 165), (1, vn m), (2, vn b), (3, vi (z01 a)), (4, vn s)], ([], H)))) (fun s a => a || (decide (m / 2 ^ s % 2 = 1) && z_bel (m_get H 0) b (m_get H 0 (13 + b)) s)) (fun s a hsn => by
    refine (b_X7_lies_5 sx (d + 1) (nI m) (nI b) _ (nI s) H).trans ?_
    rw [hns, has_eq sx d m s H hm (by omega)]
    simp only [m_get0]
    simp (disch := omega) only [Bool.cond_decide, nI_add, pk_mul, q_inbN, q_cl_nI, q_ltN, q_leN, q_eqN, q_ifT, q_ifF, q_cIs, q_cVs, decide_false, decide_true, Bool.not_false, Bool.not_true, cond_true, cond_false, ne_eq, not_false_eq_true, not_true_eq_false, if_true, if_false]
    cases a with
    | true => simp [z01, nI_eq]
    | false =>
      unfold z_bel
      simp only [m_get0]
      by_cases e0 : m / 2 ^ s % 2 = 1
      · by_cases e1 : H 166 (55 + 6 * s + b) = -4
        · simp [z01, e0, e1]
        · by_cases e2 : H 166 (55 + 6 * s + b) = H 166 (13 + b)
          · simp [z01, e0, e1, e2]
          · simp [z01, e0, e1, e2, nI_eq]
      · simp [z01, e0]) false
  refine Eq.trans hl ?_
  have e : ∀ n, z_fold n (fun s a => a || (decide (m / 2 ^ s % 2 = 1) && z_bel (m_get H 0) b (m_get H 0 (13 + b)) s)) false = z_any n (fun s => decide (m / 2 ^ s % 2 = 1) && z_bel (m_get H 0) b (m_get H 0 (13 + b)) s) := by
    intro n
    induction n with
    | zero => rfl
    | succ n ih => show (z_fold n _ false || _) = (z_any n _ || _); rw [ih]
  rw [e]
  refine (b_X7_lies_5 sx (d + 1) (nI m) (nI b) _ (nI (sNs B)) H).trans ?_
  rw [hns]
  unfold z_lies
  simp (disch := omega) only [Bool.cond_decide, nI_add, pk_mul, q_inbN, q_cl_nI, q_ltN, q_leN, q_eqN, q_ifT, q_ifF, q_cIs, q_cVs, decide_false, decide_true, Bool.not_false, Bool.not_true, cond_true, cond_false, ne_eq, not_false_eq_true, not_true_eq_false, if_true, if_false]
  cases z_any (sNs B) (fun s => decide (m / 2 ^ s % 2 = 1) && z_bel (m_get H 0) b (m_get H 0 (13 + b)) s) <;> rfl
def z_lcond (m : Nat) : Option Nat → Bool
  | none => true
  | some k => decide (z_ones m < z_ones k)
def z_lstep (B : SB) (w : SW) (m : Nat) (a : Option Nat) : Option Nat := if (z_lcond m a && z_expl B w m) = true then some m else a
theorem z_lstep_lt {B : SB} {w : SW} {m : Nat} {a : Option Nat} (ha : ∀ k, a = some k → k < m) (k : Nat) (hk : z_lstep B w m a = some k) : k < m + 1 := by
  unfold z_lstep at hk
  by_cases c : (z_lcond m a && z_expl B w m) = true
  · rw [if_pos c] at hk
    have e : m = k := Option.some.inj hk
    omega
  · rw [if_neg c] at hk
    have := ha k hk
    omega
theorem ag_lstep {B : SB} {v w : SW} (hs : q_sB B) (h : q_ag B v w) (m : Nat) (a : Option Nat) : z_lstep B v m a = z_lstep B w m a := by
  unfold z_lstep
  rw [ag_expl hs h]
def z_liar (B : SB) (w : SW) : Option Nat := z_fold (2 ^ sNs B) (z_lstep B w) none
theorem ag_liar {B : SB} {v w : SW} (hs : q_sB B) (h : q_ag B v w) : z_liar B v = z_liar B w := z_fold_congr _ _ _ _ (fun m a _ => ag_lstep hs h m a)
theorem z_ones_le (m : Nat) : z_ones m ≤ 6 := by
  unfold z_ones
  exact z_fold_inv (fun i (a : Nat) => a ≤ i) 6 (fun k n => n + m / 2 ^ k % 2) 0 (by omega) (fun k a _ h => by
    have := Nat.mod_lt (m / 2 ^ k) (show 2 > 0 by omega)
    show a + m / 2 ^ k % 2 ≤ k + 1
    omega)
theorem z_pow16 {B : SB} (hs : q_sB B) : 2 ^ sNs B ≤ 16 := by
  obtain ⟨-, -, ⟨g5, g6⟩, -⟩ := hs
  exact Nat.le_trans (Nat.pow_le_pow_right (by omega) g6) (by decide)
theorem z_codeW_m4 {k : Nat} (h : k < 2147483648) : ¬ nI k = -4 := by
  intro e
  have h1 : ¬ nI k < 0 := nI_pos h
  rw [e] at h1
  exact h1 (by decide)
theorem q_liarsL (sx : QX) (d : Nat) (H : QH) (B : SB) (hB : q_rB H B) (hs : q_sB B) : q_CL (q_tb sx) q_kpt (d + 7) (78, ([vr 8 0], H)) = rI (z_codeW (z_liar B (c_get H 22))) H := by
  have hs' := hs
  have hB' := hB
  obtain ⟨⟨g1, g2⟩, -, ⟨g5, g6⟩, -⟩ := hs'
  obtain ⟨-, -, hns, -⟩ := hB'
  have h16 := z_pow16 hs
  refine (b_X6_liars_0 sx (d + 6) H).trans ?_
  obtain ⟨hl, -⟩ := z_loopI (fun i (a : Option Nat) => ∀ k, a = some k → k < i) (2 ^ sNs B) (fun m a => q_EV (q_tb sx) q_kpt (d + 7) 78 (5, ([(0, vr 8 0), (1, vi (z_codeW a)), (2, vn m)], ([], H)))) (z_lstep B (c_get H 22)) none (fun k h => by cases h) (fun m a hm ha => z_lstep_lt ha) (fun m a hm ha => by
    refine (b_X6_liars_5 sx (d + 6) _ (nI m) H).trans ?_
    rw [hns, q_shl1 _ (by omega), q_explains sx (d + 1) 22 m H B hB hs (by omega)]
    unfold z_lstep
    cases a with
    | none =>
      simp (disch := omega) only [Bool.cond_decide, nI_add, pk_mul, q_inbN, q_cl_nI, q_ltN, q_leN, q_eqN, q_ifT, q_ifF, q_cIs, q_cVs, decide_false, decide_true, Bool.not_false, Bool.not_true, cond_true, cond_false, ne_eq, not_false_eq_true, not_true_eq_false, if_true, if_false, z_codeW, z_lcond, Bool.true_and]
      cases z_expl B (c_get H 22) m <;> simp [z01, nI_eq, z_codeW]
    | some k =>
      have hk := ha k rfl
      have b1 := z_ones_le m
      have b2 := z_ones_le k
      have e4 := z_codeW_m4 (show k < 2147483648 by omega)
      show cond _ _ (cond (decide (nI k = -4)) _ _) = _
      rw [decide_eq_false e4, cond_false, bitCount_eq sx (d + 5) m H (by omega), q_cIs, show z_codeW (some k) = nI k from rfl, bitCount_eq sx (d + 5) k H (by omega), q_cIs]
      have e5 : q_CL (q_tb sx) q_kpt (d + 6) (44, ([vr 5 22, vn m], H)) = rI (z01 (z_expl B (c_get H 22) m)) H := q_explains sx (d + 1) 22 m H B hB hs (by omega)
      by_cases c : z_ones m < z_ones k
      · simp (disch := omega) only [Bool.cond_decide, nI_add, pk_mul, q_inbN, q_cl_nI, q_ltN, q_leN, q_eqN, q_ifT, q_ifF, q_cIs, q_cVs, decide_false, decide_true, Bool.not_false, Bool.not_true, cond_true, cond_false, ne_eq, not_false_eq_true, not_true_eq_false, if_true, if_false, e5, z_lcond]
        cases z_expl B (c_get H 22) m <;> simp [z01, nI_eq, z_codeW, c]
      · simp (disch := omega) only [Bool.cond_decide, nI_add, pk_mul, q_inbN, q_cl_nI, q_ltN, q_leN, q_eqN, q_ifT, q_ifF, q_cIs, q_cVs, decide_false, decide_true, Bool.not_false, Bool.not_true, cond_true, cond_false, ne_eq, not_false_eq_true, not_true_eq_false, if_true, if_false, z_lcond]
        simp [z_codeW, c])
  refine Eq.trans hl ?_
  refine (b_X6_liars_5 sx (d + 6) _ (nI (2 ^ sNs B)) H).trans ?_
  rw [hns, q_shl1 _ (by omega)]
  simp (disch := omega) only [Bool.cond_decide, nI_add, pk_mul, q_inbN, q_cl_nI, q_ltN, q_leN, q_eqN, q_ifT, q_ifF, q_cIs, q_cVs, decide_false, decide_true, Bool.not_false, Bool.not_true, cond_true, cond_false, ne_eq, not_false_eq_true, not_true_eq_false, if_true, if_false]
  rfl
theorem m_liarsL (sx : QX) (d : Nat) (H : QH) (B : SB) (hB : q_mB H B) (hs : q_sB B) : q_CL (q_tb sx) q_kpt (d + 7) (168, ([vr 9 165], H)) = rI (z_codeW (z_liar B (m_get H 0))) H := by
  have hs' := hs
  have hB' := hB
  obtain ⟨⟨g1, g2⟩, -, ⟨g5, g6⟩, -⟩ := hs'
  obtain ⟨hnb, -, hns, -⟩ := hB'
  have h16 := z_pow16 hs
  refine (b_X7_liars_0 sx (d + 6) H).trans ?_
  have inner : ∀ (m : Nat) (a : Option Nat) (c : Bool), m < 16 → q_EV (q_tb sx) q_kpt (d + 7) 168 (41, ([(0, vr 9 165), (1, vi (z_codeW a)), (2, vn m), (3, vi (z01 c)), (4, vn 0)], ([], H))) = q_EV (q_tb sx) q_kpt (d + 7) 168 (5, ([(0, vr 9 165), (1, vi (z_codeW (if c && z_expl B (m_get H 0) m then some m else a))), (2, vn (m + 1))], ([], H))) := by
    intro m a c hm
    have hl := z_loop (sNb B) (fun b (f : Bool) => q_EV (q_tb sx) q_kpt (d + 7) 168 (41, ([(0, vr 9 165), (1, vi (z_codeW a)), (2, vn m), (3, vi (z01 f)), (4, vn b)], ([], H)))) (fun b f => f && !(decide (m_get H 0 (7 + b) = nI 3) && !(z_lies B (m_get H 0) m b))) (fun b f hb => by
      refine (b_X7_liars_41 sx (d + 6) _ (nI m) _ (nI b) H).trans ?_
      rw [hnb, m_lies sx (d + 4) m b H B hB hs hb (by omega)]
      simp only [m_get0]
      simp (disch := omega) only [Bool.cond_decide, nI_add, pk_mul, q_inbN, q_cl_nI, q_ltN, q_leN, q_eqN, q_ifT, q_ifF, q_cIs, q_cVs, decide_false, decide_true, Bool.not_false, Bool.not_true, cond_true, cond_false, ne_eq, not_false_eq_true, not_true_eq_false, if_true, if_false]
      cases f with
      | false => simp [z01]
      | true =>
        by_cases e : H 166 (7 + b) = nI 3
        · cases z_lies B (m_get H 0) m b <;> simp [z01, e, nI_eq]
        · simp [z01, e, nI_eq]) c
    refine Eq.trans hl ?_
    have e : ∀ n, z_fold n (fun b f => f && !(decide (m_get H 0 (7 + b) = nI 3) && !(z_lies B (m_get H 0) m b))) c = (c && !(z_any n (fun b => decide (m_get H 0 (7 + b) = nI 3) && !(z_lies B (m_get H 0) m b)))) := by
      intro n
      induction n with
      | zero => show c = (c && !false); cases c <;> rfl
      | succ n ih =>
        show (z_fold n _ c && _) = (c && !(z_any n _ || _))
        rw [ih]
        cases c <;> cases z_any n (fun b => decide (m_get H 0 (7 + b) = nI 3) && !(z_lies B (m_get H 0) m b)) <;> simp
    rw [e]
    refine (b_X7_liars_41 sx (d + 6) _ (nI m) _ (nI (sNb B)) H).trans ?_
    rw [hnb]
    simp (disch := omega) only [Bool.cond_decide, nI_add, pk_mul, q_inbN, q_cl_nI, q_ltN, q_leN, q_eqN, q_ifT, q_ifF, q_cIs, q_cVs, decide_false, decide_true, Bool.not_false, Bool.not_true, cond_true, cond_false, ne_eq, not_false_eq_true, not_true_eq_false, if_true, if_false]
    unfold z_expl
    cases c && !(z_any (sNb B) (fun b => decide (m_get H 0 (7 + b) = nI 3) && !(z_lies B (m_get H 0) m b))) <;> simp [z01, nI_eq, z_codeW]
  obtain ⟨hl, -⟩ := z_loopI (fun i (a : Option Nat) => ∀ k, a = some k → k < i) (2 ^ sNs B) (fun m a => q_EV (q_tb sx) q_kpt (d + 7) 168 (5, ([(0, vr 9 165), (1, vi (z_codeW a)), (2, vn m)], ([], H)))) (z_lstep B (m_get H 0)) none (fun k h => by cases h) (fun m a hm ha => z_lstep_lt ha) (fun m a hm ha => by
    refine (b_X7_liars_5 sx (d + 6) _ (nI m) H).trans ?_
    rw [hns, q_shl1 _ (by omega)]
    unfold z_lstep
    cases a with
    | none =>
      have h := inner m none true (by omega)
      simp (disch := omega) only [Bool.cond_decide, nI_add, pk_mul, q_inbN, q_cl_nI, q_ltN, q_leN, q_eqN, q_ifT, q_ifF, q_cIs, q_cVs, decide_false, decide_true, Bool.not_false, Bool.not_true, cond_true, cond_false, ne_eq, not_false_eq_true, not_true_eq_false, if_true, if_false, z_lcond]
      exact h
    | some k =>
      have hk := ha k rfl
      have b1 := z_ones_le m
      have b2 := z_ones_le k
      have e4 := z_codeW_m4 (show k < 2147483648 by omega)
      show cond _ _ (cond (decide (nI k = -4)) _ _) = _
      rw [decide_eq_false e4, cond_false, ones_eq sx (d + 5) m H (by omega), q_cIs, show z_codeW (some k) = nI k from rfl, ones_eq sx (d + 5) k H (by omega), q_cIs]
      by_cases c : z_ones m < z_ones k
      · have h := inner m (some k) true (by omega)
        simp (disch := omega) only [Bool.cond_decide, nI_add, pk_mul, q_inbN, q_cl_nI, q_ltN, q_leN, q_eqN, q_ifT, q_ifF, q_cIs, q_cVs, decide_false, decide_true, Bool.not_false, Bool.not_true, cond_true, cond_false, ne_eq, not_false_eq_true, not_true_eq_false, if_true, if_false, c, z_lcond]
        exact h
      · have h := inner m (some k) false (by omega)
        simp (disch := omega) only [Bool.cond_decide, nI_add, pk_mul, q_inbN, q_cl_nI, q_ltN, q_leN, q_eqN, q_ifT, q_ifF, q_cIs, q_cVs, decide_false, decide_true, Bool.not_false, Bool.not_true, cond_true, cond_false, ne_eq, not_false_eq_true, not_true_eq_false, if_true, if_false, c, z_lcond]
        exact h)
  refine Eq.trans hl ?_
  refine (b_X7_liars_5 sx (d + 6) _ (nI (2 ^ sNs B)) H).trans ?_
  rw [hns, q_shl1 _ (by omega)]
  simp (disch := omega) only [Bool.cond_decide, nI_add, pk_mul, q_inbN, q_cl_nI, q_ltN, q_leN, q_eqN, q_ifT, q_ifF, q_cIs, q_cVs, decide_false, decide_true, Bool.not_false, Bool.not_true, cond_true, cond_false, ne_eq, not_false_eq_true, not_true_eq_false, if_true, if_false]
  rfl
theorem two_liars (sx : QX) (d n : Nat) (A : SA) (hA : q_sA n A) : q_two sx d 78 168 [] A n := by
  have hA' := hA
  obtain ⟨-, hs, hv, -⟩ := hA'
  refine two_same hA (z_codeW (z_liar (aB A) (aW A))) (fun H hR => ?_) (fun H hR => ?_)
  · rw [← ag_liar hs hR.2.2.1]
    exact q_liarsL sx (d + 33) H (aB A) hR.2.1 hs
  · rw [← ag_liar hs hR.2.2.1.1]
    exact m_liarsL sx (d + 33) H (aB A) hR.2.1 hs
