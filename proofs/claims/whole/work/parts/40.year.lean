/-! year -/
def z_draw (z k : Nat) : Nat := ((7919 * z + 6151 * k + 1) * (7919 * z + 6151 * k + 1)) % 65521
theorem draw_eq (z k : Nat) (hz : z < 10000) (hk : k < 100) : ((((((7919 : Int64) * (nI z).toInt64) + ((6151 : Int64) * (nI k).toInt64)) + (1 : Int64)) * ((((7919 : Int64) * (nI z).toInt64) + ((6151 : Int64) * (nI k).toInt64)) + (1 : Int64))) - (((((7919 : Int64) * (nI z).toInt64) + ((6151 : Int64) * (nI k).toInt64)) + (1 : Int64)) * ((((7919 : Int64) * (nI z).toInt64) + ((6151 : Int64) * (nI k).toInt64)) + (1 : Int64))) / (65521 : Int64) * (65521 : Int64)).toInt32 = nI (z_draw z k) := by
  rw [nI_l (by omega), nI_l (by omega), show (7919 : Int64) = lN 7919 from rfl, show (6151 : Int64) = lN 6151 from rfl, show (65521 : Int64) = lN 65521 from rfl, show (1 : Int64) = lN 1 from rfl, lN_mul, lN_mul, lN_add, lN_add, lN_mul]
  have hx : 7919 * z + 6151 * k + 1 ≤ 80000000 := by omega
  have hb := Nat.mul_le_mul hx hx
  rw [pk_lRem (by omega) (by omega) (by omega), lN_i]
  rfl
theorem z_draw_lt (z k : Nat) : z_draw z k < 65521 := Nat.mod_lt _ (by omega)
def z_live (B : SB) (w : SW) (t : Nat) : SW := if t % 8 = 5 then (if w (7 + t / 8 % sNb B) = nI 0 then upd w (55 + 6 * (t / 64 % sNs B) + t / 8 % sNb B) (nI (t / 256 % 8)) else w) else if t % 8 = 6 then (if w (7 + t / 8 % sNb B) = nI 1 then z_take B w (t / 8 % sNb B) (nI (t / 256 % 8)) else w) else if t % 8 = 7 then z_night B w else if (decide (nI 0 < w (79 + t / 64 % sNs B)) && decide (w (7 + t / 8 % sNb B) = nI 0)) = true then z_says B w (t / 64 % sNs B) (t / 8 % sNb B) (t / 256 % sNw B) else w
section LV
variable {B : SB}
theorem lv_b (hs : q_sB B) (t : Nat) : t / 8 % sNb B < sNb B ∧ t / 64 % sNs B < sNs B ∧ t / 256 % sNw B < sNw B := by
  obtain ⟨⟨g1, g2⟩, ⟨g3, g4⟩, ⟨g5, g6⟩, -⟩ := hs
  exact ⟨Nat.mod_lt _ (by omega), Nat.mod_lt _ (by omega), Nat.mod_lt _ (by omega)⟩
theorem ag_live (hs : q_sB B) {v w : SW} (h : q_ag B v w) (t : Nat) : q_ag B (z_live B v t) (z_live B w t) := by
  obtain ⟨hb, h1, hk⟩ := lv_b hs t
  have hs' := hs
  obtain ⟨⟨g1, g2⟩, ⟨g3, g4⟩, ⟨g5, g6⟩, -⟩ := hs'
  unfold z_live
  rw [h (7 + t / 8 % sNb B) (by omega), h (79 + t / 64 % sNs B) (by omega)]
  split
  · split
    · exact ag_upd h _ rfl
    · exact h
  · split
    · split
      · exact ag_take hs h hb
      · exact h
    · split
      · exact ag_nightm hs h
      · split
        · exact ag_says hs h h1 hb hk
        · exact h
theorem vw_live (hs : q_sB B) {n : Nat} {w : SW} (h : q_vw B n w) (hn : n < 900000) (t : Nat) : q_vw B (n + 1) (z_live B w t) := by
  obtain ⟨hb, h1, hk⟩ := lv_b hs t
  unfold z_live
  split
  · split
    · exact vw_mono (vw_vow hs h h1 hb) (by omega)
    · exact vw_mono h (by omega)
  · split
    · split
      · exact vw_mono (vw_take hs h hb) (by omega)
      · exact vw_mono h (by omega)
    · split
      · exact vw_mono (vw_night hs h) (by omega)
      · split
        · rename_i c
          have c' : nI 0 < w (79 + t / 64 % sNs B) ∧ w (7 + t / 8 % sNb B) = nI 0 := by simpa using c
          exact vw_says hs h (by omega) h1 hb hk c'.2 c'.1
        · exact vw_mono h (by omega)
end LV
theorem q_nd {P : Prop} [Decidable P] (h : ¬ P) : (!decide P) = true := by rw [decide_eq_false h]; rfl
theorem q_live (sx : QX) (d t N : Nat) (H : QH) (B : SB) (w : SW) (hs : q_sB B) (hB : q_rB H B) (hv : q_vw B N w) (hN : N < 900000) (ha : q_ag B (c_get H 29) w) (ht : t < 65521) : ∃ H', q_CL (q_tb sx) q_kpt (d + 6) (96, ([vr 5 29, vn t], H)) = rV H' ∧ c_tr H H' ∧ q_ag B (c_get H' 29) (z_live B w t) := by
  obtain ⟨hb, h1, hk⟩ := lv_b hs t
  have hs' := hs
  obtain ⟨⟨g1, g2⟩, ⟨g3, g4⟩, ⟨g5, g6⟩, -⟩ := hs'
  have hB' := hB
  obtain ⟨hnb, hnw, hns, -⟩ := hB'
  have hv2 := vw_ag hs hv ha
  have hb9 := b_X6_live_0 sx (d + 5) 29 (nI t) H
  rw [hnb, hns, hnw] at hb9
  have r8 : nI t - nI t / nI 8 * nI 8 = nI (t % 8) := pk_rem (by omega) (by omega) (by omega)
  have rb : nI t / nI 8 - nI t / nI 8 / nI (sNb B) * nI (sNb B) = nI (t / 8 % sNb B) := by rw [pk_div (by omega) (by omega) (by omega), pk_rem (by omega) (by omega) (by omega)]
  have rs : nI t / nI 64 - nI t / nI 64 / nI (sNs B) * nI (sNs B) = nI (t / 64 % sNs B) := by rw [pk_div (by omega) (by omega) (by omega), pk_rem (by omega) (by omega) (by omega)]
  have ru : nI t / nI 256 - nI t / nI 256 / nI 8 * nI 8 = nI (t / 256 % 8) := by rw [pk_div (by omega) (by omega) (by omega), pk_rem (by omega) (by omega) (by omega)]
  have rw2 : nI t / nI 256 - nI t / nI 256 / nI (sNw B) * nI (sNw B) = nI (t / 256 % sNw B) := by rw [pk_div (by omega) (by omega) (by omega), pk_rem (by omega) (by omega) (by omega)]
  rw [r8, rb, rs, ru] at hb9
  simp (disch := omega) only [q_eqN, q_nd, cond_true] at hb9
  have hm8 : t % 8 < 8 := Nat.mod_lt _ (by omega)
  unfold z_live
  by_cases c5 : t % 8 = 5
  · rw [if_pos c5]
    by_cases c : w (7 + t / 8 % sNb B) = nI 0
    · rw [if_pos c]
      refine ⟨c_put H 29 (upd (c_get H 29) (55 + 6 * (t / 64 % sNs B) + t / 8 % sNb B) (nI (t / 256 % 8))), hb9.trans ?_, ctr_put, by rw [c_get_put]; exact ag_upd ha _ rfl⟩
      simp (disch := omega) only [Bool.cond_decide, nI_add, pk_mul, q_inbN, q_cl_nI, q_ltN, q_leN, q_eqN, q_ifT, q_ifF, q_cIs, q_cVs, decide_false, decide_true, Bool.not_false, Bool.not_true, cond_true, cond_false, ne_eq, not_false_eq_true, not_true_eq_false, if_true, if_false]
      rw [q_isIn sx _ 29 _ _ H (by omega), ha (7 + t / 8 % sNb B) (by omega), decide_eq_true c]
      simp (disch := omega) only [Bool.cond_decide, nI_add, pk_mul, q_inbN, q_cl_nI, q_ltN, q_leN, q_eqN, q_ifT, q_ifF, q_cIs, q_cVs, decide_false, decide_true, Bool.not_false, Bool.not_true, cond_true, cond_false, ne_eq, not_false_eq_true, not_true_eq_false, if_true, if_false, z01]
      rw [q_vow sx _ 29 _ _ _ H (by omega) (by omega), q_cVs]
    · rw [if_neg c]
      refine ⟨H, hb9.trans ?_, fun a _ => rfl, ha⟩
      simp (disch := omega) only [Bool.cond_decide, nI_add, pk_mul, q_inbN, q_cl_nI, q_ltN, q_leN, q_eqN, q_ifT, q_ifF, q_cIs, q_cVs, decide_false, decide_true, Bool.not_false, Bool.not_true, cond_true, cond_false, ne_eq, not_false_eq_true, not_true_eq_false, if_true, if_false]
      rw [q_isIn sx _ 29 _ _ H (by omega), ha (7 + t / 8 % sNb B) (by omega), decide_eq_false c]
      simp (disch := omega) only [Bool.cond_decide, nI_add, pk_mul, q_inbN, q_cl_nI, q_ltN, q_leN, q_eqN, q_ifT, q_ifF, q_cIs, q_cVs, decide_false, decide_true, Bool.not_false, Bool.not_true, cond_true, cond_false, ne_eq, not_false_eq_true, not_true_eq_false, if_true, if_false, z01]
  · rw [if_neg c5]
    by_cases c6 : t % 8 = 6
    · rw [if_pos c6]
      by_cases c : w (7 + t / 8 % sNb B) = nI 1
      · rw [if_pos c]
        refine ⟨c_put H 29 (z_take B (c_get H 29) (t / 8 % sNb B) (nI (t / 256 % 8))), hb9.trans ?_, ctr_put, by rw [c_get_put]; exact ag_take hs ha hb⟩
        simp (disch := omega) only [Bool.cond_decide, nI_add, pk_mul, q_inbN, q_cl_nI, q_ltN, q_leN, q_eqN, q_ifT, q_ifF, q_cIs, q_cVs, decide_false, decide_true, Bool.not_false, Bool.not_true, cond_true, cond_false, ne_eq, not_false_eq_true, not_true_eq_false, if_true, if_false]
        rw [q_isIn sx _ 29 _ _ H (by omega), ha (7 + t / 8 % sNb B) (by omega), decide_eq_true c]
        simp (disch := omega) only [Bool.cond_decide, nI_add, pk_mul, q_inbN, q_cl_nI, q_ltN, q_leN, q_eqN, q_ifT, q_ifF, q_cIs, q_cVs, decide_false, decide_true, Bool.not_false, Bool.not_true, cond_true, cond_false, ne_eq, not_false_eq_true, not_true_eq_false, if_true, if_false, z01]
        rw [q_carryOff sx _ 29 _ _ H B hB hs hb, q_cVs]
      · rw [if_neg c]
        refine ⟨H, hb9.trans ?_, fun a _ => rfl, ha⟩
        simp (disch := omega) only [Bool.cond_decide, nI_add, pk_mul, q_inbN, q_cl_nI, q_ltN, q_leN, q_eqN, q_ifT, q_ifF, q_cIs, q_cVs, decide_false, decide_true, Bool.not_false, Bool.not_true, cond_true, cond_false, ne_eq, not_false_eq_true, not_true_eq_false, if_true, if_false]
        rw [q_isIn sx _ 29 _ _ H (by omega), ha (7 + t / 8 % sNb B) (by omega), decide_eq_false c]
        simp (disch := omega) only [Bool.cond_decide, nI_add, pk_mul, q_inbN, q_cl_nI, q_ltN, q_leN, q_eqN, q_ifT, q_ifF, q_cIs, q_cVs, decide_false, decide_true, Bool.not_false, Bool.not_true, cond_true, cond_false, ne_eq, not_false_eq_true, not_true_eq_false, if_true, if_false, z01]
    · rw [if_neg c6]
      by_cases c7 : t % 8 = 7
      · rw [if_pos c7]
        refine ⟨c_put H 29 (z_day 4 (H 9) (z_fold (sNb B) (z_cstep B) (c_get H 29))), hb9.trans ?_, ctr_put, by rw [c_get_put]; exact ag_night hs ha hB.2.2.2.2.2.2.2.2.1⟩
        simp (disch := omega) only [Bool.cond_decide, nI_add, pk_mul, q_inbN, q_cl_nI, q_ltN, q_leN, q_eqN, q_ifT, q_ifF, q_cIs, q_cVs, decide_false, decide_true, Bool.not_false, Bool.not_true, cond_true, cond_false, ne_eq, not_false_eq_true, not_true_eq_false, if_true, if_false]
        rw [q_night sx (d + 2) 29 H B hB hs (by omega), q_cVs]
      · rw [if_neg c7, ← ag_can hs ha h1 hb]
        cases c : (decide (nI 0 < c_get H 29 (79 + t / 64 % sNs B)) && decide (c_get H 29 (7 + t / 8 % sNb B) = nI 0)) with
        | true =>
          rw [if_pos rfl]
          refine ⟨c_put H 29 (z_says B (c_get H 29) (t / 64 % sNs B) (t / 8 % sNb B) (t / 256 % sNw B)), hb9.trans ?_, ctr_put, by rw [c_get_put]; exact ag_says hs ha h1 hb hk⟩
          simp (disch := omega) only [Bool.cond_decide, nI_add, pk_mul, q_inbN, q_cl_nI, q_ltN, q_leN, q_eqN, q_ifT, q_ifF, q_cIs, q_cVs, decide_false, decide_true, Bool.not_false, Bool.not_true, cond_true, cond_false, ne_eq, not_false_eq_true, not_true_eq_false, if_true, if_false]
          rw [q_canSay sx _ 29 _ _ H (by omega) (by omega), c]
          simp (disch := omega) only [Bool.cond_decide, nI_add, pk_mul, q_inbN, q_cl_nI, q_ltN, q_leN, q_eqN, q_ifT, q_ifF, q_cIs, q_cVs, decide_false, decide_true, Bool.not_false, Bool.not_true, cond_true, cond_false, ne_eq, not_false_eq_true, not_true_eq_false, if_true, if_false, z01]
          rw [hnw, rw2]
          simp (disch := omega) only [Bool.cond_decide, nI_add, pk_mul, q_inbN, q_cl_nI, q_ltN, q_leN, q_eqN, q_ifT, q_ifF, q_cIs, q_cVs, decide_false, decide_true, Bool.not_false, Bool.not_true, cond_true, cond_false, ne_eq, not_false_eq_true, not_true_eq_false, if_true, if_false]
          rw [q_speak sx _ 29 _ _ _ N H B hB hs (by omega) hv2.1 (by omega) h1 hb hk]
          simp (disch := omega) only [Bool.cond_decide, nI_add, pk_mul, q_inbN, q_cl_nI, q_ltN, q_leN, q_eqN, q_ifT, q_ifF, q_cIs, q_cVs, decide_false, decide_true, Bool.not_false, Bool.not_true, cond_true, cond_false, ne_eq, not_false_eq_true, not_true_eq_false, if_true, if_false, q_nd]
        | false =>
          rw [if_neg (by simp)]
          refine ⟨H, hb9.trans ?_, fun a _ => rfl, ha⟩
          simp (disch := omega) only [Bool.cond_decide, nI_add, pk_mul, q_inbN, q_cl_nI, q_ltN, q_leN, q_eqN, q_ifT, q_ifF, q_cIs, q_cVs, decide_false, decide_true, Bool.not_false, Bool.not_true, cond_true, cond_false, ne_eq, not_false_eq_true, not_true_eq_false, if_true, if_false]
          rw [q_canSay sx _ 29 _ _ H (by omega) (by omega), c]
          simp (disch := omega) only [Bool.cond_decide, nI_add, pk_mul, q_inbN, q_cl_nI, q_ltN, q_leN, q_eqN, q_ifT, q_ifF, q_cIs, q_cVs, decide_false, decide_true, Bool.not_false, Bool.not_true, cond_true, cond_false, ne_eq, not_false_eq_true, not_true_eq_false, if_true, if_false, z01]
theorem m_live (sx : QX) (d t : Nat) (H : QH) (B : SB) (w : SW) (hs : q_sB B) (hB : q_mB H B) (ha : q_ag B (m_get H 83) w) (ht : t < 65521) : ∃ H', q_CL (q_tb sx) q_kpt (d + 6) (172, ([vr 9 165, vn t], H)) = rV H' ∧ m_tr H H' ∧ q_ag B (m_get H' 83) (z_live B w t) := by
  obtain ⟨hb, h1, hk⟩ := lv_b hs t
  have hs' := hs
  obtain ⟨⟨g1, g2⟩, ⟨g3, g4⟩, ⟨g5, g6⟩, -⟩ := hs'
  have hB' := hB
  obtain ⟨hnb, hnw, hns, -⟩ := hB'
  have hb9 := b_X7_doesBy_0 sx (d + 5) (nI t) H
  rw [hnb, hns] at hb9
  have r8 : nI t - nI t / nI 8 * nI 8 = nI (t % 8) := pk_rem (by omega) (by omega) (by omega)
  have rb : nI t / nI 8 - nI t / nI 8 / nI (sNb B) * nI (sNb B) = nI (t / 8 % sNb B) := by rw [pk_div (by omega) (by omega) (by omega), pk_rem (by omega) (by omega) (by omega)]
  have rs : nI t / nI 64 - nI t / nI 64 / nI (sNs B) * nI (sNs B) = nI (t / 64 % sNs B) := by rw [pk_div (by omega) (by omega) (by omega), pk_rem (by omega) (by omega) (by omega)]
  have ru : nI t / nI 256 - nI t / nI 256 / nI 8 * nI 8 = nI (t / 256 % 8) := by rw [pk_div (by omega) (by omega) (by omega), pk_rem (by omega) (by omega) (by omega)]
  have rw2 : nI t / nI 256 - nI t / nI 256 / nI (sNw B) * nI (sNw B) = nI (t / 256 % sNw B) := by rw [pk_div (by omega) (by omega) (by omega), pk_rem (by omega) (by omega) (by omega)]
  rw [r8, rb, rs, ru] at hb9
  simp (disch := omega) only [q_eqN, q_nd, cond_true] at hb9
  have hm8 : t % 8 < 8 := Nat.mod_lt _ (by omega)
  have e90 : H 166 (90 + t / 8 % sNb B) = w (7 + t / 8 % sNb B) := by
    rw [← ha (7 + t / 8 % sNb B) (by omega)]
    unfold m_get
    exact congrArg (H 166) (by omega)
  unfold z_live
  by_cases c5 : t % 8 = 5
  · rw [if_pos c5]
    by_cases c : w (7 + t / 8 % sNb B) = nI 0
    · rw [if_pos c]
      refine ⟨m_put H 83 (upd (m_get H 83) (55 + 6 * (t / 64 % sNs B) + t / 8 % sNb B) (nI (t / 256 % 8))), hb9.trans ?_, tr_fr hs (fr_upd (by omega)), by rw [m_get_put]; exact ag_upd ha _ rfl⟩
      simp (disch := omega) only [Bool.cond_decide, nI_add, pk_mul, q_inbN, q_cl_nI, q_ltN, q_leN, q_eqN, q_ifT, q_ifF, q_cIs, q_cVs, decide_false, decide_true, Bool.not_false, Bool.not_true, cond_true, cond_false, ne_eq, not_false_eq_true, not_true_eq_false, if_true, if_false]
      rw [m_inBed sx _ 83 _ H B hB hs (by omega) (by omega), z_inT hb, ha (7 + t / 8 % sNb B) (by omega), decide_eq_true c]
      simp (disch := omega) only [Bool.cond_decide, nI_add, pk_mul, q_inbN, q_cl_nI, q_ltN, q_leN, q_eqN, q_ifT, q_ifF, q_cIs, q_cVs, decide_false, decide_true, Bool.not_false, Bool.not_true, cond_true, cond_false, ne_eq, not_false_eq_true, not_true_eq_false, if_true, if_false, z01]
      rw [show 138 + 6 * (t / 64 % sNs B) + t / 8 % sNb B = 83 + (55 + 6 * (t / 64 % sNs B) + t / 8 % sNb B) by omega, m_hs]
    · rw [if_neg c]
      refine ⟨H, hb9.trans ?_, tr_rf H, ha⟩
      simp (disch := omega) only [Bool.cond_decide, nI_add, pk_mul, q_inbN, q_cl_nI, q_ltN, q_leN, q_eqN, q_ifT, q_ifF, q_cIs, q_cVs, decide_false, decide_true, Bool.not_false, Bool.not_true, cond_true, cond_false, ne_eq, not_false_eq_true, not_true_eq_false, if_true, if_false]
      rw [m_inBed sx _ 83 _ H B hB hs (by omega) (by omega), z_inT hb, ha (7 + t / 8 % sNb B) (by omega), decide_eq_false c]
      simp (disch := omega) only [Bool.cond_decide, nI_add, pk_mul, q_inbN, q_cl_nI, q_ltN, q_leN, q_eqN, q_ifT, q_ifF, q_cIs, q_cVs, decide_false, decide_true, Bool.not_false, Bool.not_true, cond_true, cond_false, ne_eq, not_false_eq_true, not_true_eq_false, if_true, if_false, z01]
  · rw [if_neg c5]
    by_cases c6 : t % 8 = 6
    · rw [if_pos c6]
      by_cases c : w (7 + t / 8 % sNb B) = nI 1
      · rw [if_pos c]
        refine ⟨m_put H 83 (z_take B (m_get H 83) (t / 8 % sNb B) (nI (t / 256 % 8))), hb9.trans ?_, tr_fr hs (fr_take hs hb), by rw [m_get_put]; exact ag_take hs ha hb⟩
        simp (disch := omega) only [Bool.cond_decide, nI_add, pk_mul, q_inbN, q_cl_nI, q_ltN, q_leN, q_eqN, q_ifT, q_ifF, q_cIs, q_cVs, decide_false, decide_true, Bool.not_false, Bool.not_true, cond_true, cond_false, ne_eq, not_false_eq_true, not_true_eq_false, if_true, if_false, e90, c]
        rw [m_takesFor sx _ 83 _ _ H B hB hs (by omega) hb, q_cVs]
      · rw [if_neg c]
        refine ⟨H, hb9.trans ?_, tr_rf H, ha⟩
        simp (disch := omega) only [Bool.cond_decide, nI_add, pk_mul, q_inbN, q_cl_nI, q_ltN, q_leN, q_eqN, q_ifT, q_ifF, q_cIs, q_cVs, decide_false, decide_true, Bool.not_false, Bool.not_true, cond_true, cond_false, ne_eq, not_false_eq_true, not_true_eq_false, if_true, if_false, e90, c]
    · rw [if_neg c6]
      by_cases c7 : t % 8 = 7
      · rw [if_pos c7]
        refine ⟨m_put H 83 (z_night B (m_get H 83)), hb9.trans ?_, tr_fr hs (fr_night hs), by rw [m_get_put]; exact ag_nightm hs ha⟩
        simp (disch := omega) only [Bool.cond_decide, nI_add, pk_mul, q_inbN, q_cl_nI, q_ltN, q_leN, q_eqN, q_ifT, q_ifF, q_cIs, q_cVs, decide_false, decide_true, Bool.not_false, Bool.not_true, cond_true, cond_false, ne_eq, not_false_eq_true, not_true_eq_false, if_true, if_false]
        rw [m_passes sx (d + 1) 83 H B hB hs (by omega), q_cVs]
        rfl
      · rw [if_neg c7, ← ag_can hs ha h1 hb]
        cases c : (decide (nI 0 < m_get H 83 (79 + t / 64 % sNs B)) && decide (m_get H 83 (7 + t / 8 % sNb B) = nI 0)) with
        | true =>
          rw [if_pos rfl]
          have c' : nI 0 < m_get H 83 (79 + t / 64 % sNs B) ∧ m_get H 83 (7 + t / 8 % sNb B) = nI 0 := by simpa using c
          refine ⟨m_put H 83 (z_says B (m_get H 83) (t / 64 % sNs B) (t / 8 % sNb B) (t / 256 % sNw B)), hb9.trans ?_, tr_fr hs (fr_says hs h1 hb), by rw [m_get_put]; exact ag_says hs ha h1 hb hk⟩
          simp (disch := omega) only [Bool.cond_decide, nI_add, pk_mul, q_inbN, q_cl_nI, q_ltN, q_leN, q_eqN, q_ifT, q_ifF, q_cIs, q_cVs, decide_false, decide_true, Bool.not_false, Bool.not_true, cond_true, cond_false, ne_eq, not_false_eq_true, not_true_eq_false, if_true, if_false]
          rw [m_canSay sx _ 83 _ _ H B hB hs (by omega) h1 hb, c]
          simp (disch := omega) only [Bool.cond_decide, nI_add, pk_mul, q_inbN, q_cl_nI, q_ltN, q_leN, q_eqN, q_ifT, q_ifF, q_cIs, q_cVs, decide_false, decide_true, Bool.not_false, Bool.not_true, cond_true, cond_false, ne_eq, not_false_eq_true, not_true_eq_false, if_true, if_false, z01]
          rw [hnw, rw2]
          simp (disch := omega) only [Bool.cond_decide, nI_add, pk_mul, q_inbN, q_cl_nI, q_ltN, q_leN, q_eqN, q_ifT, q_ifF, q_cIs, q_cVs, decide_false, decide_true, Bool.not_false, Bool.not_true, cond_true, cond_false, ne_eq, not_false_eq_true, not_true_eq_false, if_true, if_false]
          rw [m_says sx _ 83 _ _ _ H B hB hs (by omega) h1 hb hk c'.2]
          simp (disch := omega) only [Bool.cond_decide, nI_add, pk_mul, q_inbN, q_cl_nI, q_ltN, q_leN, q_eqN, q_ifT, q_ifF, q_cIs, q_cVs, decide_false, decide_true, Bool.not_false, Bool.not_true, cond_true, cond_false, ne_eq, not_false_eq_true, not_true_eq_false, if_true, if_false, q_nd]
        | false =>
          rw [if_neg (by simp)]
          refine ⟨H, hb9.trans ?_, tr_rf H, ha⟩
          simp (disch := omega) only [Bool.cond_decide, nI_add, pk_mul, q_inbN, q_cl_nI, q_ltN, q_leN, q_eqN, q_ifT, q_ifF, q_cIs, q_cVs, decide_false, decide_true, Bool.not_false, Bool.not_true, cond_true, cond_false, ne_eq, not_false_eq_true, not_true_eq_false, if_true, if_false]
          rw [m_canSay sx _ 83 _ _ H B hB hs (by omega) h1 hb, c]
          simp (disch := omega) only [Bool.cond_decide, nI_add, pk_mul, q_inbN, q_cl_nI, q_ltN, q_leN, q_eqN, q_ifT, q_ifF, q_cIs, q_cVs, decide_false, decide_true, Bool.not_false, Bool.not_true, cond_true, cond_false, ne_eq, not_false_eq_true, not_true_eq_false, if_true, if_false, z01]
def z_year (B : SB) (z : Nat) : Nat → Nat → SW → SW
  | 0, _, w => w
  | m + 1, k, w => z_year B z m (k + 1) (z_live B w (z_draw z k))
theorem drawOf_eq (sx : QX) (d z k : Nat) (H : QH) (hz : z < 10000) (hk : k < 100) : q_CL (q_tb sx) q_kpt (d + 1) (95, ([vn z, vn k], H)) = rI (nI (z_draw z k)) H := by
  refine (b_X6_drawOf_0 sx d (nI z) (nI k) H).trans ?_
  rw [draw_eq z k hz hk]
  rfl
theorem q_yearL (sx : QX) (d z n : Nat) (y : Int32) (B : SB) (hs : q_sB B) (hz : z < 10000) (hn : n ≤ 60) : ∀ (m k N : Nat) (w : SW) (H : QH), k + m = n → N + m < 900000 → q_vw B N w → q_rB H B → q_ag B (c_get H 29) w → ∃ H', q_EV (q_tb sx) q_kpt (d + 7) 81 (45, ([(0, vr 8 0), (1, vn z), (2, vn n), (3, vi y), (4, vn k)], ([], H))) = rI (nI (z_tally B (z_year B z m k w) (if y = nI 0 then nI 2 else nI 3))) H' ∧ c_tr H H' := by
  intro m
  induction m with
  | zero =>
    intro k N w H hk hN hv hB ha
    refine ⟨H, (b_X6_year_45 sx (d + 6) (nI z) (nI n) y (nI k) H).trans ?_, fun a _ => rfl⟩
    simp (disch := omega) only [Bool.cond_decide, nI_add, pk_mul, q_inbN, q_cl_nI, q_ltN, q_leN, q_eqN, q_ifT, q_ifF, q_cIs, q_cVs, decide_false, decide_true, Bool.not_false, Bool.not_true, cond_true, cond_false, ne_eq, not_false_eq_true, not_true_eq_false, if_true, if_false, q_tally sx _ 29 _ H B hB hs, ag_tally hs ha]
    by_cases c : y = nI 0
    · rw [if_neg (fun q => q c), if_pos c]; rfl
    · rw [if_pos c, if_neg c]; rfl
  | succ m ih =>
    intro k N w H hk hN hv hB ha
    obtain ⟨H1, r1, t1, a1⟩ := q_live sx d (z_draw z k) N H B w hs hB hv (by omega) ha (z_draw_lt z k)
    obtain ⟨H2, r2, t2⟩ := ih (k + 1) (N + 1) (z_live B w (z_draw z k)) H1 (by omega) (by omega) (vw_live hs hv (by omega) _) (ctr_rB hB t1) a1
    refine ⟨H2, (b_X6_year_45 sx (d + 6) (nI z) (nI n) y (nI k) H).trans ?_, ctr_tr t1 t2⟩
    simp (disch := omega) only [Bool.cond_decide, nI_add, pk_mul, q_inbN, q_cl_nI, q_ltN, q_leN, q_eqN, q_ifT, q_ifF, q_cIs, q_cVs, decide_false, decide_true, Bool.not_false, Bool.not_true, cond_true, cond_false, ne_eq, not_false_eq_true, not_true_eq_false, if_true, if_false, drawOf_eq, r1]
    exact r2
theorem m_yearL (sx : QX) (d z n : Nat) (y : Int32) (B : SB) (hs : q_sB B) (hz : z < 10000) (hn : n ≤ 60) : ∀ (m k N : Nat) (w : SW) (H : QH), k + m = n → N + m < 900000 → q_vw B N w → q_mB H B → q_ag B (m_get H 83) w → ∃ H', q_EV (q_tb sx) q_kpt (d + 7) 173 (43, ([(0, vr 9 165), (1, vn z), (2, vn n), (3, vi y), (4, vn k)], ([], H))) = rI (nI (z_tally B (z_year B z m k w) (if y = nI 0 then nI 2 else nI 3))) H' ∧ m_tr H H' := by
  intro m
  induction m with
  | zero =>
    intro k N w H hk hN hv hB ha
    refine ⟨H, (b_X7_year_43 sx (d + 6) (nI z) (nI n) y (nI k) H).trans ?_, tr_rf H⟩
    rw [m_manyHow sx _ 83 _ H B hB hs (by omega), m_manyHow sx _ 83 _ H B hB hs (by omega), ag_tally hs ha, ag_tally hs ha]
    simp (disch := omega) only [Bool.cond_decide, nI_add, pk_mul, q_inbN, q_cl_nI, q_ltN, q_leN, q_eqN, q_ifT, q_ifF, q_cIs, q_cVs, decide_false, decide_true, Bool.not_false, Bool.not_true, cond_true, cond_false, ne_eq, not_false_eq_true, not_true_eq_false, if_true, if_false]
    by_cases c : y = nI 0
    · rw [if_neg (fun q => q c), if_pos c]; rfl
    · rw [if_pos c, if_neg c]; rfl
  | succ m ih =>
    intro k N w H hk hN hv hB ha
    obtain ⟨H1, r1, t1, a1⟩ := m_live sx d (z_draw z k) H B w hs hB ha (z_draw_lt z k)
    obtain ⟨H2, r2, t2⟩ := ih (k + 1) (N + 1) (z_live B w (z_draw z k)) H1 (by omega) (by omega) (vw_live hs hv (by omega) _) (tr_mB hB t1) a1
    refine ⟨H2, (b_X7_year_43 sx (d + 6) (nI z) (nI n) y (nI k) H).trans ?_, tr_tr t1 t2⟩
    rw [draw_eq z k hz (by omega), r1]
    rw [decide_eq_false (show ¬ nI n ≤ nI k by rw [nI_leI (by omega) (by omega)]; omega), cond_false, decide_eq_false (show ¬ (65521 : Int64) = 0 by decide), nI_add]
    exact r2
theorem out_lo {x : Int32} {a n : Nat} (h : (decide (nI a ≤ x) && decide (x ≤ nI n)) = false) : x < nI a ∨ nI n < x := by
  by_cases c : nI a ≤ x
  · by_cases c2 : x ≤ nI n
    · rw [decide_eq_true c, decide_eq_true c2] at h; cases h
    · exact Or.inr (Int32.not_le.mp c2)
  · exact Or.inl (Int32.not_le.mp c)
theorem two_year (sx : QX) (d n : Nat) (A : SA) (hA : q_sA n A) (hn : n < 800000) (x y z : Int32) : q_two sx d 81 173 [vi x, vi y, vi z] A n := by
  have hA' := hA
  obtain ⟨-, hs, hv, -⟩ := hA'
  have hc := fun H => b_X6_year_0 sx (d + 39) x y z H
  have hm := fun H => b_X7_year_0 sx (d + 39) x y z H
  simp only [e64_0, e64_9999, e64_60, e64_1, in_eq, in_1, isPart_eq, Bool.cond_decide, q_cIs] at hm hc
  have n0 : ¬ z01 true = nI 0 := by decide
  have n1 : z01 false = nI 0 := by decide
  cases c1 : (decide (nI 0 ≤ x) && decide (x ≤ nI 9999)) with
  | false =>
    refine two_same hA (-1) (fun H hR => (hc H).trans ?_) (fun H hR => (hm H).trans ?_)
    · rcases out_lo c1 with q | q
      · rw [if_pos q]
      · rw [if_pos q, ite_self]
    · rw [c1, if_pos n1]
  | true =>
    obtain ⟨u, -, hu, rfl⟩ := (in_lo x 0 9999 (by omega) (by omega)).mp c1
    have f1 : ¬ nI u < nI 0 := by rw [nI_ltI (by omega) (by omega)]; omega
    have f2 : ¬ nI 9999 < nI u := by rw [nI_ltI (by omega) (by omega)]; omega
    simp only [c1, if_neg n0] at hm
    simp only [if_neg f1, if_neg f2] at hc
    cases c2 : (decide (nI 1 ≤ y) && decide (y ≤ nI 60)) with
    | false =>
      refine two_same hA (-1) (fun H hR => (hc H).trans ?_) (fun H hR => (hm H).trans ?_)
      · rcases out_lo c2 with q | q
        · rw [if_pos q]
        · rw [if_pos q, ite_self]
      · rw [c2, if_pos n1]
    | true =>
      obtain ⟨v, hv1, hv2, rfl⟩ := (in_lo y 1 60 (by omega) (by omega)).mp c2
      have f3 : ¬ nI v < nI 1 := by rw [nI_ltI (by omega) (by omega)]; omega
      have f4 : ¬ nI 60 < nI v := by rw [nI_ltI (by omega) (by omega)]; omega
      simp only [c2, if_neg n0] at hm
      simp only [if_neg f3, if_neg f4] at hc
      cases c3 : q_inb z 2 with
      | false =>
        refine two_same hA (-1) (fun H hR => (hc H).trans ?_) (fun H hR => (hm H).trans ?_)
        · rw [c3]; rfl
        · rw [c3]; rfl
      | true =>
        simp only [c3, ne_eq, if_pos n0] at hm hc
        refine two_try hA (nI (z_tally (aB A) (z_year (aB A) u v 0 (aW A)) (if z = nI 0 then nI 2 else nI 3))) (fun H hR => ?_) (fun H hR => ?_)
        · obtain ⟨H1, r1, t1, ag1⟩ := q_try sx (d + 37) hs hR
          obtain ⟨H2, r2, t2⟩ := q_yearL sx (d + 33) u v z (aB A) hs (by omega) hv2 v 0 n (aW A) H1 (by omega) (by omega) hv (ctr_rB hR.2.1 t1) ag1
          exact ⟨H2, (hc H).trans ((congrArg (fun r => q_cV r _) r1).trans r2), ctr_tr t1 t2⟩
        · obtain ⟨H1, r1, t1, ag1⟩ := m_try sx (d + 37) hs hR
          obtain ⟨H2, r2, t2⟩ := m_yearL sx (d + 33) u v z (aB A) hs (by omega) hv2 v 0 n (aW A) H1 (by omega) (by omega) hv (tr_mB hR.2.1 t1) ag1
          exact ⟨H2, (hm H).trans ((congrArg (fun r => q_cV r _) r1).trans r2), tr_tr t1 t2⟩
