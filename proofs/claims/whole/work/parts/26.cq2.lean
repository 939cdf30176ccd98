/-! the class's quarry: promises, days, the best saying -/
theorem z_anyL {R : Type} (n : Nat) (F : Nat → R) (c : Nat → Bool) (yes : R) (h : ∀ k, k < n → F k = if c k = true then yes else F (k + 1)) : F 0 = if z_any n c = true then yes else F n := by
  have key : ∀ i, i ≤ n → F 0 = if z_any i c = true then yes else F i := by
    intro i
    induction i with
    | zero => intro _; rfl
    | succ i ih =>
      intro hi
      rw [ih (by omega)]
      show _ = if (z_any i c || c i) = true then yes else F (i + 1)
      cases hz : z_any i c with
      | true => simp
      | false => simp [h i (by omega)]
  exact key n (Nat.le_refl n)
theorem q_wouldCrack (sx : QX) (d p b : Nat) (u : Int32) (H : QH) (B : SB) (hB : q_rB H B) (hs : q_sB B) (hb : b < sNb B) : q_CL (q_tb sx) q_kpt (d + 4) (35, ([vr 5 p, vn b, vi u], H)) = rI (z01 (z_else B (c_get H p) b u)) H := by
  obtain ⟨⟨g1, g2⟩, -, ⟨g5, g6⟩, -⟩ := hs
  obtain ⟨-, -, hns, -, hK, -⟩ := hB
  refine (b_X3_wouldCrack_0 sx (d + 3) p (nI b) u H).trans ?_
  simp (disch := omega) only [Bool.cond_decide, nI_add, pk_mul, q_inbN, q_cl_nI, q_ltN, q_leN, q_eqN, q_ifT, q_ifF, q_cIs, q_cVs, decide_false, decide_true, Bool.not_false, Bool.not_true, cond_true, cond_false, ne_eq, not_false_eq_true, not_true_eq_false, if_true, if_false, at_6, hK b hb]
  unfold z_else
  by_cases hk : sK B b = nI 3
  · simp [hk, z01]
  · have hl := z_anyL (sNs B) (fun s => q_EV (q_tb sx) q_kpt (d + 4) 35 (19, ([(0, vr 5 p), (1, vn b), (2, vi u), (3, vn s)], ([], H)))) (z_bel (c_get H p) b u) (rI (nI 1) H) (fun s hs => by
      refine (b_X3_wouldCrack_19 sx (d + 3) p (nI b) u (nI s) H).trans ?_
      rw [hns]
      simp (disch := omega) only [Bool.cond_decide, nI_add, pk_mul, q_inbN, q_cl_nI, q_ltN, q_leN, q_eqN, q_ifT, q_ifF, q_cIs, q_cVs, decide_false, decide_true, Bool.not_false, Bool.not_true, cond_true, cond_false, ne_eq, not_false_eq_true, not_true_eq_false, if_true, if_false, q_belies]
      show (if z01 (z_bel (c_get H p) b u s) = nI 0 then _ else _) = _
      cases z_bel (c_get H p) b u s <;> simp [z01, nI_eq])
    rw [if_pos hk]
    refine Eq.trans hl ?_
    have he : q_EV (q_tb sx) q_kpt (d + 4) 35 (19, ([(0, vr 5 p), (1, vn b), (2, vi u), (3, vn (sNs B))], ([], H))) = rI (nI 0) H := by
      refine (b_X3_wouldCrack_19 sx (d + 3) p (nI b) u (nI (sNs B)) H).trans ?_
      rw [hns]
      simp (disch := omega) only [Bool.cond_decide, nI_add, pk_mul, q_inbN, q_cl_nI, q_ltN, q_leN, q_eqN, q_ifT, q_ifF, q_cIs, q_cVs, decide_false, decide_true, Bool.not_false, Bool.not_true, cond_true, cond_false, ne_eq, not_false_eq_true, not_true_eq_false, if_true, if_false]
    cases z_any (sNs B) (z_bel (c_get H p) b u) with
    | true => simp [hk, z01]
    | false => simpa [hk, z01] using he
theorem q_carryOff (sx : QX) (d p b : Nat) (u : Int32) (H : QH) (B : SB) (hB : q_rB H B) (hs : q_sB B) (hb : b < sNb B) : q_CL (q_tb sx) q_kpt (d + 5) (34, ([vr 5 p, vn b, vi u], H)) = rV (c_put H p (z_take B (c_get H p) b u)) := by
  have hs' := hs
  obtain ⟨⟨g1, g2⟩, -⟩ := hs'
  refine (b_X3_carryOff_0 sx (d + 4) p (nI b) u H).trans ?_
  rw [q_wouldCrack sx d p b u H B hB hs hb]
  unfold z_take
  cases z_else B (c_get H p) b u with
  | true =>
    simp (disch := omega) only [Bool.cond_decide, nI_add, pk_mul, q_inbN, q_cl_nI, q_ltN, q_leN, q_eqN, q_ifT, q_ifF, q_cIs, q_cVs, decide_false, decide_true, Bool.not_false, Bool.not_true, cond_true, cond_false, ne_eq, not_false_eq_true, not_true_eq_false, if_true, if_false, put_6, z01]
    rw [c_h2 H p _ b (by omega), c_h3 _ p _ b (by omega), c_get_put, c_put_put]
  | false =>
    simp (disch := omega) only [Bool.cond_decide, nI_add, pk_mul, q_inbN, q_cl_nI, q_ltN, q_leN, q_eqN, q_ifT, q_ifF, q_cIs, q_cVs, decide_false, decide_true, Bool.not_false, Bool.not_true, cond_true, cond_false, ne_eq, not_false_eq_true, not_true_eq_false, if_true, if_false, put_6, z01]
    rw [c_h2 H p _ b (by omega), c_h3 _ p _ b (by omega), c_get_put, c_put_put]
    rfl
theorem q_explainsOne (sx : QX) (d p m b : Nat) (H : QH) (B : SB) (hB : q_rB H B) (hs : q_sB B) (hb : b < sNb B) (hm : m < 256) : q_CL (q_tb sx) q_kpt (d + 4) (45, ([vr 5 p, vn m, vn b], H)) = rI (z01 (z_lies B (c_get H p) m b)) H := by
  obtain ⟨⟨g1, g2⟩, -, ⟨g5, g6⟩, -⟩ := hs
  obtain ⟨-, -, hns, -, hK, -⟩ := hB
  refine (b_X3_explainsOne_0 sx (d + 3) p (nI m) (nI b) H).trans ?_
  have hl := z_anyL (sNs B) (fun s => q_EV (q_tb sx) q_kpt (d + 4) 45 (2, ([(0, vr 5 p), (1, vn m), (2, vn b), (3, vn s)], ([], H)))) (fun s => decide (m / 2 ^ s % 2 = 1) && z_bel (c_get H p) b (c_get H p (13 + b)) s) (rI (nI 1) H) (fun s hs => by
    refine (b_X3_explainsOne_2 sx (d + 3) p (nI m) (nI b) (nI s) H).trans ?_
    rw [hns, q_bit m hm s (by omega)]
    have h2 : m / 2 ^ s % 2 < 2 := Nat.mod_lt _ (by omega)
    simp (disch := omega) only [Bool.cond_decide, nI_add, pk_mul, q_inbN, q_cl_nI, q_ltN, q_leN, q_eqN, q_ifT, q_ifF, q_cIs, q_cVs, decide_false, decide_true, Bool.not_false, Bool.not_true, cond_true, cond_false, ne_eq, not_false_eq_true, not_true_eq_false, if_true, if_false, q_belies, at_6, c_r3 H p]
    by_cases h1 : m / 2 ^ s % 2 = 1
    · simp only [h1, decide_true, Bool.true_and]
      rw [if_neg (by simp)]
      show (if z01 (z_bel (c_get H p) b (c_get H p (13 + b)) s) = nI 0 then _ else _) = _
      cases z_bel (c_get H p) b (c_get H p (13 + b)) s <;> simp [z01, nI_eq]
    · simp [h1])
  refine Eq.trans hl ?_
  have he : q_EV (q_tb sx) q_kpt (d + 4) 45 (2, ([(0, vr 5 p), (1, vn m), (2, vn b), (3, vn (sNs B))], ([], H))) = rI (nI 0) H := by
    refine (b_X3_explainsOne_2 sx (d + 3) p (nI m) (nI b) (nI (sNs B)) H).trans ?_
    rw [hns]
    simp (disch := omega) only [Bool.cond_decide, nI_add, pk_mul, q_inbN, q_cl_nI, q_ltN, q_leN, q_eqN, q_ifT, q_ifF, q_cIs, q_cVs, decide_false, decide_true, Bool.not_false, Bool.not_true, cond_true, cond_false, ne_eq, not_false_eq_true, not_true_eq_false, if_true, if_false]
  unfold z_lies
  cases z_any (sNs B) _ with
  | true => simp [z01]
  | false => simpa [z01] using he
theorem q_explains (sx : QX) (d p m : Nat) (H : QH) (B : SB) (hB : q_rB H B) (hs : q_sB B) (hm : m < 256) : q_CL (q_tb sx) q_kpt (d + 5) (44, ([vr 5 p, vn m], H)) = rI (z01 (z_expl B (c_get H p) m)) H := by
  have hs' := hs
  have hB' := hB
  obtain ⟨⟨g1, g2⟩, -, ⟨g5, g6⟩, -⟩ := hs'
  obtain ⟨hnb, -⟩ := hB'
  refine (b_X3_explains_0 sx (d + 4) p (nI m) H).trans ?_
  have hl := z_anyL (sNb B) (fun b => q_EV (q_tb sx) q_kpt (d + 5) 44 (2, ([(0, vr 5 p), (1, vn m), (2, vn b)], ([], H)))) (fun b => decide (c_get H p (7 + b) = nI 3) && !(z_lies B (c_get H p) m b)) (rI (nI 0) H) (fun b hb => by
    refine (b_X3_explains_2 sx (d + 4) p (nI m) (nI b) H).trans ?_
    rw [hnb]
    simp (disch := omega) only [Bool.cond_decide, nI_add, pk_mul, q_inbN, q_cl_nI, q_ltN, q_leN, q_eqN, q_ifT, q_ifF, q_cIs, q_cVs, decide_false, decide_true, Bool.not_false, Bool.not_true, cond_true, cond_false, ne_eq, not_false_eq_true, not_true_eq_false, if_true, if_false, at_6, c_r2 H p, q_explainsOne sx d p m b H B hB hs hb hm]
    by_cases h1 : c_get H p (7 + b) = nI 3
    · cases z_lies B (c_get H p) m b <;> simp [h1, z01, nI_eq]
    · simp [h1])
  refine Eq.trans hl ?_
  have he : q_EV (q_tb sx) q_kpt (d + 5) 44 (2, ([(0, vr 5 p), (1, vn m), (2, vn (sNb B))], ([], H))) = rI (nI 1) H := by
    refine (b_X3_explains_2 sx (d + 4) p (nI m) (nI (sNb B)) H).trans ?_
    rw [hnb]
    simp (disch := omega) only [Bool.cond_decide, nI_add, pk_mul, q_inbN, q_cl_nI, q_ltN, q_leN, q_eqN, q_ifT, q_ifF, q_cIs, q_cVs, decide_false, decide_true, Bool.not_false, Bool.not_true, cond_true, cond_false, ne_eq, not_false_eq_true, not_true_eq_false, if_true, if_false]
  unfold z_expl
  cases z_any (sNb B) _ with
  | true => simp [z01]
  | false => simpa [z01] using he
theorem q_softerBy (sx : QX) (d p s b k m N : Nat) (H : QH) (B : SB) (hB : q_rB H B) (hs : q_sB B) (hh : q_hd B (c_get H p) N) (hN : N < 1000000) (h1 : s < sNs B) (h2 : b < sNb B) (h3 : k < sNw B) (hm : m < 256) : q_CL (q_tb sx) q_kpt (d + 3) (46, ([vr 5 p, vn s, vn b, vn k, vn m], H)) = rI (z_fold 8 (z_s8 (z_worth B (c_get H p) s b k) m) (nI 0)) H := by
  refine (b_X3_softerBy_0 sx (d + 2) p (nI s) (nI b) (nI k) (nI m) H).trans ?_
  rw [q_worthOf sx d p s b k N H B hB hs hh hN h1 h2 h3]
  have hl := z_loop 8 (fun i a => q_EV (q_tb sx) q_kpt (d + 3) 46 (15, ([(4, vn m), (5, vi (z_worth B (c_get H p) s b k)), (6, vi a), (7, vn i)], ([], H)))) (z_s8 (z_worth B (c_get H p) s b k) m) (fun i a hi => by
    refine (b_X3_softerBy_15 sx (d + 2) (nI m) _ a (nI i) H).trans ?_
    rw [q_bit m hm i hi]
    have h2 : m / 2 ^ i % 2 < 2 := Nat.mod_lt _ (by omega)
    simp (disch := omega) only [Bool.cond_decide, nI_add, pk_mul, q_inbN, q_cl_nI, q_ltN, q_leN, q_eqN, q_ifT, q_ifF, q_cIs, q_cVs, decide_false, decide_true, Bool.not_false, Bool.not_true, cond_true, cond_false, ne_eq, not_false_eq_true, not_true_eq_false, if_true, if_false]
    unfold z_s8
    by_cases h1 : m / 2 ^ i % 2 = 1 <;> simp [h1]) (nI 0)
  refine Eq.trans hl ?_
  refine (b_X3_softerBy_15 sx (d + 2) (nI m) _ _ (nI 8) H).trans ?_
  simp (disch := omega) only [Bool.cond_decide, nI_add, pk_mul, q_inbN, q_cl_nI, q_ltN, q_leN, q_eqN, q_ifT, q_ifF, q_cIs, q_cVs, decide_false, decide_true, Bool.not_false, Bool.not_true, cond_true, cond_false, ne_eq, not_false_eq_true, not_true_eq_false, if_true, if_false]
theorem q_dearestWord (sx : QX) (d p s b N : Nat) (H : QH) (B : SB) (hB : q_rB H B) (hs : q_sB B) (hh : q_hd B (c_get H p) N) (hN : N < 1000000) (h1 : s < sNs B) (h2 : b < sNb B) : q_CL (q_tb sx) q_kpt (d + 3) (41, ([vr 5 p, vn s, vn b], H)) = rI (z_codeW (z_bword B (c_get H p) s b)) H := by
  have hs' := hs
  have hB' := hB
  obtain ⟨-, ⟨g3, g4⟩, -⟩ := hs'
  obtain ⟨-, hnw, -⟩ := hB'
  refine (b_X3_dearestWord_0 sx (d + 2) p (nI s) (nI b) H).trans ?_
  have hl := z_loop (sNw B) (fun k a => q_EV (q_tb sx) q_kpt (d + 3) 41 (9, ([(0, vr 5 p), (1, vn s), (2, vn b), (3, vi a.2), (4, vi (z_codeW a.1)), (5, vn k)], ([], H)))) (z_wstep B (c_get H p) s b) (fun k a hk => by
    refine (b_X3_dearestWord_9 sx (d + 2) p (nI s) (nI b) a.2 _ (nI k) H).trans ?_
    rw [hnw, q_worthOf sx d p s b k N H B hB hs hh hN h1 h2 hk]
    simp (disch := omega) only [Bool.cond_decide, nI_add, pk_mul, q_inbN, q_cl_nI, q_ltN, q_leN, q_eqN, q_ifT, q_ifF, q_cIs, q_cVs, decide_false, decide_true, Bool.not_false, Bool.not_true, cond_true, cond_false, ne_eq, not_false_eq_true, not_true_eq_false, if_true, if_false]
    unfold z_wstep
    by_cases h : a.2 < z_worth B (c_get H p) s b k
    · rw [if_pos h, if_pos h]; rfl
    · rw [if_neg h, if_neg h]) (none, nI 0)
  refine Eq.trans hl ?_
  refine (b_X3_dearestWord_9 sx (d + 2) p (nI s) (nI b) _ _ (nI (sNw B)) H).trans ?_
  rw [hnw]
  simp (disch := omega) only [Bool.cond_decide, nI_add, pk_mul, q_inbN, q_cl_nI, q_ltN, q_leN, q_eqN, q_ifT, q_ifF, q_cIs, q_cVs, decide_false, decide_true, Bool.not_false, Bool.not_true, cond_true, cond_false, ne_eq, not_false_eq_true, not_true_eq_false, if_true, if_false]
  rfl
theorem q_dearest (sx : QX) (d p b N : Nat) (H : QH) (B : SB) (hB : q_rB H B) (hs : q_sB B) (hh : q_hd B (c_get H p) N) (hN : N < 1000000) (h2 : b < sNb B) : q_CL (q_tb sx) q_kpt (d + 3) (38, ([vr 5 p, vn b], H)) = rI (z_code (z_best B (c_get H p) b)) H := by
  have hs' := hs
  have hB' := hB
  obtain ⟨-, ⟨g3, g4⟩, ⟨g5, g6⟩, -⟩ := hs'
  obtain ⟨-, hnw, hns, -⟩ := hB'
  refine (b_X3_dearest_0 sx (d + 2) p (nI b) H).trans ?_
  have hl := z_loop (sNs B) (fun s a => q_EV (q_tb sx) q_kpt (d + 3) 38 (8, ([(0, vr 5 p), (1, vn b), (2, vi a.2), (3, vi (z_code a.1)), (4, vn s)], ([], H)))) (z_bsp B (c_get H p) b) (fun s a hsn => by
    refine (b_X3_dearest_8 sx (d + 2) p (nI b) a.2 _ (nI s) H).trans ?_
    rw [hns]
    simp (disch := omega) only [Bool.cond_decide, nI_add, pk_mul, q_inbN, q_cl_nI, q_ltN, q_leN, q_eqN, q_ifT, q_ifF, q_cIs, q_cVs, decide_false, decide_true, Bool.not_false, Bool.not_true, cond_true, cond_false, ne_eq, not_false_eq_true, not_true_eq_false, if_true, if_false, at_4, c_r4 H p]
    unfold z_bsp
    by_cases h : nI 0 < c_get H p (79 + s)
    · rw [if_pos h, if_pos h]
      have hl2 := z_loop (sNw B) (fun k a => q_EV (q_tb sx) q_kpt (d + 3) 38 (38, ([(0, vr 5 p), (1, vn b), (2, vi a.2), (3, vi (z_code a.1)), (4, vn s), (5, vn k)], ([], H)))) (z_bstep B (c_get H p) b s) (fun k a hk => by
        refine (b_X3_dearest_38 sx (d + 2) p (nI b) a.2 _ (nI s) (nI k) H).trans ?_
        rw [hnw, q_worthOf sx d p s b k N H B hB hs hh hN hsn h2 hk]
        simp (disch := omega) only [Bool.cond_decide, nI_add, pk_mul, q_inbN, q_cl_nI, q_ltN, q_leN, q_eqN, q_ifT, q_ifF, q_cIs, q_cVs, decide_false, decide_true, Bool.not_false, Bool.not_true, cond_true, cond_false, ne_eq, not_false_eq_true, not_true_eq_false, if_true, if_false, saying_eq]
        unfold z_bstep
        by_cases h : a.2 < z_worth B (c_get H p) s b k
        · rw [if_pos h, if_pos h]; rfl
        · rw [if_neg h, if_neg h]) a
      refine Eq.trans hl2 ?_
      refine (b_X3_dearest_38 sx (d + 2) p (nI b) _ _ (nI s) (nI (sNw B)) H).trans ?_
      rw [hnw]
      simp (disch := omega) only [Bool.cond_decide, nI_add, pk_mul, q_inbN, q_cl_nI, q_ltN, q_leN, q_eqN, q_ifT, q_ifF, q_cIs, q_cVs, decide_false, decide_true, Bool.not_false, Bool.not_true, cond_true, cond_false, ne_eq, not_false_eq_true, not_true_eq_false, if_true, if_false]
    · rw [if_neg h, if_neg h]) (none, nI 0)
  refine Eq.trans hl ?_
  refine (b_X3_dearest_8 sx (d + 2) p (nI b) _ _ (nI (sNs B)) H).trans ?_
  rw [hns]
  simp (disch := omega) only [Bool.cond_decide, nI_add, pk_mul, q_inbN, q_cl_nI, q_ltN, q_leN, q_eqN, q_ifT, q_ifF, q_cIs, q_cVs, decide_false, decide_true, Bool.not_false, Bool.not_true, cond_true, cond_false, ne_eq, not_false_eq_true, not_true_eq_false, if_true, if_false]
  rfl
