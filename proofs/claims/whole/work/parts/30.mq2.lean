/-! the model's quarry: copies, promises, days, the best saying -/
theorem m_copy_fold (H : QH) (f t : Nat) (hft : f + 83 ≤ t ∨ t + 83 ≤ f) : ∀ n, n ≤ 83 → z_fold n (fun k H => q_hs H 166 (t + k) (H 166 (f + k))) H = m_put H t (fun j => if j < n then m_get H f j else m_get H t j) := by
  intro n
  induction n with
  | zero =>
    intro _
    show H = _
    have e : (fun j => if j < 0 then m_get H f j else m_get H t j) = m_get H t := by funext j; simp
    rw [e, m_put_get]
  | succ n ih =>
    intro hn
    show q_hs (z_fold n _ H) 166 (t + n) ((z_fold n _ H) 166 (f + n)) = _
    rw [ih (by omega), m_hs, m_put_put, m_get_put]
    refine congrArg (m_put H t) ?_
    have e : (m_put H t (fun j => if j < n then m_get H f j else m_get H t j)) 166 (f + n) = m_get H f n := by
      unfold m_put
      by_cases h : t ≤ f + n
      · rw [if_pos ⟨rfl, h⟩]
        show (if f + n - t < n then _ else _) = _
        rw [if_neg (by omega)]
        unfold m_get
        rw [show t + (f + n - t) = f + n by omega]
      · rw [if_neg (fun q => h q.2)]
        rfl
    rw [e]
    funext j
    by_cases hj : j = n
    · subst hj; rw [pk_us, if_pos (by omega)]
    · rw [pk_un hj]
      by_cases h : j < n
      · rw [if_pos h, if_pos (by omega)]
      · rw [if_neg h, if_neg (by omega)]
theorem m_copy (sx : QX) (d f t : Nat) (H : QH) (hf : f + 83 ≤ 1577) (ht : t + 83 ≤ 1577) (hft : f + 83 ≤ t ∨ t + 83 ≤ f) : q_CL (q_tb sx) q_kpt (d + 1) (105, ([vr 9 165, vn f, vn t], H)) = rV (m_put H t (z_ov (m_get H f) (m_get H t))) := by
  refine (b_X7_copy_0 sx d (nI f) (nI t) H).trans ?_
  have hl := z_loop 83 (fun k H => q_EV (q_tb sx) q_kpt (d + 1) 105 (2, ([(0, vr 9 165), (1, vn f), (2, vn t), (3, vn k)], ([], H)))) (fun k H => q_hs H 166 (t + k) (H 166 (f + k))) (fun k H hk => by
    refine (b_X7_copy_2 sx d (nI f) (nI t) (nI k) H).trans ?_
    simp (disch := omega) only [Bool.cond_decide, nI_add, pk_mul, q_inbN, q_cl_nI, q_ltN, q_leN, q_eqN, q_ifT, q_ifF, q_cIs, q_cVs, decide_false, decide_true, Bool.not_false, Bool.not_true, cond_true, cond_false, ne_eq, not_false_eq_true, not_true_eq_false, if_true, if_false]) H
  refine Eq.trans hl ?_
  rw [m_copy_fold H f t hft 83 (by omega)]
  refine (b_X7_copy_2 sx d (nI f) (nI t) (nI 83) _).trans ?_
  simp (disch := omega) only [Bool.cond_decide, nI_add, pk_mul, q_inbN, q_cl_nI, q_ltN, q_leN, q_eqN, q_ifT, q_ifF, q_cIs, q_cVs, decide_false, decide_true, Bool.not_false, Bool.not_true, cond_true, cond_false, ne_eq, not_false_eq_true, not_true_eq_false, if_true, if_false]
  rfl
theorem m_tries (sx : QX) (d : Nat) (H : QH) : q_CL (q_tb sx) q_kpt (d + 2) (152, ([vr 9 165], H)) = rV (m_put H 83 (z_ov (m_get H 0) (m_get H 83))) := by
  refine (b_X7_tries_0 sx (d + 1) H).trans ?_
  rw [m_copy sx d 0 83 H (by omega) (by omega) (by omega)]
  rfl
theorem m_isElse (sx : QX) (d r b : Nat) (u : Int32) (H : QH) (B : SB) (hB : q_mB H B) (hs : q_sB B) (hr : r + 83 ≤ 1577) (hb : b < sNb B) : q_CL (q_tb sx) q_kpt (d + 1) (144, ([vr 9 165, vn r, vn b, vi u], H)) = rI (z01 (z_else B (m_get H r) b u)) H := by
  have hs' := hs
  have hB' := hB
  obtain ⟨⟨g1, g2⟩, -, ⟨g5, g6⟩, -⟩ := hs'
  obtain ⟨-, -, hns, -, hK, -⟩ := hB'
  refine (b_X7_isElse_0 sx d (nI r) (nI b) u H).trans ?_
  have hl := z_loop (sNs B) (fun s (a : Bool) => q_EV (q_tb sx) q_kpt (d + 1) 144 (6, ([(0, vr 9 165), (1, vn r), (2, vn b), (3, vi u), (4, vi (z01 a)), (5, vn s)], ([], H)))) (fun s a => a || z_bel (m_get H r) b u s) (fun s a hsn => by
    refine (b_X7_isElse_6 sx d (nI r) (nI b) u _ (nI s) H).trans ?_
    rw [hns]
    simp (disch := omega) only [Bool.cond_decide, nI_add, pk_mul, q_inbN, q_cl_nI, q_ltN, q_leN, q_eqN, q_ifT, q_ifF, q_cIs, q_cVs, decide_false, decide_true, Bool.not_false, Bool.not_true, cond_true, cond_false, ne_eq, not_false_eq_true, not_true_eq_false, if_true, if_false, m_r55 H r]
    cases a with
    | true => simp [z01, nI_eq]
    | false =>
      unfold z_bel
      by_cases e1 : m_get H r (55 + 6 * s + b) = -4
      · simp [z01, e1]
      · by_cases e2 : m_get H r (55 + 6 * s + b) = u
        · simp [z01, e1, e2]
        · simp [z01, e1, e2]) false
  refine Eq.trans hl ?_
  have e : z_fold (sNs B) (fun s a => a || z_bel (m_get H r) b u s) false = z_any (sNs B) (z_bel (m_get H r) b u) := by
    have : ∀ n, z_fold n (fun s a => a || z_bel (m_get H r) b u s) false = z_any n (z_bel (m_get H r) b u) := by
      intro n
      induction n with
      | zero => rfl
      | succ n ih => show (z_fold n _ false || _) = (z_any n _ || _); rw [ih]
    exact this _
  rw [e]
  refine (b_X7_isElse_6 sx d (nI r) (nI b) u _ (nI (sNs B)) H).trans ?_
  rw [hns]
  unfold z_else
  simp (disch := omega) only [Bool.cond_decide, nI_add, pk_mul, q_inbN, q_cl_nI, q_ltN, q_leN, q_eqN, q_ifT, q_ifF, q_cIs, q_cVs, decide_false, decide_true, Bool.not_false, Bool.not_true, cond_true, cond_false, ne_eq, not_false_eq_true, not_true_eq_false, if_true, if_false, hK b hb]
  cases z_any (sNs B) (z_bel (m_get H r) b u) with
  | false => simp [z01]
  | true => by_cases e3 : sK B b = nI 3 <;> simp [z01, e3, nI_eq]
theorem m_takesFor (sx : QX) (d r b : Nat) (u : Int32) (H : QH) (B : SB) (hB : q_mB H B) (hs : q_sB B) (hr : r + 83 ≤ 1577) (hb : b < sNb B) : q_CL (q_tb sx) q_kpt (d + 2) (145, ([vr 9 165, vn r, vn b, vi u], H)) = rV (m_put H r (z_take B (m_get H r) b u)) := by
  have hs' := hs
  obtain ⟨⟨g1, g2⟩, -⟩ := hs'
  refine (b_X7_takesFor_0 sx (d + 1) (nI r) (nI b) u H).trans ?_
  rw [m_isElse sx d r b u H B hB hs hr hb]
  unfold z_take
  cases z_else B (m_get H r) b u with
  | true =>
    simp (disch := omega) only [Bool.cond_decide, nI_add, pk_mul, q_inbN, q_cl_nI, q_ltN, q_leN, q_eqN, q_ifT, q_ifF, q_cIs, q_cVs, decide_false, decide_true, Bool.not_false, Bool.not_true, cond_true, cond_false, ne_eq, not_false_eq_true, not_true_eq_false, if_true, if_false, z01]
    rw [m_h, m_h, m_get_put, m_put_put]
  | false =>
    simp (disch := omega) only [Bool.cond_decide, nI_add, pk_mul, q_inbN, q_cl_nI, q_ltN, q_leN, q_eqN, q_ifT, q_ifF, q_cIs, q_cVs, decide_false, decide_true, Bool.not_false, Bool.not_true, cond_true, cond_false, ne_eq, not_false_eq_true, not_true_eq_false, if_true, if_false, z01]
    rw [m_h, m_h, m_get_put, m_put_put]
    rfl
theorem m_hs0 (H : QH) (r : Nat) (x : Int32) : q_hs H 166 r x = m_put H r (upd (m_get H r) 0 x) := m_hs H r 0 x
theorem m_put_0 (H : QH) (r : Nat) (w : SW) : (m_put H r w) 166 r = w 0 := congrFun (m_get_put H r w) 0
theorem m_passes (sx : QX) (d r : Nat) (H : QH) (B : SB) (hB : q_mB H B) (hs : q_sB B) (hr : r + 83 ≤ 1577) : q_CL (q_tb sx) q_kpt (d + 4) (142, ([vr 9 165, vn r], H)) = rV (m_put H r (z_day (sNs B) (sD B) (z_fold (sNb B) (z_cstep B) (m_get H r)))) := by
  have hs' := hs
  have hB' := hB
  obtain ⟨⟨g1, g2⟩, -, ⟨g5, g6⟩, -⟩ := hs'
  refine (b_X7_passes_0 sx (d + 3) (nI r) H).trans ?_
  have hl := z_loop (sNb B) (fun b w => q_EV (q_tb sx) q_kpt (d + 4) 142 (2, ([(0, vr 9 165), (1, vn r), (2, vn b)], ([], m_put H r w)))) (z_cstep B) (fun b w hb => by
    refine (b_X7_passes_2 sx (d + 3) (nI r) (nI b) _).trans ?_
    obtain ⟨h3, h6, h8, h11, hK, hN, hT, hS, hD⟩ := q_mB_put (r := r) (w := w) hB
    rw [h3, m_inBed sx (d + 1) r b _ B (q_mB_put hB) hs hr (by omega), m_get_put]
    unfold z_in
    simp (disch := omega) only [Bool.cond_decide, nI_add, pk_mul, q_inbN, q_cl_nI, q_ltN, q_leN, q_eqN, q_ifT, q_ifF, q_cIs, q_cVs, decide_false, decide_true, Bool.not_false, Bool.not_true, cond_true, cond_false, ne_eq, not_false_eq_true, not_true_eq_false, if_true, if_false, decide_eq_true hb, Bool.true_and, hK b hb, h11, m_r1 _ r, m_h, m_get_put, m_put_put, m_comes sx d r b _ B (q_mB_put hB) hs hr hb]
    unfold z_cstep z_cold
    by_cases h : w (7 + b) = nI 0
    · by_cases e : sK B b = nI 2
      · simp [h, e, z01, nI_eq, z_comes_soft hs hb h]
      · simp [h, e, z01, nI_eq, z_comes_soft hs hb h]
    · simp [h, z01]) (m_get H r)
  rw [m_put_get] at hl
  refine Eq.trans hl ?_
  refine (b_X7_passes_2 sx (d + 3) (nI r) (nI (sNb B)) _).trans ?_
  rw [(q_mB_put hB).1]
  simp (disch := omega) only [Bool.cond_decide, nI_add, pk_mul, q_inbN, q_cl_nI, q_ltN, q_leN, q_eqN, q_ifT, q_ifF, q_cIs, q_cVs, decide_false, decide_true, Bool.not_false, Bool.not_true, cond_true, cond_false, ne_eq, not_false_eq_true, not_true_eq_false, if_true, if_false]
  have hl2 := z_loop (sNs B) (fun s w => q_EV (q_tb sx) q_kpt (d + 4) 142 (69, ([(0, vr 9 165), (1, vn r), (2, vn s)], ([], m_put H r w)))) (fun s w => upd w (79 + s) (sD B s)) (fun s w hsn => by
    refine (b_X7_passes_69 sx (d + 3) (nI r) (nI s) _).trans ?_
    obtain ⟨h3, h6, h8, h11, hK, hN, hT, hS, hD⟩ := q_mB_put (r := r) (w := w) hB
    rw [h8]
    simp (disch := omega) only [Bool.cond_decide, nI_add, pk_mul, q_inbN, q_cl_nI, q_ltN, q_leN, q_eqN, q_ifT, q_ifF, q_cIs, q_cVs, decide_false, decide_true, Bool.not_false, Bool.not_true, cond_true, cond_false, ne_eq, not_false_eq_true, not_true_eq_false, if_true, if_false, hD s hsn, m_h, m_get_put, m_put_put]) (z_fold (sNb B) (z_cstep B) (m_get H r))
  refine Eq.trans hl2 ?_
  refine (b_X7_passes_69 sx (d + 3) (nI r) (nI (sNs B)) _).trans ?_
  rw [(q_mB_put hB).2.2.1]
  simp (disch := omega) only [Bool.cond_decide, nI_add, pk_mul, q_inbN, q_cl_nI, q_ltN, q_leN, q_eqN, q_ifT, q_ifF, q_cIs, q_cVs, decide_false, decide_true, Bool.not_false, Bool.not_true, cond_true, cond_false, ne_eq, not_false_eq_true, not_true_eq_false, if_true, if_false]
  simp only [Nat.add_zero]
  rw [m_hs0, m_put_0, m_get_put, m_put_put]
  refine congrArg (fun w => rV (m_put H r w)) ?_
  have e : ∀ n, n ≤ 4 → ∀ w : SW, z_fold n (fun s w => upd w (79 + s) (sD B s)) w = fun j => if 79 ≤ j ∧ j < 79 + n then sD B (j - 79) else w j := by
    intro n
    induction n with
    | zero => intro _ w; funext j; rw [if_neg (by omega)]; rfl
    | succ n ih =>
      intro hn w
      show upd (z_fold n _ w) (79 + n) (sD B n) = _
      rw [ih (by omega)]
      funext j
      by_cases hj : j = 79 + n
      · subst hj; rw [pk_us, if_pos (by omega), Nat.add_sub_cancel_left]
      · rw [pk_un hj]
        by_cases h : 79 ≤ j ∧ j < 79 + n
        · rw [if_pos h, if_pos (by omega)]
        · rw [if_neg h, if_neg (by omega)]
  rw [e _ g6]
  funext j
  unfold z_day
  by_cases h0 : j = 0
  · subst h0; simp [upd]
  · rw [pk_un h0]
    by_cases h : 79 ≤ j ∧ j < 79 + sNs B
    · simp only [if_pos h]
    · simp only [if_neg h, if_neg h0]
theorem m_bestWord (sx : QX) (d s b : Nat) (H : QH) (B : SB) (hB : q_mB H B) (hs : q_sB B) (h1 : s < sNs B) (h2 : b < sNb B) : q_CL (q_tb sx) q_kpt (d + 4) (161, ([vr 9 165, vn s, vn b], H)) = rI (z_codeW (z_bword B (m_get H 83) s b)) H := by
  have hs' := hs
  have hB' := hB
  obtain ⟨-, ⟨g3, g4⟩, -⟩ := hs'
  obtain ⟨-, hnw, -⟩ := hB'
  refine (b_X7_bestWord_0 sx (d + 3) (nI s) (nI b) H).trans ?_
  have hl := z_loop (sNw B) (fun k a => q_EV (q_tb sx) q_kpt (d + 4) 161 (9, ([(0, vr 9 165), (1, vn s), (2, vn b), (3, vi (z_codeW a.1)), (4, vi a.2), (5, vn k)], ([], H)))) (z_wstep B (m_get H 83) s b) (fun k a hk => by
    refine (b_X7_bestWord_9 sx (d + 3) (nI s) (nI b) _ a.2 (nI k) H).trans ?_
    rw [hnw, m_worthOf sx d 83 s b k H B hB hs (by omega) h1 h2 hk]
    simp (disch := omega) only [Bool.cond_decide, nI_add, pk_mul, q_inbN, q_cl_nI, q_ltN, q_leN, q_eqN, q_ifT, q_ifF, q_cIs, q_cVs, decide_false, decide_true, Bool.not_false, Bool.not_true, cond_true, cond_false, ne_eq, not_false_eq_true, not_true_eq_false, if_true, if_false]
    unfold z_wstep
    by_cases h : a.2 < z_worth B (m_get H 83) s b k
    · rw [if_neg (Int32.not_le.mpr h), if_pos h]; rfl
    · rw [if_pos (Int32.not_lt.mp h), if_neg h]) (none, nI 0)
  refine Eq.trans hl ?_
  refine (b_X7_bestWord_9 sx (d + 3) (nI s) (nI b) _ _ (nI (sNw B)) H).trans ?_
  rw [hnw]
  simp (disch := omega) only [Bool.cond_decide, nI_add, pk_mul, q_inbN, q_cl_nI, q_ltN, q_leN, q_eqN, q_ifT, q_ifF, q_cIs, q_cVs, decide_false, decide_true, Bool.not_false, Bool.not_true, cond_true, cond_false, ne_eq, not_false_eq_true, not_true_eq_false, if_true, if_false]
  rfl
theorem m_bestOf (sx : QX) (d r b : Nat) (H : QH) (B : SB) (hB : q_mB H B) (hs : q_sB B) (hr : r + 83 ≤ 1577) (h2 : b < sNb B) : q_CL (q_tb sx) q_kpt (d + 4) (155, ([vr 9 165, vn r, vn b], H)) = rI (z_code (z_best B (m_get H r) b)) H := by
  have hs' := hs
  have hB' := hB
  obtain ⟨-, ⟨g3, g4⟩, ⟨g5, g6⟩, -⟩ := hs'
  obtain ⟨-, hnw, hns, -⟩ := hB'
  refine (b_X7_bestOf_0 sx (d + 3) (nI r) (nI b) H).trans ?_
  have hl := z_loop (sNs B) (fun s a => q_EV (q_tb sx) q_kpt (d + 4) 155 (9, ([(0, vr 9 165), (1, vn r), (2, vn b), (3, vi (z_code a.1)), (4, vi a.2), (5, vn s)], ([], H)))) (z_bsp B (m_get H r) b) (fun s a hsn => by
    refine (b_X7_bestOf_9 sx (d + 3) (nI r) (nI b) _ a.2 (nI s) H).trans ?_
    rw [hns]
    simp (disch := omega) only [Bool.cond_decide, nI_add, pk_mul, q_inbN, q_cl_nI, q_ltN, q_leN, q_eqN, q_ifT, q_ifF, q_cIs, q_cVs, decide_false, decide_true, Bool.not_false, Bool.not_true, cond_true, cond_false, ne_eq, not_false_eq_true, not_true_eq_false, if_true, if_false]
    unfold z_bsp
    by_cases h : nI 0 < m_get H r (79 + s)
    · rw [if_pos h]
      have hl2 := z_loop (sNw B) (fun k a => q_EV (q_tb sx) q_kpt (d + 4) 155 (21, ([(0, vr 9 165), (1, vn r), (2, vn b), (3, vi (z_code a.1)), (4, vi a.2), (5, vn s), (6, vn k)], ([], H)))) (z_bstep B (m_get H r) b s) (fun k a hk => by
        refine (b_X7_bestOf_21 sx (d + 3) (nI r) (nI b) _ a.2 (nI s) (nI k) H).trans ?_
        rw [hnw, m_worthOf sx d r s b k H B hB hs hr hsn h2 hk]
        simp (disch := omega) only [Bool.cond_decide, nI_add, pk_mul, q_inbN, q_cl_nI, q_ltN, q_leN, q_eqN, q_ifT, q_ifF, q_cIs, q_cVs, decide_false, decide_true, Bool.not_false, Bool.not_true, cond_true, cond_false, ne_eq, not_false_eq_true, not_true_eq_false, if_true, if_false, m_r79 H r]
        rw [if_neg (Int32.not_le.mpr h)]
        unfold z_bstep
        by_cases h : a.2 < z_worth B (m_get H r) s b k
        · rw [if_neg (Int32.not_le.mpr h), if_pos h]; rfl
        · rw [if_pos (Int32.not_lt.mp h), if_neg h]) a
      refine Eq.trans hl2 ?_
      refine (b_X7_bestOf_21 sx (d + 3) (nI r) (nI b) _ _ (nI s) (nI (sNw B)) H).trans ?_
      rw [hnw]
      simp (disch := omega) only [Bool.cond_decide, nI_add, pk_mul, q_inbN, q_cl_nI, q_ltN, q_leN, q_eqN, q_ifT, q_ifF, q_cIs, q_cVs, decide_false, decide_true, Bool.not_false, Bool.not_true, cond_true, cond_false, ne_eq, not_false_eq_true, not_true_eq_false, if_true, if_false]
    · rw [if_neg h]
      refine (b_X7_bestOf_21 sx (d + 3) (nI r) (nI b) _ _ (nI s) (nI 0) H).trans ?_
      rw [hnw]
      simp (disch := omega) only [Bool.cond_decide, nI_add, pk_mul, q_inbN, q_cl_nI, q_ltN, q_leN, q_eqN, q_ifT, q_ifF, q_cIs, q_cVs, decide_false, decide_true, Bool.not_false, Bool.not_true, cond_true, cond_false, ne_eq, not_false_eq_true, not_true_eq_false, if_true, if_false, m_r79 H r]
      rw [if_pos (Int32.not_lt.mp h)]) (none, nI 0)
  refine Eq.trans hl ?_
  refine (b_X7_bestOf_9 sx (d + 3) (nI r) (nI b) _ _ (nI (sNs B)) H).trans ?_
  rw [hns]
  simp (disch := omega) only [Bool.cond_decide, nI_add, pk_mul, q_inbN, q_cl_nI, q_ltN, q_leN, q_eqN, q_ifT, q_ifF, q_cIs, q_cVs, decide_false, decide_true, Bool.not_false, Bool.not_true, cond_true, cond_false, ne_eq, not_false_eq_true, not_true_eq_false, if_true, if_false]
  rfl
theorem m_manyHow (sx : QX) (d r : Nat) (x : Int32) (H : QH) (B : SB) (hB : q_mB H B) (hs : q_sB B) (hr : r + 83 ≤ 1577) : q_CL (q_tb sx) q_kpt (d + 1) (171, ([vr 9 165, vn r, vi x], H)) = rI (nI (z_tally B (m_get H r) x)) H := by
  obtain ⟨⟨g1, g2⟩, -⟩ := hs
  obtain ⟨hnb, -⟩ := hB
  refine (b_X7_manyHow_0 sx d (nI r) x H).trans ?_
  have hl := z_loop (sNb B) (fun b n => q_EV (q_tb sx) q_kpt (d + 1) 171 (5, ([(0, vr 9 165), (1, vn r), (2, vi x), (3, vn n), (4, vn b)], ([], H)))) (fun b n => if m_get H r (7 + b) = x then n + 1 else n) (fun b n hb => by
    refine (b_X7_manyHow_5 sx d (nI r) x (nI n) (nI b) H).trans ?_
    rw [hnb]
    simp (disch := omega) only [Bool.cond_decide, nI_add, pk_mul, q_inbN, q_cl_nI, q_ltN, q_leN, q_eqN, q_ifT, q_ifF, q_cIs, q_cVs, decide_false, decide_true, Bool.not_false, Bool.not_true, cond_true, cond_false, ne_eq, not_false_eq_true, not_true_eq_false, if_true, if_false, m_r7 H r]
    by_cases h : m_get H r (7 + b) = x <;> simp [h]) 0
  refine Eq.trans hl ?_
  refine (b_X7_manyHow_5 sx d (nI r) x (nI _) (nI (sNb B)) H).trans ?_
  rw [hnb]
  simp (disch := omega) only [Bool.cond_decide, nI_add, pk_mul, q_inbN, q_cl_nI, q_ltN, q_leN, q_eqN, q_ifT, q_ifF, q_cIs, q_cVs, decide_false, decide_true, Bool.not_false, Bool.not_true, cond_true, cond_false, ne_eq, not_false_eq_true, not_true_eq_false, if_true, if_false]
  rfl
theorem m_harmOf (sx : QX) (d b k : Nat) (H : QH) (B : SB) (hB : q_mB H B) (hs : q_sB B) (h2 : b < sNb B) (h3 : k < sNw B) : q_CL (q_tb sx) q_kpt (d + 4) (165, ([vr 9 165, vn b, vn k], H)) = rI (z_harmOf B (m_get H 0) b k) H := by
  have hs' := hs
  have hB' := hB
  obtain ⟨⟨g1, g2⟩, ⟨g3, g4⟩, -⟩ := hs'
  obtain ⟨hnb, -⟩ := hB'
  refine (b_X7_harmOf_0 sx (d + 3) (nI b) (nI k) H).trans ?_
  have hl := z_loop (sNb B) (fun o a => q_EV (q_tb sx) q_kpt (d + 4) 165 (5, ([(0, vr 9 165), (1, vn b), (2, vn k), (3, vi a), (4, vn o)], ([], H)))) (fun o a => a + z_hterm B (m_get H 0) b k o) (fun o a ho => by
    refine (b_X7_harmOf_5 sx (d + 3) (nI b) (nI k) _ (nI o) H).trans ?_
    rw [hnb, m_hears sx d 0 b o H B hB hs (by omega) h2 ho]
    unfold z_hterm
    by_cases e : o = b
    · subst e
      simp (disch := omega) only [Bool.cond_decide, nI_add, pk_mul, q_inbN, q_cl_nI, q_ltN, q_leN, q_eqN, q_ifT, q_ifF, q_cIs, q_cVs, decide_false, decide_true, Bool.not_false, Bool.not_true, cond_true, cond_false, ne_eq, not_false_eq_true, not_true_eq_false, if_true, if_false]
      simp
    · simp (disch := omega) only [Bool.cond_decide, nI_add, pk_mul, q_inbN, q_cl_nI, q_ltN, q_leN, q_eqN, q_ifT, q_ifF, q_cIs, q_cVs, decide_false, decide_true, Bool.not_false, Bool.not_true, cond_true, cond_false, ne_eq, not_false_eq_true, not_true_eq_false, if_true, if_false, m_byKind sx (d + 2) o k H B hB hs ho h3, m_heardOf, m_less]
      cases z_hears B (m_get H 0) b o <;> simp [z01, e, nI_eq]) (nI 0)
  refine Eq.trans hl ?_
  refine (b_X7_harmOf_5 sx (d + 3) (nI b) (nI k) _ (nI (sNb B)) H).trans ?_
  rw [hnb]
  simp (disch := omega) only [Bool.cond_decide, nI_add, pk_mul, q_inbN, q_cl_nI, q_ltN, q_leN, q_eqN, q_ifT, q_ifF, q_cIs, q_cVs, decide_false, decide_true, Bool.not_false, Bool.not_true, cond_true, cond_false, ne_eq, not_false_eq_true, not_true_eq_false, if_true, if_false]
  rfl
