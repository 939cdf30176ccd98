/-! THE STATE, and how class and model hold it -/
theorem q_hs_at {H : QH} {p j : Nat} {x : Int32} : q_hs H p j x p j = x := by rw [q_hs_rd, if_pos ⟨rfl, rfl⟩]
theorem q_hs_ix {H : QH} {p j : Nat} {x : Int32} {b : Nat} (h : b ≠ j) : q_hs H p j x p b = H p b := by rw [q_hs_rd, if_neg (fun q => h q.2)]
theorem c_get_of {H H' : QH} {p : Nat} (h : ∀ a, p ≤ a → a < p + 7 → H' a = H a) : c_get H' p = c_get H p := by
  funext j
  unfold c_get
  have e : c_i1 j ≤ 6 := by
    unfold c_i1
    repeat' split
    all_goals omega
  rw [h _ (by omega) (by omega)]
theorem c_get_put_ne (H : QH) {p q : Nat} (h : p + 7 ≤ q ∨ q + 7 ≤ p) (w : SW) : c_get (c_put H p w) q = c_get H q := c_get_of (fun a h1 h2 => c_put_out H p w (by omega))
theorem m_get_of {H H' : QH} (h : H' 166 = H 166) (r : Nat) : m_get H' r = m_get H r := by
  funext j
  unfold m_get
  rw [h]
theorem ag_ov {B : SB} (hs : q_sB B) (a b : SW) : q_ag B (z_ov a b) a := fun j hj => by
  obtain ⟨-, -, ⟨g5, g6⟩, -⟩ := hs
  unfold z_ov
  rw [if_pos (by omega)]
/-- a pile at p of n quarries holds l, the topmost first -/
def q_pile (H : QH) (p n : Nat) (B : SB) (l : List SW) : Prop := ∃ x, x < n ∧ H p 1 = nI x ∧ H p 2 = nI l.length ∧ l.length ≤ n ∧ ∀ i w, l[i]? = some w → q_ag B (c_get H (p + 2 + 7 * ((x + n - 1 - i) % n))) w
theorem q_pile_of8 {H H' : QH} {B : SB} {l : List SW} (h : q_pile H 36 8 B l) (he : ∀ a, 36 ≤ a → a < 94 → H' a = H a) : q_pile H' 36 8 B l := by
  obtain ⟨x, hx, e1, e2, hl, hi⟩ := h
  refine ⟨x, hx, by rw [he 36 (by omega) (by omega), e1], by rw [he 36 (by omega) (by omega), e2], hl, fun i w hw => ?_⟩
  rw [c_get_of (H := H) (H' := H') (fun a h1 h2 => he a (by omega) (by omega))]
  exact hi i w hw
theorem q_clear8 (sx : QX) (d : Nat) (H : QH) (B : SB) (l : List SW) (h : q_pile H 36 8 B l) : q_CL (q_tb sx) q_kpt (d + 1) (16, ([vr 3 36], H)) = rV (q_hs H 36 2 (nI 0)) ∧ q_pile (q_hs H 36 2 (nI 0)) 36 8 B [] := by
  refine ⟨(b_X2_clear_3_0 sx d H).trans rfl, ?_⟩
  obtain ⟨x, hx, e1, e2, hl, hi⟩ := h
  exact ⟨x, hx, by rw [q_hs_ix (by omega)]; exact e1, q_hs_at, Nat.zero_le _, fun i w hw => by simp at hw⟩
theorem q_push8 (sx : QX) (d : Nat) (H : QH) (B : SB) (l : List SW) (hs : q_sB B) (h : q_pile H 36 8 B l) : ∃ H', q_CL (q_tb sx) q_kpt (d + 3) (17, ([vr 3 36, vr 5 22], H)) = rV H' ∧ q_pile H' 36 8 B (c_get H 22 :: l.take 7) ∧ ∀ a, a < 36 ∨ 94 ≤ a → H' a = H a := by
  obtain ⟨x, hx, e1, e2, hl, hi⟩ := h
  have key : ∀ H' : QH, H' 36 1 = nI ((x + 1) % 8) → H' 36 2 = nI (min (l.length + 1) 8) → (∀ a, a ≠ 36 → H' a = c_put H (38 + 7 * x) (z_ov (c_get H 22) (c_get H (38 + 7 * x))) a) → q_pile H' 36 8 B (c_get H 22 :: l.take 7) ∧ ∀ a, a < 36 ∨ 94 ≤ a → H' a = H a := by
    intro H' f1 f2 f3
    refine ⟨⟨(x + 1) % 8, by omega, f1, ?_, ?_, ?_⟩, fun a ha => ?_⟩
    · rw [f2, List.length_cons, List.length_take]
      exact congrArg nI (by omega)
    · rw [List.length_cons, List.length_take]
      omega
    · intro i w hw
      cases i with
      | zero =>
        have hw' : c_get H 22 = w := by simpa using hw
        subst hw'
        rw [show (36 + 2 + 7 * (((x + 1) % 8 + 8 - 1 - 0) % 8)) = 38 + 7 * x by omega, c_get_of (H := c_put H (38 + 7 * x) (z_ov (c_get H 22) (c_get H (38 + 7 * x)))) (H' := H') (fun a h1 h2 => f3 a (by omega)), c_get_put]
        exact ag_ov hs _ _
      | succ i =>
        rw [List.getElem?_cons_succ, List.getElem?_take] at hw
        have hi7 : i < 7 := by
          by_cases q : i < 7
          · exact q
          · rw [if_neg q] at hw; cases hw
        rw [if_pos hi7] at hw
        have hlen : i < l.length := by
          by_cases q : i < l.length
          · exact q
          · rw [List.getElem?_eq_none (by omega)] at hw; cases hw
        have e := hi i w hw
        rw [show (36 + 2 + 7 * (((x + 1) % 8 + 8 - 1 - (i + 1)) % 8)) = 36 + 2 + 7 * ((x + 8 - 1 - i) % 8) by omega, c_get_of (H := c_put H (38 + 7 * x) (z_ov (c_get H 22) (c_get H (38 + 7 * x)))) (H' := H') (fun a h1 h2 => f3 a (by omega)), c_get_put_ne H (by omega)]
        exact e
    · rw [f3 a (by omega), c_put_out H _ _ (by omega)]
  have r1 : ∀ w, (c_put H (38 + 7 * x) w) 36 1 = nI x := fun w => by rw [c_put_out H _ _ (by omega), e1]
  have r2 : ∀ w, (c_put H (38 + 7 * x) w) 36 2 = nI l.length := fun w => by rw [c_put_out H _ _ (by omega), e2]
  have run : ∀ R, (q_cV (rV (c_put H (38 + 7 * x) (z_ov (c_get H 22) (c_get H (38 + 7 * x))))) R) = R (c_put H (38 + 7 * x) (z_ov (c_get H 22) (c_get H (38 + 7 * x)))) := fun R => rfl
  have hb := b_X2_push_3_0 sx (d + 2) 22 H
  rw [e1, pick_8 sx (d + 1) 37 x H hx] at hb
  simp only [q_cR5] at hb
  rw [show 37 + 1 + 7 * x = 38 + 7 * x by omega, q_copyFrom sx d (38 + 7 * x) 22 H (by omega), run] at hb
  refine Exists.imp (fun H' h => ⟨h.1, key H' h.2.1 h.2.2.1 h.2.2.2⟩) (?_ : ∃ H', q_CL (q_tb sx) q_kpt (d + 3) (17, ([vr 3 36, vr 5 22], H)) = rV H' ∧ H' 36 1 = nI ((x + 1) % 8) ∧ H' 36 2 = nI (min (l.length + 1) 8) ∧ ∀ a, a ≠ 36 → H' a = c_put H (38 + 7 * x) (z_ov (c_get H 22) (c_get H (38 + 7 * x))) a)
  by_cases c1 : x + 1 = 8
  · by_cases c2 : l.length = 8
    · refine ⟨q_hs (c_put H (38 + 7 * x) (z_ov (c_get H 22) (c_get H (38 + 7 * x)))) 36 1 (nI 0), hb.trans (by simp (disch := omega) only [Bool.cond_decide, nI_add, pk_mul, q_inbN, q_cl_nI, q_ltN, q_leN, q_eqN, q_ifT, q_ifF, q_cIs, q_cVs, decide_false, decide_true, Bool.not_false, Bool.not_true, cond_true, cond_false, ne_eq, not_false_eq_true, not_true_eq_false, if_true, if_false, r1, r2, q_hs_ix]), by rw [q_hs_at, c1], by rw [q_hs_ix (by omega), r2, c2]; rfl, fun a ha => q_hs_ne ha⟩
    · refine ⟨q_hs (q_hs (c_put H (38 + 7 * x) (z_ov (c_get H 22) (c_get H (38 + 7 * x)))) 36 1 (nI 0)) 36 2 (nI (l.length + 1)), hb.trans (by simp (disch := omega) only [Bool.cond_decide, nI_add, pk_mul, q_inbN, q_cl_nI, q_ltN, q_leN, q_eqN, q_ifT, q_ifF, q_cIs, q_cVs, decide_false, decide_true, Bool.not_false, Bool.not_true, cond_true, cond_false, ne_eq, not_false_eq_true, not_true_eq_false, if_true, if_false, r1, r2, q_hs_ix]), by rw [q_hs_ix (by omega), q_hs_at, c1], by rw [q_hs_at, show min (l.length + 1) 8 = l.length + 1 by omega], fun a ha => (q_hs_ne ha).trans (q_hs_ne ha)⟩
  · by_cases c2 : l.length = 8
    · refine ⟨q_hs (c_put H (38 + 7 * x) (z_ov (c_get H 22) (c_get H (38 + 7 * x)))) 36 1 (nI (x + 1)), hb.trans (by simp (disch := omega) only [Bool.cond_decide, nI_add, pk_mul, q_inbN, q_cl_nI, q_ltN, q_leN, q_eqN, q_ifT, q_ifF, q_cIs, q_cVs, decide_false, decide_true, Bool.not_false, Bool.not_true, cond_true, cond_false, ne_eq, not_false_eq_true, not_true_eq_false, if_true, if_false, r1, r2, q_hs_ix]), by rw [q_hs_at, Nat.mod_eq_of_lt (by omega)], by rw [q_hs_ix (by omega), r2, c2]; rfl, fun a ha => q_hs_ne ha⟩
    · refine ⟨q_hs (q_hs (c_put H (38 + 7 * x) (z_ov (c_get H 22) (c_get H (38 + 7 * x)))) 36 1 (nI (x + 1))) 36 2 (nI (l.length + 1)), hb.trans (by simp (disch := omega) only [Bool.cond_decide, nI_add, pk_mul, q_inbN, q_cl_nI, q_ltN, q_leN, q_eqN, q_ifT, q_ifF, q_cIs, q_cVs, decide_false, decide_true, Bool.not_false, Bool.not_true, cond_true, cond_false, ne_eq, not_false_eq_true, not_true_eq_false, if_true, if_false, r1, r2, q_hs_ix]), by rw [q_hs_ix (by omega), q_hs_at, Nat.mod_eq_of_lt (by omega)], by rw [q_hs_at, show min (l.length + 1) 8 = l.length + 1 by omega], fun a ha => (q_hs_ne ha).trans (q_hs_ne ha)⟩
theorem q_pop8_no (sx : QX) (d : Nat) (H : QH) (B : SB) (h : q_pile H 36 8 B []) : q_CL (q_tb sx) q_kpt (d + 3) (18, ([vr 3 36, vr 5 22], H)) = rI (nI 0) H := by
  obtain ⟨x, hx, e1, e2, hl, hi⟩ := h
  refine (b_X2_pop_3_0 sx (d + 2) 22 H).trans ?_
  rw [e2]
  rfl
theorem q_pop8 (sx : QX) (d : Nat) (H : QH) (B : SB) (w : SW) (l : List SW) (hs : q_sB B) (h : q_pile H 36 8 B (w :: l)) : ∃ H', q_CL (q_tb sx) q_kpt (d + 3) (18, ([vr 3 36, vr 5 22], H)) = rI (nI 1) H' ∧ q_ag B (c_get H' 22) w ∧ q_pile H' 36 8 B l ∧ ∀ a, a < 22 ∨ (29 ≤ a ∧ a ≠ 36) → H' a = H a := by
  obtain ⟨x, hx, e1, e2, hl, hi⟩ := h
  rw [List.length_cons] at e2 hl
  have hw := hi 0 w rfl
  have hb := b_X2_pop_3_0 sx (d + 2) 22 H
  have key : ∀ y, y < 8 → y = (x + 7) % 8 → ∀ H' : QH, H' 36 1 = nI y → H' 36 2 = nI l.length → (∀ a, a ≠ 36 → H' a = c_put H 22 (z_ov (c_get H (38 + 7 * y)) (c_get H 22)) a) → q_ag B (c_get H' 22) w ∧ q_pile H' 36 8 B l ∧ ∀ a, a < 22 ∨ (29 ≤ a ∧ a ≠ 36) → H' a = H a := by
    intro y hy ey H' f1 f2 f3
    refine ⟨?_, ⟨y, hy, f1, f2, by omega, fun i v hv => ?_⟩, fun a ha => by rw [f3 a (by omega), c_put_out H _ _ (by omega)]⟩
    · rw [c_get_of (H := c_put H 22 (z_ov (c_get H (38 + 7 * y)) (c_get H 22))) (H' := H') (fun a h1 h2 => f3 a (by omega)), c_get_put]
      refine ag_tr (ag_ov hs _ _) ?_
      rw [show 36 + 2 + 7 * ((x + 8 - 1 - 0) % 8) = 38 + 7 * y by omega] at hw
      exact hw
    · have hlen : i < l.length := by
        by_cases q : i < l.length
        · exact q
        · rw [List.getElem?_eq_none (by omega)] at hv; cases hv
      have e := hi (i + 1) v hv
      rw [show 36 + 2 + 7 * ((x + 8 - 1 - (i + 1)) % 8) = 36 + 2 + 7 * ((y + 8 - 1 - i) % 8) by omega] at e
      rw [c_get_of (H := H) (H' := H') (fun a h1 h2 => by rw [f3 a (by omega), c_put_out H _ _ (by omega)])]
      exact e
  have run : ∀ y R, (q_cV (rV (c_put H 22 (z_ov (c_get H (38 + 7 * y)) (c_get H 22)))) R) = R (c_put H 22 (z_ov (c_get H (38 + 7 * y)) (c_get H 22))) := fun y R => rfl
  have r2 : ∀ w, (c_put H 22 w) 36 2 = nI (l.length + 1) := fun w => by rw [c_put_out H _ _ (by omega), e2]
  rw [e1, e2] at hb
  by_cases c1 : x = 0
  · subst c1
    rw [pk_sub (by omega), pick_8 sx (d + 1) 37 (8 - 1) H (by omega)] at hb
    simp only [q_cR5] at hb
    rw [show 37 + 1 + 7 * (8 - 1) = 38 + 7 * (8 - 1) by omega, q_copyFrom sx d 22 (38 + 7 * (8 - 1)) H (by omega), run] at hb
    refine ⟨q_hs (q_hs (c_put H 22 (z_ov (c_get H (38 + 7 * (8 - 1))) (c_get H 22))) 36 1 (nI (8 - 1))) 36 2 (nI l.length), hb.trans (by simp (disch := omega) only [Bool.cond_decide, nI_add, pk_mul, q_inbN, q_cl_nI, q_ltN, q_leN, q_eqN, q_ifT, q_ifF, q_cIs, q_cVs, decide_false, decide_true, Bool.not_false, Bool.not_true, cond_true, cond_false, ne_eq, not_false_eq_true, not_true_eq_false, if_true, if_false, r2, q_hs_ix, pk_sub, Nat.add_sub_cancel]), key (8 - 1) (by omega) (by omega) _ (by rw [q_hs_ix (by omega), q_hs_at]) q_hs_at (fun a ha => (q_hs_ne ha).trans (q_hs_ne ha))⟩
  · rw [pk_sub (a := x) (by omega), pick_8 sx (d + 1) 37 (x - 1) H (by omega)] at hb
    simp only [q_cR5] at hb
    rw [show 37 + 1 + 7 * (x - 1) = 38 + 7 * (x - 1) by omega, q_copyFrom sx d 22 (38 + 7 * (x - 1)) H (by omega), run] at hb
    refine ⟨q_hs (q_hs (c_put H 22 (z_ov (c_get H (38 + 7 * (x - 1))) (c_get H 22))) 36 1 (nI (x - 1))) 36 2 (nI l.length), hb.trans (by simp (disch := omega) only [Bool.cond_decide, nI_add, pk_mul, q_inbN, q_cl_nI, q_ltN, q_leN, q_eqN, q_ifT, q_ifF, q_cIs, q_cVs, decide_false, decide_true, Bool.not_false, Bool.not_true, cond_true, cond_false, ne_eq, not_false_eq_true, not_true_eq_false, if_true, if_false, r2, q_hs_ix, pk_sub, Nat.add_sub_cancel]), key (x - 1) (by omega) (by omega) _ (by rw [q_hs_ix (by omega), q_hs_at]) q_hs_at (fun a ha => (q_hs_ne ha).trans (q_hs_ne ha))⟩
theorem q_pile_of2 {H H' : QH} {B : SB} {l : List SW} (h : q_pile H 94 2 B l) (he : ∀ a, 94 ≤ a → a < 110 → H' a = H a) : q_pile H' 94 2 B l := by
  obtain ⟨x, hx, e1, e2, hl, hi⟩ := h
  refine ⟨x, hx, by rw [he 94 (by omega) (by omega), e1], by rw [he 94 (by omega) (by omega), e2], hl, fun i w hw => ?_⟩
  rw [c_get_of (H := H) (H' := H') (fun a h1 h2 => he a (by omega) (by omega))]
  exact hi i w hw
theorem q_clear2 (sx : QX) (d : Nat) (H : QH) (B : SB) (l : List SW) (h : q_pile H 94 2 B l) : q_CL (q_tb sx) q_kpt (d + 1) (16, ([vr 4 94], H)) = rV (q_hs H 94 2 (nI 0)) ∧ q_pile (q_hs H 94 2 (nI 0)) 94 2 B [] := by
  refine ⟨(b_X2_clear_4_0 sx d H).trans rfl, ?_⟩
  obtain ⟨x, hx, e1, e2, hl, hi⟩ := h
  exact ⟨x, hx, by rw [q_hs_ix (by omega)]; exact e1, q_hs_at, Nat.zero_le _, fun i w hw => by simp at hw⟩
theorem q_push2 (sx : QX) (d : Nat) (H : QH) (B : SB) (l : List SW) (hs : q_sB B) (h : q_pile H 94 2 B l) : ∃ H', q_CL (q_tb sx) q_kpt (d + 3) (17, ([vr 4 94, vr 5 22], H)) = rV H' ∧ q_pile H' 94 2 B (c_get H 22 :: l.take 1) ∧ ∀ a, a < 94 ∨ 110 ≤ a → H' a = H a := by
  obtain ⟨x, hx, e1, e2, hl, hi⟩ := h
  have key : ∀ H' : QH, H' 94 1 = nI ((x + 1) % 2) → H' 94 2 = nI (min (l.length + 1) 2) → (∀ a, a ≠ 94 → H' a = c_put H (96 + 7 * x) (z_ov (c_get H 22) (c_get H (96 + 7 * x))) a) → q_pile H' 94 2 B (c_get H 22 :: l.take 1) ∧ ∀ a, a < 94 ∨ 110 ≤ a → H' a = H a := by
    intro H' f1 f2 f3
    refine ⟨⟨(x + 1) % 2, by omega, f1, ?_, ?_, ?_⟩, fun a ha => ?_⟩
    · rw [f2, List.length_cons, List.length_take]
      exact congrArg nI (by omega)
    · rw [List.length_cons, List.length_take]
      omega
    · intro i w hw
      cases i with
      | zero =>
        have hw' : c_get H 22 = w := by simpa using hw
        subst hw'
        rw [show (94 + 2 + 7 * (((x + 1) % 2 + 2 - 1 - 0) % 2)) = 96 + 7 * x by omega, c_get_of (H := c_put H (96 + 7 * x) (z_ov (c_get H 22) (c_get H (96 + 7 * x)))) (H' := H') (fun a h1 h2 => f3 a (by omega)), c_get_put]
        exact ag_ov hs _ _
      | succ i =>
        rw [List.getElem?_cons_succ, List.getElem?_take] at hw
        have hi7 : i < 1 := by
          by_cases q : i < 1
          · exact q
          · rw [if_neg q] at hw; cases hw
        rw [if_pos hi7] at hw
        have hlen : i < l.length := by
          by_cases q : i < l.length
          · exact q
          · rw [List.getElem?_eq_none (by omega)] at hw; cases hw
        have e := hi i w hw
        rw [show (94 + 2 + 7 * (((x + 1) % 2 + 2 - 1 - (i + 1)) % 2)) = 94 + 2 + 7 * ((x + 2 - 1 - i) % 2) by omega, c_get_of (H := c_put H (96 + 7 * x) (z_ov (c_get H 22) (c_get H (96 + 7 * x)))) (H' := H') (fun a h1 h2 => f3 a (by omega)), c_get_put_ne H (by omega)]
        exact e
    · rw [f3 a (by omega), c_put_out H _ _ (by omega)]
  have r1 : ∀ w, (c_put H (96 + 7 * x) w) 94 1 = nI x := fun w => by rw [c_put_out H _ _ (by omega), e1]
  have r2 : ∀ w, (c_put H (96 + 7 * x) w) 94 2 = nI l.length := fun w => by rw [c_put_out H _ _ (by omega), e2]
  have run : ∀ R, (q_cV (rV (c_put H (96 + 7 * x) (z_ov (c_get H 22) (c_get H (96 + 7 * x))))) R) = R (c_put H (96 + 7 * x) (z_ov (c_get H 22) (c_get H (96 + 7 * x)))) := fun R => rfl
  have hb := b_X2_push_4_0 sx (d + 2) 22 H
  rw [e1, pick_2 sx (d + 1) 95 x H hx] at hb
  simp only [q_cR5] at hb
  rw [show 95 + 1 + 7 * x = 96 + 7 * x by omega, q_copyFrom sx d (96 + 7 * x) 22 H (by omega), run] at hb
  refine Exists.imp (fun H' h => ⟨h.1, key H' h.2.1 h.2.2.1 h.2.2.2⟩) (?_ : ∃ H', q_CL (q_tb sx) q_kpt (d + 3) (17, ([vr 4 94, vr 5 22], H)) = rV H' ∧ H' 94 1 = nI ((x + 1) % 2) ∧ H' 94 2 = nI (min (l.length + 1) 2) ∧ ∀ a, a ≠ 94 → H' a = c_put H (96 + 7 * x) (z_ov (c_get H 22) (c_get H (96 + 7 * x))) a)
  by_cases c1 : x + 1 = 2
  · by_cases c2 : l.length = 2
    · refine ⟨q_hs (c_put H (96 + 7 * x) (z_ov (c_get H 22) (c_get H (96 + 7 * x)))) 94 1 (nI 0), hb.trans (by simp (disch := omega) only [Bool.cond_decide, nI_add, pk_mul, q_inbN, q_cl_nI, q_ltN, q_leN, q_eqN, q_ifT, q_ifF, q_cIs, q_cVs, decide_false, decide_true, Bool.not_false, Bool.not_true, cond_true, cond_false, ne_eq, not_false_eq_true, not_true_eq_false, if_true, if_false, r1, r2, q_hs_ix]), by rw [q_hs_at, c1], by rw [q_hs_ix (by omega), r2, c2]; rfl, fun a ha => q_hs_ne ha⟩
    · refine ⟨q_hs (q_hs (c_put H (96 + 7 * x) (z_ov (c_get H 22) (c_get H (96 + 7 * x)))) 94 1 (nI 0)) 94 2 (nI (l.length + 1)), hb.trans (by simp (disch := omega) only [Bool.cond_decide, nI_add, pk_mul, q_inbN, q_cl_nI, q_ltN, q_leN, q_eqN, q_ifT, q_ifF, q_cIs, q_cVs, decide_false, decide_true, Bool.not_false, Bool.not_true, cond_true, cond_false, ne_eq, not_false_eq_true, not_true_eq_false, if_true, if_false, r1, r2, q_hs_ix]), by rw [q_hs_ix (by omega), q_hs_at, c1], by rw [q_hs_at, show min (l.length + 1) 2 = l.length + 1 by omega], fun a ha => (q_hs_ne ha).trans (q_hs_ne ha)⟩
  · by_cases c2 : l.length = 2
    · refine ⟨q_hs (c_put H (96 + 7 * x) (z_ov (c_get H 22) (c_get H (96 + 7 * x)))) 94 1 (nI (x + 1)), hb.trans (by simp (disch := omega) only [Bool.cond_decide, nI_add, pk_mul, q_inbN, q_cl_nI, q_ltN, q_leN, q_eqN, q_ifT, q_ifF, q_cIs, q_cVs, decide_false, decide_true, Bool.not_false, Bool.not_true, cond_true, cond_false, ne_eq, not_false_eq_true, not_true_eq_false, if_true, if_false, r1, r2, q_hs_ix]), by rw [q_hs_at, Nat.mod_eq_of_lt (by omega)], by rw [q_hs_ix (by omega), r2, c2]; rfl, fun a ha => q_hs_ne ha⟩
    · refine ⟨q_hs (q_hs (c_put H (96 + 7 * x) (z_ov (c_get H 22) (c_get H (96 + 7 * x)))) 94 1 (nI (x + 1))) 94 2 (nI (l.length + 1)), hb.trans (by simp (disch := omega) only [Bool.cond_decide, nI_add, pk_mul, q_inbN, q_cl_nI, q_ltN, q_leN, q_eqN, q_ifT, q_ifF, q_cIs, q_cVs, decide_false, decide_true, Bool.not_false, Bool.not_true, cond_true, cond_false, ne_eq, not_false_eq_true, not_true_eq_false, if_true, if_false, r1, r2, q_hs_ix]), by rw [q_hs_ix (by omega), q_hs_at, Nat.mod_eq_of_lt (by omega)], by rw [q_hs_at, show min (l.length + 1) 2 = l.length + 1 by omega], fun a ha => (q_hs_ne ha).trans (q_hs_ne ha)⟩
theorem q_pop2_no (sx : QX) (d : Nat) (H : QH) (B : SB) (h : q_pile H 94 2 B []) : q_CL (q_tb sx) q_kpt (d + 3) (18, ([vr 4 94, vr 5 22], H)) = rI (nI 0) H := by
  obtain ⟨x, hx, e1, e2, hl, hi⟩ := h
  refine (b_X2_pop_4_0 sx (d + 2) 22 H).trans ?_
  rw [e2]
  rfl
theorem q_pop2 (sx : QX) (d : Nat) (H : QH) (B : SB) (w : SW) (l : List SW) (hs : q_sB B) (h : q_pile H 94 2 B (w :: l)) : ∃ H', q_CL (q_tb sx) q_kpt (d + 3) (18, ([vr 4 94, vr 5 22], H)) = rI (nI 1) H' ∧ q_ag B (c_get H' 22) w ∧ q_pile H' 94 2 B l ∧ ∀ a, a < 22 ∨ (29 ≤ a ∧ a ≠ 94) → H' a = H a := by
  obtain ⟨x, hx, e1, e2, hl, hi⟩ := h
  rw [List.length_cons] at e2 hl
  have hw := hi 0 w rfl
  have hb := b_X2_pop_4_0 sx (d + 2) 22 H
  have key : ∀ y, y < 2 → y = (x + 1) % 2 → ∀ H' : QH, H' 94 1 = nI y → H' 94 2 = nI l.length → (∀ a, a ≠ 94 → H' a = c_put H 22 (z_ov (c_get H (96 + 7 * y)) (c_get H 22)) a) → q_ag B (c_get H' 22) w ∧ q_pile H' 94 2 B l ∧ ∀ a, a < 22 ∨ (29 ≤ a ∧ a ≠ 94) → H' a = H a := by
    intro y hy ey H' f1 f2 f3
    refine ⟨?_, ⟨y, hy, f1, f2, by omega, fun i v hv => ?_⟩, fun a ha => by rw [f3 a (by omega), c_put_out H _ _ (by omega)]⟩
    · rw [c_get_of (H := c_put H 22 (z_ov (c_get H (96 + 7 * y)) (c_get H 22))) (H' := H') (fun a h1 h2 => f3 a (by omega)), c_get_put]
      refine ag_tr (ag_ov hs _ _) ?_
      rw [show 94 + 2 + 7 * ((x + 2 - 1 - 0) % 2) = 96 + 7 * y by omega] at hw
      exact hw
    · have hlen : i < l.length := by
        by_cases q : i < l.length
        · exact q
        · rw [List.getElem?_eq_none (by omega)] at hv; cases hv
      have e := hi (i + 1) v hv
      rw [show 94 + 2 + 7 * ((x + 2 - 1 - (i + 1)) % 2) = 94 + 2 + 7 * ((y + 2 - 1 - i) % 2) by omega] at e
      rw [c_get_of (H := H) (H' := H') (fun a h1 h2 => by rw [f3 a (by omega), c_put_out H _ _ (by omega)])]
      exact e
  have run : ∀ y R, (q_cV (rV (c_put H 22 (z_ov (c_get H (96 + 7 * y)) (c_get H 22)))) R) = R (c_put H 22 (z_ov (c_get H (96 + 7 * y)) (c_get H 22))) := fun y R => rfl
  have r2 : ∀ w, (c_put H 22 w) 94 2 = nI (l.length + 1) := fun w => by rw [c_put_out H _ _ (by omega), e2]
  rw [e1, e2] at hb
  by_cases c1 : x = 0
  · subst c1
    rw [pk_sub (by omega), pick_2 sx (d + 1) 95 (2 - 1) H (by omega)] at hb
    simp only [q_cR5] at hb
    rw [show 95 + 1 + 7 * (2 - 1) = 96 + 7 * (2 - 1) by omega, q_copyFrom sx d 22 (96 + 7 * (2 - 1)) H (by omega), run] at hb
    refine ⟨q_hs (q_hs (c_put H 22 (z_ov (c_get H (96 + 7 * (2 - 1))) (c_get H 22))) 94 1 (nI (2 - 1))) 94 2 (nI l.length), hb.trans (by simp (disch := omega) only [Bool.cond_decide, nI_add, pk_mul, q_inbN, q_cl_nI, q_ltN, q_leN, q_eqN, q_ifT, q_ifF, q_cIs, q_cVs, decide_false, decide_true, Bool.not_false, Bool.not_true, cond_true, cond_false, ne_eq, not_false_eq_true, not_true_eq_false, if_true, if_false, r2, q_hs_ix, pk_sub, Nat.add_sub_cancel]), key (2 - 1) (by omega) (by omega) _ (by rw [q_hs_ix (by omega), q_hs_at]) q_hs_at (fun a ha => (q_hs_ne ha).trans (q_hs_ne ha))⟩
  · rw [pk_sub (a := x) (by omega), pick_2 sx (d + 1) 95 (x - 1) H (by omega)] at hb
    simp only [q_cR5] at hb
    rw [show 95 + 1 + 7 * (x - 1) = 96 + 7 * (x - 1) by omega, q_copyFrom sx d 22 (96 + 7 * (x - 1)) H (by omega), run] at hb
    refine ⟨q_hs (q_hs (c_put H 22 (z_ov (c_get H (96 + 7 * (x - 1))) (c_get H 22))) 94 1 (nI (x - 1))) 94 2 (nI l.length), hb.trans (by simp (disch := omega) only [Bool.cond_decide, nI_add, pk_mul, q_inbN, q_cl_nI, q_ltN, q_leN, q_eqN, q_ifT, q_ifF, q_cIs, q_cVs, decide_false, decide_true, Bool.not_false, Bool.not_true, cond_true, cond_false, ne_eq, not_false_eq_true, not_true_eq_false, if_true, if_false, r2, q_hs_ix, pk_sub, Nat.add_sub_cancel]), key (x - 1) (by omega) (by omega) _ (by rw [q_hs_ix (by omega), q_hs_at]) q_hs_at (fun a ha => (q_hs_ne ha).trans (q_hs_ne ha))⟩
abbrev SA : Type := (Nat × (Nat → Int32)) × (SB × (SW × (List SW × List SW)))
def aL (A : SA) : Nat := A.1.1
def aT (A : SA) : Nat → Int32 := A.1.2
def aB (A : SA) : SB := A.2.1
def aW (A : SA) : SW := A.2.2.1
def aU (A : SA) : List SW := A.2.2.2.1
def aK (A : SA) : List SW := A.2.2.2.2
def q_sA (n : Nat) (A : SA) : Prop := aL A ≤ 200 ∧ q_sB (aB A) ∧ q_vw (aB A) n (aW A) ∧ (∀ w, w ∈ aU A → q_vw (aB A) n w) ∧ (∀ w, w ∈ aK A → q_vw (aB A) n w) ∧ (aU A).length ≤ 8 ∧ (aK A).length ≤ 2
theorem q_sA_mono {n m : Nat} {A : SA} (h : q_sA n A) (hm : n ≤ m) : q_sA m A := by
  obtain ⟨h1, h2, h3, h4, h5, h6⟩ := h
  exact ⟨h1, h2, vw_mono h3 hm, fun w hw => vw_mono (h4 w hw) hm, fun w hw => vw_mono (h5 w hw) hm, h6⟩
def q_RC (A : SA) (H : QH) : Prop := (H 1 2 = nI (aL A) ∧ ∀ j, j < aL A → H 2 j = aT A j) ∧ q_rB H (aB A) ∧ q_ag (aB A) (c_get H 22) (aW A) ∧ q_pile H 36 8 (aB A) (aU A) ∧ q_pile H 94 2 (aB A) (aK A)
def q_mw (B : SB) (v w : SW) : Prop := q_ag B v w ∧ ∀ s, s < 4 → sNs B ≤ s → v (79 + s) = nI 0
def q_mst (H : QH) (r : Nat) (B : SB) (l : List SW) : Prop := ∀ i w, l[i]? = some w → q_mw B (m_get H (r + 83 * (l.length - 1 - i))) w
def q_RM (A : SA) (H : QH) : Prop := (H 165 13 = nI (aL A) ∧ ∀ j, j < aL A → H 172 j = aT A j) ∧ q_mB H (aB A) ∧ q_mw (aB A) (m_get H 0) (aW A) ∧ (H 165 1 = nI (aU A).length ∧ q_mst H 332 (aB A) (aU A)) ∧ (H 165 2 = nI (aK A).length ∧ q_mst H 166 (aB A) (aK A))
/-- a call of the class, a call of the model: alike -/
def q_cal (sx : QX) (d mid : Nat) (as : List QV) (A : SA) (x : Int32) (A' : SA) : Prop := ∀ H, q_RC A H → ∃ H', q_CL (q_tb sx) q_kpt (d + 40) (mid, (vr 8 0 :: as, H)) = rI x H' ∧ q_RC A' H' ∧ ∀ a, 165 ≤ a → H' a = H a
def q_mal (sx : QX) (d mid : Nat) (as : List QV) (A : SA) (x : Int32) (A' : SA) : Prop := ∀ H, q_RM A H → ∃ H', q_CL (q_tb sx) q_kpt (d + 40) (mid, (vr 9 165 :: as, H)) = rI x H' ∧ q_RM A' H' ∧ ∀ a, a < 165 → H' a = H a
def q_two (sx : QX) (d mc mm : Nat) (as : List QV) (A : SA) (n : Nat) : Prop := ∃ x A', q_sA (n + 1) A' ∧ q_cal sx d mc as A x A' ∧ q_mal sx d mm as A x A'
theorem q_RC_of {A : SA} {H H' : QH} (h : q_RC A H) (h1 : H' 1 2 = H 1 2) (he : ∀ a, a = 2 ∨ (4 ≤ a ∧ a < 13) ∨ (22 ≤ a ∧ a < 29) ∨ (36 ≤ a ∧ a < 110) → H' a = H a) : q_RC A H' := by
  obtain ⟨⟨e1, e2⟩, e3, e4, e5, e6⟩ := h
  refine ⟨⟨h1.trans e1, fun j hj => by rw [he 2 (by omega)]; exact e2 j hj⟩, ?_, ?_, q_pile_of8 e5 (fun a q1 q2 => he a (by omega)), q_pile_of2 e6 (fun a q1 q2 => he a (by omega))⟩
  · unfold q_rB at e3 ⊢
    rw [he 4 (by omega), he 5 (by omega), he 6 (by omega), he 7 (by omega), he 8 (by omega), he 9 (by omega), he 11 (by omega), he 12 (by omega)]
    exact e3
  · rw [c_get_of (H := H) (H' := H') (fun a q1 q2 => he a (by omega))]
    exact e4
theorem q_RM_of {A : SA} {H H' : QH} {n : Nat} (h : q_RM A H) (hA : q_sA n A) (h1 : ∀ j, j < 14 → H' 165 j = H 165 j) (h2 : ∀ j, j < 83 ∨ (166 ≤ j ∧ j < 996) → H' 166 j = H 166 j) (he : ∀ a, 167 ≤ a → a < 173 → H' a = H a) : q_RM A H' := by
  obtain ⟨⟨e1, e2⟩, e3, e4, ⟨e5, e6⟩, e7, e8⟩ := h
  obtain ⟨-, hs, -, -, -, l8, l2⟩ := hA
  obtain ⟨-, -, ⟨g5, g6⟩, -⟩ := hs
  have mv : ∀ (r : Nat) (w : SW), (r = 0 ∨ (166 ≤ r ∧ r + 83 ≤ 996)) → q_mw (aB A) (m_get H r) w → q_mw (aB A) (m_get H' r) w := fun r w hr hw => by
    have e : ∀ j, j < 83 → m_get H' r j = m_get H r j := fun j hj => h2 _ (by omega)
    exact ⟨fun j hj => (e j (by omega)).trans (hw.1 j hj), fun s q1 q2 => (e _ (by omega)).trans (hw.2 s q1 q2)⟩
  refine ⟨⟨(h1 13 (by omega)).trans e1, fun j hj => by rw [he 172 (by omega) (by omega)]; exact e2 j hj⟩, ?_, mv 0 _ (Or.inl rfl) e4, ⟨(h1 1 (by omega)).trans e5, fun i w hw => mv _ _ (Or.inr ⟨by omega, by omega⟩) (e6 i w hw)⟩, (h1 2 (by omega)).trans e7, fun i w hw => mv _ _ (Or.inr ⟨by omega, by omega⟩) (e8 i w hw)⟩
  unfold q_mB at e3 ⊢
  rw [h1 3 (by omega), h1 6 (by omega), h1 8 (by omega), h1 11 (by omega), he 167 (by omega) (by omega), he 168 (by omega) (by omega), he 169 (by omega) (by omega), he 170 (by omega) (by omega), he 171 (by omega) (by omega)]
  exact e3
