/-! the class's and the model's small static methods -/
theorem at_3 (sx : QX) (d p k : Nat) (H : QH) (h : k < 3) : q_CL (q_tb sx) q_kpt (d + 1) (97, ([vr 103 p, vn k], H)) = rI (H p k) H := by
  refine (b_X6_at_103_0 sx d p (nI k) H).trans ?_
  simp (disch := omega) only [Bool.cond_decide, nI_add, pk_mul, q_inbN, q_cl_nI, q_ltN, q_leN, q_eqN, q_ifT, q_ifF, q_cIs, q_cVs, decide_false, decide_true, Bool.not_false, Bool.not_true, cond_true, cond_false, ne_eq, not_false_eq_true, not_true_eq_false, if_true, if_false]
theorem at_4 (sx : QX) (d p k : Nat) (H : QH) (h : k < 4) : q_CL (q_tb sx) q_kpt (d + 1) (97, ([vr 104 p, vn k], H)) = rI (H p k) H := by
  refine (b_X6_at_104_0 sx d p (nI k) H).trans ?_
  simp (disch := omega) only [Bool.cond_decide, nI_add, pk_mul, q_inbN, q_cl_nI, q_ltN, q_leN, q_eqN, q_ifT, q_ifF, q_cIs, q_cVs, decide_false, decide_true, Bool.not_false, Bool.not_true, cond_true, cond_false, ne_eq, not_false_eq_true, not_true_eq_false, if_true, if_false]
theorem at_6 (sx : QX) (d p k : Nat) (H : QH) (h : k < 6) : q_CL (q_tb sx) q_kpt (d + 1) (97, ([vr 106 p, vn k], H)) = rI (H p k) H := by
  refine (b_X6_at_106_0 sx d p (nI k) H).trans ?_
  simp (disch := omega) only [Bool.cond_decide, nI_add, pk_mul, q_inbN, q_cl_nI, q_ltN, q_leN, q_eqN, q_ifT, q_ifF, q_cIs, q_cVs, decide_false, decide_true, Bool.not_false, Bool.not_true, cond_true, cond_false, ne_eq, not_false_eq_true, not_true_eq_false, if_true, if_false]
theorem at_24 (sx : QX) (d p k : Nat) (H : QH) (h : k < 24) : q_CL (q_tb sx) q_kpt (d + 1) (97, ([vr 124 p, vn k], H)) = rI (H p k) H := by
  refine (b_X6_at_124_0 sx d p (nI k) H).trans ?_
  simp (disch := omega) only [Bool.cond_decide, nI_add, pk_mul, q_inbN, q_cl_nI, q_ltN, q_leN, q_eqN, q_ifT, q_ifF, q_cIs, q_cVs, decide_false, decide_true, Bool.not_false, Bool.not_true, cond_true, cond_false, ne_eq, not_false_eq_true, not_true_eq_false, if_true, if_false]
theorem at_36 (sx : QX) (d p k : Nat) (H : QH) (h : k < 36) : q_CL (q_tb sx) q_kpt (d + 1) (97, ([vr 136 p, vn k], H)) = rI (H p k) H := by
  refine (b_X6_at_136_0 sx d p (nI k) H).trans ?_
  simp (disch := omega) only [Bool.cond_decide, nI_add, pk_mul, q_inbN, q_cl_nI, q_ltN, q_leN, q_eqN, q_ifT, q_ifF, q_cIs, q_cVs, decide_false, decide_true, Bool.not_false, Bool.not_true, cond_true, cond_false, ne_eq, not_false_eq_true, not_true_eq_false, if_true, if_false]
theorem at_144 (sx : QX) (d p k : Nat) (H : QH) (h : k < 144) : q_CL (q_tb sx) q_kpt (d + 1) (97, ([vr 244 p, vn k], H)) = rI (H p k) H := by
  refine (b_X6_at_244_0 sx d p (nI k) H).trans ?_
  simp (disch := omega) only [Bool.cond_decide, nI_add, pk_mul, q_inbN, q_cl_nI, q_ltN, q_leN, q_eqN, q_ifT, q_ifF, q_cIs, q_cVs, decide_false, decide_true, Bool.not_false, Bool.not_true, cond_true, cond_false, ne_eq, not_false_eq_true, not_true_eq_false, if_true, if_false]
theorem put_200 (sx : QX) (d p k : Nat) (x : Int32) (H : QH) (h : k < 200) : q_CL (q_tb sx) q_kpt (d + 1) (98, ([vr 300 p, vn k, vi x], H)) = rV (q_hs H p k x) := by
  refine (b_X6_put_300_0 sx d p (nI k) x H).trans ?_
  simp (disch := omega) only [Bool.cond_decide, nI_add, pk_mul, q_inbN, q_cl_nI, q_ltN, q_leN, q_eqN, q_ifT, q_ifF, q_cIs, q_cVs, decide_false, decide_true, Bool.not_false, Bool.not_true, cond_true, cond_false, ne_eq, not_false_eq_true, not_true_eq_false, if_true, if_false]
theorem put_3 (sx : QX) (d p k : Nat) (x : Int32) (H : QH) (h : k < 3) : q_CL (q_tb sx) q_kpt (d + 1) (98, ([vr 103 p, vn k, vi x], H)) = rV (q_hs H p k x) := by
  refine (b_X6_put_103_0 sx d p (nI k) x H).trans ?_
  simp (disch := omega) only [Bool.cond_decide, nI_add, pk_mul, q_inbN, q_cl_nI, q_ltN, q_leN, q_eqN, q_ifT, q_ifF, q_cIs, q_cVs, decide_false, decide_true, Bool.not_false, Bool.not_true, cond_true, cond_false, ne_eq, not_false_eq_true, not_true_eq_false, if_true, if_false]
theorem put_4 (sx : QX) (d p k : Nat) (x : Int32) (H : QH) (h : k < 4) : q_CL (q_tb sx) q_kpt (d + 1) (98, ([vr 104 p, vn k, vi x], H)) = rV (q_hs H p k x) := by
  refine (b_X6_put_104_0 sx d p (nI k) x H).trans ?_
  simp (disch := omega) only [Bool.cond_decide, nI_add, pk_mul, q_inbN, q_cl_nI, q_ltN, q_leN, q_eqN, q_ifT, q_ifF, q_cIs, q_cVs, decide_false, decide_true, Bool.not_false, Bool.not_true, cond_true, cond_false, ne_eq, not_false_eq_true, not_true_eq_false, if_true, if_false]
theorem put_6 (sx : QX) (d p k : Nat) (x : Int32) (H : QH) (h : k < 6) : q_CL (q_tb sx) q_kpt (d + 1) (98, ([vr 106 p, vn k, vi x], H)) = rV (q_hs H p k x) := by
  refine (b_X6_put_106_0 sx d p (nI k) x H).trans ?_
  simp (disch := omega) only [Bool.cond_decide, nI_add, pk_mul, q_inbN, q_cl_nI, q_ltN, q_leN, q_eqN, q_ifT, q_ifF, q_cIs, q_cVs, decide_false, decide_true, Bool.not_false, Bool.not_true, cond_true, cond_false, ne_eq, not_false_eq_true, not_true_eq_false, if_true, if_false]
theorem put_24 (sx : QX) (d p k : Nat) (x : Int32) (H : QH) (h : k < 24) : q_CL (q_tb sx) q_kpt (d + 1) (98, ([vr 124 p, vn k, vi x], H)) = rV (q_hs H p k x) := by
  refine (b_X6_put_124_0 sx d p (nI k) x H).trans ?_
  simp (disch := omega) only [Bool.cond_decide, nI_add, pk_mul, q_inbN, q_cl_nI, q_ltN, q_leN, q_eqN, q_ifT, q_ifF, q_cIs, q_cVs, decide_false, decide_true, Bool.not_false, Bool.not_true, cond_true, cond_false, ne_eq, not_false_eq_true, not_true_eq_false, if_true, if_false]
theorem put_36 (sx : QX) (d p k : Nat) (x : Int32) (H : QH) (h : k < 36) : q_CL (q_tb sx) q_kpt (d + 1) (98, ([vr 136 p, vn k, vi x], H)) = rV (q_hs H p k x) := by
  refine (b_X6_put_136_0 sx d p (nI k) x H).trans ?_
  simp (disch := omega) only [Bool.cond_decide, nI_add, pk_mul, q_inbN, q_cl_nI, q_ltN, q_leN, q_eqN, q_ifT, q_ifF, q_cIs, q_cVs, decide_false, decide_true, Bool.not_false, Bool.not_true, cond_true, cond_false, ne_eq, not_false_eq_true, not_true_eq_false, if_true, if_false]
theorem put_144 (sx : QX) (d p k : Nat) (x : Int32) (H : QH) (h : k < 144) : q_CL (q_tb sx) q_kpt (d + 1) (98, ([vr 244 p, vn k, vi x], H)) = rV (q_hs H p k x) := by
  refine (b_X6_put_244_0 sx d p (nI k) x H).trans ?_
  simp (disch := omega) only [Bool.cond_decide, nI_add, pk_mul, q_inbN, q_cl_nI, q_ltN, q_leN, q_eqN, q_ifT, q_ifF, q_cIs, q_cVs, decide_false, decide_true, Bool.not_false, Bool.not_true, cond_true, cond_false, ne_eq, not_false_eq_true, not_true_eq_false, if_true, if_false]
def z_fill (p n : Nat) (x : Int32) (H : QH) : QH := fun a b => if a = p ∧ b < n then x else H a b
theorem z_fill_fold (p : Nat) (x : Int32) (H : QH) : ∀ n, z_fold n (fun k H => q_hs H p k x) H = z_fill p n x H := by
  intro n
  induction n with
  | zero => funext a b; simp [z_fold, z_fill]
  | succ n ih =>
    show q_hs (z_fold n (fun k H => q_hs H p k x) H) p n x = _
    rw [ih]
    funext a b
    rw [q_hs_rd]
    unfold z_fill
    by_cases h : a = p ∧ b = n
    · rw [if_pos h, if_pos ⟨h.1, by omega⟩]
    · rw [if_neg h]
      by_cases h2 : a = p ∧ b < n
      · rw [if_pos h2, if_pos ⟨h2.1, by omega⟩]
      · rw [if_neg h2, if_neg (fun q => by omega)]
def z_copy (p q n : Nat) (H : QH) : QH := fun a b => if a = q ∧ b < n then H p b else H a b
theorem z_copy_fold {p q : Nat} (hpq : p ≠ q) (H : QH) : ∀ n, z_fold n (fun k H => q_hs H q k (H p k)) H = z_copy p q n H := by
  intro n
  induction n with
  | zero => funext a b; simp [z_fold, z_copy]
  | succ n ih =>
    show q_hs (z_fold n (fun k H => q_hs H q k (H p k)) H) q n (z_fold n (fun k H => q_hs H q k (H p k)) H p n) = _
    rw [ih]
    funext a b
    rw [q_hs_rd]
    unfold z_copy
    by_cases h : a = q ∧ b = n
    · rw [if_pos h, if_neg (fun z : p = q ∧ n < n => hpq z.1), if_pos ⟨h.1, by omega⟩, h.2]
    · rw [if_neg h]
      by_cases h2 : a = q ∧ b < n
      · rw [if_pos h2, if_pos ⟨h2.1, by omega⟩]
      · rw [if_neg h2, if_neg (fun q => by omega)]
theorem fill_4 (sx : QX) (d p : Nat) (x : Int32) (H : QH) : q_CL (q_tb sx) q_kpt (d + 1) (99, ([vr 104 p, vi x], H)) = rV (z_fill p 4 x H) := by
  refine (b_X6_fill_104_0 sx d p x H).trans ?_
  have hl := z_loop 4 (fun k H => q_EV (q_tb sx) q_kpt (d + 1) 99 (2, ([(0, vr 104 p), (1, vi x), (2, vn k)], ([], H)))) (fun k H => q_hs H p k x) (fun k H hk => by
    refine (b_X6_fill_104_2 sx d p x (nI k) H).trans ?_
    simp (disch := omega) only [Bool.cond_decide, nI_add, pk_mul, q_inbN, q_cl_nI, q_ltN, q_leN, q_eqN, q_ifT, q_ifF, q_cIs, q_cVs, decide_false, decide_true, Bool.not_false, Bool.not_true, cond_true, cond_false, ne_eq, not_false_eq_true, not_true_eq_false, if_true, if_false]) H
  refine Eq.trans hl ?_
  rw [z_fill_fold]
  refine (b_X6_fill_104_2 sx d p x (nI 4) _).trans ?_
  simp (disch := omega) only [Bool.cond_decide, nI_add, pk_mul, q_inbN, q_cl_nI, q_ltN, q_leN, q_eqN, q_ifT, q_ifF, q_cIs, q_cVs, decide_false, decide_true, Bool.not_false, Bool.not_true, cond_true, cond_false, ne_eq, not_false_eq_true, not_true_eq_false, if_true, if_false]
theorem copy_4 (sx : QX) (d p q : Nat) (H : QH) (hpq : p ≠ q) : q_CL (q_tb sx) q_kpt (d + 1) (100, ([vr 104 p, vr 104 q], H)) = rV (z_copy p q 4 H) := by
  refine (b_X6_copy_104_0 sx d p q H).trans ?_
  have hl := z_loop 4 (fun k H => q_EV (q_tb sx) q_kpt (d + 1) 100 (2, ([(0, vr 104 p), (1, vr 104 q), (2, vn k)], ([], H)))) (fun k H => q_hs H q k (H p k)) (fun k H hk => by
    refine (b_X6_copy_104_2 sx d p q (nI k) H).trans ?_
    simp (disch := omega) only [Bool.cond_decide, nI_add, pk_mul, q_inbN, q_cl_nI, q_ltN, q_leN, q_eqN, q_ifT, q_ifF, q_cIs, q_cVs, decide_false, decide_true, Bool.not_false, Bool.not_true, cond_true, cond_false, ne_eq, not_false_eq_true, not_true_eq_false, if_true, if_false]) H
  refine Eq.trans hl ?_
  rw [z_copy_fold hpq]
  refine (b_X6_copy_104_2 sx d p q (nI 4) _).trans ?_
  simp (disch := omega) only [Bool.cond_decide, nI_add, pk_mul, q_inbN, q_cl_nI, q_ltN, q_leN, q_eqN, q_ifT, q_ifF, q_cIs, q_cVs, decide_false, decide_true, Bool.not_false, Bool.not_true, cond_true, cond_false, ne_eq, not_false_eq_true, not_true_eq_false, if_true, if_false]
theorem fill_6 (sx : QX) (d p : Nat) (x : Int32) (H : QH) : q_CL (q_tb sx) q_kpt (d + 1) (99, ([vr 106 p, vi x], H)) = rV (z_fill p 6 x H) := by
  refine (b_X6_fill_106_0 sx d p x H).trans ?_
  have hl := z_loop 6 (fun k H => q_EV (q_tb sx) q_kpt (d + 1) 99 (2, ([(0, vr 106 p), (1, vi x), (2, vn k)], ([], H)))) (fun k H => q_hs H p k x) (fun k H hk => by
    refine (b_X6_fill_106_2 sx d p x (nI k) H).trans ?_
    simp (disch := omega) only [Bool.cond_decide, nI_add, pk_mul, q_inbN, q_cl_nI, q_ltN, q_leN, q_eqN, q_ifT, q_ifF, q_cIs, q_cVs, decide_false, decide_true, Bool.not_false, Bool.not_true, cond_true, cond_false, ne_eq, not_false_eq_true, not_true_eq_false, if_true, if_false]) H
  refine Eq.trans hl ?_
  rw [z_fill_fold]
  refine (b_X6_fill_106_2 sx d p x (nI 6) _).trans ?_
  simp (disch := omega) only [Bool.cond_decide, nI_add, pk_mul, q_inbN, q_cl_nI, q_ltN, q_leN, q_eqN, q_ifT, q_ifF, q_cIs, q_cVs, decide_false, decide_true, Bool.not_false, Bool.not_true, cond_true, cond_false, ne_eq, not_false_eq_true, not_true_eq_false, if_true, if_false]
theorem copy_6 (sx : QX) (d p q : Nat) (H : QH) (hpq : p ≠ q) : q_CL (q_tb sx) q_kpt (d + 1) (100, ([vr 106 p, vr 106 q], H)) = rV (z_copy p q 6 H) := by
  refine (b_X6_copy_106_0 sx d p q H).trans ?_
  have hl := z_loop 6 (fun k H => q_EV (q_tb sx) q_kpt (d + 1) 100 (2, ([(0, vr 106 p), (1, vr 106 q), (2, vn k)], ([], H)))) (fun k H => q_hs H q k (H p k)) (fun k H hk => by
    refine (b_X6_copy_106_2 sx d p q (nI k) H).trans ?_
    simp (disch := omega) only [Bool.cond_decide, nI_add, pk_mul, q_inbN, q_cl_nI, q_ltN, q_leN, q_eqN, q_ifT, q_ifF, q_cIs, q_cVs, decide_false, decide_true, Bool.not_false, Bool.not_true, cond_true, cond_false, ne_eq, not_false_eq_true, not_true_eq_false, if_true, if_false]) H
  refine Eq.trans hl ?_
  rw [z_copy_fold hpq]
  refine (b_X6_copy_106_2 sx d p q (nI 6) _).trans ?_
  simp (disch := omega) only [Bool.cond_decide, nI_add, pk_mul, q_inbN, q_cl_nI, q_ltN, q_leN, q_eqN, q_ifT, q_ifF, q_cIs, q_cVs, decide_false, decide_true, Bool.not_false, Bool.not_true, cond_true, cond_false, ne_eq, not_false_eq_true, not_true_eq_false, if_true, if_false]
theorem fill_24 (sx : QX) (d p : Nat) (x : Int32) (H : QH) : q_CL (q_tb sx) q_kpt (d + 1) (99, ([vr 124 p, vi x], H)) = rV (z_fill p 24 x H) := by
  refine (b_X6_fill_124_0 sx d p x H).trans ?_
  have hl := z_loop 24 (fun k H => q_EV (q_tb sx) q_kpt (d + 1) 99 (2, ([(0, vr 124 p), (1, vi x), (2, vn k)], ([], H)))) (fun k H => q_hs H p k x) (fun k H hk => by
    refine (b_X6_fill_124_2 sx d p x (nI k) H).trans ?_
    simp (disch := omega) only [Bool.cond_decide, nI_add, pk_mul, q_inbN, q_cl_nI, q_ltN, q_leN, q_eqN, q_ifT, q_ifF, q_cIs, q_cVs, decide_false, decide_true, Bool.not_false, Bool.not_true, cond_true, cond_false, ne_eq, not_false_eq_true, not_true_eq_false, if_true, if_false]) H
  refine Eq.trans hl ?_
  rw [z_fill_fold]
  refine (b_X6_fill_124_2 sx d p x (nI 24) _).trans ?_
  simp (disch := omega) only [Bool.cond_decide, nI_add, pk_mul, q_inbN, q_cl_nI, q_ltN, q_leN, q_eqN, q_ifT, q_ifF, q_cIs, q_cVs, decide_false, decide_true, Bool.not_false, Bool.not_true, cond_true, cond_false, ne_eq, not_false_eq_true, not_true_eq_false, if_true, if_false]
theorem copy_24 (sx : QX) (d p q : Nat) (H : QH) (hpq : p ≠ q) : q_CL (q_tb sx) q_kpt (d + 1) (100, ([vr 124 p, vr 124 q], H)) = rV (z_copy p q 24 H) := by
  refine (b_X6_copy_124_0 sx d p q H).trans ?_
  have hl := z_loop 24 (fun k H => q_EV (q_tb sx) q_kpt (d + 1) 100 (2, ([(0, vr 124 p), (1, vr 124 q), (2, vn k)], ([], H)))) (fun k H => q_hs H q k (H p k)) (fun k H hk => by
    refine (b_X6_copy_124_2 sx d p q (nI k) H).trans ?_
    simp (disch := omega) only [Bool.cond_decide, nI_add, pk_mul, q_inbN, q_cl_nI, q_ltN, q_leN, q_eqN, q_ifT, q_ifF, q_cIs, q_cVs, decide_false, decide_true, Bool.not_false, Bool.not_true, cond_true, cond_false, ne_eq, not_false_eq_true, not_true_eq_false, if_true, if_false]) H
  refine Eq.trans hl ?_
  rw [z_copy_fold hpq]
  refine (b_X6_copy_124_2 sx d p q (nI 24) _).trans ?_
  simp (disch := omega) only [Bool.cond_decide, nI_add, pk_mul, q_inbN, q_cl_nI, q_ltN, q_leN, q_eqN, q_ifT, q_ifF, q_cIs, q_cVs, decide_false, decide_true, Bool.not_false, Bool.not_true, cond_true, cond_false, ne_eq, not_false_eq_true, not_true_eq_false, if_true, if_false]
theorem fill_36 (sx : QX) (d p : Nat) (x : Int32) (H : QH) : q_CL (q_tb sx) q_kpt (d + 1) (99, ([vr 136 p, vi x], H)) = rV (z_fill p 36 x H) := by
  refine (b_X6_fill_136_0 sx d p x H).trans ?_
  have hl := z_loop 36 (fun k H => q_EV (q_tb sx) q_kpt (d + 1) 99 (2, ([(0, vr 136 p), (1, vi x), (2, vn k)], ([], H)))) (fun k H => q_hs H p k x) (fun k H hk => by
    refine (b_X6_fill_136_2 sx d p x (nI k) H).trans ?_
    simp (disch := omega) only [Bool.cond_decide, nI_add, pk_mul, q_inbN, q_cl_nI, q_ltN, q_leN, q_eqN, q_ifT, q_ifF, q_cIs, q_cVs, decide_false, decide_true, Bool.not_false, Bool.not_true, cond_true, cond_false, ne_eq, not_false_eq_true, not_true_eq_false, if_true, if_false]) H
  refine Eq.trans hl ?_
  rw [z_fill_fold]
  refine (b_X6_fill_136_2 sx d p x (nI 36) _).trans ?_
  simp (disch := omega) only [Bool.cond_decide, nI_add, pk_mul, q_inbN, q_cl_nI, q_ltN, q_leN, q_eqN, q_ifT, q_ifF, q_cIs, q_cVs, decide_false, decide_true, Bool.not_false, Bool.not_true, cond_true, cond_false, ne_eq, not_false_eq_true, not_true_eq_false, if_true, if_false]
theorem copy_36 (sx : QX) (d p q : Nat) (H : QH) (hpq : p ≠ q) : q_CL (q_tb sx) q_kpt (d + 1) (100, ([vr 136 p, vr 136 q], H)) = rV (z_copy p q 36 H) := by
  refine (b_X6_copy_136_0 sx d p q H).trans ?_
  have hl := z_loop 36 (fun k H => q_EV (q_tb sx) q_kpt (d + 1) 100 (2, ([(0, vr 136 p), (1, vr 136 q), (2, vn k)], ([], H)))) (fun k H => q_hs H q k (H p k)) (fun k H hk => by
    refine (b_X6_copy_136_2 sx d p q (nI k) H).trans ?_
    simp (disch := omega) only [Bool.cond_decide, nI_add, pk_mul, q_inbN, q_cl_nI, q_ltN, q_leN, q_eqN, q_ifT, q_ifF, q_cIs, q_cVs, decide_false, decide_true, Bool.not_false, Bool.not_true, cond_true, cond_false, ne_eq, not_false_eq_true, not_true_eq_false, if_true, if_false]) H
  refine Eq.trans hl ?_
  rw [z_copy_fold hpq]
  refine (b_X6_copy_136_2 sx d p q (nI 36) _).trans ?_
  simp (disch := omega) only [Bool.cond_decide, nI_add, pk_mul, q_inbN, q_cl_nI, q_ltN, q_leN, q_eqN, q_ifT, q_ifF, q_cIs, q_cVs, decide_false, decide_true, Bool.not_false, Bool.not_true, cond_true, cond_false, ne_eq, not_false_eq_true, not_true_eq_false, if_true, if_false]
theorem pick_2 (sx : QX) (d p k : Nat) (H : QH) (h : k < 2) : q_CL (q_tb sx) q_kpt (d + 1) (101, ([vr 22 p, vn k], H)) = some (some (vr 5 (p + 1 + 7 * k)), H) := by
  refine (b_X6_pick_22_0 sx d p (nI k) H).trans ?_
  simp (disch := omega) only [Bool.cond_decide, nI_add, pk_mul, q_inbN, q_cl_nI, q_ltN, q_leN, q_eqN, q_ifT, q_ifF, q_cIs, q_cVs, decide_false, decide_true, Bool.not_false, Bool.not_true, cond_true, cond_false, ne_eq, not_false_eq_true, not_true_eq_false, if_true, if_false]
theorem pick_7 (sx : QX) (d p k : Nat) (H : QH) (h : k < 7) : q_CL (q_tb sx) q_kpt (d + 1) (101, ([vr 27 p, vn k], H)) = some (some (vr 5 (p + 1 + 7 * k)), H) := by
  refine (b_X6_pick_27_0 sx d p (nI k) H).trans ?_
  simp (disch := omega) only [Bool.cond_decide, nI_add, pk_mul, q_inbN, q_cl_nI, q_ltN, q_leN, q_eqN, q_ifT, q_ifF, q_cIs, q_cVs, decide_false, decide_true, Bool.not_false, Bool.not_true, cond_true, cond_false, ne_eq, not_false_eq_true, not_true_eq_false, if_true, if_false]
theorem pick_8 (sx : QX) (d p k : Nat) (H : QH) (h : k < 8) : q_CL (q_tb sx) q_kpt (d + 1) (101, ([vr 28 p, vn k], H)) = some (some (vr 5 (p + 1 + 7 * k)), H) := by
  refine (b_X6_pick_28_0 sx d p (nI k) H).trans ?_
  simp (disch := omega) only [Bool.cond_decide, nI_add, pk_mul, q_inbN, q_cl_nI, q_ltN, q_leN, q_eqN, q_ifT, q_ifF, q_cIs, q_cVs, decide_false, decide_true, Bool.not_false, Bool.not_true, cond_true, cond_false, ne_eq, not_false_eq_true, not_true_eq_false, if_true, if_false]
/-- a number out of a script is a place below n, or not -/
theorem q_inb_iff (x : Int32) {n : Nat} (hn : n < 2147483648) : q_inb x n = true ↔ ∃ k, k < n ∧ x = nI k := by
  constructor
  · intro h
    exact vp_in_of (q_inb_in h) hn
  · rintro ⟨k, hk, rfl⟩
    rw [q_inbN (by omega)]
    simpa using hk
theorem q_inb_cases (x : Int32) (n : Nat) (hn : n < 2147483648) : (q_inb x n = false ∧ (x < 0 ∨ nI n ≤ x)) ∨ ∃ k, k < n ∧ x = nI k := by
  rcases pk_ix x hn with h | h | h
  · refine Or.inl ⟨?_, Or.inl h⟩
    unfold q_inb
    simp [h]
  · by_cases h0 : x < 0
    · refine Or.inl ⟨?_, Or.inl h0⟩
      unfold q_inb
      simp [h0]
    · refine Or.inl ⟨?_, Or.inr h⟩
      obtain ⟨j, hj, rfl⟩ := nI_of h0
      rw [nI_leI hn hj] at h
      rw [q_inbN hj]
      simpa using h
  · exact Or.inr h
theorem q_bit : ∀ m, m < 256 → ∀ k, k < 8 → (nI m >>> (nI k &&& 31)) &&& nI 1 = nI (m / 2 ^ k % 2) := by decide +kernel
theorem q_shl1 : ∀ k, k < 9 → nI 1 <<< (nI k &&& 31) = nI (2 ^ k) := by decide +kernel
theorem saying_eq (sx : QX) (d : Nat) (x y : Int32) (H : QH) : q_CL (q_tb sx) q_kpt (d + 1) (92, ([vi x, vi y], H)) = rI (nI 10 * x + y) H := by
  refine (b_X6_saying_0 sx d x y H).trans ?_
  rfl
theorem isUse_eq (sx : QX) (d : Nat) (x : Int32) (H : QH) : q_CL (q_tb sx) q_kpt (d + 1) (90, ([vi x], H)) = rI (z01 (q_inb x 8)) H := by
  refine (b_X6_isUse_0 sx d x H).trans ?_
  rcases q_inb_cases x 8 (by omega) with ⟨h1, h2⟩ | ⟨k, hk, rfl⟩
  · rw [h1]
    simp only [Bool.cond_decide]
    rcases h2 with h2 | h2
    · rw [if_pos (show x < nI 0 from h2)]; rfl
    · by_cases h0 : x < nI 0
      · rw [if_pos h0]; rfl
      · rw [if_neg h0, if_pos h2]; rfl
  · simp (disch := omega) only [Bool.cond_decide, nI_add, pk_mul, q_inbN, q_cl_nI, q_ltN, q_leN, q_eqN, q_ifT, q_ifF, q_cIs, q_cVs, decide_false, decide_true, Bool.not_false, Bool.not_true, cond_true, cond_false, ne_eq, not_false_eq_true, not_true_eq_false, if_true, if_false, z01, cond_true]
theorem isPart_eq (sx : QX) (d : Nat) (x : Int32) (H : QH) : q_CL (q_tb sx) q_kpt (d + 1) (91, ([vi x], H)) = rI (z01 (q_inb x 2)) H := by
  refine (b_X6_isPart_0 sx d x H).trans ?_
  rcases q_inb_cases x 2 (by omega) with ⟨h1, h2⟩ | ⟨k, hk, rfl⟩
  · rw [h1]
    simp only [Bool.cond_decide]
    have h3 : ¬ x = nI 0 := fun q => by subst q; rw [q_inbN (by omega)] at h1; simp at h1
    have h4 : ¬ x = nI 1 := fun q => by subst q; rw [q_inbN (by omega)] at h1; simp at h1
    rw [if_neg h3, if_pos h4]; rfl
  · rcases (show k = 0 ∨ k = 1 by omega) with rfl | rfl <;> rfl
/-! the model's -/
theorem i2l_lt (x y : Int32) : (x.toInt64 < y.toInt64) = (x < y) := by
  rw [Int64.lt_iff_toInt_lt, Int32.lt_iff_toInt_lt, Int32.toInt_toInt64, Int32.toInt_toInt64]
theorem i2l_eq (x y : Int32) : (x.toInt64 = y.toInt64) = (x = y) := by
  rw [← Int64.toInt_inj, ← Int32.toInt_inj, Int32.toInt_toInt64, Int32.toInt_toInt64]
theorem lcmp_lt0 (x y : Int32) : (lg_cmp x.toInt64 y.toInt64 < nI 0) = (x < y) := by
  unfold lg_cmp
  simp only [gt_iff_lt, i2l_lt, i2l_eq]
  by_cases h1 : y < x
  · rw [if_pos h1]
    exact propext ⟨fun h => absurd h (by decide), fun h => absurd h (Int32.lt_asymm h1)⟩
  · rw [if_neg h1]
    by_cases h2 : x = y
    · rw [if_pos h2]
      exact propext ⟨fun h => absurd h (by decide), fun h => absurd (h2 ▸ h) (Int32.lt_irrefl)⟩
    · rw [if_neg h2]
      refine propext ⟨fun _ => ?_, fun _ => by decide⟩
      rw [Int32.lt_iff_toInt_lt] at h1 ⊢
      have h3 : x.toInt ≠ y.toInt := fun q => h2 (Int32.toInt_inj.mp q)
      omega
theorem lcmp_gt0 (x y : Int32) : (nI 0 < lg_cmp x.toInt64 y.toInt64) = (y < x) := by
  unfold lg_cmp
  simp only [gt_iff_lt, i2l_lt, i2l_eq]
  by_cases h1 : y < x
  · rw [if_pos h1]
    exact propext ⟨fun _ => h1, fun _ => by decide⟩
  · rw [if_neg h1]
    by_cases h2 : x = y
    · rw [if_pos h2]
      exact propext ⟨fun h => absurd h (by decide), fun h => absurd h h1⟩
    · rw [if_neg h2]
      exact propext ⟨fun h => absurd h (by decide), fun h => absurd h h1⟩
theorem in_eq (sx : QX) (d : Nat) (x lo hi : Int32) (H : QH) : q_CL (q_tb sx) q_kpt (d + 1) (102, ([.inr (.inl x.toInt64), .inr (.inl lo.toInt64), .inr (.inl hi.toInt64)], H)) = rI (z01 (decide (lo ≤ x) && decide (x ≤ hi))) H := by
  refine (b_X7_in_0 sx d _ _ _ H).trans ?_
  simp only [Bool.cond_decide, lcmp_lt0, lcmp_gt0]
  by_cases h1 : x < lo
  · rw [if_pos h1, decide_eq_false (show ¬ lo ≤ x from Int32.not_le.mpr h1)]; rfl
  · rw [if_neg h1, decide_eq_true (show lo ≤ x from Int32.not_lt.mp h1)]
    by_cases h2 : hi < x
    · rw [if_pos h2, decide_eq_false (show ¬ x ≤ hi from Int32.not_le.mpr h2)]; rfl
    · rw [if_neg h2, decide_eq_true (show x ≤ hi from Int32.not_lt.mp h2)]; rfl
theorem has_eq (sx : QX) (d m k : Nat) (H : QH) (hm : m < 256) (hk : k < 8) : q_CL (q_tb sx) q_kpt (d + 1) (103, ([vn m, vn k], H)) = rI (z01 (decide (m / 2 ^ k % 2 = 1))) H := by
  refine (b_X7_has_0 sx d (nI m) (nI k) H).trans ?_
  rw [q_bit m hm k hk]
  have h2 : m / 2 ^ k % 2 < 2 := Nat.mod_lt _ (by omega)
  simp only [Bool.cond_decide]
  by_cases h : m / 2 ^ k % 2 = 1
  · rw [h]; rfl
  · rw [show m / 2 ^ k % 2 = 0 by omega]; rfl
def z_ones (m : Nat) : Nat := z_fold 6 (fun k n => n + m / 2 ^ k % 2) 0
theorem ones_eq (sx : QX) (d m : Nat) (H : QH) (hm : m < 256) : q_CL (q_tb sx) q_kpt (d + 1) (104, ([vn m], H)) = rI (nI (z_ones m)) H := by
  refine (b_X7_ones_0 sx d (nI m) H).trans ?_
  have hl := z_loop 6 (fun k n => q_EV (q_tb sx) q_kpt (d + 1) 104 (4, ([(0, vn m), (1, vn n), (2, vn k)], ([], H)))) (fun k n => n + m / 2 ^ k % 2) (fun k n hk => by
    refine (b_X7_ones_4 sx d (nI m) (nI n) (nI k) H).trans ?_
    rw [q_bit m hm k (by omega)]
    simp (disch := omega) only [Bool.cond_decide, nI_add, pk_mul, q_inbN, q_cl_nI, q_ltN, q_leN, q_eqN, q_ifT, q_ifF, q_cIs, q_cVs, decide_false, decide_true, Bool.not_false, Bool.not_true, cond_true, cond_false, ne_eq, not_false_eq_true, not_true_eq_false, if_true, if_false]) 0
  refine Eq.trans hl ?_
  refine (b_X7_ones_4 sx d (nI m) _ (nI 6) _).trans ?_
  simp (disch := omega) only [Bool.cond_decide, nI_add, pk_mul, q_inbN, q_cl_nI, q_ltN, q_leN, q_eqN, q_ifT, q_ifF, q_cIs, q_cVs, decide_false, decide_true, Bool.not_false, Bool.not_true, cond_true, cond_false, ne_eq, not_false_eq_true, not_true_eq_false, if_true, if_false]
  rfl
