/-! the class's quarry: asking, nights, harm, copies -/
theorem z_best_in (B : SB) (w : SW) (b : Nat) : z_best B w b = none ∨ ∃ s k, s < sNs B ∧ k < sNw B ∧ z_best B w b = some (s, k) ∧ nI 0 < w (79 + s) := by
  have key := z_fold_inv (fun _ (a : Option (Nat × Nat) × Int32) => a.1 = none ∨ ∃ s k, s < sNs B ∧ k < sNw B ∧ a.1 = some (s, k) ∧ nI 0 < w (79 + s)) (sNs B) (z_bsp B w b) (none, nI 0) (Or.inl rfl) (fun s a hs ha => by
    unfold z_bsp
    by_cases h : nI 0 < w (79 + s)
    · rw [if_pos h]
      refine z_fold_inv (fun _ (a : Option (Nat × Nat) × Int32) => a.1 = none ∨ ∃ s k, s < sNs B ∧ k < sNw B ∧ a.1 = some (s, k) ∧ nI 0 < w (79 + s)) (sNw B) (z_bstep B w b s) a ha (fun k a hk ha => ?_)
      unfold z_bstep
      split
      · exact Or.inr ⟨s, k, hs, hk, rfl, h⟩
      · exact ha
    · rw [if_neg h]; exact ha)
  exact key
theorem z_bword_in (B : SB) (w : SW) (s b : Nat) : z_bword B w s b = none ∨ ∃ k, k < sNw B ∧ z_bword B w s b = some k := by
  refine z_fold_inv (fun _ (a : Option Nat × Int32) => a.1 = none ∨ ∃ k, k < sNw B ∧ a.1 = some k) (sNw B) (z_wstep B w s b) (none, nI 0) (Or.inl rfl) (fun k a hk ha => ?_)
  unfold z_wstep
  split
  · exact Or.inr ⟨k, hk, rfl⟩
  · exact ha
/-- a saying: what it makes of what was heard -/
theorem q_hd_says {B : SB} {w : SW} {N s b k : Nat} (hs : q_sB B) (h : q_hd B w N) (h1 : s < sNs B) (h2 : b < sNb B) : q_hd B (z_says B w s b k) (N + 1) := by
  obtain ⟨⟨g1, g2⟩, ⟨g3, g4⟩, ⟨g5, g6⟩, -⟩ := hs
  intro o j ho hj
  obtain ⟨n, hn, e⟩ := h o j ho hj
  have e1 : z_says B w s b k (19 + 6 * o + j) = z_hear B (upd w (79 + s) (w (79 + s) - nI 1)) b k (19 + 6 * o + j) := by
    unfold z_says z_soften
    split
    · rw [pk_un (by omega)]
    · rw [pk_un (by omega), pk_un (by omega)]
  have e2 : upd w (79 + s) (w (79 + s) - nI 1) (19 + 6 * o + j) = nI n := by rw [pk_un (by omega), e]
  rw [e1]
  unfold z_hear
  split
  · rw [e2, nI_add]; exact ⟨n + 1, by omega, rfl⟩
  · rw [e2]; exact ⟨n, by omega, rfl⟩
theorem q_hd_mono {B : SB} {w : SW} {N M : Nat} (h : q_hd B w N) (hNM : N ≤ M) : q_hd B w M := fun b k hb hk => by
  obtain ⟨n, hn, e⟩ := h b k hb hk
  exact ⟨n, by omega, e⟩
theorem z_code_some (s k : Nat) (hk : k < 6) (hs : s < 4) : z_code (some (s, k)) / nI 10 = nI s ∧ z_code (some (s, k)) - z_code (some (s, k)) / nI 10 * nI 10 = nI k := by
  refine ⟨?_, ?_⟩
  · show nI (10 * s + k) / nI 10 = nI s
    rw [pk_div (by omega) (by omega) (by omega), show (10 * s + k) / 10 = s by omega]
  · show nI (10 * s + k) - nI (10 * s + k) / nI 10 * nI 10 = nI k
    rw [pk_rem (by omega) (by omega) (by omega), show (10 * s + k) % 10 = k by omega]
theorem z_code_ge (s k : Nat) (hk : k < 6) (hs : s < 4) : nI 0 ≤ z_code (some (s, k)) := (nI_leI (by omega) (by omega)).mpr (Nat.zero_le _)
theorem z_code_none : ¬ nI 0 ≤ z_code none := by decide +kernel
theorem q_askAll_loop (sx : QX) (d p b : Nat) (B : SB) (hs : q_sB B) (hp : 13 ≤ p) (h2 : b < sNb B) : ∀ (n : Nat) (H : QH) (N : Nat), q_rB H B → q_hd B (c_get H p) N → N + n < 1000000 → q_EV (q_tb sx) q_kpt (d + 5) 39 (5, ([(0, vr 5 p), (1, vn b), (2, vn n)], ([], H))) = rV (c_put H p (z_asks B b n (c_get H p))) := by
  have hs' := hs
  obtain ⟨⟨g1, g2⟩, ⟨g3, g4⟩, ⟨g5, g6⟩, -⟩ := hs'
  intro n
  induction n with
  | zero =>
    intro H N hB hh hN
    refine (b_X3_askAll_5 sx (d + 4) p (nI b) (nI 0) H).trans ?_
    simp (disch := omega) only [Bool.cond_decide, nI_add, pk_mul, q_inbN, q_cl_nI, q_ltN, q_leN, q_eqN, q_ifT, q_ifF, q_cIs, q_cVs, decide_false, decide_true, Bool.not_false, Bool.not_true, cond_true, cond_false, ne_eq, not_false_eq_true, not_true_eq_false, if_true, if_false]
    show rV H = _
    unfold z_asks
    rw [c_put_get]
  | succ n ih =>
    intro H N hB hh hN
    refine (b_X3_askAll_5 sx (d + 4) p (nI b) (nI (n + 1)) H).trans ?_
    simp (disch := omega) only [Bool.cond_decide, nI_add, pk_mul, q_inbN, q_cl_nI, q_ltN, q_leN, q_eqN, q_ifT, q_ifF, q_cIs, q_cVs, decide_false, decide_true, Bool.not_false, Bool.not_true, cond_true, cond_false, ne_eq, not_false_eq_true, not_true_eq_false, if_true, if_false, at_6, c_r2 H p, q_dearest sx (d + 1) p b N H B hB hs hh (by omega) h2]
    unfold z_asks
    by_cases h : c_get H p (7 + b) = nI 0
    · rw [if_neg (fun q => q h), if_pos h]
      rcases z_best_in B (c_get H p) b with e | ⟨s, k, e1, e2, e3, e4⟩
      · rw [e, if_neg z_code_none]
        show rV H = _
        rw [c_put_get]
      · rw [e3, if_pos (z_code_ge s k (by omega) (by omega)), (z_code_some s k (by omega) (by omega)).2, (z_code_some s k (by omega) (by omega)).1]
        rw [q_speak sx (d + 1) p s b k N H B hB hs hp hh (by omega) e1 h2 e2]
        simp (disch := omega) only [Bool.cond_decide, nI_add, pk_mul, q_inbN, q_cl_nI, q_ltN, q_leN, q_eqN, q_ifT, q_ifF, q_cIs, q_cVs, decide_false, decide_true, Bool.not_false, Bool.not_true, cond_true, cond_false, ne_eq, not_false_eq_true, not_true_eq_false, if_true, if_false]
        rw [show nI (n + 1) + -1 = nI n from pk_m1 n]
        refine (ih _ (N + 1) (q_rB_put hB hp) (by rw [c_get_put]; exact q_hd_says hs hh e1 h2) (by omega)).trans ?_
        rw [c_put_put, c_get_put]
    · rw [if_pos h, if_neg h]
      show rV H = _
      rw [c_put_get]
theorem q_askOne_loop (sx : QX) (d p s b : Nat) (B : SB) (hs : q_sB B) (hp : 13 ≤ p) (h1 : s < sNs B) (h2 : b < sNb B) : ∀ (n : Nat) (H : QH) (N : Nat), q_rB H B → q_hd B (c_get H p) N → N + n < 1000000 → q_EV (q_tb sx) q_kpt (d + 5) 40 (9, ([(0, vr 5 p), (1, vn b), (2, vn s), (3, vn n)], ([], H))) = rV (c_put H p (z_askW B s b n (c_get H p))) := by
  have hs' := hs
  obtain ⟨⟨g1, g2⟩, ⟨g3, g4⟩, ⟨g5, g6⟩, -⟩ := hs'
  intro n
  induction n with
  | zero =>
    intro H N hB hh hN
    refine (b_X3_askOne_9 sx (d + 4) p (nI b) (nI s) (nI 0) H).trans ?_
    simp (disch := omega) only [Bool.cond_decide, nI_add, pk_mul, q_inbN, q_cl_nI, q_ltN, q_leN, q_eqN, q_ifT, q_ifF, q_cIs, q_cVs, decide_false, decide_true, Bool.not_false, Bool.not_true, cond_true, cond_false, ne_eq, not_false_eq_true, not_true_eq_false, if_true, if_false]
    show rV H = _
    unfold z_askW
    rw [c_put_get]
  | succ n ih =>
    intro H N hB hh hN
    refine (b_X3_askOne_9 sx (d + 4) p (nI b) (nI s) (nI (n + 1)) H).trans ?_
    simp (disch := omega) only [Bool.cond_decide, nI_add, pk_mul, q_inbN, q_cl_nI, q_ltN, q_leN, q_eqN, q_ifT, q_ifF, q_cIs, q_cVs, decide_false, decide_true, Bool.not_false, Bool.not_true, cond_true, cond_false, ne_eq, not_false_eq_true, not_true_eq_false, if_true, if_false, at_6, c_r2 H p, q_dearestWord sx (d + 1) p s b N H B hB hs hh (by omega) h1 h2]
    unfold z_askW
    by_cases h : c_get H p (7 + b) = nI 0
    · rw [if_neg (fun q => q h), if_pos h]
      rcases z_bword_in B (c_get H p) s b with e | ⟨k, e2, e3⟩
      · rw [e, if_neg (show ¬ nI 0 ≤ z_codeW none from z_code_none)]
        show rV H = _
        rw [c_put_get]
      · rw [e3, if_pos (show nI 0 ≤ z_codeW (some k) from (nI_leI (by omega) (by omega)).mpr (Nat.zero_le _))]
        show q_cV (q_CL (q_tb sx) q_kpt (d + 4) (29, ([vr 5 p, vn s, vn b, vn k], H))) _ = _
        rw [q_speak sx (d + 1) p s b k N H B hB hs hp hh (by omega) h1 h2 e2]
        simp (disch := omega) only [Bool.cond_decide, nI_add, pk_mul, q_inbN, q_cl_nI, q_ltN, q_leN, q_eqN, q_ifT, q_ifF, q_cIs, q_cVs, decide_false, decide_true, Bool.not_false, Bool.not_true, cond_true, cond_false, ne_eq, not_false_eq_true, not_true_eq_false, if_true, if_false]
        rw [show nI (n + 1) + -1 = nI n from pk_m1 n]
        refine (ih _ (N + 1) (q_rB_put hB hp) (by rw [c_get_put]; exact q_hd_says hs hh h1 h2) (by omega)).trans ?_
        rw [c_put_put, c_get_put]
    · rw [if_pos h, if_neg h]
      show rV H = _
      rw [c_put_get]
theorem c_row {a n lo : Nat} (hc : ∀ i, c_j a i = if i < n then some (lo + i) else none) (H : QH) (p : Nat) (f : Nat → Int32) : (fun a' i => if a' = p + a ∧ i < n then f i else H a' i) = c_put H p (fun j => if lo ≤ j ∧ j < lo + n then f (j - lo) else c_get H p j) := by
  funext a' i
  unfold c_put
  by_cases hp : p ≤ a'
  · rw [if_pos hp]
    cases e : c_j (a' - p) i with
    | some j =>
      obtain ⟨h1, h2⟩ := c_i_j e
      show _ = if lo ≤ j ∧ j < lo + n then f (j - lo) else c_get H p j
      by_cases h : a' = p + a ∧ i < n
      · rw [if_pos h]
        have e2 : c_j (a' - p) i = some (lo + i) := by rw [h.1, Nat.add_sub_cancel_left, hc, if_pos h.2]
        have e3 : j = lo + i := Option.some.inj (e.symm.trans e2)
        rw [if_pos (by omega), e3, Nat.add_sub_cancel_left]
      · rw [if_neg h]
        have hn : ¬ (lo ≤ j ∧ j < lo + n) := fun q => by
          have e2 := hc (j - lo)
          rw [if_pos (by omega), Nat.add_sub_cancel' q.1] at e2
          obtain ⟨h3, h4⟩ := c_i_j e2
          exact h ⟨by omega, by omega⟩
        rw [if_neg hn]
        unfold c_get
        rw [h1, h2, Nat.add_sub_cancel' hp]
    | none =>
      rw [if_neg (fun q => by
        have e2 : c_j (a' - p) i = some (lo + i) := by rw [q.1, Nat.add_sub_cancel_left, hc, if_pos q.2]
        rw [e] at e2
        cases e2)]
  · rw [if_neg hp, if_neg (fun q => by omega)]
theorem c_jr1 (i : Nat) : c_j 1 i = if i < 6 then some (1 + i) else none := rfl
theorem c_jr2 (i : Nat) : c_j 2 i = if i < 6 then some (7 + i) else none := rfl
theorem c_jr3 (i : Nat) : c_j 3 i = if i < 6 then some (13 + i) else none := rfl
theorem c_jr4 (i : Nat) : c_j 4 i = if i < 4 then some (79 + i) else none := rfl
theorem c_jr5 (i : Nat) : c_j 5 i = if i < 36 then some (19 + i) else none := rfl
theorem c_jr6 (i : Nat) : c_j 6 i = if i < 24 then some (55 + i) else none := rfl
def z_row (lo n : Nat) (f : Nat → Int32) (w : SW) : SW := fun j => if lo ≤ j ∧ j < lo + n then f (j - lo) else w j
theorem z_copy_row {a n lo : Nat} (hc : ∀ i, c_j a i = if i < n then some (lo + i) else none) (H : QH) (q p : Nat) : z_copy q (p + a) n H = c_put H p (z_row lo n (H q) (c_get H p)) := c_row hc H p (H q)
theorem z_fill_row {a n lo : Nat} (hc : ∀ i, c_j a i = if i < n then some (lo + i) else none) (H : QH) (p : Nat) (x : Int32) : z_fill (p + a) n x H = c_put H p (z_row lo n (fun _ => x) (c_get H p)) := c_row hc H p (fun _ => x)
/-- all of a quarry but what isn't there -/
def z_ov (a b : SW) : SW := fun j => if j < 83 then a j else b j
theorem q_copyFrom (sx : QX) (d p q : Nat) (H : QH) (hpq : q + 7 ≤ p ∨ p + 7 ≤ q) : q_CL (q_tb sx) q_kpt (d + 2) (20, ([vr 5 p, vr 5 q], H)) = rV (c_put H p (z_ov (c_get H q) (c_get H p))) := by
  refine (b_X3_copyFrom_0 sx (d + 1) p q H).trans ?_
  have out : ∀ (w : SW) (a : Nat), 1 ≤ a → a ≤ 6 → (c_put H p w) (q + a) = H (q + a) := fun w a h1 h2 => c_put_out H p w (by omega)
  rw [c_h0 H p]
  rw [copy_6 sx d (q + 1) (p + 1) _ (by omega), z_copy_row c_jr1, c_put_put, c_get_put, out _ 1 (by omega) (by omega)]
  simp (disch := omega) only [Bool.cond_decide, nI_add, pk_mul, q_inbN, q_cl_nI, q_ltN, q_leN, q_eqN, q_ifT, q_ifF, q_cIs, q_cVs, decide_false, decide_true, Bool.not_false, Bool.not_true, cond_true, cond_false, ne_eq, not_false_eq_true, not_true_eq_false, if_true, if_false]
  rw [copy_6 sx d (q + 2) (p + 2) _ (by omega), z_copy_row c_jr2, c_put_put, c_get_put, out _ 2 (by omega) (by omega)]
  simp (disch := omega) only [Bool.cond_decide, nI_add, pk_mul, q_inbN, q_cl_nI, q_ltN, q_leN, q_eqN, q_ifT, q_ifF, q_cIs, q_cVs, decide_false, decide_true, Bool.not_false, Bool.not_true, cond_true, cond_false, ne_eq, not_false_eq_true, not_true_eq_false, if_true, if_false]
  rw [copy_6 sx d (q + 3) (p + 3) _ (by omega), z_copy_row c_jr3, c_put_put, c_get_put, out _ 3 (by omega) (by omega)]
  simp (disch := omega) only [Bool.cond_decide, nI_add, pk_mul, q_inbN, q_cl_nI, q_ltN, q_leN, q_eqN, q_ifT, q_ifF, q_cIs, q_cVs, decide_false, decide_true, Bool.not_false, Bool.not_true, cond_true, cond_false, ne_eq, not_false_eq_true, not_true_eq_false, if_true, if_false]
  rw [copy_4 sx d (q + 4) (p + 4) _ (by omega), z_copy_row c_jr4, c_put_put, c_get_put, out _ 4 (by omega) (by omega)]
  simp (disch := omega) only [Bool.cond_decide, nI_add, pk_mul, q_inbN, q_cl_nI, q_ltN, q_leN, q_eqN, q_ifT, q_ifF, q_cIs, q_cVs, decide_false, decide_true, Bool.not_false, Bool.not_true, cond_true, cond_false, ne_eq, not_false_eq_true, not_true_eq_false, if_true, if_false]
  rw [copy_36 sx d (q + 5) (p + 5) _ (by omega), z_copy_row c_jr5, c_put_put, c_get_put, out _ 5 (by omega) (by omega)]
  simp (disch := omega) only [Bool.cond_decide, nI_add, pk_mul, q_inbN, q_cl_nI, q_ltN, q_leN, q_eqN, q_ifT, q_ifF, q_cIs, q_cVs, decide_false, decide_true, Bool.not_false, Bool.not_true, cond_true, cond_false, ne_eq, not_false_eq_true, not_true_eq_false, if_true, if_false]
  rw [copy_24 sx d (q + 6) (p + 6) _ (by omega), z_copy_row c_jr6, c_put_put, c_get_put, out _ 6 (by omega) (by omega)]
  simp (disch := omega) only [Bool.cond_decide, nI_add, pk_mul, q_inbN, q_cl_nI, q_ltN, q_leN, q_eqN, q_ifT, q_ifF, q_cIs, q_cVs, decide_false, decide_true, Bool.not_false, Bool.not_true, cond_true, cond_false, ne_eq, not_false_eq_true, not_true_eq_false, if_true, if_false]
  refine congrArg (fun w => rV (c_put H p w)) ?_
  funext j
  unfold z_row z_ov upd
  by_cases h0 : j = 0
  · subst h0; simp [c_get, c_i1, c_i2]
  · have hr : ∀ (a lo n i : Nat), (∀ i, c_j a i = if i < n then some (lo + i) else none) → i < n → H (q + a) i = c_get H q (lo + i) := fun a lo n i hc hi => c_rd (by rw [hc, if_pos hi])
    by_cases h6 : 55 ≤ j ∧ j < 55 + 24
    · rw [if_pos h6, if_pos (by omega), hr 6 55 24 (j - 55) c_jr6 (by omega), Nat.add_sub_cancel' h6.1]
    · rw [if_neg h6]
      by_cases h5 : 19 ≤ j ∧ j < 19 + 36
      · rw [if_pos h5, if_pos (by omega), hr 5 19 36 (j - 19) c_jr5 (by omega), Nat.add_sub_cancel' h5.1]
      · rw [if_neg h5]
        by_cases h4 : 79 ≤ j ∧ j < 79 + 4
        · rw [if_pos h4, if_pos (by omega), hr 4 79 4 (j - 79) c_jr4 (by omega), Nat.add_sub_cancel' h4.1]
        · rw [if_neg h4]
          by_cases h3 : 13 ≤ j ∧ j < 13 + 6
          · rw [if_pos h3, if_pos (by omega), hr 3 13 6 (j - 13) c_jr3 (by omega), Nat.add_sub_cancel' h3.1]
          · rw [if_neg h3]
            by_cases h2 : 7 ≤ j ∧ j < 7 + 6
            · rw [if_pos h2, if_pos (by omega), hr 2 7 6 (j - 7) c_jr2 (by omega), Nat.add_sub_cancel' h2.1]
            · rw [if_neg h2]
              by_cases h1 : 1 ≤ j ∧ j < 1 + 6
              · rw [if_pos h1, if_pos (by omega), hr 1 1 6 (j - 1) c_jr1 (by omega), Nat.add_sub_cancel' h1.1]
              · rw [if_neg h1, if_neg h0, if_neg (by omega)]
theorem c_put_0 (H : QH) (p : Nat) (w : SW) : (c_put H p w) p 1 = w 0 := congrFun (c_get_put H p w) 0
theorem q_night (sx : QX) (d p : Nat) (H : QH) (B : SB) (hB : q_rB H B) (hs : q_sB B) (hp : 13 ≤ p) : q_CL (q_tb sx) q_kpt (d + 3) (37, ([vr 5 p], H)) = rV (c_put H p (z_day 4 (H 9) (z_fold (sNb B) (z_cstep B) (c_get H p)))) := by
  have hs' := hs
  obtain ⟨⟨g1, g2⟩, -⟩ := hs'
  refine (b_X3_night_0 sx (d + 2) p H).trans ?_
  have hl := z_loop (sNb B) (fun b w => q_EV (q_tb sx) q_kpt (d + 3) 37 (2, ([(0, vr 5 p), (1, vn b)], ([], c_put H p w)))) (z_cstep B) (fun b w hb => by
    refine (b_X3_night_2 sx (d + 2) p (nI b) _).trans ?_
    rw [(q_rB_put hB hp).1]
    simp (disch := omega) only [Bool.cond_decide, nI_add, pk_mul, q_inbN, q_cl_nI, q_ltN, q_leN, q_eqN, q_ifT, q_ifF, q_cIs, q_cVs, decide_false, decide_true, Bool.not_false, Bool.not_true, cond_true, cond_false, ne_eq, not_false_eq_true, not_true_eq_false, if_true, if_false, at_6, c_r2 _ p, c_get_put, q_coldFor sx d b (c_put H p w) B (q_rB_put hB hp) hs hb, q_soften sx d p b (z_cold B b) (c_put H p w) B (q_rB_put hB hp) hs hp hb]
    unfold z_cstep
    by_cases h : w (7 + b) = nI 0
    · rw [if_neg (fun q => q h), if_pos h, c_put_put]
    · rw [if_pos h, if_neg h]) (c_get H p)
  rw [c_put_get] at hl
  refine Eq.trans hl ?_
  refine (b_X3_night_2 sx (d + 2) p (nI (sNb B)) _).trans ?_
  rw [(q_rB_put hB hp).1]
  simp (disch := omega) only [Bool.cond_decide, nI_add, pk_mul, q_inbN, q_cl_nI, q_ltN, q_leN, q_eqN, q_ifT, q_ifF, q_cIs, q_cVs, decide_false, decide_true, Bool.not_false, Bool.not_true, cond_true, cond_false, ne_eq, not_false_eq_true, not_true_eq_false, if_true, if_false]
  rw [copy_4 sx _ 9 (p + 4) _ (by omega), z_copy_row c_jr4, c_put_put, c_get_put, c_put_out H p _ (Or.inl (by omega) : 9 < p ∨ p + 7 ≤ 9)]
  simp (disch := omega) only [Bool.cond_decide, nI_add, pk_mul, q_inbN, q_cl_nI, q_ltN, q_leN, q_eqN, q_ifT, q_ifF, q_cIs, q_cVs, decide_false, decide_true, Bool.not_false, Bool.not_true, cond_true, cond_false, ne_eq, not_false_eq_true, not_true_eq_false, if_true, if_false]
  rw [c_h0, c_put_0, c_get_put, c_put_put]
  refine congrArg (fun w => rV (c_put H p w)) ?_
  funext j
  by_cases h0 : j = 0
  · subst h0; simp [z_row, z_day, upd]
  · by_cases h4 : 79 ≤ j ∧ j < 79 + 4
    · simp [z_row, z_day, upd, h0, h4]
    · simp only [z_row, z_day, upd, if_neg h0, if_neg h4]
