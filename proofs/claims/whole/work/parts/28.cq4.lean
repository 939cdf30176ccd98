/-! harm; a new quarry; what is alike for like quarries -/
theorem z_hterm_far {B : SB} {w : SW} {b k o : Nat} (h : o + 2 < b ∨ b + 2 < o) : z_hterm B w b k o = nI 0 := by
  unfold z_hterm
  rw [if_neg]
  unfold z_hears
  have h1 : ¬ (o = b) := by omega
  have h2 : ¬ (o + 1 = b ∨ b + 1 = o) := by omega
  have h3 : ¬ (o + 2 = b ∨ b + 2 = o) := by omega
  simp [h1, h2, h3]
theorem i32_add0 (x : Int32) : x + nI 0 = x := by rw [nI_0, Int32.add_zero]
theorem z_sum_window (t : Nat → Int32) (nb b : Nat) (hb : b < nb) (ht : ∀ o, o + 2 < b ∨ b + 2 < o → t o = nI 0) : z_fold 5 (fun i a => if b + i < 2 then a else if b + i - 2 < nb then a + t (b + i - 2) else a) (nI 0) = z_fold nb (fun o a => a + t o) (nI 0) := by
  have h0 : ∀ i, i + 2 ≤ b + 0 ∨ i = 0 → z_fold i (fun o a => a + t o) (nI 0) = nI 0 := by
    intro i
    induction i with
    | zero => intro _; rfl
    | succ i ih =>
      intro h
      show z_fold i (fun o a => a + t o) (nI 0) + t i = nI 0
      rw [ih (by omega), ht i (by omega), i32_add0]
  have key := z_fold_inv (fun i a => a = z_fold (min (b + i - 2) nb) (fun o a => a + t o) (nI 0)) 5 (fun i a => if b + i < 2 then a else if b + i - 2 < nb then a + t (b + i - 2) else a) (nI 0) (by
    rw [h0 _ (by omega)]) (fun i a hi ha => by
    by_cases h1 : b + i < 2
    · rw [if_pos h1, ha, show min (b + i - 2) nb = min (b + (i + 1) - 2) nb by omega]
    · rw [if_neg h1]
      by_cases h2 : b + i - 2 < nb
      · rw [if_pos h2, ha, show min (b + (i + 1) - 2) nb = min (b + i - 2) nb + 1 by omega]
        show _ = z_fold (min (b + i - 2) nb) _ (nI 0) + t (min (b + i - 2) nb)
        rw [show min (b + i - 2) nb = b + i - 2 by omega]
      · rw [if_neg h2, ha, show min (b + (i + 1) - 2) nb = min (b + i - 2) nb by omega])
  rw [key]
  have h9 : ∀ m, z_fold (min (b + 5 - 2) nb + m) (fun o a => a + t o) (nI 0) = z_fold (min (b + 5 - 2) nb) (fun o a => a + t o) (nI 0) ∨ nb < min (b + 5 - 2) nb + m := by
    intro m
    induction m with
    | zero => exact Or.inl rfl
    | succ m ih =>
      rcases ih with ih | ih
      · by_cases hm : nb < min (b + 5 - 2) nb + (m + 1)
        · exact Or.inr hm
        · refine Or.inl ?_
          show z_fold (min (b + 5 - 2) nb + m) (fun o a => a + t o) (nI 0) + t (min (b + 5 - 2) nb + m) = _
          rw [ih, ht _ (by omega), i32_add0]
      · exact Or.inr (by omega)
  rcases h9 (nb - min (b + 5 - 2) nb) with h | h
  · rw [← h, Nat.add_sub_cancel' (Nat.min_le_right _ _)]
  · omega
theorem q_harmOf (sx : QX) (d p b k N : Nat) (H : QH) (B : SB) (hB : q_rB H B) (hs : q_sB B) (hh : q_hd B (c_get H p) N) (hN : N < 1000000) (h2 : b < sNb B) (h3 : k < sNw B) : q_CL (q_tb sx) q_kpt (d + 3) (43, ([vr 5 p, vn b, vn k], H)) = rI (z_harmOf B (c_get H p) b k) H := by
  have hs' := hs
  have hB' := hB
  obtain ⟨⟨g1, g2⟩, ⟨g3, g4⟩, -⟩ := hs'
  obtain ⟨-, -, -, -, -, -, -, -, -, hpl, -⟩ := hB'
  refine (b_X3_harmOf_0 sx (d + 2) p (nI b) (nI k) H).trans ?_
  have hl := z_loop 5 (fun i a => q_EV (q_tb sx) q_kpt (d + 3) 43 (7, ([(0, vr 5 p), (1, vn b), (2, vn k), (3, vi a), (4, vi (nI b - nI 2 + nI i))], ([], H)))) (fun i a => if b + i < 2 then a else if b + i - 2 < sNb B then a + z_hterm B (c_get H p) b k (b + i - 2) else a) (fun i a hi => by
    refine (b_X3_harmOf_7 sx (d + 2) p (nI b) (nI k) _ _ H).trans ?_
    rw [nI_add]
    by_cases hc : b + i < 2
    · obtain ⟨n1, n2, n3⟩ := nI_ot_n b i hc
      rw [q_hT_neg sx d p (nI b) _ _ n1, if_pos hc]
      rw [decide_eq_false n3, decide_eq_false n2, nI_ot_s]
      rfl
    · rw [if_neg hc, nI_ot b i (by omega), ← nI_ot_s, nI_ot b i (by omega)]
      by_cases ho : b + i - 2 = b
      · rw [ho, if_pos h2]
        simp (disch := omega) only [Bool.cond_decide, nI_add, pk_mul, q_inbN, q_cl_nI, q_ltN, q_leN, q_eqN, q_ifT, q_ifF, q_cIs, q_cVs, decide_false, decide_true, Bool.not_false, Bool.not_true, cond_true, cond_false, ne_eq, not_false_eq_true, not_true_eq_false, if_true, if_false]
        unfold z_hterm
        simp [i32_add0]
      · by_cases hn : b + i - 2 < sNb B
        · rw [q_hT sx d p b (b + i - 2) _ B hB hs h2 hn ho (by omega) (by omega), if_pos hn]
          obtain ⟨t, ht, et⟩ := z_byKind_b hs hn h3
          obtain ⟨u, hu, eu⟩ := hh (b + i - 2) k hn h3
          simp (disch := omega) only [Bool.cond_decide, nI_add, pk_mul, q_inbN, q_cl_nI, q_ltN, q_leN, q_eqN, q_ifT, q_ifF, q_cIs, q_cVs, decide_false, decide_true, Bool.not_false, Bool.not_true, cond_true, cond_false, ne_eq, not_false_eq_true, not_true_eq_false, if_true, if_false, wordPlace_eq, at_36, q_timesHeard, hpl (b + i - 2) k hn h3]
          unfold z_hterm
          rw [et, eu, z_max_n (by omega) (by omega), z_less_n (by omega) (by omega)]
          cases hz : z_hears B (c_get H p) b (b + i - 2) with
          | true => simp [z01, ho, nI_eq]
          | false => simp [z01, i32_add0]
        · rw [q_hT_big sx d p (b + i - 2) _ _ B hB hs (by omega) (by omega), if_neg hn]
          simp (disch := omega) only [Bool.cond_decide, nI_add, pk_mul, q_inbN, q_cl_nI, q_ltN, q_leN, q_eqN, q_ifT, q_ifF, q_cIs, q_cVs, decide_false, decide_true, Bool.not_false, Bool.not_true, cond_true, cond_false, ne_eq, not_false_eq_true, not_true_eq_false, if_true, if_false]) (nI 0)
  rw [show nI b - nI 2 = nI b - nI 2 + nI 0 from (by rw [i32_add0])]
  refine Eq.trans hl ?_
  rw [z_sum_window (z_hterm B (c_get H p) b k) (sNb B) b h2 (fun o h => z_hterm_far h)]
  refine (b_X3_harmOf_7 sx (d + 2) p (nI b) (nI k) _ _ H).trans ?_
  rw [nI_ot b 5 (by omega)]
  simp (disch := omega) only [Bool.cond_decide, nI_add, pk_mul, q_inbN, q_cl_nI, q_ltN, q_leN, q_eqN, q_ifT, q_ifF, q_cIs, q_cVs, decide_false, decide_true, Bool.not_false, Bool.not_true, cond_true, cond_false, ne_eq, not_false_eq_true, not_true_eq_false, if_true, if_false]
  rfl
theorem z_code_eq_none {o : Option (Nat × Nat)} (ho : ∀ s k, o = some (s, k) → s < 4 ∧ k < 6) : (z_code o = -4) = (o = none) := by
  refine propext ⟨fun h => ?_, fun h => by rw [h]; rfl⟩
  cases o with
  | none => rfl
  | some q =>
    obtain ⟨s, k⟩ := q
    obtain ⟨h1, h2⟩ := ho s k rfl
    have h3 := z_code_ge s k h2 h1
    rw [h] at h3
    exact absurd h3 (by decide)
theorem q_mildest (sx : QX) (d p b N : Nat) (H : QH) (B : SB) (hB : q_rB H B) (hs : q_sB B) (hh : q_hd B (c_get H p) N) (hN : N < 1000000) (h2 : b < sNb B) : q_CL (q_tb sx) q_kpt (d + 4) (42, ([vr 5 p, vn b], H)) = rI (z_code (z_harm B (c_get H p) b)) H := by
  have hs' := hs
  have hB' := hB
  obtain ⟨-, ⟨g3, g4⟩, ⟨g5, g6⟩, -⟩ := hs'
  obtain ⟨-, hnw, hns, -⟩ := hB'
  refine (b_X3_mildest_0 sx (d + 3) p (nI b) H).trans ?_
  obtain ⟨hl, -⟩ := z_loopI (fun _ (a : Option (Nat × Nat) × (Int32 × Int32)) => ∀ s k, a.1 = some (s, k) → s < 4 ∧ k < 6) (sNs B) (fun s a => q_EV (q_tb sx) q_kpt (d + 4) 42 (11, ([(0, vr 5 p), (1, vn b), (2, vi (z_code a.1)), (3, vi a.2.1), (4, vi a.2.2), (5, vn s)], ([], H)))) (z_hmsp B (c_get H p) b) (none, (nI 0, nI 0)) (fun s k h => by cases h) (fun s a hsn ha => by
    unfold z_hmsp
    split
    · refine z_fold_inv (fun _ (a : Option (Nat × Nat) × (Int32 × Int32)) => ∀ s k, a.1 = some (s, k) → s < 4 ∧ k < 6) (sNw B) _ a ha (fun k a hk ha => ?_)
      unfold z_hmstep
      repeat' split
      · intro s' k' h; cases h; omega
      · exact ha
      · exact ha
    · exact ha) (fun s a hsn ha => by
    refine (b_X3_mildest_11 sx (d + 3) p (nI b) _ _ _ (nI s) H).trans ?_
    rw [hns]
    simp (disch := omega) only [Bool.cond_decide, nI_add, pk_mul, q_inbN, q_cl_nI, q_ltN, q_leN, q_eqN, q_ifT, q_ifF, q_cIs, q_cVs, decide_false, decide_true, Bool.not_false, Bool.not_true, cond_true, cond_false, ne_eq, not_false_eq_true, not_true_eq_false, if_true, if_false, at_4, c_r4 H p]
    unfold z_hmsp
    by_cases h : nI 0 < c_get H p (79 + s)
    · rw [if_pos h, if_pos h]
      obtain ⟨hl2, -⟩ := z_loopI (fun _ (a : Option (Nat × Nat) × (Int32 × Int32)) => ∀ s k, a.1 = some (s, k) → s < 4 ∧ k < 6) (sNw B) (fun k a => q_EV (q_tb sx) q_kpt (d + 4) 42 (41, ([(0, vr 5 p), (1, vn b), (2, vi (z_code a.1)), (3, vi a.2.1), (4, vi a.2.2), (5, vn s), (6, vn k)], ([], H)))) (z_hmstep B (c_get H p) b s) a ha (fun k a hk ha => by
        unfold z_hmstep
        repeat' split
        · intro s' k' h; cases h; omega
        · exact ha
        · exact ha) (fun k a hk ha => by
        refine (b_X3_mildest_41 sx (d + 3) p (nI b) _ _ _ (nI s) (nI k) H).trans ?_
        rw [hnw, q_worthOf sx (d + 1) p s b k N H B hB hs hh hN hsn h2 hk]
        simp (disch := omega) only [Bool.cond_decide, nI_add, pk_mul, q_inbN, q_cl_nI, q_ltN, q_leN, q_eqN, q_ifT, q_ifF, q_cIs, q_cVs, decide_false, decide_true, Bool.not_false, Bool.not_true, cond_true, cond_false, ne_eq, not_false_eq_true, not_true_eq_false, if_true, if_false, saying_eq, q_harmOf sx d p b k N H B hB hs hh hN h2 hk, z_code_eq_none ha]
        unfold z_hmstep
        by_cases h1 : nI 0 < z_worth B (c_get H p) s b k
        · rw [if_pos h1, if_pos h1]
          by_cases h3 : a.1 = none
          · rw [if_pos h3, if_pos (Or.inl (Or.inl h3))]; rfl
          · rw [if_neg h3]
            by_cases h4 : z_harmOf B (c_get H p) b k < a.2.1
            · rw [if_pos h4, if_pos (Or.inl (Or.inr h4))]; rfl
            · rw [if_neg h4]
              by_cases h5 : z_harmOf B (c_get H p) b k = a.2.1
              · rw [if_neg (fun q => q h5)]
                by_cases h6 : a.2.2 < z_worth B (c_get H p) s b k
                · rw [if_neg (Int32.not_le.mpr h6), if_pos (Or.inr ⟨h5, h6⟩)]; rfl
                · rw [if_pos (Int32.not_lt.mp h6), if_neg (by rintro ((q | q) | ⟨-, q⟩); exact h3 q; exact h4 q; exact h6 q)]
              · rw [if_pos h5, if_neg (by rintro ((q | q) | ⟨q, -⟩); exact h3 q; exact h4 q; exact h5 q)]
        · rw [if_neg h1, if_neg h1])
      refine Eq.trans hl2 ?_
      refine (b_X3_mildest_41 sx (d + 3) p (nI b) _ _ _ (nI s) (nI (sNw B)) H).trans ?_
      rw [hnw]
      simp (disch := omega) only [Bool.cond_decide, nI_add, pk_mul, q_inbN, q_cl_nI, q_ltN, q_leN, q_eqN, q_ifT, q_ifF, q_cIs, q_cVs, decide_false, decide_true, Bool.not_false, Bool.not_true, cond_true, cond_false, ne_eq, not_false_eq_true, not_true_eq_false, if_true, if_false]
    · rw [if_neg h, if_neg h])
  refine Eq.trans hl ?_
  refine (b_X3_mildest_11 sx (d + 3) p (nI b) _ _ _ (nI (sNs B)) H).trans ?_
  rw [hns]
  simp (disch := omega) only [Bool.cond_decide, nI_add, pk_mul, q_inbN, q_cl_nI, q_ltN, q_leN, q_eqN, q_ifT, q_ifF, q_cIs, q_cVs, decide_false, decide_true, Bool.not_false, Bool.not_true, cond_true, cond_false, ne_eq, not_false_eq_true, not_true_eq_false, if_true, if_false]
  rfl
/-- a new quarry: hours and promises as told -/
def z_new (dl fv : Nat → Int32) (w : SW) : SW := fun j => if j < 13 then nI 0 else if j < 19 then -4 else if j < 55 then nI 0 else if j < 79 then fv (j - 55) else if j < 83 then dl (j - 79) else w j
theorem q_begin (sx : QX) (d p : Nat) (H : QH) (hp : 13 ≤ p) : q_CL (q_tb sx) q_kpt (d + 2) (19, ([vr 5 p], H)) = rV (c_put H p (z_new (H 9) (H 10) (c_get H p))) := by
  refine (b_X3_begin_0 sx (d + 1) p H).trans ?_
  rw [c_h0 H p]
  rw [fill_6 sx d (p + 1), z_fill_row c_jr1, c_put_put, c_get_put]
  simp (disch := omega) only [Bool.cond_decide, nI_add, pk_mul, q_inbN, q_cl_nI, q_ltN, q_leN, q_eqN, q_ifT, q_ifF, q_cIs, q_cVs, decide_false, decide_true, Bool.not_false, Bool.not_true, cond_true, cond_false, ne_eq, not_false_eq_true, not_true_eq_false, if_true, if_false]
  rw [fill_6 sx d (p + 2), z_fill_row c_jr2, c_put_put, c_get_put]
  simp (disch := omega) only [Bool.cond_decide, nI_add, pk_mul, q_inbN, q_cl_nI, q_ltN, q_leN, q_eqN, q_ifT, q_ifF, q_cIs, q_cVs, decide_false, decide_true, Bool.not_false, Bool.not_true, cond_true, cond_false, ne_eq, not_false_eq_true, not_true_eq_false, if_true, if_false]
  rw [fill_6 sx d (p + 3), z_fill_row c_jr3, c_put_put, c_get_put]
  simp (disch := omega) only [Bool.cond_decide, nI_add, pk_mul, q_inbN, q_cl_nI, q_ltN, q_leN, q_eqN, q_ifT, q_ifF, q_cIs, q_cVs, decide_false, decide_true, Bool.not_false, Bool.not_true, cond_true, cond_false, ne_eq, not_false_eq_true, not_true_eq_false, if_true, if_false]
  rw [copy_4 sx d 9 (p + 4) _ (by omega), z_copy_row c_jr4, c_put_put, c_get_put, c_put_out H p _ (Or.inl (by omega) : 9 < p ∨ p + 7 ≤ 9)]
  simp (disch := omega) only [Bool.cond_decide, nI_add, pk_mul, q_inbN, q_cl_nI, q_ltN, q_leN, q_eqN, q_ifT, q_ifF, q_cIs, q_cVs, decide_false, decide_true, Bool.not_false, Bool.not_true, cond_true, cond_false, ne_eq, not_false_eq_true, not_true_eq_false, if_true, if_false]
  rw [fill_36 sx d (p + 5), z_fill_row c_jr5, c_put_put, c_get_put]
  simp (disch := omega) only [Bool.cond_decide, nI_add, pk_mul, q_inbN, q_cl_nI, q_ltN, q_leN, q_eqN, q_ifT, q_ifF, q_cIs, q_cVs, decide_false, decide_true, Bool.not_false, Bool.not_true, cond_true, cond_false, ne_eq, not_false_eq_true, not_true_eq_false, if_true, if_false]
  rw [copy_24 sx d 10 (p + 6) _ (by omega), z_copy_row c_jr6, c_put_put, c_get_put, c_put_out H p _ (Or.inl (by omega) : 10 < p ∨ p + 7 ≤ 10)]
  simp (disch := omega) only [Bool.cond_decide, nI_add, pk_mul, q_inbN, q_cl_nI, q_ltN, q_leN, q_eqN, q_ifT, q_ifF, q_cIs, q_cVs, decide_false, decide_true, Bool.not_false, Bool.not_true, cond_true, cond_false, ne_eq, not_false_eq_true, not_true_eq_false, if_true, if_false]
  refine congrArg (fun w => rV (c_put H p w)) ?_
  funext j
  simp only [z_row, z_new, upd]
  by_cases a1 : j < 13
  · rw [if_pos a1, if_neg (by omega), if_neg (by omega), if_neg (by omega), if_neg (by omega)]
    by_cases a2 : 7 ≤ j
    · rw [if_pos (by omega)]
    · rw [if_neg (by omega)]
      by_cases a3 : 1 ≤ j
      · rw [if_pos (by omega)]
      · rw [if_neg (by omega), if_pos (by omega)]
  · rw [if_neg a1]
    by_cases a2 : j < 19
    · rw [if_pos a2, if_neg (by omega), if_neg (by omega), if_neg (by omega), if_pos (by omega)]
    · rw [if_neg a2]
      by_cases a3 : j < 55
      · rw [if_pos a3, if_neg (by omega), if_pos (by omega)]
      · rw [if_neg a3]
        by_cases a4 : j < 79
        · rw [if_pos a4, if_pos (by omega)]
        · rw [if_neg a4, if_neg (by omega), if_neg (by omega)]
          by_cases a5 : j < 83
          · rw [if_pos a5, if_pos (by omega)]
          · rw [if_neg a5, if_neg (by omega), if_neg (by omega), if_neg (by omega), if_neg (by omega), if_neg (by omega)]
