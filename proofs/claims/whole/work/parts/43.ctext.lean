/-! THE CLASS READS THE TEXT -/
def c_bed (H : QH) (q : Nat) (R : SB) : Prop := H q 0 = nI (sNb R) ∧ H q 1 = nI (sNw R) ∧ H q 2 = nI (sNs R) ∧ H q 3 = sC R ∧ (∀ b, b < sNb R → H (q + 1) b = sK R b) ∧ (∀ b, b < sNb R → H (q + 2) b = sN R b) ∧ (∀ k, k < sNw R → H (q + 3) k = sT R k) ∧ (∀ s, s < sNs R → H (q + 4) s = sS R s) ∧ (∀ s, s < sNs R → H (q + 5) s = sD R s) ∧ ∀ j, j < 24 → H (q + 6) j = R.2 6 j
theorem c_bed_of {H H' : QH} {q : Nat} {R : SB} (h : c_bed H q R) (he : ∀ a, q ≤ a → a < q + 7 → H' a = H a) : c_bed H' q R := by
  unfold c_bed at h ⊢
  rw [he q (by omega) (by omega), he (q + 1) (by omega) (by omega), he (q + 2) (by omega) (by omega), he (q + 3) (by omega) (by omega), he (q + 4) (by omega) (by omega), he (q + 5) (by omega) (by omega), he (q + 6) (by omega) (by omega)]
  exact h
def c_tx (H : QH) (L : Nat) (T : Nat → Int32) (p : Nat) : Prop := H 1 2 = nI L ∧ (∀ j, j < L → H 2 j = T j) ∧ H 1 3 = nI p
theorem q_letter (sx : QX) (d L i : Nat) (T : Nat → Int32) (H : QH) (hL : L ≤ 200) (h1 : H 1 2 = nI L) (h2 : ∀ j, j < L → H 2 j = T j) (hi : i < 1000000) : q_CL (q_tb sx) q_kpt (d + 1) (55, ([vr 7 1, vn i], H)) = rI (z_l L T i) H := by
  refine (b_X5_letterAt_0 sx d (nI i) H).trans ?_
  rw [h1]
  unfold z_l
  by_cases c : i < L
  · rw [if_pos c, ← h2 i c]
    simp (disch := omega) only [Bool.cond_decide, nI_add, pk_mul, q_inbN, q_cl_nI, q_ltN, q_leN, q_eqN, q_ifT, q_ifF, q_cIs, q_cVs, decide_false, decide_true, Bool.not_false, Bool.not_true, cond_true, cond_false, ne_eq, not_false_eq_true, not_true_eq_false, if_true, if_false]
  · rw [if_neg c]
    simp (disch := omega) only [Bool.cond_decide, nI_add, pk_mul, q_inbN, q_cl_nI, q_ltN, q_leN, q_eqN, q_ifT, q_ifF, q_cIs, q_cVs, decide_false, decide_true, Bool.not_false, Bool.not_true, cond_true, cond_false, ne_eq, not_false_eq_true, not_true_eq_false, if_true, if_false]
theorem q_hs_hs (H : QH) (p j : Nat) (x y : Int32) : q_hs (q_hs H p j x) p j y = q_hs H p j y := by
  funext a b
  rw [q_hs_rd, q_hs_rd, q_hs_rd]
  by_cases c : a = p ∧ b = j
  · rw [if_pos c, if_pos c]
  · rw [if_neg c, if_neg c, if_neg c]
theorem c_tx_hs {H : QH} {L p q : Nat} {T : Nat → Int32} (h : c_tx H L T p) : c_tx (q_hs H 1 3 (nI q)) L T q := by
  obtain ⟨h1, h2, h3⟩ := h
  exact ⟨by rw [q_hs_ix (by omega)]; exact h1, fun j hj => by rw [q_hs_ne (by omega)]; exact h2 j hj, q_hs_at⟩
theorem q_readNumber (sx : QX) (d L p : Nat) (T : Nat → Int32) (H : QH) (hL : L ≤ 200) (h : c_tx H L T p) (hp : p < 100000) : (z_num (z_l L T) p = none → q_CL (q_tb sx) q_kpt (d + 2) (54, ([vr 7 1], H)) = rI (-1) H) ∧ ∀ v q, z_num (z_l L T) p = some (v, q) → q_CL (q_tb sx) q_kpt (d + 2) (54, ([vr 7 1], H)) = rI (nI v) (q_hs H 1 3 (nI q)) := by
  obtain ⟨h1, h2, h3⟩ := h
  have hb := b_X5_readNumber_0 sx (d + 1) H
  rw [h3, q_letter sx d L p T H hL h1 h2 (by omega), q_cIs, h3, nI_add, q_hs_at, q_letter sx d L (p + 1) T _ hL (by rw [q_hs_ix (by omega)]; exact h1) (fun j hj => by rw [q_hs_ne (by omega)]; exact h2 j hj) (by omega), q_cIs] at hb
  unfold z_num
  rcases z_d_cases (z_l L T p) with ⟨e, -, e2⟩ | ⟨f, hf, ef, e⟩
  · rw [e]
    refine ⟨fun _ => hb.trans ?_, fun v q hv => by cases hv⟩
    simp only [Bool.cond_decide]
    by_cases c : z_l L T p - nI 48 < nI 0
    · rw [if_pos c]
    · rw [if_neg c, if_neg (fun q => e2 ⟨c, q⟩)]
  · rw [e]
    have ef2 : z_l L T p - nI 48 = nI f := by rw [ef, pk_sub (by omega), Nat.add_sub_cancel_left]
    rw [ef2] at hb
    rcases z_d_cases (z_l L T (p + 1)) with ⟨e3, -, e4⟩ | ⟨g, hg, eg, e3⟩
    · rw [e3]
      refine ⟨fun hv => (by cases hv), fun v q hv => hb.trans ?_⟩
      cases hv
      simp (disch := omega) only [Bool.cond_decide, nI_add, pk_mul, q_inbN, q_cl_nI, q_ltN, q_leN, q_eqN, q_ifT, q_ifF, q_cIs, q_cVs, decide_false, decide_true, Bool.not_false, Bool.not_true, cond_true, cond_false, ne_eq, not_false_eq_true, not_true_eq_false, if_true, if_false]
      by_cases c : z_l L T (p + 1) - nI 48 < nI 0
      · rw [if_pos c]
      · rw [if_neg c, if_neg (fun q => e4 ⟨c, q⟩)]
    · rw [e3]
      have eg2 : z_l L T (p + 1) - nI 48 = nI g := by rw [eg, pk_sub (by omega), Nat.add_sub_cancel_left]
      rw [eg2] at hb
      refine ⟨fun hv => (by cases hv), fun v q hv => hb.trans ?_⟩
      cases hv
      simp (disch := omega) only [Bool.cond_decide, nI_add, pk_mul, q_inbN, q_cl_nI, q_ltN, q_leN, q_eqN, q_ifT, q_ifF, q_cIs, q_cVs, decide_false, decide_true, Bool.not_false, Bool.not_true, cond_true, cond_false, ne_eq, not_false_eq_true, not_true_eq_false, if_true, if_false, q_hs_at, q_hs_hs]
theorem z_nums_len {l : Nat → Int32} : ∀ (n p : Nat) (v : List Nat × Nat), z_nums l n p = some v → v.1.length ≤ n ∧ v.2 ≤ p + 3 * n ∧ p < v.2 ∧ ∀ (i x : Nat), v.1[i]? = some x → x < 100 := by
  intro n
  induction n with
  | zero => intro p v h; cases h
  | succ n ih =>
    intro p v h
    unfold z_nums at h
    cases e : z_num l p with
    | none => rw [e] at h; cases h
    | some w =>
      obtain ⟨a, q⟩ := w
      have hi := z_num_in e
      rw [e] at h
      have h' : (if l q = nI 59 then some ([a], q + 1) else if l q = nI 44 then (match z_nums l n (q + 1) with
        | none => none
        | some (t, r) => some (a :: t, r)) else none) = some v := h
      by_cases c1 : l q = nI 59
      · rw [if_pos c1] at h'
        cases h'
        refine ⟨by show 1 ≤ n + 1; omega, by show q + 1 ≤ _; omega, by show p < q + 1; omega, fun i x hx => ?_⟩
        cases i with
        | zero =>
          have e5 : a = x := by simpa using hx
          omega
        | succ i => simp at hx
      · rw [if_neg c1] at h'
        by_cases c2 : l q = nI 44
        · rw [if_pos c2] at h'
          cases e2 : z_nums l n (q + 1) with
          | none => rw [e2] at h'; cases h'
          | some w2 =>
            obtain ⟨t, r⟩ := w2
            rw [e2] at h'
            cases h'
            obtain ⟨q1, q2, q3, q4⟩ := ih (q + 1) (t, r) e2
            refine ⟨by show t.length + 1 ≤ n + 1; have q1' : t.length ≤ n := q1; omega, by show r ≤ _; have q2' : r ≤ q + 1 + 3 * n := q2; omega, by show p < r; have q3' : q + 1 < r := q3; omega, fun i x hx => ?_⟩
            cases i with
            | zero =>
              have e5 : a = x := by simpa using hx
              omega
            | succ i => exact q4 i x hx
        · rw [if_neg c2] at h'; cases h'
theorem q_nums (sx : QX) (d L : Nat) (T : Nat → Int32) (hL : L ≤ 200) : ∀ (n j p : Nat) (H : QH), j + n = 3 → c_tx H L T p → p + 3 * n < 90000 → ∃ H', q_EV (q_tb sx) q_kpt (d + 3) 53 (2, ([(0, vr 7 1), (1, vn j)], ([], H))) = rI (match z_nums (z_l L T) n p with
    | none => -1
    | some v => nI (j + v.1.length)) H' ∧ (∀ a, a ≠ 1 → a ≠ 3 → H' a = H a) ∧ (∀ i, i ≠ 3 → H' 1 i = H 1 i) ∧ (∀ i, i < j → H' 3 i = H 3 i) ∧ ∀ v, z_nums (z_l L T) n p = some v → H' 1 3 = nI v.2 ∧ ∀ (i x : Nat), v.1[i]? = some x → H' 3 (j + i) = nI x := by
  intro n
  induction n with
  | zero =>
    intro j p H hj h hp
    refine ⟨H, (b_X5_readNumbers_2 sx (d + 2) (nI j) H).trans ?_, fun _ _ _ => rfl, fun _ _ => rfl, fun _ _ => rfl, fun v hv => by cases hv⟩
    simp (disch := omega) only [Bool.cond_decide, nI_add, pk_mul, q_inbN, q_cl_nI, q_ltN, q_leN, q_eqN, q_ifT, q_ifF, q_cIs, q_cVs, decide_false, decide_true, Bool.not_false, Bool.not_true, cond_true, cond_false, ne_eq, not_false_eq_true, not_true_eq_false, if_true, if_false]
    rfl
  | succ n ih =>
    intro j p H hj h hp
    have hb := b_X5_readNumbers_2 sx (d + 2) (nI j) H
    rw [decide_eq_false (show ¬ nI 3 ≤ nI j by rw [nI_leI (by omega) (by omega)]; omega), cond_false] at hb
    obtain ⟨r1, r2⟩ := q_readNumber sx d L p T H hL h (by omega)
    show ∃ H', q_EV (q_tb sx) q_kpt (d + 3) 53 (2, ([(0, vr 7 1), (1, vn j)], ([], H))) = rI (match (match z_num (z_l L T) p with
      | none => none
      | some (a, q) => if z_l L T q = nI 59 then some ([a], q + 1) else if z_l L T q = nI 44 then (match z_nums (z_l L T) n (q + 1) with
        | none => none
        | some (t, r) => some (a :: t, r)) else none) with
      | none => -1
      | some v => nI (j + v.1.length)) H' ∧ (∀ a, a ≠ 1 → a ≠ 3 → H' a = H a) ∧ (∀ i, i ≠ 3 → H' 1 i = H 1 i) ∧ (∀ i, i < j → H' 3 i = H 3 i) ∧ ∀ v, (match z_num (z_l L T) p with
      | none => none
      | some (a, q) => if z_l L T q = nI 59 then some ([a], q + 1) else if z_l L T q = nI 44 then (match z_nums (z_l L T) n (q + 1) with
        | none => none
        | some (t, r) => some (a :: t, r)) else none) = some v → H' 1 3 = nI v.2 ∧ ∀ (i x : Nat), v.1[i]? = some x → H' 3 (j + i) = nI x
    cases e : z_num (z_l L T) p with
    | none =>
      rw [r1 e] at hb
      exact ⟨H, hb.trans rfl, fun _ _ _ => rfl, fun _ _ => rfl, fun _ _ => rfl, fun v hv => by cases hv⟩
    | some w =>
      obtain ⟨a, q⟩ := w
      have hin := z_num_in e
      rw [r2 a q e, q_cIs, put_3 sx _ 3 j (nI a) _ (by omega), q_cVs] at hb
      have hm1 : nI a ≠ -1 := fun k => by
        have h1 : ¬ nI a < 0 := nI_pos (by omega)
        rw [k] at h1
        exact h1 (by decide)
      obtain ⟨h1, h2, h3⟩ := h
      have t1 : (q_hs (q_hs H 1 3 (nI q)) 3 j (nI a)) 1 3 = nI q := by rw [q_hs_ne (by omega), q_hs_at]
      rw [decide_eq_true hm1, cond_true, t1, q_letter sx _ L q T _ hL (by rw [q_hs_ne (by omega), q_hs_ix (by omega)]; exact h1) (fun i hi => by rw [q_hs_ne (by omega), q_hs_ne (by omega)]; exact h2 i hi) (by omega), q_cIs, t1, nI_add, nI_add] at hb
      show ∃ H', _ = rI (match (if z_l L T q = nI 59 then some ([a], q + 1) else if z_l L T q = nI 44 then (match z_nums (z_l L T) n (q + 1) with
        | none => none
        | some (t, r) => some (a :: t, r)) else none) with
        | none => -1
        | some v => nI (j + v.1.length)) H' ∧ (∀ a, a ≠ 1 → a ≠ 3 → H' a = H a) ∧ (∀ i, i ≠ 3 → H' 1 i = H 1 i) ∧ (∀ i, i < j → H' 3 i = H 3 i) ∧ ∀ v, (if z_l L T q = nI 59 then some ([a], q + 1) else if z_l L T q = nI 44 then (match z_nums (z_l L T) n (q + 1) with
        | none => none
        | some (t, r) => some (a :: t, r)) else none) = some v → H' 1 3 = nI v.2 ∧ ∀ (i x : Nat), v.1[i]? = some x → H' 3 (j + i) = nI x
      have o1 : ∀ y a', a' ≠ 1 → a' ≠ 3 → (q_hs (q_hs (q_hs H 1 3 (nI q)) 3 j (nI a)) 1 3 y) a' = H a' := fun y a' q1 q2 => by rw [q_hs_ne q1, q_hs_ne q2, q_hs_ne q1]
      have o2 : ∀ y i, i ≠ 3 → (q_hs (q_hs (q_hs H 1 3 (nI q)) 3 j (nI a)) 1 3 y) 1 i = H 1 i := fun y i hi => by rw [q_hs_ix hi, q_hs_ne (by omega), q_hs_ix hi]
      have o3 : ∀ y i, i ≠ j → (q_hs (q_hs (q_hs H 1 3 (nI q)) 3 j (nI a)) 1 3 y) 3 i = H 3 i := fun y i hi => by rw [q_hs_ne (by omega), q_hs_ix hi, q_hs_ne (by omega)]
      have o4 : ∀ y, (q_hs (q_hs (q_hs H 1 3 (nI q)) 3 j (nI a)) 1 3 y) 3 j = nI a := fun y => by rw [q_hs_ne (by omega), q_hs_at]
      by_cases c1 : z_l L T q = nI 59
      · rw [if_pos c1]
        refine ⟨q_hs (q_hs (q_hs H 1 3 (nI q)) 3 j (nI a)) 1 3 (nI (q + 1)), hb.trans ?_, o1 _, o2 _, fun i hi => o3 _ i (by omega), fun v hv => ?_⟩
        · rw [c1]
          simp (disch := omega) only [Bool.cond_decide, nI_add, pk_mul, q_inbN, q_cl_nI, q_ltN, q_leN, q_eqN, q_ifT, q_ifF, q_cIs, q_cVs, decide_false, decide_true, Bool.not_false, Bool.not_true, cond_true, cond_false, ne_eq, not_false_eq_true, not_true_eq_false, if_true, if_false]
          rfl
        · cases hv
          refine ⟨q_hs_at, fun i x hx => ?_⟩
          cases i with
          | zero =>
            have e5 : a = x := by simpa using hx
            rw [← e5]
            exact o4 _
          | succ i => simp at hx
      · rw [if_neg c1]
        by_cases c2 : z_l L T q = nI 44
        · rw [if_pos c2]
          obtain ⟨H', r, q1, q2, q3, q4⟩ := ih (j + 1) (q + 1) (q_hs (q_hs (q_hs H 1 3 (nI q)) 3 j (nI a)) 1 3 (nI (q + 1))) (by omega) ⟨(o2 _ 2 (by omega)).trans h1, fun i hi => by rw [o1 _ 2 (by omega) (by omega)]; exact h2 i hi, q_hs_at⟩ (by omega)
          refine ⟨H', hb.trans ?_, fun a' k1 k2 => (q1 a' k1 k2).trans (o1 _ a' k1 k2), fun i hi => (q2 i hi).trans (o2 _ i hi), fun i hi => (q3 i (by omega)).trans (o3 _ i (by omega)), fun v hv => ?_⟩
          · rw [decide_eq_true (show z_l L T q ≠ nI 59 from c1), decide_eq_true c2, cond_true, cond_true]
            refine r.trans ?_
            cases z_nums (z_l L T) n (q + 1) with
            | none => rfl
            | some w =>
              show rI (nI (j + 1 + w.1.length)) H' = rI (nI (j + (w.1.length + 1))) H'
              rw [show j + 1 + w.1.length = j + (w.1.length + 1) by omega]
          · cases e2 : z_nums (z_l L T) n (q + 1) with
            | none => rw [e2] at hv; cases hv
            | some w =>
              rw [e2] at hv
              cases hv
              obtain ⟨k1, k2⟩ := q4 w e2
              refine ⟨k1, fun i x hx => ?_⟩
              cases i with
              | zero =>
                have e5 : a = x := by simpa using hx
                rw [← e5]
                exact (q3 j (by omega)).trans (o4 _)
              | succ i =>
                rw [show j + (i + 1) = j + 1 + i by omega]
                exact k2 i x hx
        · rw [if_neg c2]
          refine ⟨q_hs (q_hs (q_hs H 1 3 (nI q)) 3 j (nI a)) 1 3 (nI (q + 1)), hb.trans ?_, o1 _, o2 _, fun i hi => o3 _ i (by omega), fun v hv => by cases hv⟩
          rw [decide_eq_true (show z_l L T q ≠ nI 59 from c1), decide_eq_false c2]
          rfl
