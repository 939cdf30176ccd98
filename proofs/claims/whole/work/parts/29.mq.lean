/-! THE MODEL'S QUARRY: every method as the same function of (bed, quarry) -/
def q_mB (H : QH) (B : SB) : Prop := H 165 3 = nI (sNb B) ∧ H 165 6 = nI (sNw B) ∧ H 165 8 = nI (sNs B) ∧ H 165 11 = sC B ∧ (∀ b, b < sNb B → H 167 b = sK B b) ∧ (∀ b, b < sNb B → H 168 b = sN B b) ∧ (∀ k, k < sNw B → H 169 k = sT B k) ∧ (∀ s, s < sNs B → H 170 s = sS B s) ∧ (∀ s, s < sNs B → H 171 s = sD B s)
theorem q_mB_of {H H' : QH} {B : SB} (h : q_mB H B) (he : ∀ a, a = 165 ∨ 167 ≤ a → H' a = H a) : q_mB H' B := by
  unfold q_mB at h ⊢
  rw [he 165 (by omega), he 167 (by omega), he 168 (by omega), he 169 (by omega), he 170 (by omega), he 171 (by omega)]
  exact h
theorem q_mB_put {H : QH} {B : SB} {r : Nat} {w : SW} (h : q_mB H B) : q_mB (m_put H r w) B := q_mB_of h (fun a ha => m_put_ne H r w (by omega))
theorem m_r1 (H : QH) (r : Nat) : ∀ b, H 166 (r + 1 + b) = m_get H r (1 + b) := fun b => by unfold m_get; rw [Nat.add_assoc]
theorem m_r7 (H : QH) (r : Nat) : ∀ b, H 166 (r + 7 + b) = m_get H r (7 + b) := fun b => by unfold m_get; rw [Nat.add_assoc]
theorem m_r13 (H : QH) (r : Nat) : ∀ b, H 166 (r + 13 + b) = m_get H r (13 + b) := fun b => by unfold m_get; rw [Nat.add_assoc]
theorem m_r79 (H : QH) (r : Nat) : ∀ b, H 166 (r + 79 + b) = m_get H r (79 + b) := fun b => by unfold m_get; rw [Nat.add_assoc]
theorem m_r19 (H : QH) (r : Nat) : ∀ b k, H 166 (r + 19 + 6 * b + k) = m_get H r (19 + 6 * b + k) := fun b k => by unfold m_get; rw [show r + 19 + 6 * b + k = r + (19 + 6 * b + k) by omega]
theorem m_r55 (H : QH) (r : Nat) : ∀ s b, H 166 (r + 55 + 6 * s + b) = m_get H r (55 + 6 * s + b) := fun b k => by unfold m_get; rw [show r + 55 + 6 * b + k = r + (55 + 6 * b + k) by omega]
theorem m_h (H : QH) (r a b : Nat) (x : Int32) : q_hs H 166 (r + a + b) x = m_put H r (upd (m_get H r) (a + b) x) := by rw [Nat.add_assoc, m_hs]
theorem m_h2 (H : QH) (r a b c : Nat) (x : Int32) : q_hs H 166 (r + a + b + c) x = m_put H r (upd (m_get H r) (a + b + c) x) := by rw [show r + a + b + c = r + (a + b + c) by omega, m_hs]
theorem e64_0 : (0 : Int64) = (nI 0).toInt64 := by decide +kernel
theorem in_inb (x : Int32) (n : Nat) (h1 : 1 ≤ n) (h2 : n < 1000000) : (decide (nI 0 ≤ x) && decide (x ≤ nI n - nI 1)) = q_inb x n := by
  rw [pk_sub h1]
  rcases q_inb_cases x n (by omega) with ⟨e, h⟩ | ⟨k, hk, rfl⟩
  · rw [e]
    rcases h with h | h
    · rw [decide_eq_false (show ¬ nI 0 ≤ x from fun q => Int32.lt_irrefl (Int32.lt_of_lt_of_le h q))]; rfl
    · by_cases h0 : x < 0
      · rw [decide_eq_false (show ¬ nI 0 ≤ x from fun q => Int32.lt_irrefl (Int32.lt_of_lt_of_le h0 q))]; rfl
      · obtain ⟨j, hj, rfl⟩ := nI_of h0
        rw [nI_leI (by omega) hj] at h
        rw [decide_eq_false (show ¬ nI j ≤ nI (n - 1) from fun q => by rw [nI_leI hj (by omega)] at q; omega), Bool.and_false]
  · rw [q_inbN (by omega), decide_eq_true (show nI 0 ≤ nI k from (nI_leI (by omega) (by omega)).mpr (by omega)), decide_eq_true (show nI k ≤ nI (n - 1) from (nI_leI (by omega) (by omega)).mpr (by omega)), decide_eq_true hk]
    rfl
theorem m_less (sx : QX) (d : Nat) (x y : Int32) (H : QH) : q_CL (q_tb sx) q_kpt (d + 1) (133, ([vi x, vi y], H)) = rI (z_less x y) H := by
  refine (b_X7_less_0 sx d x y H).trans ?_
  unfold z_less
  simp only [Bool.cond_decide]
  by_cases h : x < y
  · rw [if_pos h, if_neg (Int32.not_le.mpr h)]
  · rw [if_neg h, if_pos (Int32.not_lt.mp h)]
theorem m_heardOf (sx : QX) (d r b k : Nat) (H : QH) (hr : r + 83 ≤ 1577) (hb : b < 6) (hk : k < 6) : q_CL (q_tb sx) q_kpt (d + 1) (134, ([vr 9 165, vn r, vn b, vn k], H)) = rI (m_get H r (19 + 6 * b + k)) H := by
  refine (b_X7_heardOf_0 sx d (nI r) (nI b) (nI k) H).trans ?_
  simp (disch := omega) only [Bool.cond_decide, nI_add, pk_mul, q_inbN, q_cl_nI, q_ltN, q_leN, q_eqN, q_ifT, q_ifF, q_cIs, q_cVs, decide_false, decide_true, Bool.not_false, Bool.not_true, cond_true, cond_false, ne_eq, not_false_eq_true, not_true_eq_false, if_true, if_false, m_r19 H r]
theorem m_byKind (sx : QX) (d b k : Nat) (H : QH) (B : SB) (hB : q_mB H B) (hs : q_sB B) (hb : b < sNb B) (hk : k < sNw B) : q_CL (q_tb sx) q_kpt (d + 1) (132, ([vr 9 165, vn b, vn k], H)) = rI (z_byKind B b k) H := by
  obtain ⟨⟨g1, g2⟩, ⟨g3, g4⟩, -⟩ := hs
  obtain ⟨-, -, -, -, hK, -, hT, -⟩ := hB
  refine (b_X7_byKind_0 sx d (nI b) (nI k) H).trans ?_
  simp (disch := omega) only [Bool.cond_decide, nI_add, pk_mul, q_inbN, q_cl_nI, q_ltN, q_leN, q_eqN, q_ifT, q_ifF, q_cIs, q_cVs, decide_false, decide_true, Bool.not_false, Bool.not_true, cond_true, cond_false, ne_eq, not_false_eq_true, not_true_eq_false, if_true, if_false, hK b hb, hT k hk]
  unfold z_byKind
  by_cases h1 : sK B b = nI 1
  · by_cases e : k = 0
    · subst e; simp [h1]
    · simp [h1, e, nI_eq]
  · by_cases h2 : sK B b = nI 2
    · by_cases e : k = 1
      · subst e; simp [h2, nI_eq]
      · simp [h2, e, nI_eq]
    · by_cases h3 : sK B b = nI 3
      · by_cases e : k = 2
        · subst e; simp [h3, nI_eq]
        · simp [h3, e, nI_eq]
      · simp [h1, h2, h3]
theorem m_spoken (sx : QX) (d s b k : Nat) (H : QH) (B : SB) (hB : q_mB H B) (hs : q_sB B) (h1 : s < sNs B) (hb : b < sNb B) (hk : k < sNw B) : q_CL (q_tb sx) q_kpt (d + 2) (135, ([vr 9 165, vn s, vn b, vn k], H)) = rI (z_spk B s b k) H := by
  have hs' := hs
  have hB' := hB
  obtain ⟨⟨g1, g2⟩, ⟨g3, g4⟩, ⟨g5, g6⟩, -⟩ := hs'
  obtain ⟨-, -, -, -, -, hN, -, hS, -⟩ := hB'
  refine (b_X7_spoken_0 sx (d + 1) (nI s) (nI b) (nI k) H).trans ?_
  rw [m_byKind sx d b k H B hB hs hb hk]
  simp (disch := omega) only [Bool.cond_decide, nI_add, pk_mul, q_inbN, q_cl_nI, q_ltN, q_leN, q_eqN, q_ifT, q_ifF, q_cIs, q_cVs, decide_false, decide_true, Bool.not_false, Bool.not_true, cond_true, cond_false, ne_eq, not_false_eq_true, not_true_eq_false, if_true, if_false, hN b hb, hS s h1]
  unfold z_spk
  by_cases e1 : sS B s = nI 1
  · simp [e1]
  · by_cases e2 : sS B s = nI 2
    · by_cases e : sN B b ≤ nI 10
      · simp only [e2, if_pos e, if_neg (Int32.not_lt.mpr e)]; simp [nI_eq]
      · simp only [e2, if_neg e, if_pos (Int32.not_le.mp e)]; simp [nI_eq]
    · by_cases e3 : sS B s = nI 3
      · by_cases e : k = 0
        · subst e; simp [e3, nI_eq]
        · simp [e3, e, nI_eq]
      · simp [e1, e2, e3]
theorem m_worthOf (sx : QX) (d r s b k : Nat) (H : QH) (B : SB) (hB : q_mB H B) (hs : q_sB B) (hr : r + 83 ≤ 1577) (h1 : s < sNs B) (hb : b < sNb B) (hk : k < sNw B) : q_CL (q_tb sx) q_kpt (d + 3) (136, ([vr 9 165, vn r, vn s, vn b, vn k], H)) = rI (z_worth B (m_get H r) s b k) H := by
  have hs' := hs
  obtain ⟨⟨g1, g2⟩, ⟨g3, g4⟩, ⟨g5, g6⟩, -⟩ := hs'
  refine (b_X7_worthOf_0 sx (d + 2) (nI r) (nI s) (nI b) (nI k) H).trans ?_
  rw [m_spoken sx d s b k H B hB hs h1 hb hk]
  simp (disch := omega) only [Bool.cond_decide, nI_add, pk_mul, q_inbN, q_cl_nI, q_ltN, q_leN, q_eqN, q_ifT, q_ifF, q_cIs, q_cVs, decide_false, decide_true, Bool.not_false, Bool.not_true, cond_true, cond_false, ne_eq, not_false_eq_true, not_true_eq_false, if_true, if_false, m_heardOf, m_less]
  rfl
theorem m_inBed (sx : QX) (d r b : Nat) (H : QH) (B : SB) (hB : q_mB H B) (hs : q_sB B) (hr : r + 83 ≤ 1577) (hb : b < 1000000) : q_CL (q_tb sx) q_kpt (d + 2) (138, ([vr 9 165, vn r, vn b], H)) = rI (z01 (z_in B (m_get H r) b)) H := by
  obtain ⟨⟨g1, g2⟩, -⟩ := hs
  obtain ⟨hnb, -⟩ := hB
  refine (b_X7_inBed_0 sx (d + 1) (nI r) (nI b) H).trans ?_
  rw [hnb, e64_0, in_eq, in_inb _ _ g1 (by omega), q_inbN (by omega)]
  unfold z_in
  by_cases h : b < sNb B
  · simp (disch := omega) only [Bool.cond_decide, nI_add, pk_mul, q_inbN, q_cl_nI, q_ltN, q_leN, q_eqN, q_ifT, q_ifF, q_cIs, q_cVs, decide_false, decide_true, Bool.not_false, Bool.not_true, cond_true, cond_false, ne_eq, not_false_eq_true, not_true_eq_false, if_true, if_false, decide_eq_true h, z01, m_r7 H r, Bool.true_and]
    by_cases e : m_get H r (7 + b) = nI 0 <;> simp [e]
  · rw [decide_eq_false h]; rfl
theorem m_hears (sx : QX) (d r b o : Nat) (H : QH) (B : SB) (hB : q_mB H B) (hs : q_sB B) (hr : r + 83 ≤ 1577) (hb : b < sNb B) (ho : o < sNb B) : q_CL (q_tb sx) q_kpt (d + 3) (139, ([vr 9 165, vn r, vn b, vn o], H)) = rI (z01 (z_hears B (m_get H r) b o)) H := by
  have hs' := hs
  obtain ⟨⟨g1, g2⟩, -⟩ := hs'
  refine (b_X7_hears_0 sx (d + 2) (nI r) (nI b) (nI o) H).trans ?_
  have hdiv : (nI (b + o)) / nI 2 = nI ((b + o) / 2) := pk_div (by omega) (by omega) (by omega)
  unfold z_hears
  by_cases h : o ≤ b
  · have hsub : nI b - nI o = nI (b - o) := pk_sub h
    simp (disch := omega) only [Bool.cond_decide, nI_add, pk_mul, q_inbN, q_cl_nI, q_ltN, q_leN, q_eqN, q_ifT, q_ifF, q_cIs, q_cVs, decide_false, decide_true, Bool.not_false, Bool.not_true, cond_true, cond_false, ne_eq, not_false_eq_true, not_true_eq_false, if_true, if_false, hsub, hdiv, m_inBed sx d r o H B hB hs hr (by omega), m_inBed sx d r ((b + o) / 2) H B hB hs hr (by omega)]
    by_cases e0 : o = b
    · subst e0; simp [z01]
    · have e0' : ¬ (b - o = 0) := by omega
      cases z_in B (m_get H r) o with
      | false => simp [e0, e0', z01]
      | true =>
        by_cases e1 : b - o = 1
        · have e1' : o + 1 = b := by omega
          simp [e0, e0', e1, e1', z01, nI_eq]
        · have e1' : ¬ (o + 1 = b ∨ b + 1 = o) := by omega
          by_cases e2 : b - o = 2
          · have e2' : o + 2 = b := by omega
            cases z_in B (m_get H r) ((b + o) / 2) <;> simp [e0, e0', e1, e1', e2, e2', z01, nI_eq]
          · have e2' : ¬ (o + 2 = b ∨ b + 2 = o) := by omega
            simp [e0, e0', e1, e1', e2, e2', z01, nI_eq]
  · have hsub : nI o - nI b = nI (o - b) := pk_sub (by omega)
    simp (disch := omega) only [Bool.cond_decide, nI_add, pk_mul, q_inbN, q_cl_nI, q_ltN, q_leN, q_eqN, q_ifT, q_ifF, q_cIs, q_cVs, decide_false, decide_true, Bool.not_false, Bool.not_true, cond_true, cond_false, ne_eq, not_false_eq_true, not_true_eq_false, if_true, if_false, hsub, hdiv, m_inBed sx d r o H B hB hs hr (by omega), m_inBed sx d r ((b + o) / 2) H B hB hs hr (by omega)]
    have e0 : ¬ (o = b) := by omega
    have e0' : ¬ (o - b = 0) := by omega
    cases z_in B (m_get H r) o with
    | false => simp [e0, e0', z01]
    | true =>
      by_cases e1 : o - b = 1
      · have e1' : b + 1 = o := by omega
        simp [e0, e0', e1, e1', z01, nI_eq]
      · have e1' : ¬ (o + 1 = b ∨ b + 1 = o) := by omega
        by_cases e2 : o - b = 2
        · have e2' : b + 2 = o := by omega
          cases z_in B (m_get H r) ((b + o) / 2) <;> simp [e0, e0', e1, e1', e2, e2', z01, nI_eq]
        · have e2' : ¬ (o + 2 = b ∨ b + 2 = o) := by omega
          simp [e0, e0', e1, e1', e2, e2', z01, nI_eq]
def z_comes (B : SB) (w : SW) (b : Nat) : SW := if z_in B w b = true then (if w (1 + b) < sN B b then w else upd w (7 + b) (nI 1)) else w
theorem m_comes (sx : QX) (d r b : Nat) (H : QH) (B : SB) (hB : q_mB H B) (hs : q_sB B) (hr : r + 83 ≤ 1577) (hb : b < sNb B) : q_CL (q_tb sx) q_kpt (d + 3) (140, ([vr 9 165, vn r, vn b], H)) = rV (m_put H r (z_comes B (m_get H r) b)) := by
  have hs' := hs
  have hB' := hB
  obtain ⟨⟨g1, g2⟩, -⟩ := hs'
  obtain ⟨-, -, -, -, -, hN, -⟩ := hB'
  refine (b_X7_comes_0 sx (d + 2) (nI r) (nI b) H).trans ?_
  rw [m_inBed sx d r b H B hB hs hr (by omega)]
  unfold z_comes
  cases z_in B (m_get H r) b with
  | false => simp [z01, q_cI, m_put_get]
  | true =>
    simp (disch := omega) only [Bool.cond_decide, nI_add, pk_mul, q_inbN, q_cl_nI, q_ltN, q_leN, q_eqN, q_ifT, q_ifF, q_cIs, q_cVs, decide_false, decide_true, Bool.not_false, Bool.not_true, cond_true, cond_false, ne_eq, not_false_eq_true, not_true_eq_false, if_true, if_false, z01, m_r1 H r, hN b hb]
    by_cases h : m_get H r (1 + b) < sN B b
    · rw [if_pos h, if_pos h, m_put_get]
    · rw [if_neg h, if_neg h, m_h]
theorem z_comes_soft {B : SB} {w : SW} {b : Nat} {x : Int32} (hs : q_sB B) (hb : b < sNb B) (h : w (7 + b) = nI 0) : z_comes B (upd w (1 + b) (w (1 + b) + x)) b = z_soften B w b x := by
  obtain ⟨⟨g1, g2⟩, -⟩ := hs
  unfold z_comes z_soften
  have e : z_in B (upd w (1 + b) (w (1 + b) + x)) b = true := by
    unfold z_in
    rw [pk_un (by omega), h]
    simp [hb]
  rw [if_pos e, pk_us]
theorem m_canSay (sx : QX) (d r s b : Nat) (H : QH) (B : SB) (hB : q_mB H B) (hs : q_sB B) (hr : r + 83 ≤ 1577) (h1 : s < sNs B) (hb : b < sNb B) : q_CL (q_tb sx) q_kpt (d + 3) (143, ([vr 9 165, vn r, vn s, vn b], H)) = rI (z01 (decide (nI 0 < m_get H r (79 + s)) && decide (m_get H r (7 + b) = nI 0))) H := by
  have hs' := hs
  obtain ⟨⟨g1, g2⟩, -, ⟨g5, g6⟩, -⟩ := hs'
  refine (b_X7_canSay_0 sx (d + 2) (nI r) (nI s) (nI b) H).trans ?_
  rw [m_inBed sx d r b H B hB hs hr (by omega)]
  unfold z_in
  simp (disch := omega) only [Bool.cond_decide, nI_add, pk_mul, q_inbN, q_cl_nI, q_ltN, q_leN, q_eqN, q_ifT, q_ifF, q_cIs, q_cVs, decide_false, decide_true, Bool.not_false, Bool.not_true, cond_true, cond_false, ne_eq, not_false_eq_true, not_true_eq_false, if_true, if_false, m_r79 H r, decide_eq_true hb, Bool.true_and]
  by_cases h : m_get H r (79 + s) ≤ nI 0
  · rw [if_pos h, decide_eq_false (Int32.not_lt.mpr h)]; rfl
  · rw [if_neg h, decide_eq_true (Int32.not_le.mp h)]
    by_cases h2 : m_get H r (7 + b) = nI 0 <;> simp [h2, z01, nI_eq]
theorem m_says (sx : QX) (d r s b k : Nat) (H : QH) (B : SB) (hB : q_mB H B) (hs : q_sB B) (hr : r + 83 ≤ 1577) (h1 : s < sNs B) (hb : b < sNb B) (hk : k < sNw B) (hin : m_get H r (7 + b) = nI 0) : q_CL (q_tb sx) q_kpt (d + 4) (141, ([vr 9 165, vn r, vn s, vn b, vn k], H)) = rV (m_put H r (z_says B (m_get H r) s b k)) := by
  have hs' := hs
  obtain ⟨⟨g1, g2⟩, ⟨g3, g4⟩, ⟨g5, g6⟩, -⟩ := hs'
  refine (b_X7_says_0 sx (d + 3) (nI r) (nI s) (nI b) (nI k) H).trans ?_
  simp (disch := omega) only [Bool.cond_decide, nI_add, pk_mul, q_inbN, q_cl_nI, q_ltN, q_leN, q_eqN, q_ifT, q_ifF, q_cIs, q_cVs, decide_false, decide_true, Bool.not_false, Bool.not_true, cond_true, cond_false, ne_eq, not_false_eq_true, not_true_eq_false, if_true, if_false, m_r79 H r, m_h, q_mB_put hB, m_worthOf sx d r s b k _ B (q_mB_put hB) hs hr h1 hb hk, m_get_put, m_put_put]
  have ew : z_worth B (upd (m_get H r) (79 + s) (m_get H r (79 + s) - nI 1)) s b k = z_worth B (m_get H r) s b k := by
    unfold z_worth
    rw [pk_un (by omega)]
  rw [ew]
  have e1 : (m_put H r (upd (m_get H r) (79 + s) (m_get H r (79 + s) - nI 1))) 166 (r + 1 + b) = m_get H r (1 + b) := (m_r1 (m_put H r _) r b).trans (by rw [m_get_put, pk_un (by omega)])
  rw [e1]
  have hl := z_loop (sNb B) (fun o w => q_EV (q_tb sx) q_kpt (d + 4) 141 (40, ([(0, vr 9 165), (1, vn r), (3, vn b), (4, vn k), (5, vn o)], ([], m_put H r w)))) (z_h1 B b k) (fun o w ho => by
    refine (b_X7_says_40 sx (d + 3) (nI r) (nI b) (nI k) (nI o) _).trans ?_
    rw [(q_mB_put hB).1, m_hears sx d r b o _ B (q_mB_put hB) hs hr hb ho, m_get_put]
    simp (disch := omega) only [Bool.cond_decide, nI_add, pk_mul, q_inbN, q_cl_nI, q_ltN, q_leN, q_eqN, q_ifT, q_ifF, q_cIs, q_cVs, decide_false, decide_true, Bool.not_false, Bool.not_true, cond_true, cond_false, ne_eq, not_false_eq_true, not_true_eq_false, if_true, if_false, m_r19 _ r, m_h2, m_get_put, m_put_put]
    unfold z_h1
    cases hz : z_hears B w b o with
    | true => simp [ho, z01, nI_eq]
    | false => simp [z01]) (upd (upd (m_get H r) (79 + s) (m_get H r (79 + s) - nI 1)) (1 + b) (m_get H r (1 + b) + z_worth B (m_get H r) s b k))
  refine Eq.trans hl ?_
  rw [z_hear_all B b k _ hs hk]
  refine (b_X7_says_40 sx (d + 3) (nI r) (nI b) (nI k) (nI (sNb B)) _).trans ?_
  rw [(q_mB_put hB).1, m_comes sx d r b _ B (q_mB_put hB) hs hr hb, m_get_put, m_put_put]
  simp (disch := omega) only [Bool.cond_decide, nI_add, pk_mul, q_inbN, q_cl_nI, q_ltN, q_leN, q_eqN, q_ifT, q_ifF, q_cIs, q_cVs, decide_false, decide_true, Bool.not_false, Bool.not_true, cond_true, cond_false, ne_eq, not_false_eq_true, not_true_eq_false, if_true, if_false]
  refine congrArg (fun w => rV (m_put H r w)) ?_
  unfold z_says
  have e2 : z_hear B (upd (upd (m_get H r) (79 + s) (m_get H r (79 + s) - nI 1)) (1 + b) (m_get H r (1 + b) + z_worth B (m_get H r) s b k)) b k = upd (z_hear B (upd (m_get H r) (79 + s) (m_get H r (79 + s) - nI 1)) b k) (1 + b) ((z_hear B (upd (m_get H r) (79 + s) (m_get H r (79 + s) - nI 1)) b k) (1 + b) + z_worth B (m_get H r) s b k) := by
    funext j
    have ec : ∀ o, z_hears B (upd (upd (m_get H r) (79 + s) (m_get H r (79 + s) - nI 1)) (1 + b) (m_get H r (1 + b) + z_worth B (m_get H r) s b k)) b o = z_hears B (upd (m_get H r) (79 + s) (m_get H r (79 + s) - nI 1)) b o := fun o => z_hears_congr hs (fun j h1 h2 => pk_un (by omega))
    unfold z_hear
    simp only [ec]
    by_cases hj : j = 1 + b
    · subst hj
      rw [pk_us, if_neg (by omega), if_neg (by omega), pk_us, pk_un (by omega)]
    · rw [pk_un hj, pk_un hj]
  rw [e2]
  refine z_comes_soft hs hb ?_
  unfold z_hear
  rw [if_neg (by omega), pk_un (by omega)]
  exact hin
