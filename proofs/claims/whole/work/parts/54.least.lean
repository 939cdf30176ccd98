/-! least -/
def x_0 (w : SW) (b : Nat) : ST := (fun s => (w (79 + s)).toNatClampNeg, (fun k => (w (19 + 6 * b + k)).toNatClampNeg, (w (1 + b)).toNatClampNeg))
def x_g (B : SB) (b s k : Nat) : Nat := (z_spk B s b k).toNatClampNeg
theorem x_g_ok {B : SB} {b : Nat} (hs : q_sB B) (hb : b < sNb B) : ∀ s k, s < sNs B → k < sNw B → z_spk B s b k = nI (x_g B b s k) ∧ x_g B b s k < 1000 := fun s k h1 h2 => by
  obtain ⟨n, hn, e⟩ := z_spk_b hs (s := s) hb h2
  unfold x_g
  rw [e, q_cl_nI (by omega)]
  exact ⟨rfl, by omega⟩
theorem x_0_rel {B : SB} {b N : Nat} {v w : SW} (hs : q_sB B) (hb : b < sNb B) (hv : q_vw B N w) (hN : N < 900000) (ha : q_ag B v w) (hin : w (7 + b) = nI 0) : x_rel B b v (x_0 w b) ∧ (∀ k, k < sNw B → (x_0 w b).2.1 k ≤ N) ∧ (x_0 w b).2.2 < 60 := by
  obtain ⟨⟨g1, g2⟩, ⟨g3, g4⟩, ⟨g5, g6⟩, -⟩ := hs
  refine ⟨⟨fun s h => ?_, fun k h => ?_, ?_⟩, fun k h => ?_, ?_⟩
  · obtain ⟨m, hm, em⟩ := hv.2.2 s h
    rw [ha (79 + s) (by omega)]
    show _ = nI (w (79 + s)).toNatClampNeg ∧ (w (79 + s)).toNatClampNeg < 1000
    rw [em, q_cl_nI (by omega)]
    exact ⟨rfl, by omega⟩
  · obtain ⟨m, hm, em⟩ := hv.1 b k hb h
    rw [ha (19 + 6 * b + k) (by omega)]
    show _ = nI (w (19 + 6 * b + k)).toNatClampNeg ∧ (w (19 + 6 * b + k)).toNatClampNeg < 1000000
    rw [em, q_cl_nI (by omega)]
    exact ⟨rfl, by omega⟩
  · obtain ⟨m, em, hm, -⟩ := (hv.2.1 b hb).2 hin
    rw [ha (1 + b) (by omega)]
    show _ = nI (w (1 + b)).toNatClampNeg
    rw [em, q_cl_nI (by omega)]
  · obtain ⟨m, hm, em⟩ := hv.1 b k hb h
    show (w (19 + 6 * b + k)).toNatClampNeg ≤ N
    rw [em, q_cl_nI (by omega)]
    exact hm
  · obtain ⟨m, em, hm, -⟩ := (hv.2.1 b hb).2 hin
    show (w (1 + b)).toNatClampNeg < 60
    rw [em, q_cl_nI (by omega)]
    exact hm
theorem q_shortL (sx : QX) (b t d N : Nat) (g : Nat → Nat → Nat) (B : SB) (hs : q_sB B) (hb : b < sNb B) (hg : ∀ s k, s < sNs B → k < sNw B → z_spk B s b k = nI (g s k) ∧ g s k < 1000) (ht : sN B b = nI t) (ht2 : t ≤ 60) (st : ST) (hN : N < 800000) (hk : ∀ k, k < sNw B → st.2.1 k ≤ N) (hst : st.2.2 < 60) : ∀ (f m : Nat) (H : QH), m + f = 5 → 1 ≤ m → q_rB H B → q_hd B (c_get H 29) N → x_rel B b (c_get H 29) st → ∃ H', q_EV (q_tb sx) q_kpt (d + 10) 47 (2, ([(0, vr 6 110), (1, vn b), (2, vn m)], ([], H))) = rI (match x_min (fun m => x_C (sNs B) (sNw B) t g m st) f m with
    | none => nI 0
    | some v => nI v.1) H' ∧ (∀ a, a ≠ 111 → H' a = H a) ∧ ∀ v, x_min (fun m => x_C (sNs B) (sNw B) t g m st) f m = some v → ∀ (i : Nat) (x : Nat × Nat), v.2[i]? = some x → H' 111 i = nI (10 * x.1 + x.2) := by
  intro f
  induction f with
  | zero =>
    intro m H hm h1 hB hh hr
    refine ⟨H, (b_X4_shortest_2 sx (d + 9) (nI b) (nI m) H).trans ?_, fun _ _ => rfl, fun v hv => by cases hv⟩
    rw [decide_eq_true (show nI 4 < nI m by rw [nI_ltI (by omega) (by omega)]; omega)]
    rfl
  | succ f ih =>
    intro m H hm h1 hB hh hr
    have hb9 := b_X4_shortest_2 sx (d + 9) (nI b) (nI m) H
    rw [decide_eq_false (show ¬ nI 4 < nI m by rw [nI_ltI (by omega) (by omega)]; omega), cond_false] at hb9
    obtain ⟨H1, r, o, -, w⟩ := q_ext sx b t g B hs hb hg ht ht2 m 0 m (d + 4 - m) N H st (by omega) (by omega) hB hh (by omega) hr hk (by omega)
    rw [show d + 4 - m + m + 5 = d + 9 by omega] at r
    rw [r, q_cIs] at hb9
    unfold x_min
    cases e : x_C (sNs B) (sNw B) t g m st with
    | none =>
      rw [e] at hb9
      have cg : c_get H1 29 = c_get H 29 := c_get_of (fun a k1 k2 => o a (by omega))
      obtain ⟨H2, r2, o2, w2⟩ := ih (m + 1) H1 (by omega) (by omega) (q_rB_of hB (fun a ha => o a (by omega))) (by rw [cg]; exact hh) (by rw [cg]; exact hr)
      refine ⟨H2, (hb9.trans ?_).trans r2, fun a ha => (o2 a ha).trans (o a ha), w2⟩
      rw [nI_add]
      rfl
    | some l =>
      rw [e] at hb9
      refine ⟨H1, hb9.trans rfl, o, fun v hv i x hx => ?_⟩
      cases hv
      have := w l e i x hx
      rw [Nat.zero_add] at this
      exact this
theorem m_bringsOut (sx : QX) (dd b t many : Nat) (B : SB) (H : QH) (w : SW) (N : Nat) (hs : q_sB B) (hb : b < sNb B) (hB : q_mB H B) (ha : q_ag B (m_get H 0) w) (hv : q_vw B N w) (hN : N < 800000) (hin : w (7 + b) = nI 0) (ht : sN B b = nI t) (ht2 : t ≤ 60) (hm : 1 ≤ many ∧ many ≤ 4) : ∃ H', q_CL (q_tb sx) q_kpt (dd + 4) (153, ([vr 9 165, vn b, vn many], H)) = rI (z01 (x_X (sNs B) (sNw B) t (x_g B b) many (x_0 w b)).isSome) H' ∧ (∀ a, ¬ (177 ≤ a ∧ a < 181) → H' a = H a) ∧ ∀ l, x_X (sNs B) (sNw B) t (x_g B b) many (x_0 w b) = some l → ∀ (i : Nat) (x : Nat × Nat), l[i]? = some x → H' 177 i = nI (x.1 * sNw B + x.2) := by
  have hs' := hs
  obtain ⟨⟨g1, g2⟩, ⟨g3, g4⟩, ⟨g5, g6⟩, -⟩ := hs'
  have hb0 := b_X7_bringsOut_0 sx (dd + 3) (nI b) (nI many) H
  obtain ⟨l1, a1, v1⟩ := z_loopI (fun i (G : QH) => (∀ a, a ≠ 179 → G a = H a) ∧ ∀ j, j < i → G 179 j = nI 0) 6 (fun k G => q_EV (q_tb sx) q_kpt (dd + 4) 153 (2, ([(0, vr 9 165), (1, vn b), (2, vn many), (3, vn k)], ([], G)))) (fun k G => q_hs G 179 k (nI 0)) H ⟨fun _ _ => rfl, fun j hj => absurd hj (Nat.not_lt_zero _)⟩ (fun k G hk ⟨k1, k2⟩ => ⟨fun a ha => by rw [q_hs_ne ha]; exact k1 a ha, fun j hj => by
    by_cases c : j = k
    · subst c; exact q_hs_at
    · rw [q_hs_ix c]; exact k2 j (by omega)⟩) (fun k G hk _ => by
    refine (b_X7_bringsOut_2 sx (dd + 3) (nI b) (nI many) (nI k) G).trans ?_
    simp (disch := omega) only [Bool.cond_decide, nI_add, pk_mul, q_inbN, q_cl_nI, q_ltN, q_leN, q_eqN, q_ifT, q_ifF, q_cIs, q_cVs, decide_false, decide_true, Bool.not_false, Bool.not_true, cond_true, cond_false, ne_eq, not_false_eq_true, not_true_eq_false, if_true, if_false])
  generalize z_fold 6 (fun k G => q_hs G 179 k (nI 0)) H = G1 at l1 a1 v1
  have m1 := b_X7_bringsOut_2 sx (dd + 3) (nI b) (nI many) (nI 6) G1
  rw [decide_eq_true (Int32.le_refl _), cond_true] at m1
  obtain ⟨l2, a2, u2, v2⟩ := z_loopI (fun i (G : QH) => (∀ a, a ≠ 179 → a ≠ 180 → G a = H a) ∧ G 179 = G1 179 ∧ ∀ j, j < i → G 180 j = nI 0) 4 (fun k G => q_EV (q_tb sx) q_kpt (dd + 4) 153 (23, ([(0, vr 9 165), (1, vn b), (2, vn many), (3, vn k)], ([], G)))) (fun k G => q_hs G 180 k (nI 0)) G1 ⟨fun a h1 _ => a1 a h1, rfl, fun j hj => absurd hj (Nat.not_lt_zero _)⟩ (fun k G hk ⟨k1, k2, k3⟩ => ⟨fun a h1 h2 => by rw [q_hs_ne h2]; exact k1 a h1 h2, by rw [q_hs_ne (by omega)]; exact k2, fun j hj => by
    by_cases c : j = k
    · subst c; exact q_hs_at
    · rw [q_hs_ix c]; exact k3 j (by omega)⟩) (fun k G hk _ => by
    refine (b_X7_bringsOut_23 sx (dd + 3) (nI b) (nI many) (nI k) G).trans ?_
    simp (disch := omega) only [Bool.cond_decide, nI_add, pk_mul, q_inbN, q_cl_nI, q_ltN, q_leN, q_eqN, q_ifT, q_ifF, q_cIs, q_cVs, decide_false, decide_true, Bool.not_false, Bool.not_true, cond_true, cond_false, ne_eq, not_false_eq_true, not_true_eq_false, if_true, if_false])
  generalize z_fold 4 (fun k G => q_hs G 180 k (nI 0)) G1 = G2 at l2 a2 u2 v2
  have m2 := b_X7_bringsOut_23 sx (dd + 3) (nI b) (nI many) (nI 4) G2
  rw [decide_eq_true (Int32.le_refl _), cond_true, nI_add] at m2
  simp (disch := omega) only [q_cl_nI, q_inbN, Bool.cond_decide, q_ifT, q_hs_ne] at m2
  obtain ⟨hr, hk, hsf⟩ := x_0_rel hs hb hv (by omega) ha hin
  have e166 : G2 166 = H 166 := a2 166 (by omega) (by omega)
  have esoft : G2 166 (1 + b) = nI (x_0 w b).2.2 := by rw [e166]; exact (m_get0 H (1 + b)).symm.trans hr.2.2
  rw [esoft] at m2
  have far : ∀ a, ¬ (177 ≤ a ∧ a < 181) → (q_hs (q_hs G2 177 0 (-1)) 178 0 (nI (x_0 w b).2.2)) a = H a := fun a ha => by rw [q_hs_ne (by omega), q_hs_ne (by omega), a2 a (by omega) (by omega)]
  have hB2 : q_mB (q_hs (q_hs G2 177 0 (-1)) 178 0 (nI (x_0 w b).2.2)) B := by
    unfold q_mB at hB ⊢
    rw [far 165 (by omega), far 167 (by omega), far 168 (by omega), far 169 (by omega), far 170 (by omega), far 171 (by omega)]
    exact hB
  obtain ⟨H', f, o⟩ := y_search sx dd b t (x_g B b) (x_0 w b).1 (x_0 w b).2.1 B hs hb (x_g_ok hs hb) ht ht2 (H 166) (fun s h => (m_get0 H _).symm.trans (hr.1 s h).1) (fun k h => (m_get0 H _).symm.trans (hr.2.1 k h).1) many 0 many (q_hs (q_hs G2 177 0 (-1)) 178 0 (nI (x_0 w b).2.2)) (x_0 w b) (by omega) hm.2 hB2 (far 166 (by omega)) ⟨fun s h => ⟨0, by rw [q_hs_ne (by omega), q_hs_ne (by omega)]; exact v2 s (by omega), by omega, (hr.1 s h).2⟩, fun k h => ⟨0, by rw [q_hs_ne (by omega), q_hs_ne (by omega), u2]; exact v1 k (by omega), by omega, by have := hk k h; omega, by omega⟩⟩ (fun k h => by omega) q_hs_at (by omega) (fun _ => by rw [q_hs_ne (by omega), q_hs_at])
  have run := hb0.trans (l1.trans (m1.trans (l2.trans m2)))
  have fr : ∀ a, ¬ (177 ≤ a ∧ a < 181) → H' a = H a := fun a ha => (f.1 a ha).trans (far a ha)
  rcases o with ⟨q1, q2, q3⟩ | ⟨l, q1, q2, q3⟩
  · refine ⟨H', ?_, fr, fun l hl => by rw [q1] at hl; cases hl⟩
    rw [q1]
    exact run.trans (q2.trans (y_out sx dd b many H'))
  · refine ⟨H', ?_, fr, fun l' hl i x hx => ?_⟩
    · rw [q1]
      exact run.trans q2
    · rw [q1] at hl
      cases hl
      have := q3 i x hx
      rw [Nat.zero_add] at this
      exact this
def z_least (o : Option (Nat × List (Nat × Nat))) (x : Int32) : Int32 := match o with
  | none => -4
  | some v => if x < nI 0 then nI v.1 else if nI v.1 ≤ x then -4 else match v.2[x.toNatClampNeg]? with
    | none => 0
    | some y => nI (10 * y.1 + y.2)
theorem m_leastL (sx : QX) (dd b t : Nat) (B : SB) (w : SW) (N : Nat) (y : Int32) (hs : q_sB B) (hb : b < sNb B) (hv : q_vw B N w) (hN : N < 800000) (hin : w (7 + b) = nI 0) (ht : sN B b = nI t) (ht2 : t ≤ 60) : ∀ (f m : Nat) (H : QH), m + f = 5 → 1 ≤ m → q_mB H B → q_ag B (m_get H 0) w → ∃ H', q_EV (q_tb sx) q_kpt (dd + 5) 154 (29, ([(0, vr 9 165), (1, vn b), (2, vi y), (3, vn m)], ([], H))) = rI (z_least (x_min (fun m => x_X (sNs B) (sNw B) t (x_g B b) m (x_0 w b)) f m) y) H' ∧ ∀ a, ¬ (177 ≤ a ∧ a < 181) → H' a = H a := by
  have hs' := hs
  obtain ⟨⟨g1, g2⟩, ⟨g3, g4⟩, ⟨g5, g6⟩, -⟩ := hs'
  intro f
  induction f with
  | zero =>
    intro m H hm h1 hB ha
    refine ⟨H, (b_X7_least_29 sx (dd + 4) (nI b) y (nI m) H).trans ?_, fun _ _ => rfl⟩
    rw [decide_eq_true (show nI 4 < nI m by rw [nI_ltI (by omega) (by omega)]; omega)]
    rfl
  | succ f ih =>
    intro m H hm h1 hB ha
    have hb9 := b_X7_least_29 sx (dd + 4) (nI b) y (nI m) H
    rw [decide_eq_false (show ¬ nI 4 < nI m by rw [nI_ltI (by omega) (by omega)]; omega), cond_false] at hb9
    obtain ⟨H1, r, o, wt⟩ := m_bringsOut sx dd b t m B H w N hs hb hB ha hv hN hin ht ht2 (by omega)
    rw [r, q_cIs] at hb9
    unfold x_min
    cases e : x_X (sNs B) (sNw B) t (x_g B b) m (x_0 w b) with
    | none =>
      rw [e] at hb9
      obtain ⟨H2, r2, o2⟩ := ih (m + 1) H1 (by omega) (by omega) (by
        unfold q_mB at hB ⊢
        rw [o 165 (by omega), o 167 (by omega), o 168 (by omega), o 169 (by omega), o 170 (by omega), o 171 (by omega)]
        exact hB) (by rw [m_get_of (o 166 (by omega))]; exact ha)
      refine ⟨H2, (hb9.trans ?_).trans r2, fun a h => (o2 a h).trans (o a h)⟩
      rw [nI_add]
      rfl
    | some l =>
      rw [e] at hb9
      refine ⟨H1, hb9.trans ?_, o⟩
      rw [show decide (z01 (some l).isSome = nI 0) = false by rw [show (some l).isSome = true from rfl]; decide, cond_false]
      show _ = rI (if y < nI 0 then nI m else if nI m ≤ y then -4 else match l[y.toNatClampNeg]? with
        | none => 0
        | some y => nI (10 * y.1 + y.2)) H1
      by_cases c1 : y < nI 0
      · rw [if_pos c1, decide_eq_false (Int32.not_le.mpr c1)]
        rfl
      · rw [if_neg c1, decide_eq_true (Int32.not_lt.mp c1), cond_true]
        obtain ⟨j, hj, rfl⟩ := nI_of c1
        by_cases c2 : nI m ≤ nI j
        · rw [if_pos c2, decide_eq_true c2]
          rfl
        · rw [if_neg c2, decide_eq_false c2, cond_false]
          rw [nI_leI (by omega) hj] at c2
          obtain ⟨len, inr⟩ := x_X_len m _ l e
          obtain ⟨z, hz⟩ : ∃ z, l[j]? = some z := ⟨l[j]'(by omega), List.getElem?_eq_getElem (by omega)⟩
          obtain ⟨i1, i2⟩ := inr j z hz
          have wz := wt l e j z hz
          have h6 : H1 165 6 = nI (sNw B) := by rw [o 165 (by omega)]; exact hB.2.1
          have hlt : z.1 * sNw B + z.2 < sNs B * sNw B := Nat.lt_of_lt_of_le (show z.1 * sNw B + z.2 < (z.1 + 1) * sNw B by rw [Nat.succ_mul]; omega) (Nat.mul_le_mul_right _ i1)
          have hbig : sNs B * sNw B ≤ 4 * 6 := Nat.mul_le_mul g6 g4
          have eD : nI (z.1 * sNw B + z.2) / nI (sNw B) = nI z.1 := by
            rw [pk_div (by omega) (by omega) (by omega), Nat.add_comm, Nat.add_mul_div_right z.2 z.1 (by omega), Nat.div_eq_of_lt i2, Nat.zero_add]
          have eM : nI (z.1 * sNw B + z.2) - nI (z.1 * sNw B) = nI z.2 := by rw [pk_sub (by omega), Nat.add_sub_cancel_left]
          rw [q_cl_nI (by omega), hz, wz, h6, eD, pk_mul, pk_mul, eM, nI_add]
          simp (disch := omega) only [q_inbN, q_eqN, q_nd, decide_true, cond_true, Bool.cond_decide, q_ifT]
theorem two_least (sx : QX) (d n : Nat) (A : SA) (hA : q_sA n A) (hn : n < 800000) (x y : Int32) : q_two sx d 71 154 [vi x, vi y] A n := by
  have hA' := hA
  obtain ⟨-, hs, hv, -⟩ := hA'
  have hs' := hs
  obtain ⟨⟨g1, g2⟩, ⟨g3, g4⟩, ⟨g5, g6⟩, gK, -⟩ := hs'
  have n0 : ¬ z01 true = nI 0 := by decide
  rcases q_inb_cases x (sNb (aB A)) (by omega) with ⟨e, -⟩ | ⟨b, h2, rfl⟩
  · refine two_same hA (-1) (fun H hR => (b_X6_least_0 sx (d + 39) x y H).trans ?_) (fun H hR => (b_X7_least_0 sx (d + 39) x y H).trans ?_)
    · rw [q_isB sx _ _ x H hR.2.1.1 (by omega), e]; rfl
    · rw [m_isB sx _ _ x H hR.2.1.1 (by omega) (by omega), e]; rfl
  · have hc : ∀ H, q_RC A H → _ := fun H hR => (b_X6_least_0 sx (d + 39) (nI b) y H).trans (by rw [q_isB sx _ _ _ H hR.2.1.1 (by omega), q_inbN (by omega), decide_eq_true h2, q_cIs, decide_eq_false n0, cond_false])
    have hm : ∀ H, q_RM A H → _ := fun H hR => (b_X7_least_0 sx (d + 39) (nI b) y H).trans (by rw [m_isB sx _ _ _ H hR.2.1.1 (by omega) (by omega), q_inbN (by omega), decide_eq_true h2, q_cIs, decide_eq_false n0, cond_false])
    by_cases c1 : -1 ≤ y
    · simp only [decide_eq_true c1, cond_true] at hc hm
      by_cases hin : aW A (7 + b) = nI 0
      · obtain ⟨-, t, ht1, ht2, et⟩ := gK b h2
        have hx0 : x_X (sNs (aB A)) (sNw (aB A)) t (x_g (aB A) b) 0 (x_0 (aW A) b) = none := by
          unfold x_X
          obtain ⟨u, eu, hu, hlt⟩ := (hv.2.1 b h2).2 hin
          have e9 : (x_0 (aW A) b).2.2 = u := by
            show (aW A (1 + b)).toNatClampNeg = u
            rw [eu, q_cl_nI (by omega)]
          rw [et, nI_ltI (by omega) (by omega)] at hlt
          rw [e9, if_neg (by omega)]
        have hmin := x_min_eq (ns := sNs (aB A)) (nw := sNw (aB A)) (t := t) (g := x_g (aB A) b) (x_0 (aW A) b) 4 1 (fun j hj => by
          have e9 : j = 0 := by omega
          subst e9
          exact hx0)
        have hlen : ∀ v, x_min (fun m => x_X (sNs (aB A)) (sNw (aB A)) t (x_g (aB A) b) m (x_0 (aW A) b)) 4 1 = some v → v.2.length = v.1 ∧ 1 ≤ v.1 ∧ v.1 ≤ 4 := by
          have key : ∀ f m v, x_min (fun m => x_X (sNs (aB A)) (sNw (aB A)) t (x_g (aB A) b) m (x_0 (aW A) b)) f m = some v → v.2.length = v.1 ∧ m ≤ v.1 ∧ v.1 < m + f := by
            intro f
            induction f with
            | zero => intro m v h; cases h
            | succ f ih =>
              intro m v h
              unfold x_min at h
              cases e : x_X (sNs (aB A)) (sNw (aB A)) t (x_g (aB A) b) m (x_0 (aW A) b) with
              | none =>
                rw [e] at h
                obtain ⟨q1, q2, q3⟩ := ih (m + 1) v h
                exact ⟨q1, by omega, by omega⟩
              | some l =>
                rw [e] at h
                cases h
                exact ⟨(x_X_len m _ l e).1, Nat.le_refl _, by show m < m + (f + 1); omega⟩
          intro v h
          obtain ⟨q1, q2, q3⟩ := key 4 1 v h
          exact ⟨q1, q2, by omega⟩
        refine ⟨z_least (x_min (fun m => x_X (sNs (aB A)) (sNw (aB A)) t (x_g (aB A) b) m (x_0 (aW A) b)) 4 1) y, A, q_sA_mono hA (by omega), fun H hR => ?_, fun H hR => ?_⟩
        · obtain ⟨H1, r1, t1, ag1⟩ := q_try sx (d + 37) hs hR
          have hR1 := ctr_RC hR t1
          obtain ⟨hr, hk, hsf⟩ := x_0_rel (v := c_get H1 29) hs h2 hv (by omega) ag1 hin
          obtain ⟨H2, r2, o2, w2⟩ := q_shortL sx b t (d + 29) n (x_g (aB A) b) (aB A) hs h2 (x_g_ok hs h2) et ht2 (x_0 (aW A) b) hn hk hsf 4 1 H1 (by omega) (by omega) hR1.2.1 (vw_ag hs hv ag1).1 hr
          rw [hmin] at r2 w2
          have r2' : q_CL (q_tb sx) q_kpt (d + 39) (47, ([vr 6 110, vn b], H1)) = _ := (b_X4_shortest_0 sx (d + 38) (nI b) H1).trans r2
          refine ⟨H2, (hc H hR).trans ?_, q_RC_of hR1 (by rw [o2 1 (by omega)]) (fun a ha => o2 a (by omega)), fun a ha => by rw [o2 a (by omega), t1 a (by omega)]⟩
          rw [q_isIn sx _ 22 b _ H (by omega), hR.2.2.1 (7 + b) (by omega), decide_eq_true hin, q_cIs, decide_eq_true (show z01 true ≠ nI 0 from n0), cond_true, r1, q_cVs, r2', q_cIs]
          cases em : x_min (fun m => x_X (sNs (aB A)) (sNw (aB A)) t (x_g (aB A) b) m (x_0 (aW A) b)) 4 1 with
          | none => rfl
          | some v =>
            obtain ⟨l1, l2, l3⟩ := hlen v em
            show cond (decide (nI v.1 = nI 0)) _ _ = rI (if y < nI 0 then nI v.1 else if nI v.1 ≤ y then -4 else match v.2[y.toNatClampNeg]? with
              | none => 0
              | some y => nI (10 * y.1 + y.2)) H2
            rw [decide_eq_false (show ¬ nI v.1 = nI 0 by rw [nI_eq (by omega) (by omega)]; omega), cond_false]
            by_cases c2 : y < nI 0
            · have e1 : y = -1 := by
                rw [Int32.lt_iff_toInt_lt] at c2
                rw [Int32.le_iff_toInt_le] at c1
                rw [show (nI 0).toInt = 0 by decide] at c2
                rw [show (-1 : Int32).toInt = -1 by decide] at c1
                exact Int32.toInt_inj.mp (by rw [show (-1 : Int32).toInt = -1 by decide]; omega)
              subst e1
              have e2 : (-1 : Int32) < nI v.1 := Int32.lt_of_lt_of_le (show (-1 : Int32) < nI 0 by decide) ((nI_leI (by omega) (by omega)).mpr (Nat.zero_le _))
              rw [if_pos c2, decide_eq_true e2, cond_true]
              rfl
            · obtain ⟨j, hj, rfl⟩ := nI_of c2
              rw [if_neg c2]
              by_cases c3 : nI v.1 ≤ nI j
              · rw [if_pos c3, decide_eq_false (Int32.not_lt.mpr c3)]
                rfl
              · rw [if_neg c3, decide_eq_true (Int32.not_le.mp c3), cond_true]
                rw [nI_leI (by omega) hj] at c3
                have e1 : nI j ≠ -1 := fun k => by
                  rw [k] at c2
                  exact c2 (by decide)
                obtain ⟨z, hz⟩ : ∃ z, v.2[j]? = some z := ⟨v.2[j]'(by omega), List.getElem?_eq_getElem (by omega)⟩
                rw [decide_eq_true e1, cond_true, at_4 sx _ 111 j H2 (by omega), q_cIs, q_cl_nI (by omega), hz, w2 v em j z hz]
        · obtain ⟨H2, r2, o2⟩ := m_leastL sx (d + 35) b t (aB A) (aW A) n y hs h2 hv hn hin et ht2 4 1 H (by omega) (by omega) hR.2.1 hR.2.2.1.1
          refine ⟨H2, (hm H hR).trans ?_, q_RM_of hR hA (fun j _ => by rw [o2 165 (by omega)]) (fun j _ => by rw [o2 166 (by omega)]) (fun a k1 k2 => o2 a (by omega)), fun a ha => o2 a (by omega)⟩
          rw [m_inBed sx _ 0 b H (aB A) hR.2.1 hs (by omega) (by omega), z_inT h2, hR.2.2.1.1 (7 + b) (by omega), decide_eq_true hin, q_cIs, decide_eq_true (show z01 true ≠ nI 0 from n0), cond_true]
          exact r2
      · refine two_same hA (-2) (fun H hR => (hc H hR).trans ?_) (fun H hR => (hm H hR).trans ?_)
        · rw [q_isIn sx _ 22 b _ H (by omega), hR.2.2.1 (7 + b) (by omega), decide_eq_false hin]
          rfl
        · rw [m_inBed sx _ 0 b H (aB A) hR.2.1 hs (by omega) (by omega), z_inT h2, hR.2.2.1.1 (7 + b) (by omega), decide_eq_false hin]
          rfl
    · simp only [decide_eq_false c1, cond_false] at hc hm
      exact two_same hA (-1) (fun H hR => hc H hR) (fun H hR => hm H hR)
