/-! THE TRIED QUARRY: frost, days -/
def m_tr (H H' : QH) : Prop := (∀ a, a ≠ 166 → H' a = H a) ∧ ∀ j, j < 83 ∨ 166 ≤ j → H' 166 j = H 166 j
theorem tr_rf (H : QH) : m_tr H H := ⟨fun _ _ => rfl, fun _ _ => rfl⟩
theorem tr_tr {H H1 H2 : QH} (h1 : m_tr H H1) (h2 : m_tr H1 H2) : m_tr H H2 := ⟨fun a ha => (h2.1 a ha).trans (h1.1 a ha), fun j hj => (h2.2 j hj).trans (h1.2 j hj)⟩
theorem tr_put {H : QH} {v : SW} (hv : ∀ j, 83 ≤ j → v j = m_get H 83 j) : m_tr H (m_put H 83 v) := by
  refine ⟨fun a ha => m_put_ne H 83 v ha, fun j hj => ?_⟩
  by_cases c : j < 83
  · exact m_put_lt H 83 v c
  · unfold m_put
    rw [if_pos (by omega), hv _ (by omega)]
    unfold m_get
    rw [show 83 + (j - 83) = j by omega]
theorem tr_fr {B : SB} {H : QH} {v : SW} (hs : q_sB B) (hv : z_fr B v (m_get H 83)) : m_tr H (m_put H 83 v) := tr_put (fun j hj => hv j (by
  obtain ⟨-, -, ⟨g5, g6⟩, -⟩ := hs
  omega))
theorem tr_RM {A : SA} {H H' : QH} {n : Nat} (h : q_RM A H) (hA : q_sA n A) (ht : m_tr H H') : q_RM A H' :=
  q_RM_of h hA (fun j _ => by rw [ht.1 165 (by omega)]) (fun j hj => ht.2 j (by omega)) (fun a q1 q2 => ht.1 a (by omega))
theorem tr_mB {B : SB} {H H' : QH} (h : q_mB H B) (ht : m_tr H H') : q_mB H' B := q_mB_of h (fun a ha => ht.1 a (by omega))
def c_tr (H H' : QH) : Prop := ∀ a, a < 29 ∨ 36 ≤ a → H' a = H a
theorem ctr_put {H : QH} {v : SW} : c_tr H (c_put H 29 v) := fun a ha => c_put_out H 29 v (by omega)
theorem ctr_tr {H H1 H2 : QH} (h1 : c_tr H H1) (h2 : c_tr H1 H2) : c_tr H H2 := fun a ha => (h2 a ha).trans (h1 a ha)
theorem ctr_RC {A : SA} {H H' : QH} (h : q_RC A H) (ht : c_tr H H') : q_RC A H' := q_RC_of h (by rw [ht 1 (by omega)]) (fun a ha => ht a (by omega))
theorem ctr_rB {B : SB} {H H' : QH} (h : q_rB H B) (ht : c_tr H H') : q_rB H' B := q_rB_of h (fun a ha => ht a (by omega))
/-- answers that only the tried quarry bears -/
theorem two_try {sx : QX} {d mc mm : Nat} {as : List QV} {A : SA} {n : Nat} (hA : q_sA n A) (x : Int32) (h1 : ∀ H, q_RC A H → ∃ H', q_CL (q_tb sx) q_kpt (d + 40) (mc, (vr 8 0 :: as, H)) = rI x H' ∧ c_tr H H') (h2 : ∀ H, q_RM A H → ∃ H', q_CL (q_tb sx) q_kpt (d + 40) (mm, (vr 9 165 :: as, H)) = rI x H' ∧ m_tr H H') : q_two sx d mc mm as A n :=
  ⟨x, A, q_sA_mono hA (by omega), fun H hR => by
    obtain ⟨H', r, t⟩ := h1 H hR
    exact ⟨H', r, ctr_RC hR t, fun a ha => t a (by omega)⟩, fun H hR => by
    obtain ⟨H', r, t⟩ := h2 H hR
    exact ⟨H', r, tr_RM hR hA t, fun a ha => t.1 a (by omega)⟩⟩
theorem q_try (sx : QX) (d : Nat) {A : SA} {H : QH} (hs : q_sB (aB A)) (hR : q_RC A H) : ∃ H1, q_CL (q_tb sx) q_kpt (d + 2) (20, ([vr 5 29, vr 5 22], H)) = rV H1 ∧ c_tr H H1 ∧ q_ag (aB A) (c_get H1 29) (aW A) := by
  refine ⟨_, q_copyFrom sx d 29 22 H (by omega), ctr_put, ?_⟩
  rw [c_get_put]
  exact ag_tr (ag_ov hs _ _) hR.2.2.1
theorem m_try (sx : QX) (d : Nat) {A : SA} {H : QH} (hs : q_sB (aB A)) (hR : q_RM A H) : ∃ H1, q_CL (q_tb sx) q_kpt (d + 2) (152, ([vr 9 165], H)) = rV H1 ∧ m_tr H H1 ∧ q_ag (aB A) (m_get H1 83) (aW A) := by
  refine ⟨_, m_tries sx d H, tr_put (fun j hj => ?_), ?_⟩
  · unfold z_ov
    rw [if_neg (by omega)]
  · rw [m_get_put]
    exact ag_tr (ag_ov hs _ _) hR.2.2.1.1
/-! frost -/
theorem z_soften_ne {B : SB} {w : SW} {o j : Nat} {x : Int32} (h1 : j ≠ 1 + o) (h2 : j ≠ 7 + o) : z_soften B w o x j = w j := by
  unfold z_soften
  split
  · exact pk_un h1
  · rw [pk_un h2, pk_un h1]
theorem z_cstep_ne {B : SB} {w : SW} {o j : Nat} (h1 : j ≠ 1 + o) (h2 : j ≠ 7 + o) : z_cstep B o w j = w j := by
  unfold z_cstep
  split
  · exact z_soften_ne h1 h2
  · rfl
theorem z_cstep_of {B : SB} {v w : SW} {b : Nat} (h1 : v (1 + b) = w (1 + b)) (h2 : v (7 + b) = w (7 + b)) : z_cstep B b v (1 + b) = z_cstep B b w (1 + b) ∧ z_cstep B b v (7 + b) = z_cstep B b w (7 + b) := by
  unfold z_cstep z_soften
  rw [h1, h2]
  constructor
  · split
    · split
      · rw [pk_us, pk_us]
      · rw [pk_un (show 1 + b ≠ 7 + b by omega), pk_us, pk_un (show 1 + b ≠ 7 + b by omega), pk_us]
    · exact h1
  · split
    · split
      · rw [pk_un (by omega), pk_un (by omega), h2]
      · rw [pk_us, pk_us]
    · exact h2
theorem z_night_b {B : SB} {w : SW} {b : Nat} (hs : q_sB B) (hb : b < sNb B) : z_night B w (1 + b) = z_cstep B b w (1 + b) ∧ z_night B w (7 + b) = z_cstep B b w (7 + b) := by
  obtain ⟨⟨g1, g2⟩, -, ⟨g5, g6⟩, -⟩ := hs
  have key := z_fold_inv (fun i (v : SW) => (i ≤ b → v (1 + b) = w (1 + b) ∧ v (7 + b) = w (7 + b)) ∧ (b < i → v (1 + b) = z_cstep B b w (1 + b) ∧ v (7 + b) = z_cstep B b w (7 + b))) (sNb B) (z_cstep B) w ⟨fun _ => ⟨rfl, rfl⟩, fun h => absurd h (Nat.not_lt_zero _)⟩ (fun i v hi hv => by
    refine ⟨fun h => ?_, fun h => ?_⟩
    · obtain ⟨e1, e2⟩ := hv.1 (by omega)
      exact ⟨(z_cstep_ne (by omega) (by omega)).trans e1, (z_cstep_ne (by omega) (by omega)).trans e2⟩
    · by_cases e : i = b
      · subst e
        obtain ⟨e1, e2⟩ := hv.1 (Nat.le_refl _)
        exact z_cstep_of e1 e2
      · obtain ⟨e1, e2⟩ := hv.2 (by omega)
        exact ⟨(z_cstep_ne (by omega) (by omega)).trans e1, (z_cstep_ne (by omega) (by omega)).trans e2⟩)
  obtain ⟨k1, k2⟩ := key.2 hb
  unfold z_night z_day
  rw [if_neg (by omega), if_neg (by omega), if_neg (by omega), if_neg (by omega)]
  exact ⟨k1, k2⟩
theorem m_frostL (sx : QX) (d b t c : Nat) (B : SB) (hs : q_sB B) (hb : b < sNb B) (ht : sN B b = nI t) (ht2 : t ≤ 60) (hc : z_cold B b = nI c) (hc2 : c ≤ 18) : ∀ (f n x : Nat) (H : QH), n + f = 61 → q_mB H B → m_get H 83 (7 + b) = nI 0 → m_get H 83 (1 + b) = nI x → x < t → ∃ H', q_EV (q_tb sx) q_kpt (d + 5) 163 (28, ([(0, vr 9 165), (1, vn b), (2, vn n)], ([], H))) = rI (if c = 0 then -4 else if n + (t - x + c - 1) / c ≤ 60 then nI (n + (t - x + c - 1) / c) else -4) H' ∧ m_tr H H' := by
  have hs' := hs
  obtain ⟨⟨g1, g2⟩, -, ⟨g5, g6⟩, -⟩ := hs'
  intro f
  induction f with
  | zero =>
    intro n x H hn hB h7 h1 hx
    refine ⟨H, (b_X7_frost_28 sx (d + 4) (nI b) (nI n) H).trans ?_, tr_rf H⟩
    simp (disch := omega) only [Bool.cond_decide, nI_add, pk_mul, q_inbN, q_cl_nI, q_ltN, q_leN, q_eqN, q_ifT, q_ifF, q_cIs, q_cVs, decide_false, decide_true, Bool.not_false, Bool.not_true, cond_true, cond_false, ne_eq, not_false_eq_true, not_true_eq_false, if_true, if_false]
    by_cases c0 : c = 0
    · rw [if_pos c0]
    · rw [if_neg c0, if_neg (fun q => by have h9 := Nat.le_trans (Nat.le_add_right n _) q; omega)]
  | succ f ih =>
    intro n x H hn hB h7 h1 hx
    have hb9 := b_X7_frost_28 sx (d + 4) (nI b) (nI n) H
    rw [m_inBed sx _ 83 b H B hB hs (by omega) (by omega), z_inT hb, h7] at hb9
    have run : q_EV (q_tb sx) q_kpt (d + 5) 163 (28, ([(0, vr 9 165), (1, vn b), (2, vn n)], ([], H))) = q_EV (q_tb sx) q_kpt (d + 5) 163 (28, ([(0, vr 9 165), (1, vn b), (2, vn (n + 1))], ([], m_put H 83 (z_night B (m_get H 83))))) := by
      refine hb9.trans ?_
      simp (disch := omega) only [Bool.cond_decide, nI_add, pk_mul, q_inbN, q_cl_nI, q_ltN, q_leN, q_eqN, q_ifT, q_ifF, q_cIs, q_cVs, decide_false, decide_true, Bool.not_false, Bool.not_true, cond_true, cond_false, ne_eq, not_false_eq_true, not_true_eq_false, if_true, if_false, z01, m_passes sx d 83 H B hB hs (by omega)]
      rfl
    obtain ⟨k1, k2⟩ := z_night_b (w := m_get H 83) hs hb
    have tr1 := tr_fr (H := H) hs (fr_night (w := m_get H 83) hs)
    have e1 : m_get (m_put H 83 (z_night B (m_get H 83))) 83 = z_night B (m_get H 83) := m_get_put _ _ _
    unfold z_cstep z_soften at k1 k2
    rw [if_pos h7, h1, hc, ht, nI_add] at k1 k2
    by_cases q : x + c < t
    · have q' : nI (x + c) < nI t := by rw [nI_ltI (by omega) (by omega)]; exact q
      rw [if_pos q'] at k1 k2
      rw [pk_us] at k1
      rw [pk_un (by omega)] at k2
      obtain ⟨H', r, tr2⟩ := ih (n + 1) (x + c) (m_put H 83 (z_night B (m_get H 83))) (by omega) (tr_mB hB tr1) (by rw [e1, k2, h7]) (by rw [e1, k1]) q
      refine ⟨H', run.trans (r.trans ?_), tr_tr tr1 tr2⟩
      by_cases c0 : c = 0
      · rw [if_pos c0, if_pos c0]
      · rw [if_neg c0, if_neg c0]
        have ed : (t - x + c - 1) / c = (t - (x + c) + c - 1) / c + 1 := by
          rw [Nat.div_eq_sub_div (show 0 < c by omega) (show c ≤ t - x + c - 1 by omega)]
          rw [show t - x + c - 1 - c = t - (x + c) + c - 1 by omega]
        rw [ed, show n + 1 + (t - (x + c) + c - 1) / c = n + ((t - (x + c) + c - 1) / c + 1) by omega]
    · have q' : ¬ nI (x + c) < nI t := by rw [nI_ltI (by omega) (by omega)]; exact q
      rw [if_neg q'] at k2
      rw [pk_us] at k2
      have c0 : c ≠ 0 := by omega
      have ed : (t - x + c - 1) / c = 1 := by
        rw [Nat.div_eq_sub_div (show 0 < c by omega) (show c ≤ t - x + c - 1 by omega), Nat.div_eq_of_lt (by omega)]
      refine ⟨m_put H 83 (z_night B (m_get H 83)), run.trans ((b_X7_frost_28 sx (d + 4) (nI b) (nI (n + 1)) _).trans ?_), tr1⟩
      rw [m_inBed sx _ 83 b _ B (tr_mB hB tr1) hs (by omega) (by omega), z_inT hb, e1, k2, if_neg c0, ed]
      by_cases q6 : n + 1 ≤ 60
      · rw [if_pos q6]
        simp (disch := omega) only [Bool.cond_decide, nI_add, pk_mul, q_inbN, q_cl_nI, q_ltN, q_leN, q_eqN, q_ifT, q_ifF, q_cIs, q_cVs, decide_false, decide_true, Bool.not_false, Bool.not_true, cond_true, cond_false, ne_eq, not_false_eq_true, not_true_eq_false, if_true, if_false, z01]
      · rw [if_neg q6]
        simp (disch := omega) only [Bool.cond_decide, nI_add, pk_mul, q_inbN, q_cl_nI, q_ltN, q_leN, q_eqN, q_ifT, q_ifF, q_cIs, q_cVs, decide_false, decide_true, Bool.not_false, Bool.not_true, cond_true, cond_false, ne_eq, not_false_eq_true, not_true_eq_false, if_true, if_false, z01]
theorem two_frost (sx : QX) (d n : Nat) (A : SA) (hA : q_sA n A) (x : Int32) : q_two sx d 75 163 [vi x] A n := by
  have hA' := hA
  obtain ⟨-, hs, hv, -⟩ := hA'
  have hs' := hs
  obtain ⟨⟨g1, g2⟩, ⟨g3, g4⟩, ⟨g5, g6⟩, gK, -, -, gC⟩ := hs'
  rcases q_inb_cases x (sNb (aB A)) (by omega) with ⟨e, -⟩ | ⟨b, h2, rfl⟩
  · refine two_same hA (-1) (fun H hR => (b_X6_frost_0 sx (d + 39) x H).trans ?_) (fun H hR => (b_X7_frost_0 sx (d + 39) x H).trans ?_)
    · rw [q_isB sx _ _ x H hR.2.1.1 (by omega), e]; rfl
    · rw [m_isB sx _ _ x H hR.2.1.1 (by omega) (by omega), e]; rfl
  · by_cases hin : aW A (7 + b) = nI 0
    · obtain ⟨u, eu, hu, hlt⟩ := (hv.2.1 b h2).2 hin
      obtain ⟨-, t, ht1, ht2, et⟩ := gK b h2
      have hcc : ∃ c, c ≤ 18 ∧ z_cold (aB A) b = nI c := by
        obtain ⟨c, hc, ec⟩ := gC
        unfold z_cold
        rw [ec]
        split
        · exact ⟨2 * c, by omega, pk_mul 2 c⟩
        · exact ⟨c, by omega, rfl⟩
      obtain ⟨c, hc, ec⟩ := hcc
      rw [et, nI_ltI (by omega) (by omega)] at hlt
      refine two_try hA (if c = 0 then -4 else if 0 + (t - u + c - 1) / c ≤ 60 then nI (0 + (t - u + c - 1) / c) else -4) (fun H hR => ⟨H, (b_X6_frost_0 sx (d + 39) _ H).trans ?_, fun a _ => rfl⟩) (fun H hR => ?_)
      · rw [q_isB sx _ _ _ H hR.2.1.1 (by omega)]
        simp (disch := omega) only [Bool.cond_decide, nI_add, pk_mul, q_inbN, q_cl_nI, q_ltN, q_leN, q_eqN, q_ifT, q_ifF, q_cIs, q_cVs, decide_false, decide_true, Bool.not_false, Bool.not_true, cond_true, cond_false, ne_eq, not_false_eq_true, not_true_eq_false, if_true, if_false, z01]
        rw [q_isIn sx _ 22 b _ H (by omega), hR.2.2.1 (7 + b) (by omega), decide_eq_true hin]
        simp (disch := omega) only [Bool.cond_decide, nI_add, pk_mul, q_inbN, q_cl_nI, q_ltN, q_leN, q_eqN, q_ifT, q_ifF, q_cIs, q_cVs, decide_false, decide_true, Bool.not_false, Bool.not_true, cond_true, cond_false, ne_eq, not_false_eq_true, not_true_eq_false, if_true, if_false, z01]
        rw [q_coldFor sx _ b H (aB A) hR.2.1 hs h2, ec, q_cIs, q_lackOf sx _ 22 b H (aB A) hR.2.1 hs h2, hR.2.2.1 (1 + b) (by omega), eu, et, pk_sub (by omega), q_cIs]
        by_cases c0 : c = 0
        · subst c0
          rw [if_neg (show ¬ nI 0 < nI 0 by decide), if_pos rfl]
        · rw [if_neg c0, if_pos (show nI 0 < nI c by rw [nI_ltI (by omega) (by omega)]; omega), nI_add, pk_sub (by omega), pk_div (by omega) (by omega) (by omega), Nat.zero_add]
          have hd : (t - u + c - 1) / c ≤ t - u + c - 1 := Nat.div_le_self _ _
          have e3 : ¬ (nI c = nI 0) := by rw [nI_eq (by omega) (by omega)]; exact c0
          rw [decide_eq_false e3]
          by_cases q6 : (t - u + c - 1) / c ≤ 60
          · rw [if_pos q6]
            simp (disch := omega) only [Bool.cond_decide, nI_add, pk_mul, q_inbN, q_cl_nI, q_ltN, q_leN, q_eqN, q_ifT, q_ifF, q_cIs, q_cVs, decide_false, decide_true, Bool.not_false, Bool.not_true, cond_true, cond_false, ne_eq, not_false_eq_true, not_true_eq_false, if_true, if_false]
          · rw [if_neg q6]
            simp (disch := omega) only [Bool.cond_decide, nI_add, pk_mul, q_inbN, q_cl_nI, q_ltN, q_leN, q_eqN, q_ifT, q_ifF, q_cIs, q_cVs, decide_false, decide_true, Bool.not_false, Bool.not_true, cond_true, cond_false, ne_eq, not_false_eq_true, not_true_eq_false, if_true, if_false]
      · obtain ⟨H1, r1, t1, ag1⟩ := m_try sx (d + 37) hs hR
        obtain ⟨H2, r2, t2⟩ := m_frostL sx (d + 35) b t c (aB A) hs h2 et (by omega) ec hc 61 0 u H1 (by omega) (tr_mB hR.2.1 t1) ((ag1 (7 + b) (by omega)).trans hin) ((ag1 (1 + b) (by omega)).trans eu) hlt
        refine ⟨H2, (b_X7_frost_0 sx (d + 39) _ H).trans ?_, tr_tr t1 t2⟩
        rw [m_isB sx _ _ _ H hR.2.1.1 (by omega) (by omega)]
        simp (disch := omega) only [Bool.cond_decide, nI_add, pk_mul, q_inbN, q_cl_nI, q_ltN, q_leN, q_eqN, q_ifT, q_ifF, q_cIs, q_cVs, decide_false, decide_true, Bool.not_false, Bool.not_true, cond_true, cond_false, ne_eq, not_false_eq_true, not_true_eq_false, if_true, if_false, z01]
        rw [m_inBed sx _ 0 b H (aB A) hR.2.1 hs (by omega) (by omega), z_inT h2, hR.2.2.1.1 (7 + b) (by omega), decide_eq_true hin]
        simp (disch := omega) only [Bool.cond_decide, nI_add, pk_mul, q_inbN, q_cl_nI, q_ltN, q_leN, q_eqN, q_ifT, q_ifF, q_cIs, q_cVs, decide_false, decide_true, Bool.not_false, Bool.not_true, cond_true, cond_false, ne_eq, not_false_eq_true, not_true_eq_false, if_true, if_false, z01]
        rw [r1, q_cVs]
        exact r2
    · refine two_same hA (-2) (fun H hR => (b_X6_frost_0 sx (d + 39) _ H).trans ?_) (fun H hR => (b_X7_frost_0 sx (d + 39) _ H).trans ?_)
      · rw [q_isB sx _ _ _ H hR.2.1.1 (by omega)]
        simp (disch := omega) only [Bool.cond_decide, nI_add, pk_mul, q_inbN, q_cl_nI, q_ltN, q_leN, q_eqN, q_ifT, q_ifF, q_cIs, q_cVs, decide_false, decide_true, Bool.not_false, Bool.not_true, cond_true, cond_false, ne_eq, not_false_eq_true, not_true_eq_false, if_true, if_false, z01]
        rw [q_isIn sx _ 22 b _ H (by omega), hR.2.2.1 (7 + b) (by omega), decide_eq_false hin]
        rfl
      · rw [m_isB sx _ _ _ H hR.2.1.1 (by omega) (by omega)]
        simp (disch := omega) only [Bool.cond_decide, nI_add, pk_mul, q_inbN, q_cl_nI, q_ltN, q_leN, q_eqN, q_ifT, q_ifF, q_cIs, q_cVs, decide_false, decide_true, Bool.not_false, Bool.not_true, cond_true, cond_false, ne_eq, not_false_eq_true, not_true_eq_false, if_true, if_false, z01]
        rw [m_inBed sx _ 0 b H (aB A) hR.2.1 hs (by omega) (by omega), z_inT h2, hR.2.2.1.1 (7 + b) (by omega), decide_eq_false hin]
        rfl
/-! days -/
theorem z_says_far {B : SB} {w : SW} {s b k : Nat} (hs : q_sB B) (hb : b < sNb B) : z_says B w s b k (79 + s) = w (79 + s) - nI 1 := by
  obtain ⟨⟨g1, g2⟩, -⟩ := hs
  unfold z_says
  rw [z_soften_ne (by omega) (by omega)]
  unfold z_hear
  rw [if_neg (by omega), pk_us]
theorem vw_askW {B : SB} {s b : Nat} (hs : q_sB B) (h1 : s < sNs B) (hb : b < sNb B) : ∀ (m N : Nat) (w : SW), q_vw B N w → N + m < 1000000 → w (79 + s) = nI m → q_vw B (N + m) (z_askW B s b m w) ∧ z_fr B (z_askW B s b m w) w := by
  intro m
  induction m with
  | zero => intro N w h hN e; exact ⟨h, fr_rf B w⟩
  | succ m ih =>
    intro N w h hN e
    unfold z_askW
    by_cases c : w (7 + b) = nI 0
    · rw [if_pos c]
      rcases z_bword_in B w s b with e2 | ⟨k, hk, e2⟩
      · rw [e2]
        exact ⟨vw_mono h (by omega), fr_rf B w⟩
      · rw [e2]
        have v1 := vw_says hs h (by omega) h1 hb hk c (by rw [e, nI_ltI (by omega) (by omega)]; omega)
        obtain ⟨k1, k2⟩ := ih (N + 1) (z_says B w s b k) v1 (by omega) (by rw [z_says_far hs hb, e, pk_sub (by omega)]; rfl)
        exact ⟨by rw [show N + (m + 1) = N + 1 + m by omega]; exact k1, fr_tr k2 (fr_says hs h1 hb)⟩
    · rw [if_neg c]
      exact ⟨vw_mono h (by omega), fr_rf B w⟩
def z_askD (B : SB) (s b : Nat) (w : SW) : SW := z_askW B s b (w (79 + s)).toNatClampNeg w
def z_days (B : SB) (s b : Nat) : Nat → Nat → SW → Int32
  | 0, _, _ => -4
  | f + 1, n, w => if z_askD B s b w (7 + b) = nI 0 then z_days B s b f (n + 1) (z_night B (z_askD B s b w)) else nI n
theorem vw_askD {B : SB} {s b N : Nat} {w : SW} (hs : q_sB B) (h1 : s < sNs B) (hb : b < sNb B) (h : q_vw B N w) (hN : N < 900000) : q_vw B (N + 9) (z_askD B s b w) ∧ z_fr B (z_askD B s b w) w := by
  obtain ⟨m, hm, em⟩ := h.2.2 s h1
  unfold z_askD
  rw [em, q_cl_nI (by omega)]
  obtain ⟨k1, k2⟩ := vw_askW hs h1 hb m N w h (by omega) em
  exact ⟨vw_mono k1 (by omega), k2⟩
theorem ag_askD {B : SB} {s b : Nat} {v w : SW} (hs : q_sB B) (h1 : s < sNs B) (hb : b < sNb B) (h : q_ag B v w) : q_ag B (z_askD B s b v) (z_askD B s b w) := by
  unfold z_askD
  rw [h (79 + s) (by omega)]
  exact ag_askW hs h1 hb _ _ _ h
theorem q_askOne (sx : QX) (d p s b N : Nat) (H : QH) (B : SB) (hB : q_rB H B) (hs : q_sB B) (hp : 13 ≤ p) (hv : q_vw B N (c_get H p)) (hN : N < 900000) (h1 : s < sNs B) (h2 : b < sNb B) : q_CL (q_tb sx) q_kpt (d + 5) (40, ([vr 5 p, vn b, vn s], H)) = rV (c_put H p (z_askD B s b (c_get H p))) := by
  obtain ⟨m, hm, em⟩ := hv.2.2 s h1
  have hs' := hs
  obtain ⟨-, -, ⟨g5, g6⟩, -⟩ := hs'
  refine (b_X3_askOne_0 sx (d + 4) p (nI b) (nI s) H).trans ?_
  simp (disch := omega) only [Bool.cond_decide, nI_add, pk_mul, q_inbN, q_cl_nI, q_ltN, q_leN, q_eqN, q_ifT, q_ifF, q_cIs, q_cVs, decide_false, decide_true, Bool.not_false, Bool.not_true, cond_true, cond_false, ne_eq, not_false_eq_true, not_true_eq_false, if_true, if_false, at_4, c_r4 H p, em]
  unfold z_askD
  rw [em, q_cl_nI (by omega)]
  exact q_askOne_loop sx d p s b B hs hp h1 h2 m H N hB hv.1 (by omega)
theorem q_daysL (sx : QX) (d b s : Nat) (B : SB) (hs : q_sB B) (h1 : s < sNs B) (h2 : b < sNb B) : ∀ (f n N : Nat) (w : SW) (H : QH), n + f = 31 → N + 9 * f < 900000 → q_vw B N w → q_rB H B → ((n = 0 ∧ q_ag B (c_get H 29) w) ∨ (0 < n ∧ q_ag B (z_day 4 (H 9) (z_fold (sNb B) (z_cstep B) (c_get H 29))) w)) → ∃ H', q_EV (q_tb sx) q_kpt (d + 6) 74 (46, ([(0, vr 8 0), (1, vn b), (2, vn s), (3, vn n)], ([], H))) = rI (z_days B s b f n w) H' ∧ c_tr H H' := by
  have hs' := hs
  obtain ⟨⟨g1, g2⟩, -, ⟨g5, g6⟩, -⟩ := hs'
  intro f
  induction f with
  | zero =>
    intro n N w H hn hN hv hB hp
    refine ⟨H, (b_X6_days_46 sx (d + 5) (nI b) (nI s) (nI n) H).trans ?_, fun a _ => rfl⟩
    simp (disch := omega) only [Bool.cond_decide, nI_add, pk_mul, q_inbN, q_cl_nI, q_ltN, q_leN, q_eqN, q_ifT, q_ifF, q_cIs, q_cVs, decide_false, decide_true, Bool.not_false, Bool.not_true, cond_true, cond_false, ne_eq, not_false_eq_true, not_true_eq_false, if_true, if_false]
    rfl
  | succ f ih =>
    intro n N w H hn hN hv hB hp
    have asked : ∀ G, q_rB G B → q_ag B (c_get G 29) w → c_tr H G → (q_EV (q_tb sx) q_kpt (d + 6) 74 (46, ([(0, vr 8 0), (1, vn b), (2, vn s), (3, vn n)], ([], H))) = q_cV (q_CL (q_tb sx) q_kpt (d + 5) (40, ([vr 5 29, vn b, vn s], G))) (fun H3 => q_cI (q_CL (q_tb sx) q_kpt (d + 5) (21, ([vr 5 29, vn b, vn 0], H3))) (fun y2 H2 => cond (decide (y2 ≠ nI 0)) (q_EV (q_tb sx) q_kpt (d + 6) 74 (46, ([(0, vr 8 0), (1, vn b), (2, vn s), (3, vn (n + 1))], ([], H2)))) (rI (nI n) H2)))) → ∃ H', q_EV (q_tb sx) q_kpt (d + 6) 74 (46, ([(0, vr 8 0), (1, vn b), (2, vn s), (3, vn n)], ([], H))) = rI (z_days B s b (f + 1) n w) H' ∧ c_tr H H' := by
      intro G hG ha ht he
      have av : q_vw B N (c_get G 29) := vw_ag hs hv ha
      have ad := ag_askD hs h1 h2 ha
      rw [q_askOne sx d 29 s b N G B hG hs (by omega) av (by omega) h1 h2, q_cVs, q_isIn sx _ 29 b _ _ (by omega), q_cIs, c_get_put, ad (7 + b) (by omega)] at he
      rw [he]
      show ∃ H', _ = rI (if z_askD B s b w (7 + b) = nI 0 then z_days B s b f (n + 1) (z_night B (z_askD B s b w)) else nI n) H' ∧ c_tr H H'
      by_cases c : z_askD B s b w (7 + b) = nI 0
      · rw [if_pos c, decide_eq_true c]
        have tG : c_tr G (c_put G 29 (z_askD B s b (c_get G 29))) := ctr_put
        obtain ⟨H', r, t⟩ := ih (n + 1) (N + 9) (z_night B (z_askD B s b w)) (c_put G 29 (z_askD B s b (c_get G 29))) (by omega) (by omega) (vw_night hs (vw_askD hs h1 h2 hv (by omega)).1) (ctr_rB hG tG) (Or.inr ⟨by omega, by
          rw [c_get_put, c_put_out G _ _ (by omega)]
          exact ag_night hs ad hG.2.2.2.2.2.2.2.2.1⟩)
        exact ⟨H', r, ctr_tr ht (ctr_tr tG t)⟩
      · rw [if_neg c, decide_eq_false c]
        exact ⟨_, rfl, ctr_tr ht ctr_put⟩
    have hb := b_X6_days_46 sx (d + 5) (nI b) (nI s) (nI n) H
    rcases hp with ⟨h0, ha⟩ | ⟨h0, ha⟩
    · subst h0
      exact asked H hB ha (fun a _ => rfl) (hb.trans (by simp (disch := omega) only [Bool.cond_decide, nI_add, pk_mul, q_inbN, q_cl_nI, q_ltN, q_leN, q_eqN, q_ifT, q_ifF, q_cIs, q_cVs, decide_false, decide_true, Bool.not_false, Bool.not_true, cond_true, cond_false, ne_eq, not_false_eq_true, not_true_eq_false, if_true, if_false]))
    · refine asked (c_put H 29 (z_day 4 (H 9) (z_fold (sNb B) (z_cstep B) (c_get H 29)))) (q_rB_put hB (by omega)) (by rw [c_get_put]; exact ha) ctr_put (hb.trans ?_)
      rw [q_night sx (d + 2) 29 H B hB hs (by omega)]
      simp (disch := omega) only [Bool.cond_decide, nI_add, pk_mul, q_inbN, q_cl_nI, q_ltN, q_leN, q_eqN, q_ifT, q_ifF, q_cIs, q_cVs, decide_false, decide_true, Bool.not_false, Bool.not_true, cond_true, cond_false, ne_eq, not_false_eq_true, not_true_eq_false, if_true, if_false]
theorem m_askL (sx : QX) (d b s n : Nat) (B : SB) (hs : q_sB B) (h1 : s < sNs B) (h2 : b < sNb B) : ∀ (m : Nat) (H : QH), m < 1000 → q_mB H B → m_get H 83 (79 + s) = nI m → q_EV (q_tb sx) q_kpt (d + 6) 162 (50, ([(0, vr 9 165), (1, vn b), (2, vn s), (3, vn n), (4, vi (z_codeW (z_bword B (m_get H 83) s b)))], ([], H))) = q_cI (q_CL (q_tb sx) q_kpt (d + 5) (138, ([vr 9 165, vn 83, vn b], m_put H 83 (z_askW B s b m (m_get H 83))))) (fun y2 H2 => cond (decide (y2 ≠ nI 0)) (q_cV (q_CL (q_tb sx) q_kpt (d + 5) (142, ([vr 9 165, vn 83], H2))) (fun H3 => q_EV (q_tb sx) q_kpt (d + 6) 162 (36, ([(0, vr 9 165), (1, vn b), (2, vn s), (3, vn (n + 1))], ([], H3))))) (rI (nI n) H2)) := by
  have hs' := hs
  obtain ⟨⟨g1, g2⟩, ⟨g3, g4⟩, ⟨g5, g6⟩, -⟩ := hs'
  intro m
  induction m with
  | zero =>
    intro H hm hB e
    refine (b_X7_days_50 sx (d + 5) (nI b) (nI s) (nI n) _ H).trans ?_
    rw [m_canSay sx _ 83 s b H B hB hs (by omega) h1 h2, e, q_cIs]
    rw [decide_eq_false (show ¬ nI 0 < nI 0 by decide), Bool.false_and, show z_askW B s b 0 (m_get H 83) = m_get H 83 from rfl, m_put_get, nI_add]
    rfl
  | succ m ih =>
    intro H hm hB e
    refine (b_X7_days_50 sx (d + 5) (nI b) (nI s) (nI n) _ H).trans ?_
    rw [m_canSay sx _ 83 s b H B hB hs (by omega) h1 h2, e, q_cIs]
    rw [decide_eq_true (show nI 0 < nI (m + 1) by rw [nI_ltI (by omega) (by omega)]; omega), Bool.true_and, nI_add]
    unfold z_askW
    by_cases c : m_get H 83 (7 + b) = nI 0
    · rw [if_pos c, decide_eq_true c]
      rcases z_bword_in B (m_get H 83) s b with e2 | ⟨k, hk, e2⟩
      · rw [e2]
        show cond _ _ _ = _
        rw [m_put_get]
        rfl
      · rw [e2]
        show cond (decide (z01 true = nI 0)) _ (cond (decide (nI k = -4)) _ _) = _
        rw [decide_eq_false (show ¬ z01 true = nI 0 by decide), cond_false, decide_eq_false (z_codeW_m4 (by omega)), cond_false, show z_codeW (some k) = nI k from rfl, m_says sx (d + 1) 83 s b k H B hB hs (by omega) h1 h2 hk c, q_cVs, m_bestWord sx _ s b _ B (q_mB_put hB) hs h1 h2, q_cIs]
        refine (ih _ (by omega) (q_mB_put hB) (by rw [m_get_put, z_says_far hs h2, e, pk_sub (by omega)]; rfl)).trans ?_
        rw [m_get_put, m_put_put]
    · rw [if_neg c, decide_eq_false c, m_put_get]
      rfl
theorem m_daysL (sx : QX) (d b s : Nat) (B : SB) (hs : q_sB B) (h1 : s < sNs B) (h2 : b < sNb B) : ∀ (f n N : Nat) (w : SW) (H : QH), n + f = 31 → N + 9 * f < 900000 → q_vw B N w → q_mB H B → q_ag B (m_get H 83) w → ∃ H', q_EV (q_tb sx) q_kpt (d + 6) 162 (36, ([(0, vr 9 165), (1, vn b), (2, vn s), (3, vn n)], ([], H))) = rI (z_days B s b f n w) H' ∧ m_tr H H' := by
  have hs' := hs
  obtain ⟨⟨g1, g2⟩, -, ⟨g5, g6⟩, -⟩ := hs'
  intro f
  induction f with
  | zero =>
    intro n N w H hn hN hv hB ha
    refine ⟨H, (b_X7_days_36 sx (d + 5) (nI b) (nI s) (nI n) H).trans ?_, tr_rf H⟩
    simp (disch := omega) only [Bool.cond_decide, nI_add, pk_mul, q_inbN, q_cl_nI, q_ltN, q_leN, q_eqN, q_ifT, q_ifF, q_cIs, q_cVs, decide_false, decide_true, Bool.not_false, Bool.not_true, cond_true, cond_false, ne_eq, not_false_eq_true, not_true_eq_false, if_true, if_false]
    rfl
  | succ f ih =>
    intro n N w H hn hN hv hB ha
    obtain ⟨m, hm, em⟩ := hv.2.2 s h1
    have em2 : m_get H 83 (79 + s) = nI m := (ha (79 + s) (by omega)).trans em
    have av : q_vw B N (m_get H 83) := vw_ag hs hv ha
    have ad := ag_askD hs h1 h2 ha
    have ed : z_askW B s b m (m_get H 83) = z_askD B s b (m_get H 83) := by
      unfold z_askD
      rw [em2, q_cl_nI (by omega)]
    have tr1 := tr_fr (H := H) hs (vw_askD hs h1 h2 av (by omega)).2
    have run : q_EV (q_tb sx) q_kpt (d + 6) 162 (36, ([(0, vr 9 165), (1, vn b), (2, vn s), (3, vn n)], ([], H))) = q_cI (rI (z01 (decide (z_askD B s b w (7 + b) = nI 0))) (m_put H 83 (z_askD B s b (m_get H 83)))) (fun y2 H2 => cond (decide (y2 ≠ nI 0)) (q_cV (q_CL (q_tb sx) q_kpt (d + 5) (142, ([vr 9 165, vn 83], H2))) (fun H3 => q_EV (q_tb sx) q_kpt (d + 6) 162 (36, ([(0, vr 9 165), (1, vn b), (2, vn s), (3, vn (n + 1))], ([], H3))))) (rI (nI n) H2)) := by
      refine (b_X7_days_36 sx (d + 5) (nI b) (nI s) (nI n) H).trans ?_
      rw [m_bestWord sx _ s b H B hB hs h1 h2]
      simp (disch := omega) only [Bool.cond_decide, nI_add, pk_mul, q_inbN, q_cl_nI, q_ltN, q_leN, q_eqN, q_ifT, q_ifF, q_cIs, q_cVs, decide_false, decide_true, Bool.not_false, Bool.not_true, cond_true, cond_false, ne_eq, not_false_eq_true, not_true_eq_false, if_true, if_false]
      refine (m_askL sx d b s n B hs h1 h2 m H (by omega) hB em2).trans ?_
      rw [ed, m_inBed sx _ 83 b _ B (q_mB_put hB) hs (by omega) (by omega), z_inT h2, m_get_put, ad (7 + b) (by omega)]
      simp only [q_cIs, Bool.cond_decide, ne_eq]
    rw [run]
    show ∃ H', _ = rI (if z_askD B s b w (7 + b) = nI 0 then z_days B s b f (n + 1) (z_night B (z_askD B s b w)) else nI n) H' ∧ m_tr H H'
    by_cases c : z_askD B s b w (7 + b) = nI 0
    · rw [if_pos c, decide_eq_true c, q_cIs]
      have tr2 := tr_fr (H := m_put H 83 (z_askD B s b (m_get H 83))) hs (fr_night (w := m_get (m_put H 83 (z_askD B s b (m_get H 83))) 83) hs)
      obtain ⟨H', r, t⟩ := ih (n + 1) (N + 9) (z_night B (z_askD B s b w)) (m_put (m_put H 83 (z_askD B s b (m_get H 83))) 83 (z_night B (m_get (m_put H 83 (z_askD B s b (m_get H 83))) 83))) (by omega) (by omega) (vw_night hs (vw_askD hs h1 h2 hv (by omega)).1) (tr_mB (tr_mB hB tr1) tr2) (by
        rw [m_get_put, m_get_put]
        exact ag_nightm hs ad)
      refine ⟨H', ?_, tr_tr tr1 (tr_tr tr2 t)⟩
      show q_cV (q_CL (q_tb sx) q_kpt (d + 5) (142, ([vr 9 165, vn 83], _))) _ = _
      rw [m_passes sx (d + 1) 83 _ B (q_mB_put hB) hs (by omega), q_cVs]
      exact r
    · rw [if_neg c, decide_eq_false c, q_cIs]
      exact ⟨_, rfl, tr1⟩
theorem two_days (sx : QX) (d n : Nat) (A : SA) (hA : q_sA n A) (hn : n < 800000) (x y : Int32) : q_two sx d 74 162 [vi x, vi y] A n := by
  have hA' := hA
  obtain ⟨-, hs, hv, -⟩ := hA'
  have hs' := hs
  obtain ⟨⟨g1, g2⟩, ⟨g3, g4⟩, ⟨g5, g6⟩, -⟩ := hs'
  rcases q_inb_cases x (sNb (aB A)) (by omega) with ⟨e, -⟩ | ⟨b, h2, rfl⟩
  · refine two_same hA (-1) (fun H hR => (b_X6_days_0 sx (d + 39) x y H).trans ?_) (fun H hR => (b_X7_days_0 sx (d + 39) x y H).trans ?_)
    · rw [q_isB sx _ _ x H hR.2.1.1 (by omega), e]; rfl
    · rw [m_isB sx _ _ x H hR.2.1.1 (by omega) (by omega), e]; rfl
  · rcases q_inb_cases y (sNs (aB A)) (by omega) with ⟨e, -⟩ | ⟨s, h1, rfl⟩
    · refine two_same hA (-1) (fun H hR => (b_X6_days_0 sx (d + 39) _ y H).trans ?_) (fun H hR => (b_X7_days_0 sx (d + 39) _ y H).trans ?_)
      · rw [q_isB sx _ _ _ H hR.2.1.1 (by omega)]
        simp (disch := omega) only [Bool.cond_decide, nI_add, pk_mul, q_inbN, q_cl_nI, q_ltN, q_leN, q_eqN, q_ifT, q_ifF, q_cIs, q_cVs, decide_false, decide_true, Bool.not_false, Bool.not_true, cond_true, cond_false, ne_eq, not_false_eq_true, not_true_eq_false, if_true, if_false, z01]
        rw [q_isS sx _ _ y H hR.2.1.2.2.1 (by omega), e]; rfl
      · rw [m_isB sx _ _ _ H hR.2.1.1 (by omega) (by omega)]
        simp (disch := omega) only [Bool.cond_decide, nI_add, pk_mul, q_inbN, q_cl_nI, q_ltN, q_leN, q_eqN, q_ifT, q_ifF, q_cIs, q_cVs, decide_false, decide_true, Bool.not_false, Bool.not_true, cond_true, cond_false, ne_eq, not_false_eq_true, not_true_eq_false, if_true, if_false, z01]
        rw [m_isS sx _ _ y H hR.2.1.2.2.1 (by omega) (by omega), e]; rfl
    · by_cases hin : aW A (7 + b) = nI 0
      · refine two_try hA (z_days (aB A) s b 31 0 (aW A)) (fun H hR => ?_) (fun H hR => ?_)
        · obtain ⟨H1, r1, t1, ag1⟩ := q_try sx (d + 37) hs hR
          obtain ⟨H2, r2, t2⟩ := q_daysL sx (d + 34) b s (aB A) hs h1 h2 31 0 n (aW A) H1 (by omega) (by omega) hv (ctr_rB hR.2.1 t1) (Or.inl ⟨rfl, ag1⟩)
          refine ⟨H2, (b_X6_days_0 sx (d + 39) _ _ H).trans ?_, ctr_tr t1 t2⟩
          rw [q_isB sx _ _ _ H hR.2.1.1 (by omega)]
          simp (disch := omega) only [Bool.cond_decide, nI_add, pk_mul, q_inbN, q_cl_nI, q_ltN, q_leN, q_eqN, q_ifT, q_ifF, q_cIs, q_cVs, decide_false, decide_true, Bool.not_false, Bool.not_true, cond_true, cond_false, ne_eq, not_false_eq_true, not_true_eq_false, if_true, if_false, z01]
          rw [q_isS sx _ _ _ H hR.2.1.2.2.1 (by omega)]
          simp (disch := omega) only [Bool.cond_decide, nI_add, pk_mul, q_inbN, q_cl_nI, q_ltN, q_leN, q_eqN, q_ifT, q_ifF, q_cIs, q_cVs, decide_false, decide_true, Bool.not_false, Bool.not_true, cond_true, cond_false, ne_eq, not_false_eq_true, not_true_eq_false, if_true, if_false, z01]
          rw [q_isIn sx _ 22 b _ H (by omega), hR.2.2.1 (7 + b) (by omega), decide_eq_true hin]
          simp (disch := omega) only [Bool.cond_decide, nI_add, pk_mul, q_inbN, q_cl_nI, q_ltN, q_leN, q_eqN, q_ifT, q_ifF, q_cIs, q_cVs, decide_false, decide_true, Bool.not_false, Bool.not_true, cond_true, cond_false, ne_eq, not_false_eq_true, not_true_eq_false, if_true, if_false, z01]
          rw [r1, q_cVs]
          exact r2
        · obtain ⟨H1, r1, t1, ag1⟩ := m_try sx (d + 37) hs hR
          obtain ⟨H2, r2, t2⟩ := m_daysL sx (d + 34) b s (aB A) hs h1 h2 31 0 n (aW A) H1 (by omega) (by omega) hv (tr_mB hR.2.1 t1) ag1
          refine ⟨H2, (b_X7_days_0 sx (d + 39) _ _ H).trans ?_, tr_tr t1 t2⟩
          rw [m_isB sx _ _ _ H hR.2.1.1 (by omega) (by omega)]
          simp (disch := omega) only [Bool.cond_decide, nI_add, pk_mul, q_inbN, q_cl_nI, q_ltN, q_leN, q_eqN, q_ifT, q_ifF, q_cIs, q_cVs, decide_false, decide_true, Bool.not_false, Bool.not_true, cond_true, cond_false, ne_eq, not_false_eq_true, not_true_eq_false, if_true, if_false, z01]
          rw [m_isS sx _ _ _ H hR.2.1.2.2.1 (by omega) (by omega)]
          simp (disch := omega) only [Bool.cond_decide, nI_add, pk_mul, q_inbN, q_cl_nI, q_ltN, q_leN, q_eqN, q_ifT, q_ifF, q_cIs, q_cVs, decide_false, decide_true, Bool.not_false, Bool.not_true, cond_true, cond_false, ne_eq, not_false_eq_true, not_true_eq_false, if_true, if_false, z01]
          rw [m_inBed sx _ 0 b H (aB A) hR.2.1 hs (by omega) (by omega), z_inT h2, hR.2.2.1.1 (7 + b) (by omega), decide_eq_true hin]
          simp (disch := omega) only [Bool.cond_decide, nI_add, pk_mul, q_inbN, q_cl_nI, q_ltN, q_leN, q_eqN, q_ifT, q_ifF, q_cIs, q_cVs, decide_false, decide_true, Bool.not_false, Bool.not_true, cond_true, cond_false, ne_eq, not_false_eq_true, not_true_eq_false, if_true, if_false, z01]
          rw [r1, q_cVs]
          exact r2
      · refine two_same hA (-2) (fun H hR => (b_X6_days_0 sx (d + 39) _ _ H).trans ?_) (fun H hR => (b_X7_days_0 sx (d + 39) _ _ H).trans ?_)
        · rw [q_isB sx _ _ _ H hR.2.1.1 (by omega)]
          simp (disch := omega) only [Bool.cond_decide, nI_add, pk_mul, q_inbN, q_cl_nI, q_ltN, q_leN, q_eqN, q_ifT, q_ifF, q_cIs, q_cVs, decide_false, decide_true, Bool.not_false, Bool.not_true, cond_true, cond_false, ne_eq, not_false_eq_true, not_true_eq_false, if_true, if_false, z01]
          rw [q_isS sx _ _ _ H hR.2.1.2.2.1 (by omega)]
          simp (disch := omega) only [Bool.cond_decide, nI_add, pk_mul, q_inbN, q_cl_nI, q_ltN, q_leN, q_eqN, q_ifT, q_ifF, q_cIs, q_cVs, decide_false, decide_true, Bool.not_false, Bool.not_true, cond_true, cond_false, ne_eq, not_false_eq_true, not_true_eq_false, if_true, if_false, z01]
          rw [q_isIn sx _ 22 b _ H (by omega), hR.2.2.1 (7 + b) (by omega), decide_eq_false hin]
          rfl
        · rw [m_isB sx _ _ _ H hR.2.1.1 (by omega) (by omega)]
          simp (disch := omega) only [Bool.cond_decide, nI_add, pk_mul, q_inbN, q_cl_nI, q_ltN, q_leN, q_eqN, q_ifT, q_ifF, q_cIs, q_cVs, decide_false, decide_true, Bool.not_false, Bool.not_true, cond_true, cond_false, ne_eq, not_false_eq_true, not_true_eq_false, if_true, if_false, z01]
          rw [m_isS sx _ _ _ H hR.2.1.2.2.1 (by omega) (by omega)]
          simp (disch := omega) only [Bool.cond_decide, nI_add, pk_mul, q_inbN, q_cl_nI, q_ltN, q_leN, q_eqN, q_ifT, q_ifF, q_cIs, q_cVs, decide_false, decide_true, Bool.not_false, Bool.not_true, cond_true, cond_false, ne_eq, not_false_eq_true, not_true_eq_false, if_true, if_false, z01]
          rw [m_inBed sx _ 0 b H (aB A) hR.2.1 hs (by omega) (by omega), z_inT h2, hR.2.2.1.1 (7 + b) (by omega), decide_eq_false hin]
          rfl
