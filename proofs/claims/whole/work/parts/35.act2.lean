/-! worth, say, promise, take, pass, undo, keep, back -/
theorem nI_0z : nI 0 = 0 := rfl
theorem m1_ne : ¬ (nI 1 = nI 0) := by decide +kernel
/-- one that is no saying: the model says BAD -/
theorem m_bad3 {B : SB} {x y z : Int32} (h : (q_inb x (sNs B) && (q_inb y (sNb B) && q_inb z (sNw B))) = false) (sx : QX) (d : Nat) (H : QH) (hs : q_sB B) (hB : q_mB H B) (R : QH → Option QR) (k : Int32 → QH → Option QR) (hR : ∀ H, R H = rI (-1) H) (hk : k (nI 0) H = rI (-1) H) : q_cI (q_CL (q_tb sx) q_kpt (d + 2) (108, ([vr 9 165, vi x], H))) (fun y1 H1 => cond (decide (y1 = nI 0)) (R H1) (q_cI (q_CL (q_tb sx) q_kpt (d + 2) (106, ([vr 9 165, vi y], H1))) (fun y2 H2 => cond (decide (y2 = nI 0)) (R H2) (q_cI (q_CL (q_tb sx) q_kpt (d + 2) (107, ([vr 9 165, vi z], H2))) k)))) = rI (-1) H := by
  obtain ⟨⟨g1, g2⟩, ⟨g3, g4⟩, ⟨g5, g6⟩, -⟩ := hs
  obtain ⟨h3, h6, h8, -⟩ := hB
  rw [m_isS sx d _ x H h8 (by omega) (by omega), q_cIs]
  cases e1 : q_inb x (sNs B) with
  | false => exact hR H
  | true =>
    show q_cI (q_CL (q_tb sx) q_kpt (d + 2) (106, ([vr 9 165, vi y], H))) _ = _
    rw [m_isB sx d _ y H h3 (by omega) (by omega), q_cIs]
    cases e2 : q_inb y (sNb B) with
    | false => exact hR H
    | true =>
      show q_cI (q_CL (q_tb sx) q_kpt (d + 2) (107, ([vr 9 165, vi z], H))) _ = _
      rw [m_isW sx d _ z H h6 (by omega) (by omega), q_cIs]
      cases e3 : q_inb z (sNw B) with
      | false => exact hk
      | true => rw [e1, e2, e3] at h; cases h
theorem m_good3 {B : SB} {s b w : Nat} (h1 : s < sNs B) (h2 : b < sNb B) (h3 : w < sNw B) (sx : QX) (d : Nat) (H : QH) (hs : q_sB B) (hB : q_mB H B) (R : QH → Option QR) (k : Int32 → QH → Option QR) : q_cI (q_CL (q_tb sx) q_kpt (d + 2) (108, ([vr 9 165, vn s], H))) (fun y1 H1 => cond (decide (y1 = nI 0)) (R H1) (q_cI (q_CL (q_tb sx) q_kpt (d + 2) (106, ([vr 9 165, vn b], H1))) (fun y2 H2 => cond (decide (y2 = nI 0)) (R H2) (q_cI (q_CL (q_tb sx) q_kpt (d + 2) (107, ([vr 9 165, vn w], H2))) k)))) = k (nI 1) H := by
  obtain ⟨⟨g1, g2⟩, ⟨g3, g4⟩, ⟨g5, g6⟩, -⟩ := hs
  obtain ⟨q3, q6, q8, -⟩ := hB
  rw [m_isS sx d _ _ H q8 (by omega) (by omega), q_cIs, q_inbN (by omega), decide_eq_true h1]
  show q_cI (q_CL (q_tb sx) q_kpt (d + 2) (106, ([vr 9 165, vn b], H))) _ = _
  rw [m_isB sx d _ _ H q3 (by omega) (by omega), q_cIs, q_inbN (by omega), decide_eq_true h2]
  show q_cI (q_CL (q_tb sx) q_kpt (d + 2) (107, ([vr 9 165, vn w], H))) _ = _
  rw [m_isW sx d _ _ H q6 (by omega) (by omega), q_cIs, q_inbN (by omega), decide_eq_true h3]
  rfl
theorem q_three {B : SB} (hs : q_sB B) (x y z : Int32) : (q_inb x (sNs B) && (q_inb y (sNb B) && q_inb z (sNw B))) = false ∨ ∃ s b w, s < sNs B ∧ b < sNb B ∧ w < sNw B ∧ x = nI s ∧ y = nI b ∧ z = nI w := by
  obtain ⟨⟨g1, g2⟩, ⟨g3, g4⟩, ⟨g5, g6⟩, -⟩ := hs
  rcases q_inb_cases x (sNs B) (by omega) with ⟨e, -⟩ | ⟨s, h1, e1⟩
  · exact Or.inl (by rw [e]; rfl)
  · rcases q_inb_cases y (sNb B) (by omega) with ⟨e, -⟩ | ⟨b, h2, e2⟩
    · exact Or.inl (by rw [e]; exact Bool.and_false _)
    · rcases q_inb_cases z (sNw B) (by omega) with ⟨e, -⟩ | ⟨w, h3, e3⟩
      · exact Or.inl (by rw [e, Bool.and_false, Bool.and_false])
      · exact Or.inr ⟨s, b, w, h1, h2, h3, e1, e2, e3⟩
theorem q_threeT {B : SB} {s b w : Nat} (hs : q_sB B) (h1 : s < sNs B) (h2 : b < sNb B) (h3 : w < sNw B) : (q_inb (nI s) (sNs B) && (q_inb (nI b) (sNb B) && q_inb (nI w) (sNw B))) = true := by
  obtain ⟨⟨g1, g2⟩, ⟨g3, g4⟩, ⟨g5, g6⟩, -⟩ := hs
  rw [q_inbN (by omega), q_inbN (by omega), q_inbN (by omega), decide_eq_true h1, decide_eq_true h2, decide_eq_true h3]
  rfl
theorem q_hdA {A : SA} {H : QH} {n : Nat} (hA : q_sA n A) (hR : q_RC A H) : q_hd (aB A) (c_get H 22) n := (vw_ag hA.2.1 hA.2.2.1 hR.2.2.1).1
theorem two_worth (sx : QX) (d n : Nat) (A : SA) (hA : q_sA n A) (hn : n < 900000) (x y z : Int32) : q_two sx d 65 137 [vi x, vi y, vi z] A n := by
  have hA' := hA
  obtain ⟨-, hs, -⟩ := hA'
  have hs' := hs
  obtain ⟨⟨g1, g2⟩, ⟨g3, g4⟩, ⟨g5, g6⟩, -⟩ := hs'
  rcases q_three hs x y z with e | ⟨s, b, w, h1, h2, h3, rfl, rfl, rfl⟩
  · refine two_same hA (-1) (fun H hR => (b_X6_worth_0 sx (d + 39) x y z H).trans ?_) (fun H hR => (b_X7_worth_0 sx (d + 39) x y z H).trans ?_)
    · rw [q_isX sx _ x y z H _ hR.2.1 hs, e]; rfl
    · exact m_bad3 e sx (d + 37) H hs hR.2.1 _ _ (fun _ => rfl) rfl
  · refine two_same hA (z_worth (aB A) (aW A) s b w) (fun H hR => (b_X6_worth_0 sx (d + 39) _ _ _ H).trans ?_) (fun H hR => (b_X7_worth_0 sx (d + 39) _ _ _ H).trans ?_)
    · rw [q_isX sx _ _ _ _ H _ hR.2.1 hs, q_threeT hs h1 h2 h3]
      simp (disch := omega) only [Bool.cond_decide, nI_add, pk_mul, q_inbN, q_cl_nI, q_ltN, q_leN, q_eqN, q_ifT, q_ifF, q_cIs, q_cVs, decide_false, decide_true, Bool.not_false, Bool.not_true, cond_true, cond_false, ne_eq, not_false_eq_true, not_true_eq_false, if_true, if_false, z01]
      rw [q_worthOf sx _ 22 s b w n H _ hR.2.1 hs (q_hdA hA hR) (by omega) h1 h2 h3, ag_worth hs hR.2.2.1 h2 h3]
      rfl
    · refine (m_good3 h1 h2 h3 sx (d + 37) H hs hR.2.1 _ _).trans ?_
      simp (disch := omega) only [Bool.cond_decide, nI_add, pk_mul, q_inbN, q_cl_nI, q_ltN, q_leN, q_eqN, q_ifT, q_ifF, q_cIs, q_cVs, decide_false, decide_true, Bool.not_false, Bool.not_true, cond_true, cond_false, ne_eq, not_false_eq_true, not_true_eq_false, if_true, if_false]
      rw [m_worthOf sx _ 0 s b w H _ hR.2.1 hs (by omega) h1 h2 h3, ag_worth hs hR.2.2.1.1 h2 h3]
      rfl
theorem ag_can {B : SB} {v w : SW} {s b : Nat} (hs : q_sB B) (h : q_ag B v w) (h1 : s < sNs B) (hb : b < sNb B) : (decide (nI 0 < v (79 + s)) && decide (v (7 + b) = nI 0)) = (decide (nI 0 < w (79 + s)) && decide (w (7 + b) = nI 0)) := by
  obtain ⟨⟨g1, g2⟩, -⟩ := hs
  rw [h (79 + s) (by omega), h (7 + b) (by omega)]
theorem two_say (sx : QX) (d n : Nat) (A : SA) (hA : q_sA n A) (hn : n < 900000) (x y z : Int32) : q_two sx d 66 147 [vi x, vi y, vi z] A n := by
  have hA' := hA
  obtain ⟨-, hs, hv, -⟩ := hA'
  have hs' := hs
  obtain ⟨⟨g1, g2⟩, ⟨g3, g4⟩, ⟨g5, g6⟩, -⟩ := hs'
  rcases q_three hs x y z with e | ⟨s, b, w, h1, h2, h3, rfl, rfl, rfl⟩
  · refine two_same hA (-1) (fun H hR => (b_X6_say_0 sx (d + 39) x y z H).trans ?_) (fun H hR => (b_X7_say_0 sx (d + 39) x y z H).trans ?_)
    · rw [q_isX sx _ x y z H _ hR.2.1 hs, e]; rfl
    · exact m_bad3 e sx (d + 37) H hs hR.2.1 _ _ (fun _ => rfl) rfl
  · cases hc : (decide (nI 0 < aW A (79 + s)) && decide (aW A (7 + b) = nI 0)) with
    | false =>
      refine two_same hA (-2) (fun H hR => (b_X6_say_0 sx (d + 39) _ _ _ H).trans ?_) (fun H hR => (b_X7_say_0 sx (d + 39) _ _ _ H).trans ?_)
      · rw [q_isX sx _ _ _ _ H _ hR.2.1 hs, q_threeT hs h1 h2 h3]
        simp (disch := omega) only [Bool.cond_decide, nI_add, pk_mul, q_inbN, q_cl_nI, q_ltN, q_leN, q_eqN, q_ifT, q_ifF, q_cIs, q_cVs, decide_false, decide_true, Bool.not_false, Bool.not_true, cond_true, cond_false, ne_eq, not_false_eq_true, not_true_eq_false, if_true, if_false, z01]
        rw [q_canSay sx _ 22 s b H (by omega) (by omega), ag_can hs hR.2.2.1 h1 h2, hc]
        rfl
      · refine (m_good3 h1 h2 h3 sx (d + 37) H hs hR.2.1 _ _).trans ?_
        simp (disch := omega) only [Bool.cond_decide, nI_add, pk_mul, q_inbN, q_cl_nI, q_ltN, q_leN, q_eqN, q_ifT, q_ifF, q_cIs, q_cVs, decide_false, decide_true, Bool.not_false, Bool.not_true, cond_true, cond_false, ne_eq, not_false_eq_true, not_true_eq_false, if_true, if_false]
        rw [m_canSay sx _ 0 s b H _ hR.2.1 hs (by omega) h1 h2, ag_can hs hR.2.2.1.1 h1 h2, hc]
        rfl
    | true =>
      have hc2 : nI 0 < aW A (79 + s) ∧ aW A (7 + b) = nI 0 := by simpa using hc
      have hw : q_sA (n + 1) (aSW (aSU A (aW A :: (aU A).take 7)) (z_says (aB A) (aW A) s b w)) := q_sA_w (q_sA_push hA) (by omega) (vw_says hs hv (by omega) h1 h2 h3 hc2.2 hc2.1)
      refine ⟨z_says (aB A) (aW A) s b w (1 + b), _, hw, fun H hR => ?_, fun H hR => ?_⟩
      · obtain ⟨H1, r1, R1, o1⟩ := q_RC_push sx (d + 36) hs hR
        have ag1 : q_ag (aB A) (z_says (aB A) (c_get H1 22) s b w) (z_says (aB A) (aW A) s b w) := ag_says hs R1.2.2.1 h1 h2 h3
        refine ⟨c_put H1 22 (z_says (aB A) (c_get H1 22) s b w), (b_X6_say_0 sx (d + 39) _ _ _ H).trans ?_, q_RC_w R1 ag1, fun a ha => by rw [c_put_out H1 _ _ (by omega)]; exact o1 a ha⟩
        rw [q_isX sx _ _ _ _ H _ hR.2.1 hs, q_threeT hs h1 h2 h3]
        simp (disch := omega) only [Bool.cond_decide, nI_add, pk_mul, q_inbN, q_cl_nI, q_ltN, q_leN, q_eqN, q_ifT, q_ifF, q_cIs, q_cVs, decide_false, decide_true, Bool.not_false, Bool.not_true, cond_true, cond_false, ne_eq, not_false_eq_true, not_true_eq_false, if_true, if_false, z01]
        rw [q_canSay sx _ 22 s b H (by omega) (by omega), ag_can hs hR.2.2.1 h1 h2, hc]
        simp (disch := omega) only [Bool.cond_decide, nI_add, pk_mul, q_inbN, q_cl_nI, q_ltN, q_leN, q_eqN, q_ifT, q_ifF, q_cIs, q_cVs, decide_false, decide_true, Bool.not_false, Bool.not_true, cond_true, cond_false, ne_eq, not_false_eq_true, not_true_eq_false, if_true, if_false, z01]
        rw [r1]
        simp (disch := omega) only [Bool.cond_decide, nI_add, pk_mul, q_inbN, q_cl_nI, q_ltN, q_leN, q_eqN, q_ifT, q_ifF, q_cIs, q_cVs, decide_false, decide_true, Bool.not_false, Bool.not_true, cond_true, cond_false, ne_eq, not_false_eq_true, not_true_eq_false, if_true, if_false]
        rw [q_speak sx _ 22 s b w n H1 (aB A) R1.2.1 hs (by omega) (vw_ag hs hv R1.2.2.1).1 (by omega) h1 h2 h3]
        simp (disch := omega) only [Bool.cond_decide, nI_add, pk_mul, q_inbN, q_cl_nI, q_ltN, q_leN, q_eqN, q_ifT, q_ifF, q_cIs, q_cVs, decide_false, decide_true, Bool.not_false, Bool.not_true, cond_true, cond_false, ne_eq, not_false_eq_true, not_true_eq_false, if_true, if_false, at_6]
        have e7 := c_r1 (c_put H1 22 (z_says (aB A) (c_get H1 22) s b w)) 22 b (by omega)
        rw [c_get_put, ag1 (1 + b) (by omega)] at e7
        rw [← e7]
      · obtain ⟨H1, r1, R1, o1⟩ := m_minds sx (d + 37) hA hR
        have ag1 : q_ag (aB A) (z_says (aB A) (m_get H1 0) s b w) (z_says (aB A) (aW A) s b w) := ag_says hs R1.2.2.1.1 h1 h2 h3
        have hin : m_get H1 0 (7 + b) = nI 0 := (R1.2.2.1.1 (7 + b) (by omega)).trans hc2.2
        refine ⟨m_put H1 0 (z_says (aB A) (m_get H1 0) s b w), (b_X7_say_0 sx (d + 39) _ _ _ H).trans ?_, q_RM_w (q_sA_push hA) R1 (fr_says hs h1 h2) ag1, fun a ha => by rw [m_put_ne H1 _ _ (by omega)]; exact o1 a ha⟩
        refine (m_good3 h1 h2 h3 sx (d + 37) H hs hR.2.1 _ _).trans ?_
        simp (disch := omega) only [Bool.cond_decide, nI_add, pk_mul, q_inbN, q_cl_nI, q_ltN, q_leN, q_eqN, q_ifT, q_ifF, q_cIs, q_cVs, decide_false, decide_true, Bool.not_false, Bool.not_true, cond_true, cond_false, ne_eq, not_false_eq_true, not_true_eq_false, if_true, if_false]
        rw [m_canSay sx _ 0 s b H _ hR.2.1 hs (by omega) h1 h2, ag_can hs hR.2.2.1.1 h1 h2, hc]
        simp (disch := omega) only [Bool.cond_decide, nI_add, pk_mul, q_inbN, q_cl_nI, q_ltN, q_leN, q_eqN, q_ifT, q_ifF, q_cIs, q_cVs, decide_false, decide_true, Bool.not_false, Bool.not_true, cond_true, cond_false, ne_eq, not_false_eq_true, not_true_eq_false, if_true, if_false, z01]
        rw [r1]
        simp (disch := omega) only [Bool.cond_decide, nI_add, pk_mul, q_inbN, q_cl_nI, q_ltN, q_leN, q_eqN, q_ifT, q_ifF, q_cIs, q_cVs, decide_false, decide_true, Bool.not_false, Bool.not_true, cond_true, cond_false, ne_eq, not_false_eq_true, not_true_eq_false, if_true, if_false]
        rw [m_says sx _ 0 s b w H1 (aB A) R1.2.1 hs (by omega) h1 h2 h3 hin]
        simp (disch := omega) only [Bool.cond_decide, nI_add, pk_mul, q_inbN, q_cl_nI, q_ltN, q_leN, q_eqN, q_ifT, q_ifF, q_cIs, q_cVs, decide_false, decide_true, Bool.not_false, Bool.not_true, cond_true, cond_false, ne_eq, not_false_eq_true, not_true_eq_false, if_true, if_false, m_put0_lt]
        rw [ag1 (1 + b) (by omega)]
theorem vw_vow {B : SB} {n s b : Nat} {w : SW} {u : Int32} (hs : q_sB B) (h : q_vw B n w) (h1 : s < sNs B) (hb : b < sNb B) : q_vw B n (upd w (55 + 6 * s + b) u) := by
  have hs' := hs
  obtain ⟨⟨g1, g2⟩, -, ⟨g5, g6⟩, -⟩ := hs'
  exact vw_far h (by omega) hs
theorem in_7 (x : Int32) : (decide (nI 0 ≤ x) && decide (x ≤ nI 7)) = q_inb x 8 := in_inb x 8 (by omega) (by omega)
theorem z_inT {B : SB} {w : SW} {b : Nat} (h : b < sNb B) : z_in B w b = decide (w (7 + b) = nI 0) := by
  unfold z_in
  rw [decide_eq_true h, Bool.true_and]
theorem two_promise (sx : QX) (d n : Nat) (A : SA) (hA : q_sA n A) (x y z : Int32) : q_two sx d 67 148 [vi x, vi y, vi z] A n := by
  have hA' := hA
  obtain ⟨-, hs, hv, -⟩ := hA'
  have hs' := hs
  obtain ⟨⟨g1, g2⟩, ⟨g3, g4⟩, ⟨g5, g6⟩, -⟩ := hs'
  have hc := fun H => b_X6_promise_0 sx (d + 39) x y z H
  have hm := fun H => b_X7_promise_0 sx (d + 39) x y z H
  simp only [e64_0, e64_7, in_eq, in_7] at hm
  rcases q_inb_cases x (sNs (aB A)) (by omega) with ⟨e, -⟩ | ⟨s, h1, rfl⟩
  · refine two_same hA (-1) (fun H hR => (hc H).trans ?_) (fun H hR => (hm H).trans ?_)
    · rw [q_isS sx _ _ x H hR.2.1.2.2.1 (by omega), e]; rfl
    · rw [m_isS sx _ _ x H hR.2.1.2.2.1 (by omega) (by omega), e]; rfl
  · have hc2 : ∀ H, q_RC A H → _ := fun H hR => (hc H).trans (by rw [q_isS sx _ _ _ H hR.2.1.2.2.1 (by omega), q_inbN (by omega), decide_eq_true h1, q_cIs])
    have hm2 : ∀ H, q_RM A H → _ := fun H hR => (hm H).trans (by rw [m_isS sx _ _ _ H hR.2.1.2.2.1 (by omega) (by omega), q_inbN (by omega), decide_eq_true h1, q_cIs])
    rcases q_inb_cases y (sNb (aB A)) (by omega) with ⟨e, -⟩ | ⟨b, h2, rfl⟩
    · refine two_same hA (-1) (fun H hR => (hc2 H hR).trans ?_) (fun H hR => (hm2 H hR).trans ?_)
      · rw [q_isB sx _ _ y H hR.2.1.1 (by omega), e]; rfl
      · rw [m_isB sx _ _ y H hR.2.1.1 (by omega) (by omega), e]; rfl
    · have hc3 : ∀ H, q_RC A H → _ := fun H hR => (hc2 H hR).trans (by rw [q_isB sx _ _ _ H hR.2.1.1 (by omega), q_inbN (by omega), decide_eq_true h2, q_cIs, isUse_eq])
      have hm3 : ∀ H, q_RM A H → _ := fun H hR => (hm2 H hR).trans (by rw [m_isB sx _ _ _ H hR.2.1.1 (by omega) (by omega), q_inbN (by omega), decide_eq_true h2, q_cIs])
      cases e : q_inb z 8 with
      | false =>
        refine two_same hA (-1) (fun H hR => (hc3 H hR).trans ?_) (fun H hR => (hm3 H hR).trans ?_)
        · rw [e]; rfl
        · rw [e]; rfl
      | true =>
        by_cases hin : aW A (7 + b) = nI 0
        · have hw : q_sA (n + 1) (aSW (aSU A (aW A :: (aU A).take 7)) (upd (aW A) (55 + 6 * s + b) z)) := q_sA_w (q_sA_push hA) (by omega) (vw_mono (vw_vow hs hv h1 h2) (by omega))
          refine ⟨aW A (55 + 6 * s + b), _, hw, fun H hR => ?_, fun H hR => ?_⟩
          · obtain ⟨H1, r1, R1, o1⟩ := q_RC_push sx (d + 36) hs hR
            have ag1 : q_ag (aB A) (upd (c_get H1 22) (55 + 6 * s + b) z) (upd (aW A) (55 + 6 * s + b) z) := ag_upd R1.2.2.1 _ rfl
            refine ⟨c_put H1 22 (upd (c_get H1 22) (55 + 6 * s + b) z), (hc3 H hR).trans ?_, q_RC_w R1 ag1, fun a ha => by rw [c_put_out H1 _ _ (by omega)]; exact o1 a ha⟩
            rw [e]
            simp (disch := omega) only [Bool.cond_decide, nI_add, pk_mul, q_inbN, q_cl_nI, q_ltN, q_leN, q_eqN, q_ifT, q_ifF, q_cIs, q_cVs, decide_false, decide_true, Bool.not_false, Bool.not_true, cond_true, cond_false, ne_eq, not_false_eq_true, not_true_eq_false, if_true, if_false, z01]
            rw [q_isIn sx _ 22 b _ H (by omega), hR.2.2.1 (7 + b) (by omega), decide_eq_true hin]
            simp (disch := omega) only [Bool.cond_decide, nI_add, pk_mul, q_inbN, q_cl_nI, q_ltN, q_leN, q_eqN, q_ifT, q_ifF, q_cIs, q_cVs, decide_false, decide_true, Bool.not_false, Bool.not_true, cond_true, cond_false, ne_eq, not_false_eq_true, not_true_eq_false, if_true, if_false, z01]
            rw [r1]
            simp (disch := omega) only [Bool.cond_decide, nI_add, pk_mul, q_inbN, q_cl_nI, q_ltN, q_leN, q_eqN, q_ifT, q_ifF, q_cIs, q_cVs, decide_false, decide_true, Bool.not_false, Bool.not_true, cond_true, cond_false, ne_eq, not_false_eq_true, not_true_eq_false, if_true, if_false]
            rw [q_vowOf sx _ 22 s b H1 (by omega) (by omega)]
            simp (disch := omega) only [Bool.cond_decide, nI_add, pk_mul, q_inbN, q_cl_nI, q_ltN, q_leN, q_eqN, q_ifT, q_ifF, q_cIs, q_cVs, decide_false, decide_true, Bool.not_false, Bool.not_true, cond_true, cond_false, ne_eq, not_false_eq_true, not_true_eq_false, if_true, if_false]
            rw [q_vow sx _ 22 s b z H1 (by omega) (by omega), R1.2.2.1 (55 + 6 * s + b) (by omega)]
            rfl
          · obtain ⟨H1, r1, R1, o1⟩ := m_minds sx (d + 37) hA hR
            have ag1 : q_ag (aB A) (upd (m_get H1 0) (55 + 6 * s + b) z) (upd (aW A) (55 + 6 * s + b) z) := ag_upd R1.2.2.1.1 _ rfl
            refine ⟨m_put H1 0 (upd (m_get H1 0) (55 + 6 * s + b) z), (hm3 H hR).trans ?_, q_RM_w (q_sA_push hA) R1 (fr_upd (by omega)) ag1, fun a ha => by rw [m_put_ne H1 _ _ (by omega)]; exact o1 a ha⟩
            rw [e]
            simp (disch := omega) only [Bool.cond_decide, nI_add, pk_mul, q_inbN, q_cl_nI, q_ltN, q_leN, q_eqN, q_ifT, q_ifF, q_cIs, q_cVs, decide_false, decide_true, Bool.not_false, Bool.not_true, cond_true, cond_false, ne_eq, not_false_eq_true, not_true_eq_false, if_true, if_false, z01]
            rw [m_inBed sx _ 0 b H _ hR.2.1 hs (by omega) (by omega), z_inT h2, hR.2.2.1.1 (7 + b) (by omega), decide_eq_true hin]
            simp (disch := omega) only [Bool.cond_decide, nI_add, pk_mul, q_inbN, q_cl_nI, q_ltN, q_leN, q_eqN, q_ifT, q_ifF, q_cIs, q_cVs, decide_false, decide_true, Bool.not_false, Bool.not_true, cond_true, cond_false, ne_eq, not_false_eq_true, not_true_eq_false, if_true, if_false, z01]
            rw [r1]
            simp (disch := omega) only [Bool.cond_decide, nI_add, pk_mul, q_inbN, q_cl_nI, q_ltN, q_leN, q_eqN, q_ifT, q_ifF, q_cIs, q_cVs, decide_false, decide_true, Bool.not_false, Bool.not_true, cond_true, cond_false, ne_eq, not_false_eq_true, not_true_eq_false, if_true, if_false]
            have e9 := R1.2.2.1.1 (55 + 6 * s + b) (by omega)
            rw [m_get0] at e9
            have e8 := m_hs H1 0 (55 + 6 * s + b) z
            rw [Nat.zero_add] at e8
            rw [e9, e8]
            rfl
        · refine two_same hA (-2) (fun H hR => (hc3 H hR).trans ?_) (fun H hR => (hm3 H hR).trans ?_)
          · rw [e]
            simp (disch := omega) only [Bool.cond_decide, nI_add, pk_mul, q_inbN, q_cl_nI, q_ltN, q_leN, q_eqN, q_ifT, q_ifF, q_cIs, q_cVs, decide_false, decide_true, Bool.not_false, Bool.not_true, cond_true, cond_false, ne_eq, not_false_eq_true, not_true_eq_false, if_true, if_false, z01]
            rw [q_isIn sx _ 22 b _ H (by omega), hR.2.2.1 (7 + b) (by omega), decide_eq_false hin]; rfl
          · rw [e]
            simp (disch := omega) only [Bool.cond_decide, nI_add, pk_mul, q_inbN, q_cl_nI, q_ltN, q_leN, q_eqN, q_ifT, q_ifF, q_cIs, q_cVs, decide_false, decide_true, Bool.not_false, Bool.not_true, cond_true, cond_false, ne_eq, not_false_eq_true, not_true_eq_false, if_true, if_false, z01]
            rw [m_inBed sx _ 0 b H _ hR.2.1 hs (by omega) (by omega), z_inT h2, hR.2.2.1.1 (7 + b) (by omega), decide_eq_false hin]; rfl
theorem two_take (sx : QX) (d n : Nat) (A : SA) (hA : q_sA n A) (x y : Int32) : q_two sx d 68 149 [vi x, vi y] A n := by
  have hA' := hA
  obtain ⟨-, hs, hv, -⟩ := hA'
  have hs' := hs
  obtain ⟨⟨g1, g2⟩, ⟨g3, g4⟩, ⟨g5, g6⟩, -⟩ := hs'
  have hc := fun H => b_X6_take_0 sx (d + 39) x y H
  have hm := fun H => b_X7_take_0 sx (d + 39) x y H
  simp only [e64_0, e64_7, in_eq, in_7] at hm
  rcases q_inb_cases x (sNb (aB A)) (by omega) with ⟨e, -⟩ | ⟨b, h2, rfl⟩
  · refine two_same hA (-1) (fun H hR => (hc H).trans ?_) (fun H hR => (hm H).trans ?_)
    · rw [q_isB sx _ _ x H hR.2.1.1 (by omega), e]; rfl
    · rw [m_isB sx _ _ x H hR.2.1.1 (by omega) (by omega), e]; rfl
  · have hc3 : ∀ H, q_RC A H → _ := fun H hR => (hc H).trans (by rw [q_isB sx _ _ _ H hR.2.1.1 (by omega), q_inbN (by omega), decide_eq_true h2, q_cIs, isUse_eq])
    have hm3 : ∀ H, q_RM A H → _ := fun H hR => (hm H).trans (by rw [m_isB sx _ _ _ H hR.2.1.1 (by omega) (by omega), q_inbN (by omega), decide_eq_true h2, q_cIs])
    cases e : q_inb y 8 with
    | false =>
      refine two_same hA (-1) (fun H hR => (hc3 H hR).trans ?_) (fun H hR => (hm3 H hR).trans ?_)
      · rw [e]; rfl
      · rw [e]; rfl
    | true =>
      by_cases hin : aW A (7 + b) = nI 1
      · have hw : q_sA (n + 1) (aSW (aSU A (aW A :: (aU A).take 7)) (z_take (aB A) (aW A) b y)) := q_sA_w (q_sA_push hA) (by omega) (vw_mono (vw_take hs hv h2) (by omega))
        refine ⟨if z_take (aB A) (aW A) b y (7 + b) = nI 2 then nI 1 else nI 0, _, hw, fun H hR => ?_, fun H hR => ?_⟩
        · obtain ⟨H1, r1, R1, o1⟩ := q_RC_push sx (d + 36) hs hR
          have ag1 : q_ag (aB A) (z_take (aB A) (c_get H1 22) b y) (z_take (aB A) (aW A) b y) := ag_take hs R1.2.2.1 h2
          refine ⟨c_put H1 22 (z_take (aB A) (c_get H1 22) b y), (hc3 H hR).trans ?_, q_RC_w R1 ag1, fun a ha => by rw [c_put_out H1 _ _ (by omega)]; exact o1 a ha⟩
          rw [e]
          simp (disch := omega) only [Bool.cond_decide, nI_add, pk_mul, q_inbN, q_cl_nI, q_ltN, q_leN, q_eqN, q_ifT, q_ifF, q_cIs, q_cVs, decide_false, decide_true, Bool.not_false, Bool.not_true, cond_true, cond_false, ne_eq, not_false_eq_true, not_true_eq_false, if_true, if_false, z01]
          rw [q_isIn sx _ 22 b _ H (by omega), hR.2.2.1 (7 + b) (by omega), decide_eq_true hin]
          simp (disch := omega) only [Bool.cond_decide, nI_add, pk_mul, q_inbN, q_cl_nI, q_ltN, q_leN, q_eqN, q_ifT, q_ifF, q_cIs, q_cVs, decide_false, decide_true, Bool.not_false, Bool.not_true, cond_true, cond_false, ne_eq, not_false_eq_true, not_true_eq_false, if_true, if_false, z01]
          rw [r1]
          simp (disch := omega) only [Bool.cond_decide, nI_add, pk_mul, q_inbN, q_cl_nI, q_ltN, q_leN, q_eqN, q_ifT, q_ifF, q_cIs, q_cVs, decide_false, decide_true, Bool.not_false, Bool.not_true, cond_true, cond_false, ne_eq, not_false_eq_true, not_true_eq_false, if_true, if_false]
          rw [q_carryOff sx _ 22 b y H1 (aB A) R1.2.1 hs h2]
          simp (disch := omega) only [Bool.cond_decide, nI_add, pk_mul, q_inbN, q_cl_nI, q_ltN, q_leN, q_eqN, q_ifT, q_ifF, q_cIs, q_cVs, decide_false, decide_true, Bool.not_false, Bool.not_true, cond_true, cond_false, ne_eq, not_false_eq_true, not_true_eq_false, if_true, if_false]
          rw [q_isIn sx _ 22 b _ _ (by omega), c_get_put, ag1 (7 + b) (by omega)]
          by_cases h : z_take (aB A) (aW A) b y (7 + b) = nI 2
          · rw [if_pos h, decide_eq_true h]; rfl
          · rw [if_neg h, decide_eq_false h]; rfl
        · obtain ⟨H1, r1, R1, o1⟩ := m_minds sx (d + 37) hA hR
          have ag1 : q_ag (aB A) (z_take (aB A) (m_get H1 0) b y) (z_take (aB A) (aW A) b y) := ag_take hs R1.2.2.1.1 h2
          refine ⟨m_put H1 0 (z_take (aB A) (m_get H1 0) b y), (hm3 H hR).trans ?_, q_RM_w (q_sA_push hA) R1 (fr_take hs h2) ag1, fun a ha => by rw [m_put_ne H1 _ _ (by omega)]; exact o1 a ha⟩
          rw [e]
          have e9 := hR.2.2.1.1 (7 + b) (by omega)
          rw [m_get0] at e9
          simp (disch := omega) only [Bool.cond_decide, nI_add, pk_mul, q_inbN, q_cl_nI, q_ltN, q_leN, q_eqN, q_ifT, q_ifF, q_cIs, q_cVs, decide_false, decide_true, Bool.not_false, Bool.not_true, cond_true, cond_false, ne_eq, not_false_eq_true, not_true_eq_false, if_true, if_false, z01, e9, hin]
          rw [r1]
          simp (disch := omega) only [Bool.cond_decide, nI_add, pk_mul, q_inbN, q_cl_nI, q_ltN, q_leN, q_eqN, q_ifT, q_ifF, q_cIs, q_cVs, decide_false, decide_true, Bool.not_false, Bool.not_true, cond_true, cond_false, ne_eq, not_false_eq_true, not_true_eq_false, if_true, if_false]
          rw [m_takesFor sx _ 0 b y H1 (aB A) R1.2.1 hs (by omega) h2]
          simp (disch := omega) only [Bool.cond_decide, nI_add, pk_mul, q_inbN, q_cl_nI, q_ltN, q_leN, q_eqN, q_ifT, q_ifF, q_cIs, q_cVs, decide_false, decide_true, Bool.not_false, Bool.not_true, cond_true, cond_false, ne_eq, not_false_eq_true, not_true_eq_false, if_true, if_false, m_put0_lt]
          rw [ag1 (7 + b) (by omega)]
          by_cases h : z_take (aB A) (aW A) b y (7 + b) = nI 2
          · rw [if_neg (fun q => q h), if_pos h]
          · rw [if_pos h, if_neg h]
      · refine two_same hA (-2) (fun H hR => (hc3 H hR).trans ?_) (fun H hR => (hm3 H hR).trans ?_)
        · rw [e]
          simp (disch := omega) only [Bool.cond_decide, nI_add, pk_mul, q_inbN, q_cl_nI, q_ltN, q_leN, q_eqN, q_ifT, q_ifF, q_cIs, q_cVs, decide_false, decide_true, Bool.not_false, Bool.not_true, cond_true, cond_false, ne_eq, not_false_eq_true, not_true_eq_false, if_true, if_false, z01]
          rw [q_isIn sx _ 22 b _ H (by omega), hR.2.2.1 (7 + b) (by omega), decide_eq_false hin]; rfl
        · rw [e]
          have e9 := hR.2.2.1.1 (7 + b) (by omega)
          rw [m_get0] at e9
          simp (disch := omega) only [Bool.cond_decide, nI_add, pk_mul, q_inbN, q_cl_nI, q_ltN, q_leN, q_eqN, q_ifT, q_ifF, q_cIs, q_cVs, decide_false, decide_true, Bool.not_false, Bool.not_true, cond_true, cond_false, ne_eq, not_false_eq_true, not_true_eq_false, if_true, if_false, z01, e9, hin]
