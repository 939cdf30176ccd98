/-! THE ACTS -/
/-- nothing changed behind the hours of those who speak -/
def z_fr (B : SB) (v w : SW) : Prop := ∀ j, 79 + sNs B ≤ j → v j = w j
theorem fr_rf (B : SB) (w : SW) : z_fr B w w := fun _ _ => rfl
theorem fr_tr {B : SB} {u v w : SW} (h1 : z_fr B u v) (h2 : z_fr B v w) : z_fr B u w := fun j hj => (h1 j hj).trans (h2 j hj)
theorem fr_upd {B : SB} {w : SW} {i : Nat} {x : Int32} (h : i < 79 + sNs B) : z_fr B (upd w i x) w := fun j hj => pk_un (by omega)
theorem fr_hear {B : SB} {w : SW} {b k : Nat} : z_fr B (z_hear B w b k) w := fun j hj => by
  unfold z_hear
  rw [if_neg (by omega)]
theorem fr_soften {B : SB} {w : SW} {b : Nat} {x : Int32} (hs : q_sB B) (hb : b < sNb B) : z_fr B (z_soften B w b x) w := by
  obtain ⟨⟨g1, g2⟩, -⟩ := hs
  unfold z_soften
  split
  · exact fr_upd (by omega)
  · exact fr_tr (fr_upd (by omega)) (fr_upd (by omega))
theorem fr_says {B : SB} {w : SW} {s b k : Nat} (hs : q_sB B) (h1 : s < sNs B) (hb : b < sNb B) : z_fr B (z_says B w s b k) w := by
  unfold z_says
  exact fr_tr (fr_soften hs hb) (fr_tr fr_hear (fr_upd (by omega)))
theorem fr_take {B : SB} {w : SW} {b : Nat} {u : Int32} (hs : q_sB B) (hb : b < sNb B) : z_fr B (z_take B w b u) w := by
  obtain ⟨⟨g1, g2⟩, -⟩ := hs
  unfold z_take
  exact fr_tr (fr_upd (by omega)) (fr_upd (by omega))
/-- a night, by those who speak -/
def z_night (B : SB) (w : SW) : SW := z_day (sNs B) (sD B) (z_fold (sNb B) (z_cstep B) w)
theorem fr_night {B : SB} {w : SW} (hs : q_sB B) : z_fr B (z_night B w) w := by
  have hs' := hs
  obtain ⟨⟨g1, g2⟩, -, ⟨g5, g6⟩, -⟩ := hs'
  unfold z_night
  refine fr_tr (fun j hj => ?_) (z_fold_inv (fun _ v => z_fr B v w) (sNb B) (z_cstep B) w (fr_rf B w) (fun b v hb hv => ?_))
  · unfold z_day
    rw [if_neg (by omega), if_neg (by omega)]
  · unfold z_cstep
    split
    · exact fr_tr (fr_soften hs hb) hv
    · exact hv
theorem ag_night {B : SB} {v w : SW} (hs : q_sB B) (h : q_ag B v w) {dl : Nat → Int32} (hd : ∀ s, s < sNs B → dl s = sD B s) : q_ag B (z_day 4 dl (z_fold (sNb B) (z_cstep B) v)) (z_night B w) := ag_day (ag_cstep hs h) hs hd
theorem ag_nightm {B : SB} {v w : SW} (hs : q_sB B) (h : q_ag B v w) : q_ag B (z_night B v) (z_night B w) := by
  have h2 := ag_cstep hs h
  intro j hj
  unfold z_night z_day
  by_cases h1 : 79 ≤ j ∧ j < 79 + sNs B
  · rw [if_pos h1, if_pos h1]
  · rw [if_neg h1, if_neg h1, h2 j hj, h2 0 (by omega)]
theorem vw_night {B : SB} {n : Nat} {w : SW} (hs : q_sB B) (h : q_vw B n w) : q_vw B n (z_night B w) := vw_day hs (vw_nights hs h)
theorem mw_of {B : SB} {v v' w' : SW} {w : SW} (h : q_mw B v w) (hf : z_fr B v' v) (ha : q_ag B v' w') : q_mw B v' w' := ⟨ha, fun s q1 q2 => (hf _ (by omega)).trans (h.2 s q1 q2)⟩
theorem q_RC_w {A : SA} {H : QH} {v v' : SW} (h : q_RC A H) (ha : q_ag (aB A) v' v) : q_RC (aSW A v) (c_put H 22 v') := by
  obtain ⟨⟨e1, e2⟩, e3, e4, e5, e6⟩ := h
  refine ⟨⟨by rw [c_put_out H _ _ (by omega)]; exact e1, fun j hj => by rw [c_put_out H _ _ (by omega)]; exact e2 j hj⟩, q_rB_put e3 (by omega), ?_, q_pile_of8 e5 (fun a q1 q2 => c_put_out H _ _ (by omega)), q_pile_of2 e6 (fun a q1 q2 => c_put_out H _ _ (by omega))⟩
  rw [c_get_put]
  exact ha
theorem m_put0_lt {H : QH} {v : SW} (j : Nat) : (m_put H 0 v) 166 j = v j := by
  have e := congrFun (m_get_put H 0 v) j
  unfold m_get at e
  rw [Nat.zero_add] at e
  exact e
theorem m_get0 (H : QH) (j : Nat) : m_get H 0 j = H 166 j := by unfold m_get; rw [Nat.zero_add]
theorem m_get_put0 {H : QH} {v : SW} {r : Nat} (hr : 83 ≤ r) (hv : ∀ j, 83 ≤ j → v j = m_get H 0 j) : m_get (m_put H 0 v) r = m_get H r := by
  funext j
  show (m_put H 0 v) 166 (r + j) = H 166 (r + j)
  rw [m_put0_lt, hv _ (by omega), m_get0]
theorem q_RM_w {A : SA} {H : QH} {v v' : SW} {n : Nat} (hA : q_sA n A) (h : q_RM A H) (hf : z_fr (aB A) v' (m_get H 0)) (ha : q_ag (aB A) v' v) : q_RM (aSW A v) (m_put H 0 v') := by
  obtain ⟨⟨e1, e2⟩, e3, e4, ⟨e5, e6⟩, e7, e8⟩ := h
  obtain ⟨-, ⟨-, -, ⟨g5, g6⟩, -⟩, -, -, -, l8, l2⟩ := hA
  have o : ∀ a, a ≠ 166 → (m_put H 0 v') a = H a := fun a ha => m_put_ne H 0 v' ha
  have mv : ∀ r, 83 ≤ r → m_get (m_put H 0 v') r = m_get H r := fun r hr => m_get_put0 hr (fun j hj => hf j (by omega))
  refine ⟨⟨by rw [o _ (by omega)]; exact e1, fun j hj => by rw [o _ (by omega)]; exact e2 j hj⟩, q_mB_put e3, ?_, ⟨by rw [o _ (by omega)]; exact e5, fun i w hw => ?_⟩, by rw [o _ (by omega)]; exact e7, fun i w hw => ?_⟩
  · rw [m_get_put]
    exact mw_of e4 hf ha
  · rw [mv _ (by omega)]; exact e6 i w hw
  · rw [mv _ (by omega)]; exact e8 i w hw
theorem q_pile_ag {H : QH} {p n : Nat} {B : SB} {v w : SW} {l : List SW} (h : q_pile H p n B (v :: l)) (ha : q_ag B v w) : q_pile H p n B (w :: l) := by
  obtain ⟨x, hx, e1, e2, hl, hi⟩ := h
  refine ⟨x, hx, e1, e2, hl, fun i u hu => ?_⟩
  cases i with
  | zero =>
    have e : w = u := by simpa using hu
    subst e
    exact ag_tr (hi 0 v rfl) ha
  | succ i => exact hi (i + 1) u hu
theorem q_RC_push (sx : QX) (d : Nat) {A : SA} {H : QH} (hs : q_sB (aB A)) (h : q_RC A H) : ∃ H', q_CL (q_tb sx) q_kpt (d + 3) (17, ([vr 3 36, vr 5 22], H)) = rV H' ∧ q_RC (aSU A (aW A :: (aU A).take 7)) H' ∧ ∀ a, 165 ≤ a → H' a = H a := by
  obtain ⟨⟨e1, e2⟩, e3, e4, e5, e6⟩ := h
  obtain ⟨H', r, hp, ho⟩ := q_push8 sx d H _ _ hs e5
  refine ⟨H', r, ⟨⟨by rw [ho 1 (by omega)]; exact e1, fun j hj => by rw [ho 2 (by omega)]; exact e2 j hj⟩, q_rB_of e3 (fun a ha => ho a (by omega)), ?_, q_pile_ag hp e4, q_pile_of2 e6 (fun a q1 q2 => ho a (by omega))⟩, fun a ha => ho a (by omega)⟩
  show q_ag (aB A) (c_get H' 22) (aW A)
  rw [c_get_of (H := H) (H' := H') (fun a q1 q2 => ho a (by omega))]
  exact e4
theorem q_sA_push {n : Nat} {A : SA} (h : q_sA n A) : q_sA n (aSU A (aW A :: (aU A).take 7)) := by
  obtain ⟨h1, h2, h3, h4, h5, h6, h7⟩ := h
  refine ⟨h1, h2, h3, fun w hw => ?_, h5, ?_, h7⟩
  · rcases List.mem_cons.mp (show w ∈ aW A :: (aU A).take 7 from hw) with e | e
    · rw [e]; exact h3
    · exact h4 w (List.mem_of_mem_take e)
  · show (aW A :: (aU A).take 7).length ≤ 8
    rw [List.length_cons, List.length_take]
    omega
theorem q_sA_w {n m : Nat} {A : SA} {v : SW} (h : q_sA n A) (hm : n ≤ m) (hv : q_vw (aB A) m v) : q_sA m (aSW A v) := by
  obtain ⟨h1, h2, h3, h4, h5, h6, h7⟩ := q_sA_mono h hm
  exact ⟨h1, h2, hv, h4, h5, h6, h7⟩
/-- the model's stack: one down, when full -/
def m_sh (H : QH) (k : Nat) : QH := fun a j => if a = 166 ∧ 332 ≤ j ∧ j < 332 + k then H 166 (j + 83) else H a j
theorem m_sh_ne (H : QH) (k : Nat) {a : Nat} (h : a ≠ 166) : m_sh H k a = H a := by
  funext j
  exact if_neg (fun q => h q.1)
theorem m_sh_out (H : QH) (k j : Nat) (h : j < 332 ∨ 332 + k ≤ j) : m_sh H k 166 j = H 166 j := if_neg (by omega)
theorem m_sh_in (H : QH) (k j : Nat) (h : 332 ≤ j ∧ j < 332 + k) : m_sh H k 166 j = H 166 (j + 83) := if_pos ⟨rfl, h.1, h.2⟩
theorem m_down (sx : QX) (d : Nat) (H : QH) : q_EV (q_tb sx) q_kpt (d + 1) 146 (11, ([(0, vr 9 165), (1, vn 0)], ([], H))) = q_EV (q_tb sx) q_kpt (d + 1) 146 (11, ([(0, vr 9 165), (1, vn 581)], ([], m_sh H 581))) := by
  have hl := z_loopI (fun k (G : QH) => G = m_sh H k) 581 (fun k G => q_EV (q_tb sx) q_kpt (d + 1) 146 (11, ([(0, vr 9 165), (1, vn k)], ([], G)))) (fun k G => q_hs G 166 (332 + k) (G 166 (332 + k + 83))) H (by
    funext a j
    exact (if_neg (by omega)).symm) (fun k G hk hG => by
    funext a j
    rw [hG, m_sh_out H k (332 + k + 83) (by omega), q_hs_rd]
    unfold m_sh
    by_cases h1 : a = 166 ∧ j = 332 + k
    · rw [if_pos h1, if_pos (by omega), h1.2]
    · rw [if_neg h1]
      by_cases h2 : a = 166 ∧ 332 ≤ j ∧ j < 332 + k
      · rw [if_pos h2, if_pos (by omega)]
      · rw [if_neg h2, if_neg (by omega)]) (fun k G hk hG => by
    refine (b_X7_minds_11 sx d (nI k) G).trans ?_
    simp (disch := omega) only [Bool.cond_decide, nI_add, pk_mul, q_inbN, q_cl_nI, q_ltN, q_leN, q_eqN, q_ifT, q_ifF, q_cIs, q_cVs, decide_false, decide_true, Bool.not_false, Bool.not_true, cond_true, cond_false, ne_eq, not_false_eq_true, not_true_eq_false, if_true, if_false])
  rw [hl.1]
  rw [hl.2]
theorem m_minds (sx : QX) (d : Nat) {A : SA} {H : QH} {n : Nat} (hA : q_sA n A) (h : q_RM A H) : ∃ H', q_CL (q_tb sx) q_kpt (d + 2) (146, ([vr 9 165], H)) = rV H' ∧ q_RM (aSU A (aW A :: (aU A).take 7)) H' ∧ ∀ a, a < 165 → H' a = H a := by
  have hA' := hA
  have h' := h
  obtain ⟨-, hs, -, -, -, l8, l2⟩ := hA'
  obtain ⟨⟨e1, e2⟩, e3, e4, ⟨e5, e6⟩, e7, e8⟩ := h'
  have hs' := hs
  obtain ⟨-, -, ⟨g5, g6⟩, -⟩ := hs'
  have key : ∀ (G : QH) (u : Nat), u = min (aU A).length 7 → (∀ a, a ≠ 165 → a ≠ 166 → G a = H a) → (∀ j, j ≠ 1 → G 165 j = H 165 j) → G 165 1 = nI u → (∀ j, j < 332 → G 166 j = H 166 j) → (∀ i w, ((aU A).take 7)[i]? = some w → q_mw (aB A) (m_get G (332 + 83 * (u - 1 - i))) w) → ∃ H', q_CL (q_tb sx) q_kpt (d + 1) (105, ([vr 9 165, vn 0, vn (332 + 83 * u)], G)) = rV H' ∧ q_RM (aSU A (aW A :: (aU A).take 7)) (q_hs H' 165 1 (H' 165 1 + nI 1)) ∧ ∀ a, a < 165 → (q_hs H' 165 1 (H' 165 1 + nI 1)) a = H a := by
    intro G u hu f1 f2 f3 f4 f5
    refine ⟨_, m_copy sx d 0 (332 + 83 * u) G (by omega) (by omega) (by omega), ?_, fun a ha => by rw [q_hs_ne (by omega), m_put_ne _ _ _ (by omega), f1 a (by omega) (by omega)]⟩
    have p1 : ∀ w, (m_put G (332 + 83 * u) w) 165 = G 165 := fun w => m_put_ne _ _ _ (by omega)
    have l1 : ((aU A).take 7).length = u := by rw [List.length_take]; omega
    have low : ∀ w j, j < 332 + 83 * u → (q_hs (m_put G (332 + 83 * u) w) 165 1 (nI (u + 1))) 166 j = G 166 j := fun w j hj => by rw [q_hs_ne (by omega), m_put_lt _ _ _ hj]
    have mvl : ∀ w r v, r + 83 ≤ 332 + 83 * u → q_mw (aB A) (m_get G r) v → q_mw (aB A) (m_get (q_hs (m_put G (332 + 83 * u) w) 165 1 (nI (u + 1))) r) v := fun w r v hr hv =>
      ⟨fun j hj => (low w _ (by omega)).trans (hv.1 j hj), fun s q1 q2 => (low w _ (by omega)).trans (hv.2 s q1 q2)⟩
    have mvG : ∀ r v, r + 83 ≤ 332 → q_mw (aB A) (m_get H r) v → q_mw (aB A) (m_get G r) v := fun r v hr hv =>
      ⟨fun j hj => (f4 _ (by omega)).trans (hv.1 j hj), fun s q1 q2 => (f4 _ (by omega)).trans (hv.2 s q1 q2)⟩
    rw [p1, f3, nI_add]
    refine ⟨⟨by rw [q_hs_ix (by omega), p1, f2 13 (by omega)]; exact e1, fun j hj => by rw [q_hs_ne (by omega), m_put_ne _ _ _ (by omega), f1 172 (by omega) (by omega)]; exact e2 j hj⟩, ?_, mvl _ _ _ (by omega) (mvG _ _ (by omega) e4), ⟨?_, fun i w hw => ?_⟩, by rw [q_hs_ix (by omega), p1, f2 2 (by omega)]; exact e7, fun i w hw => mvl _ _ _ (by change (aK A).length ≤ 2 at l2; change 166 + 83 * ((aK A).length - 1 - i) + 83 ≤ _; omega) (mvG _ _ (by change (aK A).length ≤ 2 at l2; change 166 + 83 * ((aK A).length - 1 - i) + 83 ≤ _; omega) (e8 i w hw))⟩
    · show q_mB _ (aB A)
      unfold q_mB at e3 ⊢
      rw [q_hs_ix (by omega), q_hs_ix (by omega), q_hs_ix (by omega), q_hs_ix (by omega), p1, f2 3 (by omega), f2 6 (by omega), f2 8 (by omega), f2 11 (by omega)]
      have o : ∀ w a, 167 ≤ a → (q_hs (m_put G (332 + 83 * u) w) 165 1 (nI (u + 1))) a = H a := fun w a ha => by rw [q_hs_ne (by omega), m_put_ne _ _ _ (by omega), f1 a (by omega) (by omega)]
      rw [o _ 167 (by omega), o _ 168 (by omega), o _ 169 (by omega), o _ 170 (by omega), o _ 171 (by omega)]
      exact e3
    · rw [q_hs_at]
      show nI (u + 1) = nI (aW A :: (aU A).take 7).length
      rw [List.length_cons, l1]
    · show q_mw (aB A) _ w
      have hw2 : (aW A :: (aU A).take 7)[i]? = some w := hw
      have el : (aU (aSU A (aW A :: (aU A).take 7))).length = u + 1 := by
        show (aW A :: (aU A).take 7).length = u + 1
        rw [List.length_cons, l1]
      rw [el]
      cases i with
      | zero =>
        have e : aW A = w := by simpa using hw2
        subst e
        have e9 : ∀ j, j < 83 → m_get (q_hs (m_put G (332 + 83 * u) (z_ov (m_get G 0) (m_get G (332 + 83 * u)))) 165 1 (nI (u + 1))) (332 + 83 * (u + 1 - 1 - 0)) j = m_get G 0 j := fun j hj => by
          rw [show 332 + 83 * (u + 1 - 1 - 0) = 332 + 83 * u by omega, m_get_of (q_hs_ne (by omega)), m_get_put]
          unfold z_ov
          rw [if_pos hj]
        have e4' := mvG 0 _ (by omega) e4
        exact ⟨fun j hj => (e9 j (by omega)).trans (e4'.1 j hj), fun s q1 q2 => (e9 _ (by omega)).trans (e4'.2 s q1 q2)⟩
      | succ i =>
        rw [List.getElem?_cons_succ] at hw2
        have hlen : i < u := by
          by_cases q : i < u
          · exact q
          · rw [List.getElem?_eq_none (by omega)] at hw2; cases hw2
        rw [show 332 + 83 * (u + 1 - 1 - (i + 1)) = 332 + 83 * (u - 1 - i) by omega]
        exact mvl _ _ _ (by omega) (f5 i w hw2)
  have hb := b_X7_minds_0 sx (d + 1) H
  rw [e5] at hb
  by_cases c : (aU A).length = 8
  · rw [c, m_down sx (d + 1) H] at hb
    have hb2 := b_X7_minds_11 sx (d + 1) (nI 581) (m_sh H 581)
    rw [m_sh_ne H 581 (show 165 ≠ 166 by omega), e5, c, pk_sub (by omega), q_hs_at, pk_mul, nI_add] at hb2
    obtain ⟨H', k1, k2, k3⟩ := key (q_hs (m_sh H 581) 165 1 (nI (8 - 1))) 7 (by omega) (fun a q1 q2 => by
        rw [q_hs_ne q1, m_sh_ne H 581 q2]) (fun j hj => by
        rw [q_hs_ix hj, m_sh_ne H 581 (by omega)]) q_hs_at (fun j hj => by
        rw [q_hs_ne (by omega), m_sh_out H 581 j (by omega)]) (fun i w hw => by
        have hi7 : i < 7 := by
          by_cases q : i < 7
          · exact q
          · rw [List.getElem?_take, if_neg q] at hw; cases hw
        rw [List.getElem?_take, if_pos hi7] at hw
        have e9 := e6 i w hw
        rw [c] at e9
        have e10 : ∀ j, j < 83 → m_get (q_hs (m_sh H 581) 165 1 (nI (8 - 1))) (332 + 83 * (7 - 1 - i)) j = m_get H (332 + 83 * (8 - 1 - i)) j := fun j hj => by
          unfold m_get
          rw [q_hs_ne (by omega), m_sh_in H 581 _ (by omega), show 332 + 83 * (7 - 1 - i) + j + 83 = 332 + 83 * (8 - 1 - i) + j by omega]
        exact ⟨fun j hj => (e10 j (by omega)).trans (e9.1 j hj), fun s q1 q2 => (e10 _ (by omega)).trans (e9.2 s q1 q2)⟩)
    refine ⟨_, (hb.trans ?_).trans (hb2.trans ?_), k2, k3⟩
    · rfl
    · rw [k1]; rfl
  · have l7 : ((aU A).take 7) = aU A := List.take_of_length_le (by omega)
    obtain ⟨H', k1, k2, k3⟩ := key H (aU A).length (by omega) (fun a _ _ => rfl) (fun j _ => rfl) e5 (fun j _ => rfl) (by rw [l7]; exact e6)
    refine ⟨_, hb.trans ?_, k2, k3⟩
    simp (disch := omega) only [Bool.cond_decide, nI_add, pk_mul, q_inbN, q_cl_nI, q_ltN, q_leN, q_eqN, q_ifT, q_ifF, q_cIs, q_cVs, decide_false, decide_true, Bool.not_false, Bool.not_true, cond_true, cond_false, ne_eq, not_false_eq_true, not_true_eq_false, if_true, if_false, k1]
