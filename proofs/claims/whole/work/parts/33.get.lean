/-! THE CALLS, one by one: first those that change nothing but the text -/
theorem q_isB (sx : QX) (d n : Nat) (x : Int32) (H : QH) (h : H 4 0 = nI n) (hn : n < 1000000) : q_CL (q_tb sx) q_kpt (d + 1) (86, ([vr 8 0, vi x], H)) = rI (z01 (q_inb x n)) H := by
  refine (b_X6_isBlock_0 sx d x H).trans ?_
  rw [h]
  rcases q_inb_cases x n (by omega) with ⟨e, h1⟩ | ⟨k, hk, rfl⟩
  · rw [e]
    simp only [Bool.cond_decide]
    rcases h1 with h1 | h1
    · rw [if_pos (show x < nI 0 from h1)]; rfl
    · rw [if_pos h1, ite_self]; rfl
  · simp (disch := omega) only [Bool.cond_decide, nI_add, pk_mul, q_inbN, q_cl_nI, q_ltN, q_leN, q_eqN, q_ifT, q_ifF, q_cIs, q_cVs, decide_false, decide_true, Bool.not_false, Bool.not_true, cond_true, cond_false, ne_eq, not_false_eq_true, not_true_eq_false, if_true, if_false, z01]
theorem q_isW (sx : QX) (d n : Nat) (x : Int32) (H : QH) (h : H 4 1 = nI n) (hn : n < 1000000) : q_CL (q_tb sx) q_kpt (d + 1) (87, ([vr 8 0, vi x], H)) = rI (z01 (q_inb x n)) H := by
  refine (b_X6_isWord_0 sx d x H).trans ?_
  rw [h]
  rcases q_inb_cases x n (by omega) with ⟨e, h1⟩ | ⟨k, hk, rfl⟩
  · rw [e]
    simp only [Bool.cond_decide]
    rcases h1 with h1 | h1
    · rw [if_pos (show x < nI 0 from h1)]; rfl
    · rw [if_pos h1, ite_self]; rfl
  · simp (disch := omega) only [Bool.cond_decide, nI_add, pk_mul, q_inbN, q_cl_nI, q_ltN, q_leN, q_eqN, q_ifT, q_ifF, q_cIs, q_cVs, decide_false, decide_true, Bool.not_false, Bool.not_true, cond_true, cond_false, ne_eq, not_false_eq_true, not_true_eq_false, if_true, if_false, z01]
theorem q_isS (sx : QX) (d n : Nat) (x : Int32) (H : QH) (h : H 4 2 = nI n) (hn : n < 1000000) : q_CL (q_tb sx) q_kpt (d + 1) (88, ([vr 8 0, vi x], H)) = rI (z01 (q_inb x n)) H := by
  refine (b_X6_isSpeaker_0 sx d x H).trans ?_
  rw [h]
  rcases q_inb_cases x n (by omega) with ⟨e, h1⟩ | ⟨k, hk, rfl⟩
  · rw [e]
    simp only [Bool.cond_decide]
    rcases h1 with h1 | h1
    · rw [if_pos (show x < nI 0 from h1)]; rfl
    · rw [if_pos h1, ite_self]; rfl
  · simp (disch := omega) only [Bool.cond_decide, nI_add, pk_mul, q_inbN, q_cl_nI, q_ltN, q_leN, q_eqN, q_ifT, q_ifF, q_cIs, q_cVs, decide_false, decide_true, Bool.not_false, Bool.not_true, cond_true, cond_false, ne_eq, not_false_eq_true, not_true_eq_false, if_true, if_false, z01]
theorem q_isX (sx : QX) (d : Nat) (x y z : Int32) (H : QH) (B : SB) (hB : q_rB H B) (hs : q_sB B) : q_CL (q_tb sx) q_kpt (d + 2) (89, ([vr 8 0, vi x, vi y, vi z], H)) = rI (z01 (q_inb x (sNs B) && (q_inb y (sNb B) && q_inb z (sNw B)))) H := by
  obtain ⟨⟨g1, g2⟩, ⟨g3, g4⟩, ⟨g5, g6⟩, -⟩ := hs
  obtain ⟨h1, h2, h3, -⟩ := hB
  refine (b_X6_isSaying_0 sx (d + 1) x y z H).trans ?_
  rw [q_isS sx d _ x H h3 (by omega)]
  cases q_inb x (sNs B) with
  | false => rfl
  | true =>
    simp (disch := omega) only [Bool.cond_decide, nI_add, pk_mul, q_inbN, q_cl_nI, q_ltN, q_leN, q_eqN, q_ifT, q_ifF, q_cIs, q_cVs, decide_false, decide_true, Bool.not_false, Bool.not_true, cond_true, cond_false, ne_eq, not_false_eq_true, not_true_eq_false, if_true, if_false, z01]
    rw [q_isB sx d _ y H h1 (by omega)]
    cases q_inb y (sNb B) with
    | false => rfl
    | true =>
      simp (disch := omega) only [Bool.cond_decide, nI_add, pk_mul, q_inbN, q_cl_nI, q_ltN, q_leN, q_eqN, q_ifT, q_ifF, q_cIs, q_cVs, decide_false, decide_true, Bool.not_false, Bool.not_true, cond_true, cond_false, ne_eq, not_false_eq_true, not_true_eq_false, if_true, if_false, z01]
      rw [q_isW sx d _ z H h2 (by omega)]
      cases q_inb z (sNw B) with
      | false => rfl
      | true => rfl
theorem m_isB (sx : QX) (d n : Nat) (x : Int32) (H : QH) (h : H 165 3 = nI n) (h1 : 1 ≤ n) (hn : n < 1000000) : q_CL (q_tb sx) q_kpt (d + 2) (106, ([vr 9 165, vi x], H)) = rI (z01 (q_inb x n)) H := by
  refine (b_X7_isBlock_0 sx (d + 1) x H).trans ?_
  rw [h, e64_0, in_eq, in_inb x n h1 hn]
  cases q_inb x n <;> rfl
theorem m_isW (sx : QX) (d n : Nat) (x : Int32) (H : QH) (h : H 165 6 = nI n) (h1 : 1 ≤ n) (hn : n < 1000000) : q_CL (q_tb sx) q_kpt (d + 2) (107, ([vr 9 165, vi x], H)) = rI (z01 (q_inb x n)) H := by
  refine (b_X7_isWord_0 sx (d + 1) x H).trans ?_
  rw [h, e64_0, in_eq, in_inb x n h1 hn]
  cases q_inb x n <;> rfl
theorem m_isS (sx : QX) (d n : Nat) (x : Int32) (H : QH) (h : H 165 8 = nI n) (h1 : 1 ≤ n) (hn : n < 1000000) : q_CL (q_tb sx) q_kpt (d + 2) (108, ([vr 9 165, vi x], H)) = rI (z01 (q_inb x n)) H := by
  refine (b_X7_isSpeaker_0 sx (d + 1) x H).trans ?_
  rw [h, e64_0, in_eq, in_inb x n h1 hn]
  cases q_inb x n <;> rfl
theorem two_same {sx : QX} {d mc mm : Nat} {as : List QV} {A : SA} {n : Nat} (hA : q_sA n A) (x : Int32) (h1 : ∀ H, q_RC A H → q_CL (q_tb sx) q_kpt (d + 40) (mc, (vr 8 0 :: as, H)) = rI x H) (h2 : ∀ H, q_RM A H → q_CL (q_tb sx) q_kpt (d + 40) (mm, (vr 9 165 :: as, H)) = rI x H) : q_two sx d mc mm as A n :=
  ⟨x, A, q_sA_mono hA (by omega), fun H hR => ⟨H, h1 H hR, hR, fun _ _ => rfl⟩, fun H hR => ⟨H, h2 H hR, hR, fun _ _ => rfl⟩⟩
def aST (A : SA) (t : Nat × (Nat → Int32)) : SA := (t, A.2)
def aSW (A : SA) (w : SW) : SA := (A.1, (A.2.1, (w, A.2.2.2)))
def aSU (A : SA) (u : List SW) : SA := (A.1, (A.2.1, (A.2.2.1, (u, A.2.2.2.2))))
def aSK (A : SA) (k : List SW) : SA := (A.1, (A.2.1, (A.2.2.1, (A.2.2.2.1, k))))
theorem q_RC_text {A : SA} {H H' : QH} {t : Nat × (Nat → Int32)} (h : q_RC A H) (h1 : H' 1 2 = nI t.1) (h2 : ∀ j, j < t.1 → H' 2 j = t.2 j) (he : ∀ a, 4 ≤ a → H' a = H a) : q_RC (aST A t) H' := by
  obtain ⟨-, e3, e4, e5, e6⟩ := h
  refine ⟨⟨h1, h2⟩, ?_, ?_, q_pile_of8 e5 (fun a q1 q2 => he a (by omega)), q_pile_of2 e6 (fun a q1 q2 => he a (by omega))⟩
  · show q_rB H' (aB A)
    unfold q_rB at e3 ⊢
    rw [he 4 (by omega), he 5 (by omega), he 6 (by omega), he 7 (by omega), he 8 (by omega), he 9 (by omega), he 11 (by omega), he 12 (by omega)]
    exact e3
  · show q_ag (aB A) (c_get H' 22) (aW A)
    rw [c_get_of (H := H) (H' := H') (fun a q1 q2 => he a (by omega))]
    exact e4
theorem q_RM_text {A : SA} {H H' : QH} {t : Nat × (Nat → Int32)} (h : q_RM A H) (h1 : H' 165 13 = nI t.1) (h2 : ∀ j, j < t.1 → H' 172 j = t.2 j) (h3 : ∀ j, j ≠ 13 → H' 165 j = H 165 j) (he : ∀ a, 166 ≤ a → a < 172 → H' a = H a) : q_RM (aST A t) H' := by
  obtain ⟨-, e3, e4, ⟨e5, e6⟩, e7, e8⟩ := h
  have mv : ∀ (r : Nat), m_get H' r = m_get H r := fun r => m_get_of (he 166 (by omega) (by omega)) r
  refine ⟨⟨h1, h2⟩, ?_, ?_, ⟨(h3 1 (by omega)).trans e5, fun i w hw => ?_⟩, (h3 2 (by omega)).trans e7, fun i w hw => ?_⟩
  · show q_mB H' (aB A)
    unfold q_mB at e3 ⊢
    rw [h3 3 (by omega), h3 6 (by omega), h3 8 (by omega), h3 11 (by omega), he 167 (by omega) (by omega), he 168 (by omega) (by omega), he 169 (by omega) (by omega), he 170 (by omega) (by omega), he 171 (by omega) (by omega)]
    exact e3
  · rw [mv]; exact e4
  · rw [mv]; exact e6 i w hw
  · rw [mv]; exact e8 i w hw
theorem e64_1 : (1 : Int64) = (nI 1).toInt64 := by decide +kernel
theorem e64_7 : (7 : Int64) = (nI 7).toInt64 := by decide +kernel
theorem e64_8 : (8 : Int64) = (nI 8).toInt64 := by decide +kernel
theorem e64_10 : (10 : Int64) = (nI 10).toInt64 := by decide +kernel
theorem e64_20 : (20 : Int64) = (nI 20).toInt64 := by decide +kernel
theorem e64_32 : (32 : Int64) = (nI 32).toInt64 := by decide +kernel
theorem e64_60 : (60 : Int64) = (nI 60).toInt64 := by decide +kernel
theorem e64_99 : (99 : Int64) = (nI 99).toInt64 := by decide +kernel
theorem e64_126 : (126 : Int64) = (nI 126).toInt64 := by decide +kernel
theorem e64_9999 : (9999 : Int64) = (nI 9999).toInt64 := by decide +kernel
theorem two_write (sx : QX) (d n : Nat) (A : SA) (hA : q_sA n A) (x : Int32) : q_two sx d 56 114 [vi x] A n := by
  have hA' := hA
  obtain ⟨hL, -⟩ := hA'
  have hc := fun H => b_X6_write_0 sx (d + 39) x H
  have hm := fun H => b_X7_write_0 sx (d + 39) x H
  simp only [e64_32, e64_126, in_eq, q_cIs] at hm
  by_cases c1 : x < nI 32
  · refine two_same hA (-1) (fun H _ => (hc H).trans ?_) (fun H _ => (hm H).trans ?_)
    · simp only [Bool.cond_decide]
      rw [if_pos c1]
    · rw [decide_eq_false (Int32.not_le.mpr c1)]; rfl
  · by_cases c2 : x ≤ nI 126
    · by_cases c3 : aL A = 200
      · refine two_same hA (-3) (fun H hR => (hc H).trans ?_) (fun H hR => (hm H).trans ?_)
        · obtain ⟨⟨e1, -⟩, -⟩ := hR
          rw [e1, c3]
          simp only [Bool.cond_decide]
          rw [if_neg c1, if_pos c2]
          rfl
        · obtain ⟨⟨e1, -⟩, -⟩ := hR
          rw [e1, c3, decide_eq_true (Int32.not_lt.mp c1), decide_eq_true c2]; rfl
      · refine ⟨nI (aL A + 1), aST A (aL A + 1, upd (aT A) (aL A) x), ?_, fun H hR => ?_, fun H hR => ?_⟩
        · have hA' := q_sA_mono hA (show n ≤ n + 1 by omega)
          exact ⟨show aL A + 1 ≤ 200 by omega, hA'.2⟩
        · have hR' := hR
          obtain ⟨⟨e1, e2⟩, -⟩ := hR'
          refine ⟨q_hs (q_hs H 2 (aL A) x) 1 2 (nI (aL A + 1)), (hc H).trans ?_, q_RC_text hR q_hs_at (fun j hj => ?_) (fun a ha => ?_), fun a ha => ?_⟩
          · have ea : q_CL (q_tb sx) q_kpt (d + 38 + 1) (50, ([vr 7 1, vi x], H)) = rV (q_hs (q_hs H 2 (aL A) x) 1 2 (nI (aL A + 1))) := by
              refine (b_X5_append_0 sx (d + 38) x H).trans ?_
              rw [e1]
              simp (disch := omega) only [Bool.cond_decide, nI_add, pk_mul, q_inbN, q_cl_nI, q_ltN, q_leN, q_eqN, q_ifT, q_ifF, q_cIs, q_cVs, decide_false, decide_true, Bool.not_false, Bool.not_true, cond_true, cond_false, ne_eq, not_false_eq_true, not_true_eq_false, if_true, if_false, put_200, q_hs_ne, e1]
            rw [e1]
            simp only [Bool.cond_decide]
            rw [if_neg c1, if_pos c2]
            rw [ea]
            simp (disch := omega) only [Bool.cond_decide, nI_add, pk_mul, q_inbN, q_cl_nI, q_ltN, q_leN, q_eqN, q_ifT, q_ifF, q_cIs, q_cVs, decide_false, decide_true, Bool.not_false, Bool.not_true, cond_true, cond_false, ne_eq, not_false_eq_true, not_true_eq_false, if_true, if_false, q_hs_at]
          · rw [q_hs_ne (by omega), q_hs_eq]
            by_cases hj' : j = aL A
            · subst hj'
              rw [pk_us]
              exact pk_us.symm
            · rw [pk_un hj', e2 j (by change j < aL A + 1 at hj; omega)]
              exact (pk_un hj').symm
          · rw [q_hs_ne (by omega), q_hs_ne (by omega)]
          · rw [q_hs_ne (by omega), q_hs_ne (by omega)]
        · have hR' := hR
          obtain ⟨⟨e1, e2⟩, -⟩ := hR'
          refine ⟨q_hs (q_hs H 172 (aL A) x) 165 13 (nI (aL A + 1)), (hm H).trans ?_, q_RM_text hR q_hs_at (fun j hj => ?_) (fun j hj => ?_) (fun a ha ha' => ?_), fun a ha => ?_⟩
          · rw [e1, decide_eq_true (Int32.not_lt.mp c1), decide_eq_true c2]
            simp (disch := omega) only [Bool.cond_decide, nI_add, pk_mul, q_inbN, q_cl_nI, q_ltN, q_leN, q_eqN, q_ifT, q_ifF, q_cIs, q_cVs, decide_false, decide_true, Bool.not_false, Bool.not_true, cond_true, cond_false, ne_eq, not_false_eq_true, not_true_eq_false, if_true, if_false, Bool.and_true, z01, q_hs_ne, q_hs_at, e1]
          · rw [q_hs_ne (by omega), q_hs_eq]
            by_cases hj' : j = aL A
            · subst hj'
              rw [pk_us]
              exact pk_us.symm
            · rw [pk_un hj', e2 j (by change j < aL A + 1 at hj; omega)]
              exact (pk_un hj').symm
          · rw [q_hs_ix hj, q_hs_ne (by omega)]
          · rw [q_hs_ne (by omega), q_hs_ne (by omega)]
          · rw [q_hs_ne (by omega), q_hs_ne (by omega)]
    · refine two_same hA (-1) (fun H _ => (hc H).trans ?_) (fun H _ => (hm H).trans ?_)
      · simp only [Bool.cond_decide]
        rw [if_neg c1, if_neg c2]
      · rw [decide_eq_false c2, Bool.and_false]; rfl
theorem two_wipe (sx : QX) (d n : Nat) (A : SA) (hA : q_sA n A) : q_two sx d 57 115 [] A n := by
  refine ⟨nI (aL A), aST A (0, aT A), ?_, fun H hR => ?_, fun H hR => ?_⟩
  · have hA' := q_sA_mono hA (show n ≤ n + 1 by omega)
    exact ⟨Nat.zero_le _, hA'.2⟩
  · refine ⟨q_hs H 1 2 (nI 0), (b_X6_wipe_0 sx (d + 39) H).trans (by rw [hR.1.1]), q_RC_text hR q_hs_at (fun j hj => absurd hj (Nat.not_lt_zero _)) (fun a ha => q_hs_ne (by omega)), fun a ha => q_hs_ne (by omega)⟩
  · refine ⟨q_hs H 165 13 (nI 0), (b_X7_wipe_0 sx (d + 39) H).trans (by rw [hR.1.1]), q_RM_text hR q_hs_at (fun j hj => absurd hj (Nat.not_lt_zero _)) (fun j hj => q_hs_ix hj) (fun a ha _ => q_hs_ne (by omega)), fun a ha => q_hs_ne (by omega)⟩
theorem two_word (sx : QX) (d n : Nat) (A : SA) (hA : q_sA n A) (x : Int32) : q_two sx d 61 128 [vi x] A n := by
  have hA' := hA
  obtain ⟨-, ⟨⟨g1, g2⟩, ⟨g3, g4⟩, ⟨g5, g6⟩, -⟩, -⟩ := hA'
  rcases q_inb_cases x (sNw (aB A)) (by omega) with ⟨e, -⟩ | ⟨k, hk, rfl⟩
  · refine two_same hA (-1) (fun H hR => (b_X6_word_0 sx (d + 39) x H).trans ?_) (fun H hR => (b_X7_word_0 sx (d + 39) x H).trans ?_)
    · rw [q_isW sx _ _ x H hR.2.1.2.1 (by omega), e]; rfl
    · rw [m_isW sx _ _ x H hR.2.1.2.1 (by omega) (by omega), e]; rfl
  · refine two_same hA (sT (aB A) k) (fun H hR => (b_X6_word_0 sx (d + 39) _ H).trans ?_) (fun H hR => (b_X7_word_0 sx (d + 39) _ H).trans ?_)
    · rw [q_isW sx _ _ _ H hR.2.1.2.1 (by omega)]
      simp (disch := omega) only [Bool.cond_decide, nI_add, pk_mul, q_inbN, q_cl_nI, q_ltN, q_leN, q_eqN, q_ifT, q_ifF, q_cIs, q_cVs, decide_false, decide_true, Bool.not_false, Bool.not_true, cond_true, cond_false, ne_eq, not_false_eq_true, not_true_eq_false, if_true, if_false, z01, at_6, hR.2.1.2.2.2.2.2.2.1 k hk]
    · rw [m_isW sx _ _ _ H hR.2.1.2.1 (by omega) (by omega)]
      simp (disch := omega) only [Bool.cond_decide, nI_add, pk_mul, q_inbN, q_cl_nI, q_ltN, q_leN, q_eqN, q_ifT, q_ifF, q_cIs, q_cVs, decide_false, decide_true, Bool.not_false, Bool.not_true, cond_true, cond_false, ne_eq, not_false_eq_true, not_true_eq_false, if_true, if_false, z01, hR.2.1.2.2.2.2.2.2.1 k hk]
theorem two_block (sx : QX) (d n : Nat) (A : SA) (hA : q_sA n A) (x y : Int32) : q_two sx d 60 127 [vi x, vi y] A n := by
  have hA' := hA
  obtain ⟨-, ⟨⟨g1, g2⟩, ⟨g3, g4⟩, ⟨g5, g6⟩, -⟩, -⟩ := hA'
  rcases q_inb_cases x (sNb (aB A)) (by omega) with ⟨e, -⟩ | ⟨k, hk, rfl⟩
  · refine two_same hA (-1) (fun H hR => (b_X6_block_0 sx (d + 39) x y H).trans ?_) (fun H hR => (b_X7_block_0 sx (d + 39) x y H).trans ?_)
    · rw [q_isB sx _ _ x H hR.2.1.1 (by omega), e]; rfl
    · rw [m_isB sx _ _ x H hR.2.1.1 (by omega) (by omega), e]; rfl
  · have hc : ∀ H, q_RC A H → _ := fun H hR => (b_X6_block_0 sx (d + 39) (nI k) y H).trans (by rw [q_isB sx _ _ _ H hR.2.1.1 (by omega)])
    have hm : ∀ H, q_RM A H → _ := fun H hR => (b_X7_block_0 sx (d + 39) (nI k) y H).trans (by rw [m_isB sx _ _ _ H hR.2.1.1 (by omega) (by omega)])
    by_cases c0 : y = nI 0
    · subst c0
      refine two_same hA (sK (aB A) k) (fun H hR => (hc H hR).trans ?_) (fun H hR => (hm H hR).trans ?_)
      · simp (disch := omega) only [Bool.cond_decide, nI_add, pk_mul, q_inbN, q_cl_nI, q_ltN, q_leN, q_eqN, q_ifT, q_ifF, q_cIs, q_cVs, decide_false, decide_true, Bool.not_false, Bool.not_true, cond_true, cond_false, ne_eq, not_false_eq_true, not_true_eq_false, if_true, if_false, z01, at_6, hR.2.1.2.2.2.2.1 k hk]
      · simp (disch := omega) only [Bool.cond_decide, nI_add, pk_mul, q_inbN, q_cl_nI, q_ltN, q_leN, q_eqN, q_ifT, q_ifF, q_cIs, q_cVs, decide_false, decide_true, Bool.not_false, Bool.not_true, cond_true, cond_false, ne_eq, not_false_eq_true, not_true_eq_false, if_true, if_false, z01, hR.2.1.2.2.2.2.1 k hk]
    · by_cases c1 : y = nI 1
      · subst c1
        refine two_same hA (sN (aB A) k) (fun H hR => (hc H hR).trans ?_) (fun H hR => (hm H hR).trans ?_)
        · simp (disch := omega) only [Bool.cond_decide, nI_add, pk_mul, q_inbN, q_cl_nI, q_ltN, q_leN, q_eqN, q_ifT, q_ifF, q_cIs, q_cVs, decide_false, decide_true, Bool.not_false, Bool.not_true, cond_true, cond_false, ne_eq, not_false_eq_true, not_true_eq_false, if_true, if_false, z01, at_6, hR.2.1.2.2.2.2.2.1 k hk]
        · simp (disch := omega) only [Bool.cond_decide, nI_add, pk_mul, q_inbN, q_cl_nI, q_ltN, q_leN, q_eqN, q_ifT, q_ifF, q_cIs, q_cVs, decide_false, decide_true, Bool.not_false, Bool.not_true, cond_true, cond_false, ne_eq, not_false_eq_true, not_true_eq_false, if_true, if_false, z01, hR.2.1.2.2.2.2.2.1 k hk]
      · by_cases c2 : y = nI 2
        · subst c2
          refine two_same hA (aW A (1 + k)) (fun H hR => (hc H hR).trans ?_) (fun H hR => (hm H hR).trans ?_)
          · have e := hR.2.2.1 (1 + k) (by omega)
            simp (disch := omega) only [Bool.cond_decide, nI_add, pk_mul, q_inbN, q_cl_nI, q_ltN, q_leN, q_eqN, q_ifT, q_ifF, q_cIs, q_cVs, decide_false, decide_true, Bool.not_false, Bool.not_true, cond_true, cond_false, ne_eq, not_false_eq_true, not_true_eq_false, if_true, if_false, z01, at_6, c_r1 H 22, e]
          · have e := hR.2.2.1.1 (1 + k) (by omega)
            rw [← e]
            simp (disch := omega) only [Bool.cond_decide, nI_add, pk_mul, q_inbN, q_cl_nI, q_ltN, q_leN, q_eqN, q_ifT, q_ifF, q_cIs, q_cVs, decide_false, decide_true, Bool.not_false, Bool.not_true, cond_true, cond_false, ne_eq, not_false_eq_true, not_true_eq_false, if_true, if_false, z01, m_get, Nat.zero_add]
        · by_cases c3 : y = nI 3
          · subst c3
            refine two_same hA (aW A (7 + k)) (fun H hR => (hc H hR).trans ?_) (fun H hR => (hm H hR).trans ?_)
            · have e := hR.2.2.1 (7 + k) (by omega)
              simp (disch := omega) only [Bool.cond_decide, nI_add, pk_mul, q_inbN, q_cl_nI, q_ltN, q_leN, q_eqN, q_ifT, q_ifF, q_cIs, q_cVs, decide_false, decide_true, Bool.not_false, Bool.not_true, cond_true, cond_false, ne_eq, not_false_eq_true, not_true_eq_false, if_true, if_false, z01, at_6, c_r2 H 22, e]
            · have e := hR.2.2.1.1 (7 + k) (by omega)
              rw [← e]
              simp (disch := omega) only [Bool.cond_decide, nI_add, pk_mul, q_inbN, q_cl_nI, q_ltN, q_leN, q_eqN, q_ifT, q_ifF, q_cIs, q_cVs, decide_false, decide_true, Bool.not_false, Bool.not_true, cond_true, cond_false, ne_eq, not_false_eq_true, not_true_eq_false, if_true, if_false, z01, m_get, Nat.zero_add]
          · by_cases c4 : y = nI 4
            · subst c4
              refine two_same hA (aW A (13 + k)) (fun H hR => (hc H hR).trans ?_) (fun H hR => (hm H hR).trans ?_)
              · have e := hR.2.2.1 (13 + k) (by omega)
                simp (disch := omega) only [Bool.cond_decide, nI_add, pk_mul, q_inbN, q_cl_nI, q_ltN, q_leN, q_eqN, q_ifT, q_ifF, q_cIs, q_cVs, decide_false, decide_true, Bool.not_false, Bool.not_true, cond_true, cond_false, ne_eq, not_false_eq_true, not_true_eq_false, if_true, if_false, z01, at_6, c_r3 H 22, e]
              · have e := hR.2.2.1.1 (13 + k) (by omega)
                rw [← e]
                simp (disch := omega) only [Bool.cond_decide, nI_add, pk_mul, q_inbN, q_cl_nI, q_ltN, q_leN, q_eqN, q_ifT, q_ifF, q_cIs, q_cVs, decide_false, decide_true, Bool.not_false, Bool.not_true, cond_true, cond_false, ne_eq, not_false_eq_true, not_true_eq_false, if_true, if_false, z01, m_get, Nat.zero_add]
            · refine two_same hA (-1) (fun H hR => (hc H hR).trans ?_) (fun H hR => (hm H hR).trans ?_)
              · simp (disch := omega) only [Bool.cond_decide, nI_add, pk_mul, q_inbN, q_cl_nI, q_ltN, q_leN, q_eqN, q_ifT, q_ifF, q_cIs, q_cVs, decide_false, decide_true, Bool.not_false, Bool.not_true, cond_true, cond_false, ne_eq, not_false_eq_true, not_true_eq_false, if_true, if_false, z01, c0, c1, c2, c3, c4]
              · simp (disch := omega) only [Bool.cond_decide, nI_add, pk_mul, q_inbN, q_cl_nI, q_ltN, q_leN, q_eqN, q_ifT, q_ifF, q_cIs, q_cVs, decide_false, decide_true, Bool.not_false, Bool.not_true, cond_true, cond_false, ne_eq, not_false_eq_true, not_true_eq_false, if_true, if_false, z01, c0, c1, c2, c3, c4]
theorem two_speaker (sx : QX) (d n : Nat) (A : SA) (hA : q_sA n A) (x y : Int32) : q_two sx d 62 129 [vi x, vi y] A n := by
  have hA' := hA
  obtain ⟨-, ⟨⟨g1, g2⟩, ⟨g3, g4⟩, ⟨g5, g6⟩, -⟩, -⟩ := hA'
  rcases q_inb_cases x (sNs (aB A)) (by omega) with ⟨e, -⟩ | ⟨k, hk, rfl⟩
  · refine two_same hA (-1) (fun H hR => (b_X6_speaker_0 sx (d + 39) x y H).trans ?_) (fun H hR => (b_X7_speaker_0 sx (d + 39) x y H).trans ?_)
    · rw [q_isS sx _ _ x H hR.2.1.2.2.1 (by omega), e]; rfl
    · rw [m_isS sx _ _ x H hR.2.1.2.2.1 (by omega) (by omega), e]; rfl
  · have hc : ∀ H, q_RC A H → _ := fun H hR => (b_X6_speaker_0 sx (d + 39) (nI k) y H).trans (by rw [q_isS sx _ _ _ H hR.2.1.2.2.1 (by omega)])
    have hm : ∀ H, q_RM A H → _ := fun H hR => (b_X7_speaker_0 sx (d + 39) (nI k) y H).trans (by rw [m_isS sx _ _ _ H hR.2.1.2.2.1 (by omega) (by omega)])
    by_cases c0 : y = nI 0
    · subst c0
      refine two_same hA (sS (aB A) k) (fun H hR => (hc H hR).trans ?_) (fun H hR => (hm H hR).trans ?_)
      · simp (disch := omega) only [Bool.cond_decide, nI_add, pk_mul, q_inbN, q_cl_nI, q_ltN, q_leN, q_eqN, q_ifT, q_ifF, q_cIs, q_cVs, decide_false, decide_true, Bool.not_false, Bool.not_true, cond_true, cond_false, ne_eq, not_false_eq_true, not_true_eq_false, if_true, if_false, z01, at_4, hR.2.1.2.2.2.2.2.2.2.1 k hk]
      · simp (disch := omega) only [Bool.cond_decide, nI_add, pk_mul, q_inbN, q_cl_nI, q_ltN, q_leN, q_eqN, q_ifT, q_ifF, q_cIs, q_cVs, decide_false, decide_true, Bool.not_false, Bool.not_true, cond_true, cond_false, ne_eq, not_false_eq_true, not_true_eq_false, if_true, if_false, z01, hR.2.1.2.2.2.2.2.2.2.1 k hk]
    · by_cases c1 : y = nI 1
      · subst c1
        refine two_same hA (sD (aB A) k) (fun H hR => (hc H hR).trans ?_) (fun H hR => (hm H hR).trans ?_)
        · simp (disch := omega) only [Bool.cond_decide, nI_add, pk_mul, q_inbN, q_cl_nI, q_ltN, q_leN, q_eqN, q_ifT, q_ifF, q_cIs, q_cVs, decide_false, decide_true, Bool.not_false, Bool.not_true, cond_true, cond_false, ne_eq, not_false_eq_true, not_true_eq_false, if_true, if_false, z01, at_4, hR.2.1.2.2.2.2.2.2.2.2.1 k hk]
        · simp (disch := omega) only [Bool.cond_decide, nI_add, pk_mul, q_inbN, q_cl_nI, q_ltN, q_leN, q_eqN, q_ifT, q_ifF, q_cIs, q_cVs, decide_false, decide_true, Bool.not_false, Bool.not_true, cond_true, cond_false, ne_eq, not_false_eq_true, not_true_eq_false, if_true, if_false, z01, hR.2.1.2.2.2.2.2.2.2.2 k hk]
      · by_cases c2 : y = nI 2
        · subst c2
          refine two_same hA (aW A (79 + k)) (fun H hR => (hc H hR).trans ?_) (fun H hR => (hm H hR).trans ?_)
          · have e := hR.2.2.1 (79 + k) (by omega)
            simp (disch := omega) only [Bool.cond_decide, nI_add, pk_mul, q_inbN, q_cl_nI, q_ltN, q_leN, q_eqN, q_ifT, q_ifF, q_cIs, q_cVs, decide_false, decide_true, Bool.not_false, Bool.not_true, cond_true, cond_false, ne_eq, not_false_eq_true, not_true_eq_false, if_true, if_false, z01, at_4, c_r4 H 22, e]
          · have e := hR.2.2.1.1 (79 + k) (by omega)
            rw [← e]
            simp (disch := omega) only [Bool.cond_decide, nI_add, pk_mul, q_inbN, q_cl_nI, q_ltN, q_leN, q_eqN, q_ifT, q_ifF, q_cIs, q_cVs, decide_false, decide_true, Bool.not_false, Bool.not_true, cond_true, cond_false, ne_eq, not_false_eq_true, not_true_eq_false, if_true, if_false, z01, m_get, Nat.zero_add]
        · refine two_same hA (-1) (fun H hR => (hc H hR).trans ?_) (fun H hR => (hm H hR).trans ?_)
          · simp (disch := omega) only [Bool.cond_decide, nI_add, pk_mul, q_inbN, q_cl_nI, q_ltN, q_leN, q_eqN, q_ifT, q_ifF, q_cIs, q_cVs, decide_false, decide_true, Bool.not_false, Bool.not_true, cond_true, cond_false, ne_eq, not_false_eq_true, not_true_eq_false, if_true, if_false, z01, c0, c1, c2]
          · simp (disch := omega) only [Bool.cond_decide, nI_add, pk_mul, q_inbN, q_cl_nI, q_ltN, q_leN, q_eqN, q_ifT, q_ifF, q_cIs, q_cVs, decide_false, decide_true, Bool.not_false, Bool.not_true, cond_true, cond_false, ne_eq, not_false_eq_true, not_true_eq_false, if_true, if_false, z01, c0, c1, c2]
theorem two_heard (sx : QX) (d n : Nat) (A : SA) (hA : q_sA n A) (x y : Int32) : q_two sx d 63 130 [vi x, vi y] A n := by
  have hA' := hA
  obtain ⟨-, ⟨⟨g1, g2⟩, ⟨g3, g4⟩, ⟨g5, g6⟩, -⟩, -⟩ := hA'
  rcases q_inb_cases x (sNb (aB A)) (by omega) with ⟨e, -⟩ | ⟨b, hb, rfl⟩
  · refine two_same hA (-1) (fun H hR => (b_X6_heard_0 sx (d + 39) x y H).trans ?_) (fun H hR => (b_X7_heard_0 sx (d + 39) x y H).trans ?_)
    · rw [q_isB sx _ _ x H hR.2.1.1 (by omega), e]; rfl
    · rw [m_isB sx _ _ x H hR.2.1.1 (by omega) (by omega), e]; rfl
  · rcases q_inb_cases y (sNw (aB A)) (by omega) with ⟨e, -⟩ | ⟨k, hk, rfl⟩
    · refine two_same hA (-1) (fun H hR => (b_X6_heard_0 sx (d + 39) _ y H).trans ?_) (fun H hR => (b_X7_heard_0 sx (d + 39) _ y H).trans ?_)
      · rw [q_isB sx _ _ _ H hR.2.1.1 (by omega)]
        simp (disch := omega) only [Bool.cond_decide, nI_add, pk_mul, q_inbN, q_cl_nI, q_ltN, q_leN, q_eqN, q_ifT, q_ifF, q_cIs, q_cVs, decide_false, decide_true, Bool.not_false, Bool.not_true, cond_true, cond_false, ne_eq, not_false_eq_true, not_true_eq_false, if_true, if_false, z01]
        rw [q_isW sx _ _ y H hR.2.1.2.1 (by omega), e]; rfl
      · rw [m_isB sx _ _ _ H hR.2.1.1 (by omega) (by omega)]
        simp (disch := omega) only [Bool.cond_decide, nI_add, pk_mul, q_inbN, q_cl_nI, q_ltN, q_leN, q_eqN, q_ifT, q_ifF, q_cIs, q_cVs, decide_false, decide_true, Bool.not_false, Bool.not_true, cond_true, cond_false, ne_eq, not_false_eq_true, not_true_eq_false, if_true, if_false, z01]
        rw [m_isW sx _ _ y H hR.2.1.2.1 (by omega) (by omega), e]; rfl
    · refine two_same hA (aW A (19 + 6 * b + k)) (fun H hR => (b_X6_heard_0 sx (d + 39) _ _ H).trans ?_) (fun H hR => (b_X7_heard_0 sx (d + 39) _ _ H).trans ?_)
      · rw [q_isB sx _ _ _ H hR.2.1.1 (by omega)]
        simp (disch := omega) only [Bool.cond_decide, nI_add, pk_mul, q_inbN, q_cl_nI, q_ltN, q_leN, q_eqN, q_ifT, q_ifF, q_cIs, q_cVs, decide_false, decide_true, Bool.not_false, Bool.not_true, cond_true, cond_false, ne_eq, not_false_eq_true, not_true_eq_false, if_true, if_false, z01]
        rw [q_isW sx _ _ _ H hR.2.1.2.1 (by omega)]
        have e := hR.2.2.1 (19 + 6 * b + k) (by omega)
        simp (disch := omega) only [Bool.cond_decide, nI_add, pk_mul, q_inbN, q_cl_nI, q_ltN, q_leN, q_eqN, q_ifT, q_ifF, q_cIs, q_cVs, decide_false, decide_true, Bool.not_false, Bool.not_true, cond_true, cond_false, ne_eq, not_false_eq_true, not_true_eq_false, if_true, if_false, z01, q_timesHeard, e]
      · rw [m_isB sx _ _ _ H hR.2.1.1 (by omega) (by omega)]
        simp (disch := omega) only [Bool.cond_decide, nI_add, pk_mul, q_inbN, q_cl_nI, q_ltN, q_leN, q_eqN, q_ifT, q_ifF, q_cIs, q_cVs, decide_false, decide_true, Bool.not_false, Bool.not_true, cond_true, cond_false, ne_eq, not_false_eq_true, not_true_eq_false, if_true, if_false, z01]
        rw [m_isW sx _ _ _ H hR.2.1.2.1 (by omega) (by omega)]
        have e := hR.2.2.1.1 (19 + 6 * b + k) (by omega)
        rw [← e]
        simp (disch := omega) only [Bool.cond_decide, nI_add, pk_mul, q_inbN, q_cl_nI, q_ltN, q_leN, q_eqN, q_ifT, q_ifF, q_cIs, q_cVs, decide_false, decide_true, Bool.not_false, Bool.not_true, cond_true, cond_false, ne_eq, not_false_eq_true, not_true_eq_false, if_true, if_false, z01, m_get, Nat.zero_add]
theorem two_promised (sx : QX) (d n : Nat) (A : SA) (hA : q_sA n A) (x y : Int32) : q_two sx d 64 131 [vi x, vi y] A n := by
  have hA' := hA
  obtain ⟨-, ⟨⟨g1, g2⟩, ⟨g3, g4⟩, ⟨g5, g6⟩, -⟩, -⟩ := hA'
  rcases q_inb_cases x (sNs (aB A)) (by omega) with ⟨e, -⟩ | ⟨s, hs, rfl⟩
  · refine two_same hA (-1) (fun H hR => (b_X6_promised_0 sx (d + 39) x y H).trans ?_) (fun H hR => (b_X7_promised_0 sx (d + 39) x y H).trans ?_)
    · rw [q_isS sx _ _ x H hR.2.1.2.2.1 (by omega), e]; rfl
    · rw [m_isS sx _ _ x H hR.2.1.2.2.1 (by omega) (by omega), e]; rfl
  · rcases q_inb_cases y (sNb (aB A)) (by omega) with ⟨e, -⟩ | ⟨b, hb, rfl⟩
    · refine two_same hA (-1) (fun H hR => (b_X6_promised_0 sx (d + 39) _ y H).trans ?_) (fun H hR => (b_X7_promised_0 sx (d + 39) _ y H).trans ?_)
      · rw [q_isS sx _ _ _ H hR.2.1.2.2.1 (by omega)]
        simp (disch := omega) only [Bool.cond_decide, nI_add, pk_mul, q_inbN, q_cl_nI, q_ltN, q_leN, q_eqN, q_ifT, q_ifF, q_cIs, q_cVs, decide_false, decide_true, Bool.not_false, Bool.not_true, cond_true, cond_false, ne_eq, not_false_eq_true, not_true_eq_false, if_true, if_false, z01]
        rw [q_isB sx _ _ y H hR.2.1.1 (by omega), e]; rfl
      · rw [m_isS sx _ _ _ H hR.2.1.2.2.1 (by omega) (by omega)]
        simp (disch := omega) only [Bool.cond_decide, nI_add, pk_mul, q_inbN, q_cl_nI, q_ltN, q_leN, q_eqN, q_ifT, q_ifF, q_cIs, q_cVs, decide_false, decide_true, Bool.not_false, Bool.not_true, cond_true, cond_false, ne_eq, not_false_eq_true, not_true_eq_false, if_true, if_false, z01]
        rw [m_isB sx _ _ y H hR.2.1.1 (by omega) (by omega), e]; rfl
    · refine two_same hA (aW A (55 + 6 * s + b)) (fun H hR => (b_X6_promised_0 sx (d + 39) _ _ H).trans ?_) (fun H hR => (b_X7_promised_0 sx (d + 39) _ _ H).trans ?_)
      · rw [q_isS sx _ _ _ H hR.2.1.2.2.1 (by omega)]
        simp (disch := omega) only [Bool.cond_decide, nI_add, pk_mul, q_inbN, q_cl_nI, q_ltN, q_leN, q_eqN, q_ifT, q_ifF, q_cIs, q_cVs, decide_false, decide_true, Bool.not_false, Bool.not_true, cond_true, cond_false, ne_eq, not_false_eq_true, not_true_eq_false, if_true, if_false, z01]
        rw [q_isB sx _ _ _ H hR.2.1.1 (by omega)]
        have e := hR.2.2.1 (55 + 6 * s + b) (by omega)
        simp (disch := omega) only [Bool.cond_decide, nI_add, pk_mul, q_inbN, q_cl_nI, q_ltN, q_leN, q_eqN, q_ifT, q_ifF, q_cIs, q_cVs, decide_false, decide_true, Bool.not_false, Bool.not_true, cond_true, cond_false, ne_eq, not_false_eq_true, not_true_eq_false, if_true, if_false, z01, q_vowOf, e]
      · rw [m_isS sx _ _ _ H hR.2.1.2.2.1 (by omega) (by omega)]
        simp (disch := omega) only [Bool.cond_decide, nI_add, pk_mul, q_inbN, q_cl_nI, q_ltN, q_leN, q_eqN, q_ifT, q_ifF, q_cIs, q_cVs, decide_false, decide_true, Bool.not_false, Bool.not_true, cond_true, cond_false, ne_eq, not_false_eq_true, not_true_eq_false, if_true, if_false, z01]
        rw [m_isB sx _ _ _ H hR.2.1.1 (by omega) (by omega)]
        have e := hR.2.2.1.1 (55 + 6 * s + b) (by omega)
        rw [← e]
        simp (disch := omega) only [Bool.cond_decide, nI_add, pk_mul, q_inbN, q_cl_nI, q_ltN, q_leN, q_eqN, q_ifT, q_ifF, q_cIs, q_cVs, decide_false, decide_true, Bool.not_false, Bool.not_true, cond_true, cond_false, ne_eq, not_false_eq_true, not_true_eq_false, if_true, if_false, z01, m_get, Nat.zero_add]
