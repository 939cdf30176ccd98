/-! the model searches; least -/
def y_rel (B : SB) (h0 hd : Nat → Nat) (H : QH) (st : ST) : Prop := (∀ s, s < sNs B → ∃ a, H 180 s = nI a ∧ a + st.1 s = h0 s ∧ h0 s < 1000) ∧ ∀ k, k < sNw B → ∃ a, H 179 k = nI a ∧ st.2.1 k = hd k + a ∧ hd k < 1000000 ∧ a < 1000
def y_fr (H H' : QH) (d : Nat) : Prop := (∀ a, ¬ (177 ≤ a ∧ a < 181) → H' a = H a) ∧ (∀ i, i < d → H' 177 i = H 177 i) ∧ ∀ i, i ≤ d → H' 178 i = H 178 i
theorem y_fr_rf (H : QH) (d : Nat) : y_fr H H d := ⟨fun _ _ => rfl, fun _ _ => rfl, fun _ _ => rfl⟩
theorem y_fr_tr {H H1 H2 : QH} {d e : Nat} (h1 : y_fr H H1 d) (h2 : y_fr H1 H2 e) (hde : d ≤ e) : y_fr H H2 d := ⟨fun a ha => (h2.1 a ha).trans (h1.1 a ha), fun i hi => (h2.2.1 i (by omega)).trans (h1.2.1 i hi), fun i hi => (h2.2.2 i (by omega)).trans (h1.2.2 i hi)⟩
noncomputable def y_ev (sx : QX) (d b many : Nat) (x : Int32) (H : QH) : Option QR := q_EV (q_tb sx) q_kpt (d + 4) 153 (64, ([(0, vr 9 165), (1, vn b), (2, vn many), (3, vi x)], ([], H)))
def y_w0 (H : QH) (d i s k soft a c : Nat) : QH := q_hs (q_hs (q_hs (q_hs H 177 d (nI i)) 178 (d + 1) (nI soft)) 180 s (nI a)) 179 k (nI c)
/-- one is said: what the model notes -/
theorem y_say (sx : QX) (dd b many d s k soft a c h0 hd gv : Nat) (H : QH) (B : SB) (hs : q_sB B) (hB : q_mB H B) (hb : b < sNb B) (hk : k < sNw B) (hsn : s < sNs B) (hd4 : d < many) (hm : many ≤ 4) (e180 : H 180 s = nI a) (e179 : H 179 k = nI c) (e166 : H 166 (79 + s) = nI h0) (eh : m_get H 0 (19 + 6 * b + k) = nI hd) (e178 : H 178 d = nI soft) (eg : z_spk B s b k = nI gv) (hgv : gv < 1000) (ha : a < h0) (hh0 : h0 < 1000) (hhd : hd < 1000000) (hc : c < 1000) : q_EV (q_tb sx) q_kpt (dd + 4) 153 (155, ([(0, vr 9 165), (1, vn b), (2, vn many), (3, vn d), (4, vn (s * sNw B + k))], ([], H))) = y_ev sx dd b many (nI (d + 1)) (if many ≤ d + 1 then y_w0 H d (s * sNw B + k) s k (soft + (gv - (hd + c))) (a + 1) (c + 1) else q_hs (y_w0 H d (s * sNw B + k) s k (soft + (gv - (hd + c))) (a + 1) (c + 1)) 177 (d + 1) (-1)) := by
  have hs' := hs
  have hB' := hB
  obtain ⟨⟨g1, g2⟩, ⟨g3, g4⟩, ⟨g5, g6⟩, -⟩ := hs'
  obtain ⟨h3, h6, h8, -⟩ := hB'
  have hlt : s * sNw B + k < sNs B * sNw B := Nat.lt_of_lt_of_le (show s * sNw B + k < (s + 1) * sNw B by rw [Nat.succ_mul]; omega) (Nat.mul_le_mul_right _ hsn)
  have hbig : sNs B * sNw B ≤ 4 * 6 := Nat.mul_le_mul g6 g4
  have eD : nI (s * sNw B + k) / nI (sNw B) = nI s := by
    rw [pk_div (by omega) (by omega) (by omega), Nat.add_comm, Nat.add_mul_div_right k s (by omega), Nat.div_eq_of_lt hk, Nat.zero_add]
  have eM : nI (s * sNw B + k) - nI (s * sNw B) = nI k := by rw [pk_sub (by omega), Nat.add_sub_cancel_left]
  have h165 : ∀ j x, (q_hs H 177 d x) 165 j = H 165 j := fun j x => by rw [q_hs_ne (by omega)]
  have hBq : ∀ x, q_mB (q_hs H 177 d x) B := fun x => by
    unfold q_mB at hB ⊢
    rw [q_hs_ne (by omega), q_hs_ne (by omega), q_hs_ne (by omega), q_hs_ne (by omega), q_hs_ne (by omega), q_hs_ne (by omega)]
    exact hB
  have ehq : ∀ x, m_get (q_hs H 177 d x) 0 (19 + 6 * b + k) = nI hd := fun x => by rw [m_get_of (q_hs_ne (by omega))]; exact eh
  refine (b_X7_bringsOut_155 sx (dd + 3) (nI b) (nI many) (nI d) (nI (s * sNw B + k)) H).trans ?_
  simp (disch := omega) only [q_cl_nI, q_inbN, decide_true, cond_true]
  simp only [h165, h6, h8, eD, pk_mul, eM]
  simp (disch := omega) only [nI_add, q_cl_nI, q_inbN, q_leN, q_eqN, q_ltN, q_nd, e166, e180, decide_false, decide_true, cond_true, cond_false, Bool.cond_decide, ne_eq, q_ifT, q_ifF, not_false_eq_true]
  rw [m_spoken sx (dd + 1) s b k _ B (hBq _) hs hsn hb hk, eg, q_cIs, m_heardOf sx (dd + 2) 0 b k _ (by omega) (by omega) (by omega), ehq, q_cIs, q_hs_ne (by omega), e179, nI_add hd c, m_less sx (dd + 2), z_less_n (by omega) (by omega), q_cIs]
  simp (disch := omega) only [nI_add, q_cl_nI, q_inbN, q_leN, decide_true, cond_true, q_hs_ne, e178, e180, e179, q_ifT, q_ifF]
  unfold y_ev y_w0
  by_cases c9 : many ≤ d + 1
  · simp only [if_pos c9]
  · simp (disch := omega) only [if_neg c9, q_inbN, decide_true, cond_true, q_ifT]
theorem y_skip (sx : QX) (dd b many d s k a h0 : Nat) (H : QH) (B : SB) (hs : q_sB B) (hB : q_mB H B) (hk : k < sNw B) (hsn : s < sNs B) (e180 : H 180 s = nI a) (e166 : H 166 (79 + s) = nI h0) (ha : h0 ≤ a) (ha2 : a < 10000) : q_EV (q_tb sx) q_kpt (dd + 4) 153 (155, ([(0, vr 9 165), (1, vn b), (2, vn many), (3, vn d), (4, vn (s * sNw B + k))], ([], H))) = q_EV (q_tb sx) q_kpt (dd + 4) 153 (155, ([(0, vr 9 165), (1, vn b), (2, vn many), (3, vn d), (4, vn (s * sNw B + k + 1))], ([], H))) := by
  have hs' := hs
  have hB' := hB
  obtain ⟨⟨g1, g2⟩, ⟨g3, g4⟩, ⟨g5, g6⟩, -⟩ := hs'
  obtain ⟨h3, h6, h8, -⟩ := hB'
  have hlt : s * sNw B + k < sNs B * sNw B := Nat.lt_of_lt_of_le (show s * sNw B + k < (s + 1) * sNw B by rw [Nat.succ_mul]; omega) (Nat.mul_le_mul_right _ hsn)
  have hbig : sNs B * sNw B ≤ 4 * 6 := Nat.mul_le_mul g6 g4
  have eD : nI (s * sNw B + k) / nI (sNw B) = nI s := by
    rw [pk_div (by omega) (by omega) (by omega), Nat.add_comm, Nat.add_mul_div_right k s (by omega), Nat.div_eq_of_lt hk, Nat.zero_add]
  refine (b_X7_bringsOut_155 sx (dd + 3) (nI b) (nI many) (nI d) (nI (s * sNw B + k)) H).trans ?_
  simp only [h6, h8, eD, pk_mul]
  simp (disch := omega) only [nI_add, q_cl_nI, q_inbN, q_leN, q_eqN, q_ltN, q_nd, e166, e180, decide_false, decide_true, cond_true, cond_false, Bool.cond_decide, ne_eq, q_ifT, q_ifF, not_false_eq_true]
theorem y_end (sx : QX) (dd b many d : Nat) (H : QH) (B : SB) (hs : q_sB B) (hB : q_mB H B) (hd4 : d < 5) : q_EV (q_tb sx) q_kpt (dd + 4) 153 (155, ([(0, vr 9 165), (1, vn b), (2, vn many), (3, vn d), (4, vn (sNs B * sNw B))], ([], H))) = y_ev sx dd b many (nI d + -1) (q_hs H 177 d (nI (sNs B * sNw B))) := by
  have hs' := hs
  have hB' := hB
  obtain ⟨⟨g1, g2⟩, ⟨g3, g4⟩, ⟨g5, g6⟩, -⟩ := hs'
  obtain ⟨h3, h6, h8, -⟩ := hB'
  have hbig : sNs B * sNw B ≤ 4 * 6 := Nat.mul_le_mul g6 g4
  have h165 : ∀ j x, (q_hs H 177 d x) 165 j = H 165 j := fun j x => by rw [q_hs_ne (by omega)]
  refine (b_X7_bringsOut_155 sx (dd + 3) (nI b) (nI many) (nI d) (nI (sNs B * sNw B)) H).trans ?_
  simp (disch := omega) only [q_cl_nI, q_inbN, decide_true, cond_true]
  simp only [h165, h6, h8, pk_mul]
  simp (disch := omega) only [nI_add, q_cl_nI, q_inbN, q_leN, q_eqN, q_ltN, decide_false, decide_true, cond_true, cond_false, Bool.cond_decide, ne_eq, q_ifT, q_ifF, not_true_eq_false]
  rfl
theorem y_back (sx : QX) (dd b many d s k a c : Nat) (H : QH) (B : SB) (hs : q_sB B) (hB : q_mB H B) (hk : k < sNw B) (hsn : s < sNs B) (hd4 : d < many) (hm : many ≤ 4) (e177 : H 177 d = nI (s * sNw B + k)) (e180 : H 180 s = nI (a + 1)) (e179 : H 179 k = nI (c + 1)) : y_ev sx dd b many (nI d) H = q_EV (q_tb sx) q_kpt (dd + 4) 153 (155, ([(0, vr 9 165), (1, vn b), (2, vn many), (3, vn d), (4, vn (s * sNw B + k + 1))], ([], q_hs (q_hs H 180 s (nI a)) 179 k (nI c)))) := by
  have hs' := hs
  have hB' := hB
  obtain ⟨⟨g1, g2⟩, ⟨g3, g4⟩, ⟨g5, g6⟩, -⟩ := hs'
  obtain ⟨h3, h6, h8, -⟩ := hB'
  have hlt : s * sNw B + k < sNs B * sNw B := Nat.lt_of_lt_of_le (show s * sNw B + k < (s + 1) * sNw B by rw [Nat.succ_mul]; omega) (Nat.mul_le_mul_right _ hsn)
  have hbig : sNs B * sNw B ≤ 4 * 6 := Nat.mul_le_mul g6 g4
  have eD : nI (s * sNw B + k) / nI (sNw B) = nI s := by
    rw [pk_div (by omega) (by omega) (by omega), Nat.add_comm, Nat.add_mul_div_right k s (by omega), Nat.div_eq_of_lt hk, Nat.zero_add]
  have eM : nI (s * sNw B + k) - nI (s * sNw B) = nI k := by rw [pk_sub (by omega), Nat.add_sub_cancel_left]
  have es : ∀ n, nI (n + 1) - nI 1 = nI n := fun n => by rw [pk_sub (by omega), Nat.add_sub_cancel]
  unfold y_ev
  refine (b_X7_bringsOut_64 sx (dd + 3) (nI b) (nI many) (nI d) H).trans ?_
  simp (disch := omega) only [q_cl_nI, q_inbN, decide_true, cond_true, q_hs_ne, e177, h6, eD, pk_mul, eM, e180, e179, es]
  simp (disch := omega) only [nI_add, q_cl_nI, q_inbN, q_leN, q_eqN, q_ltN, q_nd, decide_false, decide_true, cond_true, cond_false, Bool.cond_decide, ne_eq, q_ifT, q_ifF, not_false_eq_true, q_hs_ne, e177, e180, e179, es]
theorem y_enter (sx : QX) (dd b many d : Nat) (H : QH) (hd4 : d < many) (hm : many ≤ 4) (e177 : H 177 d = -1) : y_ev sx dd b many (nI d) H = q_EV (q_tb sx) q_kpt (dd + 4) 153 (155, ([(0, vr 9 165), (1, vn b), (2, vn many), (3, vn d), (4, vn 0)], ([], H))) := by
  unfold y_ev
  refine (b_X7_bringsOut_64 sx (dd + 3) (nI b) (nI many) (nI d) H).trans ?_
  have e0 : (-1 : Int32) + nI 1 = nI 0 := by decide
  have e1 : ((-1 : Int32) < nI 0) = True := eq_true (by decide)
  simp (disch := omega) only [q_cl_nI, q_inbN, e177, e0, e1, q_ltN, q_eqN, decide_false, decide_true, cond_true, cond_false, Bool.cond_decide, ne_eq, q_ifT, q_ifF, not_false_eq_true, if_true]
theorem y_leaf (sx : QX) (dd b many soft t : Nat) (H : QH) (B : SB) (hs : q_sB B) (hB : q_mB H B) (hb : b < sNb B) (hm : many ≤ 4) (e178 : H 178 many = nI soft) (et : sN B b = nI t) (hsf : soft < 1000000) (ht : t ≤ 60) : y_ev sx dd b many (nI many) H = if t ≤ soft then rI (nI 1) H else y_ev sx dd b many (nI many + -1) H := by
  have hs' := hs
  obtain ⟨⟨g1, g2⟩, ⟨g3, g4⟩, ⟨g5, g6⟩, -⟩ := hs'
  have eN : H 168 b = nI t := (hB.2.2.2.2.2.1 b hb).trans et
  unfold y_ev
  refine (b_X7_bringsOut_64 sx (dd + 3) (nI b) (nI many) (nI many) H).trans ?_
  simp (disch := omega) only [q_cl_nI, q_inbN, e178, eN, q_ltN, q_eqN, decide_false, decide_true, cond_true, cond_false, Bool.cond_decide, ne_eq, q_ifT, q_ifF, not_true_eq_false]
  by_cases c : t ≤ soft
  · rw [if_pos c, if_neg (by omega)]
  · rw [if_neg c, if_pos (by omega)]
theorem y_out (sx : QX) (dd b many : Nat) (H : QH) : y_ev sx dd b many (nI 0 + -1) H = rI (nI 0) H := by
  unfold y_ev
  refine (b_X7_bringsOut_64 sx (dd + 3) (nI b) (nI many) (nI 0 + -1) H).trans ?_
  rw [decide_eq_true (show nI 0 + -1 < nI 0 by decide)]
  rfl
theorem y_mB {H H' : QH} {B : SB} {d : Nat} (h : q_mB H B) (f : y_fr H H' d) : q_mB H' B := by
  unfold q_mB at h ⊢
  rw [f.1 165 (by omega), f.1 167 (by omega), f.1 168 (by omega), f.1 169 (by omega), f.1 170 (by omega), f.1 171 (by omega)]
  exact h
theorem nI_m1 (d : Nat) : nI (d + 1) + -1 = nI d := by
  rw [← nI_add, Int32.add_assoc, show nI 1 + (-1 : Int32) = 0 by decide, Int32.add_zero]
theorem y_search (sx : QX) (dd b t : Nat) (g : Nat → Nat → Nat) (h0 hd : Nat → Nat) (B : SB) (hs : q_sB B) (hb : b < sNb B) (hg : ∀ s k, s < sNs B → k < sNw B → z_spk B s b k = nI (g s k) ∧ g s k < 1000) (ht : sN B b = nI t) (ht2 : t ≤ 60) (w0 : Nat → Int32) (e166 : ∀ s, s < sNs B → w0 (79 + s) = nI (h0 s)) (ehd : ∀ k, k < sNw B → w0 (19 + 6 * b + k) = nI (hd k)) : ∀ (n d many : Nat) (H : QH) (st : ST), d + n = many → many ≤ 4 → q_mB H B → H 166 = w0 → y_rel B h0 hd H st → (∀ k, k < sNw B → st.2.1 k ≤ hd k + d) → H 178 d = nI st.2.2 → st.2.2 + 1000 * n < 100000 → (d < many → H 177 d = -1) → ∃ H', y_fr H H' d ∧ ((x_X (sNs B) (sNw B) t g n st = none ∧ y_ev sx dd b many (nI d) H = y_ev sx dd b many (nI d + -1) H' ∧ y_rel B h0 hd H' st) ∨ ∃ l, x_X (sNs B) (sNw B) t g n st = some l ∧ y_ev sx dd b many (nI d) H = rI (nI 1) H' ∧ ∀ (i : Nat) (x : Nat × Nat), l[i]? = some x → H' 177 (d + i) = nI (x.1 * sNw B + x.2)) := by
  have hs' := hs
  obtain ⟨⟨g1, g2⟩, ⟨g3, g4⟩, ⟨g5, g6⟩, -⟩ := hs'
  intro n
  induction n with
  | zero =>
    intro d many H st hdn hm hB h166 hr hk h178 hst h177
    have hdm : d = many := by omega
    subst hdm
    refine ⟨H, y_fr_rf H d, ?_⟩
    rw [y_leaf sx dd b d st.2.2 t H B hs hB hb hm h178 ht (by omega) ht2]
    unfold x_X
    by_cases c : t ≤ st.2.2
    · rw [if_pos c, if_pos c]
      exact Or.inr ⟨[], rfl, rfl, fun i x hx => by simp at hx⟩
    · rw [if_neg c, if_neg c]
      exact Or.inl ⟨rfl, rfl, hr⟩
  | succ n ih =>
    intro d many H st hdn hm hB h166 hr hk h178 hst h177
    have hdm : d < many := by omega
    rw [y_enter sx dd b many d H hdm hm (h177 hdm)]
    have ex : x_X (sNs B) (sNw B) t g (n + 1) st = x_fr (fun i => if 0 < st.1 (i / sNw B) then (x_X (sNs B) (sNw B) t g n (x_st g st (i / sNw B) (i % sNw B))).map (fun l => (i / sNw B, i % sNw B) :: l) else none) (sNs B * sNw B) 0 := by
      have e1 := x_fr_mul (fun s k => if 0 < st.1 s then (x_X (sNs B) (sNw B) t g n (x_st g st s k)).map (fun l => (s, k) :: l) else none) (sNw B) (by omega) (sNs B) 0
      rw [Nat.zero_mul] at e1
      rw [e1]
      refine x_fr_congr _ _ (fun s _ _ => ?_)
      show (if 0 < st.1 s then x_fr _ (sNw B) 0 else none) = x_fr (fun k => if 0 < st.1 s then _ else none) (sNw B) 0
      by_cases c : 0 < st.1 s
      · rw [if_pos c]
        exact x_fr_congr _ _ (fun k _ _ => by rw [if_pos c])
      · rw [if_neg c]
        exact (x_fr_all _ _ (fun k _ _ => by rw [if_neg c])).symm
    rw [ex]
    have scan : ∀ (m i : Nat) (G : QH), i + m = sNs B * sNw B → y_fr H G d → y_rel B h0 hd G st → ∃ H', y_fr H H' d ∧ ((x_fr (fun i => if 0 < st.1 (i / sNw B) then (x_X (sNs B) (sNw B) t g n (x_st g st (i / sNw B) (i % sNw B))).map (fun l => (i / sNw B, i % sNw B) :: l) else none) m i = none ∧ q_EV (q_tb sx) q_kpt (dd + 4) 153 (155, ([(0, vr 9 165), (1, vn b), (2, vn many), (3, vn d), (4, vn i)], ([], G))) = y_ev sx dd b many (nI d + -1) H' ∧ y_rel B h0 hd H' st) ∨ ∃ l, x_fr (fun i => if 0 < st.1 (i / sNw B) then (x_X (sNs B) (sNw B) t g n (x_st g st (i / sNw B) (i % sNw B))).map (fun l => (i / sNw B, i % sNw B) :: l) else none) m i = some l ∧ q_EV (q_tb sx) q_kpt (dd + 4) 153 (155, ([(0, vr 9 165), (1, vn b), (2, vn many), (3, vn d), (4, vn i)], ([], G))) = rI (nI 1) H' ∧ ∀ (i : Nat) (x : Nat × Nat), l[i]? = some x → H' 177 (d + i) = nI (x.1 * sNw B + x.2)) := by
      intro m
      induction m with
      | zero =>
        intro i G him hf hrG
        have hi : i = sNs B * sNw B := by omega
        subst hi
        refine ⟨q_hs G 177 d (nI (sNs B * sNw B)), y_fr_tr hf ⟨fun a ha => q_hs_ne (by omega), fun j hj => q_hs_ix (by omega), fun j hj => by rw [q_hs_ne (by omega)]⟩ (Nat.le_refl _), Or.inl ⟨rfl, y_end sx dd b many d G B hs (y_mB hB hf) (by omega), ?_⟩⟩
        exact ⟨fun s hs => by rw [q_hs_ne (by omega)]; exact hrG.1 s hs, fun k hk => by rw [q_hs_ne (by omega)]; exact hrG.2 k hk⟩
      | succ m ihm =>
        intro i G him hf hrG
        obtain ⟨s, k, hkn, ei⟩ : ∃ s k, k < sNw B ∧ i = s * sNw B + k := ⟨i / sNw B, i % sNw B, Nat.mod_lt _ (by omega), (Nat.div_add_mod' i (sNw B)).symm⟩
        subst ei
        have hsn : s < sNs B := by
          have h1 : s * sNw B < sNs B * sNw B := by omega
          exact Nat.lt_of_mul_lt_mul_right h1
        have ediv : (s * sNw B + k) / sNw B = s := by rw [Nat.add_comm, Nat.add_mul_div_right k s (by omega), Nat.div_eq_of_lt hkn, Nat.zero_add]
        have emod : (s * sNw B + k) % sNw B = k := by rw [Nat.add_comm, Nat.add_mul_mod_self_right, Nat.mod_eq_of_lt hkn]
        obtain ⟨a, ea, ha1, ha2⟩ := hrG.1 s hsn
        obtain ⟨c, ec, hc1, hc2, hc3⟩ := hrG.2 k hkn
        have hBG := y_mB hB hf
        have g166 : G 166 = w0 := (hf.1 166 (by omega)).trans h166
        have w79 : G 166 (79 + s) = nI (h0 s) := by rw [g166]; exact e166 s hsn
        by_cases c0 : 0 < st.1 s
        · have hcd : c < 1000 := hc3
          obtain ⟨eg, hgv⟩ := hg s k hsn hkn
          have e178 : G 178 d = nI st.2.2 := (hf.2.2 d (Nat.le_refl _)).trans h178
          have ehh : m_get G 0 (19 + 6 * b + k) = nI (hd k) := by rw [m_get0, g166]; exact ehd k hkn
          have hsay := y_say sx dd b many d s k st.2.2 a c (h0 s) (hd k) (g s k) G B hs hBG hb hkn hsn hdm hm ea ec w79 ehh e178 eg hgv (by omega) ha2 hc2 hc3
          -- the place behind it
          have main : ∀ H1 : QH, (∀ x, ¬ (177 ≤ x ∧ x < 181) → H1 x = G x) → (∀ j, j < d → H1 177 j = G 177 j) → H1 177 d = nI (s * sNw B + k) → (∀ j, j ≤ d → H1 178 j = G 178 j) → H1 178 (d + 1) = nI (st.2.2 + (g s k - (hd k + c))) → (∀ j, H1 180 j = if j = s then nI (a + 1) else G 180 j) → (∀ j, H1 179 j = if j = k then nI (c + 1) else G 179 j) → (d + 1 < many → H1 177 (d + 1) = -1) → q_EV (q_tb sx) q_kpt (dd + 4) 153 (155, ([(0, vr 9 165), (1, vn b), (2, vn many), (3, vn d), (4, vn (s * sNw B + k))], ([], G))) = y_ev sx dd b many (nI (d + 1)) H1 → ∃ H', y_fr H H' d ∧ ((x_fr (fun i => if 0 < st.1 (i / sNw B) then (x_X (sNs B) (sNw B) t g n (x_st g st (i / sNw B) (i % sNw B))).map (fun l => (i / sNw B, i % sNw B) :: l) else none) (m + 1) (s * sNw B + k) = none ∧ q_EV (q_tb sx) q_kpt (dd + 4) 153 (155, ([(0, vr 9 165), (1, vn b), (2, vn many), (3, vn d), (4, vn (s * sNw B + k))], ([], G))) = y_ev sx dd b many (nI d + -1) H' ∧ y_rel B h0 hd H' st) ∨ ∃ l, x_fr (fun i => if 0 < st.1 (i / sNw B) then (x_X (sNs B) (sNw B) t g n (x_st g st (i / sNw B) (i % sNw B))).map (fun l => (i / sNw B, i % sNw B) :: l) else none) (m + 1) (s * sNw B + k) = some l ∧ q_EV (q_tb sx) q_kpt (dd + 4) 153 (155, ([(0, vr 9 165), (1, vn b), (2, vn many), (3, vn d), (4, vn (s * sNw B + k))], ([], G))) = rI (nI 1) H' ∧ ∀ (i : Nat) (x : Nat × Nat), l[i]? = some x → H' 177 (d + i) = nI (x.1 * sNw B + x.2)) := by
            intro H1 p1 p2 p3 p4 p5 p6 p7 p8 run
            have f1 : y_fr G H1 d := ⟨p1, p2, p4⟩
            have hr1 : y_rel B h0 hd H1 (x_st g st s k) := by
              refine ⟨fun s' hs' => ?_, fun k' hk' => ?_⟩
              · obtain ⟨a', ea', h1', h2'⟩ := hrG.1 s' hs'
                rw [p6 s']
                show ∃ a, _ = nI a ∧ a + (if s' = s then st.1 s' - 1 else st.1 s') = h0 s' ∧ h0 s' < 1000
                by_cases e : s' = s
                · subst e
                  rw [if_pos rfl, if_pos rfl]
                  exact ⟨a + 1, rfl, by omega, h2'⟩
                · rw [if_neg e, if_neg e]
                  exact ⟨a', ea', h1', h2'⟩
              · obtain ⟨c', ec', h1', h2', h3'⟩ := hrG.2 k' hk'
                rw [p7 k']
                show ∃ a, _ = nI a ∧ (if k' = k then st.2.1 k' + 1 else st.2.1 k') = hd k' + a ∧ hd k' < 1000000 ∧ a < 1000
                by_cases e : k' = k
                · subst e
                  rw [if_pos rfl, if_pos rfl]
                  have := hk k' hk'
                  exact ⟨c + 1, rfl, by omega, h2', by omega⟩
                · rw [if_neg e, if_neg e]
                  exact ⟨c', ec', h1', h2', h3'⟩
            have hW : x_w g st s k = g s k - (hd k + c) := by unfold x_w; rw [hc1]
            obtain ⟨H2, f2, o2⟩ := ih (d + 1) many H1 (x_st g st s k) (by omega) hm (y_mB hBG f1) ((p1 166 (by omega)).trans g166) hr1 (fun k' hk' => by
              have := hk k' hk'
              show (if k' = k then st.2.1 k' + 1 else st.2.1 k') ≤ hd k' + (d + 1)
              split <;> omega) (by rw [p5]; show _ = nI (st.2.2 + x_w g st s k); rw [hW]) (by
              show st.2.2 + x_w g st s k + 1000 * n < 100000
              rw [hW]
              omega) p8
            rcases o2 with ⟨q1, q2, q3⟩ | ⟨l, q1, q2, q3⟩
            · -- nothing behind it: back
              have e177 : H2 177 d = nI (s * sNw B + k) := (f2.2.1 d (by omega)).trans p3
              obtain ⟨a2, ea2, hb1, -⟩ := q3.1 s hsn
              obtain ⟨c2, ec2, hb2, -, -⟩ := q3.2 k hkn
              have hb1' : a2 + (if s = s then st.1 s - 1 else st.1 s) = h0 s := hb1
              have hb2' : (if k = k then st.2.1 k + 1 else st.2.1 k) = hd k + c2 := hb2
              rw [if_pos rfl] at hb1' hb2'
              have hbk := y_back sx dd b many d s k a c H2 B hs (y_mB (y_mB hBG f1) f2) hkn hsn hdm hm e177 (by rw [ea2]; exact congrArg nI (by omega)) (by rw [ec2]; exact congrArg nI (by omega))
              have fH : y_fr H (q_hs (q_hs H2 180 s (nI a)) 179 k (nI c)) d := y_fr_tr hf (y_fr_tr f1 (y_fr_tr f2 (e := d + 1) (d := d + 1) ⟨fun x hx => by rw [q_hs_ne (by omega), q_hs_ne (by omega)], fun j hj => by rw [q_hs_ne (by omega), q_hs_ne (by omega)], fun j hj => by rw [q_hs_ne (by omega), q_hs_ne (by omega)]⟩ (Nat.le_refl _)) (Nat.le_succ _)) (Nat.le_refl _)
              have hrB : y_rel B h0 hd (q_hs (q_hs H2 180 s (nI a)) 179 k (nI c)) st := by
                refine ⟨fun s' hs' => ?_, fun k' hk' => ?_⟩
                · rw [q_hs_ne (by omega)]
                  by_cases e : s' = s
                  · subst e
                    rw [q_hs_at]
                    exact ⟨a, rfl, ha1, ha2⟩
                  · rw [q_hs_ix e]
                    obtain ⟨a', ea', h1', h2'⟩ := q3.1 s' hs'
                    have h1'' : a' + (if s' = s then st.1 s' - 1 else st.1 s') = h0 s' := h1'
                    rw [if_neg e] at h1''
                    exact ⟨a', ea', h1'', h2'⟩
                · by_cases e : k' = k
                  · subst e
                    rw [q_hs_at]
                    exact ⟨c, rfl, hc1, hc2, hc3⟩
                  · rw [q_hs_ix e, q_hs_ne (by omega)]
                    obtain ⟨c', ec', h1', h2', h3'⟩ := q3.2 k' hk'
                    have h1'' : (if k' = k then st.2.1 k' + 1 else st.2.1 k') = hd k' + c' := h1'
                    rw [if_neg e] at h1''
                    exact ⟨c', ec', h1'', h2', h3'⟩
              obtain ⟨H3, f3, o3⟩ := ihm (s * sNw B + k + 1) _ (by omega) fH hrB
              have en : x_fr (fun i => if 0 < st.1 (i / sNw B) then (x_X (sNs B) (sNw B) t g n (x_st g st (i / sNw B) (i % sNw B))).map (fun l => (i / sNw B, i % sNw B) :: l) else none) (m + 1) (s * sNw B + k) = x_fr (fun i => if 0 < st.1 (i / sNw B) then (x_X (sNs B) (sNw B) t g n (x_st g st (i / sNw B) (i % sNw B))).map (fun l => (i / sNw B, i % sNw B) :: l) else none) m (s * sNw B + k + 1) := x_fr_n (by
                show (if 0 < st.1 ((s * sNw B + k) / sNw B) then _ else _) = none
                rw [ediv, emod, if_pos c0, q1]
                rfl)
              rw [en, run, q2, nI_m1, hbk]
              exact ⟨H3, f3, o3⟩
            · refine ⟨H2, y_fr_tr hf (y_fr_tr f1 f2 (Nat.le_succ _)) (Nat.le_refl _), Or.inr ⟨(s, k) :: l, x_fr_s ?_, run.trans q2, fun i x hx => ?_⟩⟩
              · show (if 0 < st.1 ((s * sNw B + k) / sNw B) then _ else _) = _
                rw [ediv, emod, if_pos c0, q1]
                rfl
              · cases i with
                | zero =>
                  have e5 : (s, k) = x := by simpa using hx
                  rw [← e5]
                  exact (f2.2.1 d (by omega)).trans p3
                | succ i =>
                  rw [show d + (i + 1) = d + 1 + i by omega]
                  exact q3 i x hx
          by_cases c9 : many ≤ d + 1
          · rw [if_pos c9] at hsay
            refine main _ (fun x hx => ?_) (fun j hj => ?_) ?_ (fun j hj => ?_) ?_ (fun j => ?_) (fun j => ?_) (fun h => absurd h (by omega)) hsay
            · unfold y_w0; rw [q_hs_ne (by omega), q_hs_ne (by omega), q_hs_ne (by omega), q_hs_ne (by omega)]
            · unfold y_w0; rw [q_hs_ne (by omega), q_hs_ne (by omega), q_hs_ne (by omega), q_hs_ix (by omega)]
            · unfold y_w0; rw [q_hs_ne (by omega), q_hs_ne (by omega), q_hs_ne (by omega), q_hs_at]
            · unfold y_w0; rw [q_hs_ne (by omega), q_hs_ne (by omega), q_hs_ix (by omega), q_hs_ne (by omega)]
            · unfold y_w0; rw [q_hs_ne (by omega), q_hs_ne (by omega), q_hs_at]
            · unfold y_w0
              rw [q_hs_ne (by omega)]
              by_cases e : j = s
              · subst e; rw [q_hs_at, if_pos rfl]
              · rw [q_hs_ix e, if_neg e, q_hs_ne (by omega), q_hs_ne (by omega)]
            · unfold y_w0
              by_cases e : j = k
              · subst e; rw [q_hs_at, if_pos rfl]
              · rw [q_hs_ix e, if_neg e, q_hs_ne (by omega), q_hs_ne (by omega), q_hs_ne (by omega)]
          · rw [if_neg c9] at hsay
            refine main _ (fun x hx => ?_) (fun j hj => ?_) ?_ (fun j hj => ?_) ?_ (fun j => ?_) (fun j => ?_) (fun h => q_hs_at) hsay
            · unfold y_w0; rw [q_hs_ne (by omega), q_hs_ne (by omega), q_hs_ne (by omega), q_hs_ne (by omega), q_hs_ne (by omega)]
            · unfold y_w0; rw [q_hs_ix (by omega), q_hs_ne (by omega), q_hs_ne (by omega), q_hs_ne (by omega), q_hs_ix (by omega)]
            · unfold y_w0; rw [q_hs_ix (by omega), q_hs_ne (by omega), q_hs_ne (by omega), q_hs_ne (by omega), q_hs_at]
            · unfold y_w0; rw [q_hs_ne (by omega), q_hs_ne (by omega), q_hs_ne (by omega), q_hs_ix (by omega), q_hs_ne (by omega)]
            · unfold y_w0; rw [q_hs_ne (by omega), q_hs_ne (by omega), q_hs_ne (by omega), q_hs_at]
            · unfold y_w0
              rw [q_hs_ne (by omega), q_hs_ne (by omega)]
              by_cases e : j = s
              · subst e; rw [q_hs_at, if_pos rfl]
              · rw [q_hs_ix e, if_neg e, q_hs_ne (by omega), q_hs_ne (by omega)]
            · unfold y_w0
              rw [q_hs_ne (by omega)]
              by_cases e : j = k
              · subst e; rw [q_hs_at, if_pos rfl]
              · rw [q_hs_ix e, if_neg e, q_hs_ne (by omega), q_hs_ne (by omega), q_hs_ne (by omega)]
        · have hsk := y_skip sx dd b many d s k a (h0 s) G B hs hBG hkn hsn ea w79 (by omega) (by omega)
          obtain ⟨H3, f3, o3⟩ := ihm (s * sNw B + k + 1) G (by omega) hf hrG
          have en : x_fr (fun i => if 0 < st.1 (i / sNw B) then (x_X (sNs B) (sNw B) t g n (x_st g st (i / sNw B) (i % sNw B))).map (fun l => (i / sNw B, i % sNw B) :: l) else none) (m + 1) (s * sNw B + k) = x_fr (fun i => if 0 < st.1 (i / sNw B) then (x_X (sNs B) (sNw B) t g n (x_st g st (i / sNw B) (i % sNw B))).map (fun l => (i / sNw B, i % sNw B) :: l) else none) m (s * sNw B + k + 1) := x_fr_n (by
            show (if 0 < st.1 ((s * sNw B + k) / sNw B) then _ else _) = none
            rw [ediv, if_neg c0])
          rw [en, hsk]
          exact ⟨H3, f3, o3⟩
    exact scan (sNs B * sNw B) 0 H (by omega) (y_fr_rf H d) hr
