/-! the model's search for an order -/
def o_pmi (p : List Nat) : Nat → Nat
  | 0 => 0
  | i + 1 => o_pmi p i ||| 2 ^ ((p[i]?).getD 0)
theorem o_pmi_app {p : List Nat} {b : Nat} : ∀ i, i ≤ p.length → o_pmi (p ++ [b]) i = o_pmi p i := by
  intro i
  induction i with
  | zero => intro _; rfl
  | succ i ih =>
    intro h
    unfold o_pmi
    rw [ih (by omega), List.getElem?_append_left (by omega)]
theorem o_pmi_snoc (p : List Nat) (b : Nat) : o_pmi (p ++ [b]) (p.length + 1) = o_pmi p p.length ||| 2 ^ b := by
  show o_pmi (p ++ [b]) p.length ||| 2 ^ (((p ++ [b])[p.length]?).getD 0) = _
  rw [o_pmi_app p.length (Nat.le_refl _), List.getElem?_append_right (Nat.le_refl _), Nat.sub_self]
  rfl
theorem o_pmi_lt {p : List Nat} (h : ∀ i x : Nat, p[i]? = some x → x < 6) : ∀ i, o_pmi p i < 64 := by
  intro i
  induction i with
  | zero => exact show 0 < 64 by omega
  | succ i ih =>
    refine o_or_lt _ ih _ ?_
    cases e : p[i]? with
    | none => exact show 0 < 6 by omega
    | some x => exact h i x e
def o_mf (e : Nat) (H H' : QH) : Prop := (∀ a, a ≠ 166 → a ≠ 181 → a ≠ 182 → H' a = H a) ∧ (∀ j, j < 996 + 83 * (e + 1) → H' 166 j = H 166 j) ∧ ∀ i, i < e → H' 181 i = H 181 i
theorem o_mf_rf (e : Nat) (H : QH) : o_mf e H H := ⟨fun _ _ _ _ => rfl, fun _ _ => rfl, fun _ _ => rfl⟩
theorem o_mf_tr {e e' : Nat} {H G G' : QH} (h1 : o_mf e H G) (h2 : o_mf e' G G') (he : e ≤ e') : o_mf e H G' := ⟨fun a q1 q2 q3 => (h2.1 a q1 q2 q3).trans (h1.1 a q1 q2 q3), fun j q => (h2.2.1 j (by omega)).trans (h1.2.1 j q), fun i q => (h2.2.2 i (by omega)).trans (h1.2.2 i q)⟩
theorem o_mf_mB {e : Nat} {H G : QH} {B : SB} (hB : q_mB H B) (h : o_mf e H G) : q_mB G B := by
  unfold q_mB at hB ⊢
  rw [h.1 165 (by omega) (by omega) (by omega), h.1 167 (by omega) (by omega) (by omega), h.1 168 (by omega) (by omega) (by omega), h.1 169 (by omega) (by omega) (by omega), h.1 170 (by omega) (by omega) (by omega), h.1 171 (by omega) (by omega) (by omega)]
  exact hB
theorem o_mf_get {e : Nat} {H G : QH} {B : SB} {w : SW} (hs : q_sB B) (h : o_mf e H G) (ha : q_ag B (m_get H (996 + 83 * e)) w) : q_ag B (m_get G (996 + 83 * e)) w := fun j hj => by
  obtain ⟨-, -, ⟨g5, g6⟩, -⟩ := hs
  rw [← ha j hj]
  exact h.2.1 _ (by omega)
noncomputable def o_ev (sx : QX) (d M L : Nat) (x : Int32) (y : Int32) (H : QH) : Option QR := q_EV (q_tb sx) q_kpt (d + 6) 159 (30, ([(0, vr 9 165), (1, vn M), (2, vn L), (3, vi x), (4, vi y)], ([], H)))
/-- at a depth: who is busy -/
theorem o_busy (sx : QX) (d M L e : Nat) (x : Int32) (p : List Nat) (H : QH) (he : e ≤ 6) (hp : p.length = e) (hp6 : ∀ i x : Nat, p[i]? = some x → x < 6) (hpt : ∀ i x : Nat, p[i]? = some x → H 181 i = nI x) : o_ev sx d M L x (nI e) H = q_EV (q_tb sx) q_kpt (d + 6) 159 (52, ([(0, vr 9 165), (1, vn M), (2, vn L), (3, vi x), (4, vn e), (5, vn (996 + 83 * e)), (6, vn (o_pmi p e)), (7, vn e)], ([], H))) := by
  unfold o_ev
  refine (b_X7_bestOrder_30 sx (d + 5) (nI M) (nI L) x (nI e) H).trans ?_
  rw [decide_eq_false (show ¬ nI e < nI 0 by rw [nI_ltI (by omega) (by omega)]; omega), cond_false, pk_mul, nI_add]
  have key : ∀ r i, i + r = e → q_EV (q_tb sx) q_kpt (d + 6) 159 (52, ([(0, vr 9 165), (1, vn M), (2, vn L), (3, vi x), (4, vn e), (5, vn (996 + 83 * e)), (6, vn (o_pmi p i)), (7, vn i)], ([], H))) = q_EV (q_tb sx) q_kpt (d + 6) 159 (52, ([(0, vr 9 165), (1, vn M), (2, vn L), (3, vi x), (4, vn e), (5, vn (996 + 83 * e)), (6, vn (o_pmi p e)), (7, vn e)], ([], H))) := by
    intro r
    induction r with
    | zero =>
      intro i hi
      have : i = e := by omega
      subst this
      rfl
    | succ r ih =>
      intro i hi
      refine Eq.trans ?_ (ih (i + 1) (by omega))
      refine (b_X7_bestOrder_52 sx (d + 5) (nI M) (nI L) x (nI e) (nI (996 + 83 * e)) (nI (o_pmi p i)) (nI i) H).trans ?_
      obtain ⟨z, hz⟩ : ∃ z, p[i]? = some z := ⟨p[i]'(by omega), List.getElem?_eq_getElem (by omega)⟩
      have e1 : o_pmi p (i + 1) = o_pmi p i ||| 2 ^ z := by
        show o_pmi p i ||| 2 ^ ((p[i]?).getD 0) = _
        rw [hz]
        rfl
      rw [decide_eq_false (show ¬ nI e ≤ nI i by rw [nI_leI (by omega) (by omega)]; omega), cond_false, q_inbN (by omega), decide_eq_true (show i < 7 by omega), cond_true, q_cl_nI (by omega), hpt i z hz, o_orI _ (o_pmi_lt hp6 i) z (hp6 i z hz), nI_add, e1]
  exact key e 0 (by omega)
theorem o_in (sx : QX) (d M L e : Nat) (x : Int32) (p : List Nat) (H : QH) (he : e < L) (hL : L ≤ 6) (hp : p.length = e) (hp6 : ∀ i x : Nat, p[i]? = some x → x < 6) (hpt : ∀ i x : Nat, p[i]? = some x → H 181 i = nI x) : o_ev sx d M L x (nI e) H = q_EV (q_tb sx) q_kpt (d + 6) 159 (191, ([(0, vr 9 165), (1, vn M), (2, vn L), (3, vi x), (4, vn e), (5, vn (996 + 83 * e)), (6, vn (o_pmi p e)), (7, vi (H 181 e + nI 1))], ([], H))) := by
  rw [o_busy sx d M L e x p H (by omega) hp hp6 hpt]
  refine (b_X7_bestOrder_52 sx (d + 5) (nI M) (nI L) x (nI e) (nI (996 + 83 * e)) (nI (o_pmi p e)) (nI e) H).trans ?_
  rw [decide_eq_true (Int32.le_refl _), cond_true, decide_eq_true (show nI e ≠ nI L by rw [ne_eq, nI_eq (by omega) (by omega)]; omega), cond_true, q_inbN (by omega), decide_eq_true (show e < 7 by omega), cond_true, q_cl_nI (by omega)]
theorem o_leafL (sx : QX) (d M L N : Nat) (c : Nat → Bool) (B : SB) (hs : q_sB B) (hL : L ≤ 6) (hM : M < 64) (hbit : ∀ o, o < sNb B → (M / 2 ^ o % 2 = 1) = (c o = true)) (p : List Nat) (a : OA) (H : QH) (w : SW) (hp : p.length = L) (hp6 : ∀ i x : Nat, p[i]? = some x → x < 6) (hpt : ∀ i x : Nat, p[i]? = some x → H 181 i = nI x) (hB : q_mB H B) (hag : q_ag B (m_get H (996 + 83 * L)) w) (hv : q_vw B N w) (hfd : o_fd (H 182) a) : ∃ H', o_mf L H H' ∧ o_ev sx d M L (o_most a) (nI L) H = o_ev sx d M L (o_most (o_leaf (o_cnt B c w) p a)) (nI L + -1) H' ∧ o_fd (H' 182) (o_leaf (o_cnt B c w) p a) := by
  have hs' := hs
  obtain ⟨⟨g1, g2⟩, ⟨g3, g4⟩, ⟨g5, g6⟩, -⟩ := hs'
  have hcl := o_cnt_le (c := c) (w := w) hs
  rw [o_busy sx d M L L (o_most a) p H hL hp hp6 hpt]
  have h52 := b_X7_bestOrder_52 sx (d + 5) (nI M) (nI L) (o_most a) (nI L) (nI (996 + 83 * L)) (nI (o_pmi p L)) (nI L) H
  rw [decide_eq_true (Int32.le_refl _), cond_true, decide_eq_false (show ¬ nI L ≠ nI L from fun q => q rfl), cond_false] at h52
  obtain ⟨l1, -⟩ := z_loopI (fun i (k : Nat) => k ≤ i) (sNb B) (fun b k => q_EV (q_tb sx) q_kpt (d + 6) 159 (91, ([(0, vr 9 165), (1, vn M), (2, vn L), (3, vi (o_most a)), (4, vn L), (5, vn (996 + 83 * L)), (7, vn k), (8, vn b)], ([], H)))) (fun b k => if c b = true ∧ ¬ w (7 + b) = nI 0 then k + 1 else k) 0 (Nat.le_refl _) (fun b k hb h => by
    show (if c b = true ∧ ¬ w (7 + b) = nI 0 then k + 1 else k) ≤ b + 1
    split <;> omega) (fun b k hb h => by
    refine (b_X7_bestOrder_91 sx (d + 5) (nI M) (nI L) (o_most a) (nI L) (nI (996 + 83 * L)) (nI k) (nI b) H).trans ?_
    rw [hB.1, decide_eq_false (show ¬ nI (sNb B) ≤ nI b by rw [nI_leI (by omega) (by omega)]; omega), cond_false, has_eq sx _ M b H (by omega) (by omega), q_cIs, m_inBed sx _ (996 + 83 * L) b H B hB hs (by omega) (by omega), z_inT hb, hag (7 + b) (by omega), q_cIs, nI_add, nI_add, nI_add]
    have eb := hbit b hb
    by_cases k1 : c b = true
    · rw [decide_eq_true (show M / 2 ^ b % 2 = 1 by rw [eb]; exact k1), decide_eq_false (show ¬ z01 true = nI 0 by decide), cond_false]
      by_cases k2 : w (7 + b) = nI 0
      · rw [decide_eq_true k2, decide_eq_true (show z01 true ≠ nI 0 by decide), cond_true, if_neg (fun q => q.2 k2)]
        rfl
      · rw [decide_eq_false k2, decide_eq_false (show ¬ z01 false ≠ nI 0 by decide), cond_false, if_pos ⟨k1, k2⟩]
    · rw [decide_eq_false (show ¬ M / 2 ^ b % 2 = 1 by rw [eb]; exact k1), decide_eq_true (show z01 false = nI 0 by decide), cond_true, if_neg (fun q => k1 q.1)]
      rfl)
  have h91 := b_X7_bestOrder_91 sx (d + 5) (nI M) (nI L) (o_most a) (nI L) (nI (996 + 83 * L)) (nI (o_cnt B c w)) (nI (sNb B)) H
  rw [hB.1, decide_eq_true (Int32.le_refl _), cond_true] at h91
  have run := h52.trans (l1.trans h91)
  have new : ¬ (nI (o_cnt B c w) ≤ o_most a) → ∃ H', o_mf L H H' ∧ q_EV (q_tb sx) q_kpt (d + 6) 159 (52, ([(0, vr 9 165), (1, vn M), (2, vn L), (3, vi (o_most a)), (4, vn L), (5, vn (996 + 83 * L)), (6, vn (o_pmi p L)), (7, vn L)], ([], H))) = o_ev sx d M L (nI (o_cnt B c w)) (nI L + -1) H' ∧ o_fd (H' 182) (some (o_cnt B c w, p)) := by
    intro q
    rw [decide_eq_false q, cond_false] at run
    obtain ⟨c1, c2, c3⟩ := z_loopI (fun i (G : QH) => (∀ a, a ≠ 182 → G a = H a) ∧ ∀ j, j < i → G 182 j = H 181 j) L (fun k G => q_EV (q_tb sx) q_kpt (d + 6) 159 (148, ([(0, vr 9 165), (1, vn M), (2, vn L), (3, vn (o_cnt B c w)), (4, vn L), (8, vn k)], ([], G)))) (fun k G => q_hs G 182 k (H 181 k)) H ⟨fun _ _ => rfl, fun j hj => absurd hj (Nat.not_lt_zero _)⟩ (fun k G hk ⟨k1, k2⟩ => ⟨fun a ha => by rw [q_hs_ne ha]; exact k1 a ha, fun j hj => by
      by_cases e : j = k
      · subst e; exact q_hs_at
      · rw [q_hs_ix e]; exact k2 j (by omega)⟩) (fun k G hk ⟨k1, k2⟩ => by
      refine (b_X7_bestOrder_148 sx (d + 5) (nI M) (nI L) (nI (o_cnt B c w)) (nI L) (nI k) G).trans ?_
      rw [decide_eq_false (show ¬ nI L ≤ nI k by rw [nI_leI (by omega) (by omega)]; omega), cond_false, q_inbN (by omega), decide_eq_true (show k < 7 by omega), cond_true, q_inbN (by omega), decide_eq_true (show k < 6 by omega), cond_true, q_cl_nI (by omega), k1 181 (by omega), nI_add])
    generalize z_fold L (fun k G => q_hs G 182 k (H 181 k)) H = G1 at c1 c2 c3
    have h148 := b_X7_bestOrder_148 sx (d + 5) (nI M) (nI L) (nI (o_cnt B c w)) (nI L) (nI L) G1
    rw [decide_eq_true (Int32.le_refl _), cond_true] at h148
    refine ⟨G1, ⟨fun a q1 q2 q3 => c2 a q3, fun j _ => by rw [c2 166 (by omega)], fun i _ => by rw [c2 181 (by omega)]⟩, run.trans (c1.trans h148), fun v hv => ?_⟩
    cases hv
    refine ⟨hcl, fun i x hx => ?_⟩
    have hi : i < p.length := (List.getElem?_eq_some_iff.mp hx).1
    rw [c3 i (by omega)]
    exact hpt i x hx
  cases a with
  | none =>
    obtain ⟨H', q1, q2, q3⟩ := new (fun q => absurd (o_m1_lt (k := o_cnt B c w) (by omega)) (Int32.not_lt.mpr q))
    exact ⟨H', q1, q2, q3⟩
  | some v =>
    have hv6 := (hfd v rfl).1
    show ∃ H', o_mf L H H' ∧ _ = o_ev sx d M L (o_most (if v.1 < o_cnt B c w then some (o_cnt B c w, p) else some v)) (nI L + -1) H' ∧ o_fd (H' 182) (if v.1 < o_cnt B c w then some (o_cnt B c w, p) else some v)
    by_cases k : v.1 < o_cnt B c w
    · rw [if_pos k]
      exact new (show ¬ (nI (o_cnt B c w) ≤ nI v.1) by rw [nI_leI (by omega) (by omega)]; omega)
    · rw [if_neg k]
      rw [decide_eq_true (show nI (o_cnt B c w) ≤ o_most (some v) by show nI (o_cnt B c w) ≤ nI v.1; rw [nI_leI (by omega) (by omega)]; omega), cond_true] at run
      exact ⟨H, o_mf_rf L H, run, hfd⟩
theorem m_osearch (sx : QX) (dd M L : Nat) (c : Nat → Bool) (B : SB) (hs : q_sB B) (hL : L ≤ 6) (hM : M < 64) (hbit : ∀ o, o < sNb B → (M / 2 ^ o % 2 = 1) = (c o = true)) : ∀ (n e N : Nat) (p : List Nat) (a : OA) (H : QH) (w : SW), e + n = L → p.length = e → (∀ i x : Nat, p[i]? = some x → x < 6) → (∀ i x : Nat, p[i]? = some x → H 181 i = nI x) → H 181 e = -1 → q_mB H B → q_ag B (m_get H (996 + 83 * e)) w → q_vw B N w → N + 36 * n < 700000 → o_fd (H 182) a → ∃ H', o_mf e H H' ∧ o_ev sx dd M L (o_most a) (nI e) H = o_ev sx dd M L (o_most (o_X B c n w (o_pmi p e) p a)) (nI e + -1) H' ∧ o_fd (H' 182) (o_X B c n w (o_pmi p e) p a) := by
  have hs' := hs
  obtain ⟨⟨g1, g2⟩, ⟨g3, g4⟩, ⟨g5, g6⟩, -⟩ := hs'
  intro n
  induction n with
  | zero =>
    intro e N p a H w he hp hp6 hpt hm1 hB hag hv hN hfd
    have : e = L := by omega
    subst this
    exact o_leafL sx dd M e N c B hs hL hM hbit p a H w hp hp6 hpt hB hag hv hfd
  | succ n ih =>
    intro e N p a H w he hp hp6 hpt hm1 hB hag hv hN hfd
    have hml := o_pmi_lt hp6 e
    have scan : ∀ (r b : Nat) (a : OA) (G : QH), b + r = sNb B → o_mf e H G → o_fd (G 182) a → ∃ G', o_mf e H G' ∧ q_EV (q_tb sx) q_kpt (dd + 6) 159 (191, ([(0, vr 9 165), (1, vn M), (2, vn L), (3, vi (o_most a)), (4, vn e), (5, vn (996 + 83 * e)), (6, vn (o_pmi p e)), (7, vn b)], ([], G))) = o_ev sx dd M L (o_most (z_fl (fun b a => if o_pmi p e / 2 ^ b % 2 = 1 ∨ c b = false then a else o_X B c n (o_ask B w b) (o_pmi p e ||| 2 ^ b) (p ++ [b]) a) r b a)) (nI e + -1) G' ∧ o_fd (G' 182) (z_fl (fun b a => if o_pmi p e / 2 ^ b % 2 = 1 ∨ c b = false then a else o_X B c n (o_ask B w b) (o_pmi p e ||| 2 ^ b) (p ++ [b]) a) r b a) := by
      intro r
      induction r with
      | zero =>
        intro b a G hbr hf hGf
        have hb : b = sNb B := by omega
        subst hb
        have h191 := b_X7_bestOrder_191 sx (dd + 5) (nI M) (nI L) (o_most a) (nI e) (nI (996 + 83 * e)) (nI (o_pmi p e)) (nI (sNb B)) G
        rw [(o_mf_mB hB hf).1, decide_eq_true (Int32.le_refl _), cond_true, q_inbN (by omega), decide_eq_true (show e < 7 by omega), cond_true, q_hs_ne (by omega), (o_mf_mB hB hf).1, decide_eq_false (show ¬ nI (sNb B) ≠ nI (sNb B) from fun q => q rfl), cond_false, q_cl_nI (by omega)] at h191
        refine ⟨_, o_mf_tr hf ⟨fun q k1 k2 k3 => q_hs_ne k2, fun j _ => by rw [q_hs_ne (by omega)], fun i k => q_hs_ix (by omega)⟩ (Nat.le_refl _), h191, ?_⟩
        rw [q_hs_ne (by omega)]
        exact hGf
      | succ r ihr =>
        intro b a G hbr hf hGf
        have hbn : b < sNb B := by omega
        have rB := o_mf_mB hB hf
        have eb := hbit b hbn
        have h191 := b_X7_bestOrder_191 sx (dd + 5) (nI M) (nI L) (o_most a) (nI e) (nI (996 + 83 * e)) (nI (o_pmi p e)) (nI b) G
        rw [rB.1, decide_eq_false (show ¬ nI (sNb B) ≤ nI b by rw [nI_leI (by omega) (by omega)]; omega), cond_false, has_eq sx _ M b G (by omega) (by omega), q_cIs, has_eq sx _ (o_pmi p e) b G (by omega) (by omega), q_cIs] at h191
        simp only [nI_add] at h191
        show ∃ G', o_mf e H G' ∧ _ = o_ev sx dd M L (o_most (z_fl _ r (b + 1) _)) (nI e + -1) G' ∧ o_fd (G' 182) (z_fl _ r (b + 1) _)
        by_cases hsk : o_pmi p e / 2 ^ b % 2 = 1 ∨ c b = false
        · simp only [if_pos hsk]
          obtain ⟨G', r1, r2, r3⟩ := ihr (b + 1) a G (by omega) hf hGf
          refine ⟨G', r1, (h191.trans ?_).trans r2, r3⟩
          by_cases k : c b = true
          · have k2 := hsk.resolve_right (fun q => by rw [k] at q; cases q)
            rw [decide_eq_true (show M / 2 ^ b % 2 = 1 by rw [eb]; exact k), decide_eq_false (show ¬ z01 true = nI 0 by decide), cond_false, decide_eq_true k2, decide_eq_false (show ¬ z01 true = nI 0 by decide), cond_false]
          · rw [decide_eq_false (show ¬ M / 2 ^ b % 2 = 1 by rw [eb]; exact k), decide_eq_true (show z01 false = nI 0 by decide), cond_true]
        · simp only [if_neg hsk]
          have kc : c b = true := by
            cases k : c b with
            | true => rfl
            | false => exact absurd (Or.inr k) hsk
          have k0 : ¬ o_pmi p e / 2 ^ b % 2 = 1 := fun q => hsk (Or.inl q)
          obtain ⟨vw1, fr1⟩ := vw_ask hs hbn hv (by omega)
          have rB1 : q_mB (q_hs G 181 e (nI b)) B := o_mf_mB (e := 0) rB ⟨fun q k1 k2 k3 => q_hs_ne k2, fun j _ => by rw [q_hs_ne (by omega)], fun i h => absurd h (Nat.not_lt_zero _)⟩
          have gf : ∀ q, m_get (q_hs G 181 e (nI b)) q = m_get G q := fun q => m_get_of (q_hs_ne (by omega)) q
          have agv : q_ag B (z_ov (m_get G (996 + 83 * e)) (m_get G (996 + 83 * e + 83))) w := ag_tr (ag_ov hs _ _) (o_mf_get hs hf hag)
          rw [decide_eq_true (show M / 2 ^ b % 2 = 1 by rw [eb]; exact kc), decide_eq_false (show ¬ z01 true = nI 0 by decide), cond_false, decide_eq_false k0, decide_eq_true (show z01 false = nI 0 by decide), cond_true, q_inbN (by omega), decide_eq_true (show e < 7 by omega), cond_true, q_cl_nI (show e < 2147483648 by omega), q_hs_ne (show 165 ≠ 181 by omega), rB.1, decide_eq_true (show nI b ≠ nI (sNb B) by rw [ne_eq, nI_eq (by omega) (by omega)]; omega), cond_true, m_copy sx _ (996 + 83 * e) (996 + 83 * e + 83) _ (by omega) (by omega) (by omega), q_cVs, gf, gf, m_asks sx dd (996 + 83 * e + 83) b N _ B hs hbn (by omega) (q_mB_put rB1) (by rw [m_get_put]; exact vw_ag hs hv agv) (by omega), q_cVs, m_get_put, m_put_put, q_inbN (by omega), decide_eq_true (show e + 1 < 7 by omega), cond_true, q_cl_nI (show e + 1 < 2147483648 by omega)] at h191
          have ag1 : q_ag B (o_ask B (z_ov (m_get G (996 + 83 * e)) (m_get G (996 + 83 * e + 83))) b) (o_ask B w b) := ag_ask hs hbn agv
          generalize hv1 : o_ask B (z_ov (m_get G (996 + 83 * e)) (m_get G (996 + 83 * e + 83))) b = v1 at h191 ag1
          have f6 : o_mf e G (q_hs (m_put (q_hs G 181 e (nI b)) (996 + 83 * e + 83) v1) 181 (e + 1) (-1)) := by
            refine ⟨fun q k1 k2 k3 => ?_, fun j k => ?_, fun i k => ?_⟩
            · rw [q_hs_ne k2, m_put_ne _ _ _ k1, q_hs_ne k2]
            · rw [q_hs_ne (by omega), m_put_lt _ _ _ (by omega), q_hs_ne (by omega)]
            · rw [q_hs_ix (by omega), m_put_ne _ _ _ (by omega), q_hs_ix (by omega)]
          have f6' := o_mf_tr hf f6 (Nat.le_refl _)
          have e6 : (q_hs (m_put (q_hs G 181 e (nI b)) (996 + 83 * e + 83) v1) 181 (e + 1) (-1)) 181 e = nI b := by
            rw [q_hs_ix (by omega), m_put_ne _ _ _ (by omega), q_hs_at]
          obtain ⟨H7, o7, r7, fd7⟩ := ih (e + 1) (N + 36) (p ++ [b]) a (q_hs (m_put (q_hs G 181 e (nI b)) (996 + 83 * e + 83) v1) 181 (e + 1) (-1)) (o_ask B w b) (by omega) (by rw [List.length_append, hp]; rfl) (fun i x hx => by
            by_cases ki : i < e
            · rw [List.getElem?_append_left (by omega)] at hx
              exact hp6 i x hx
            · rw [List.getElem?_append_right (by omega)] at hx
              have hi := (List.getElem?_eq_some_iff.mp hx).1
              have e0 : i - p.length = 0 := by
                have : i - p.length < 1 := hi
                omega
              rw [e0] at hx
              cases hx
              omega) (fun i x hx => by
            by_cases ki : i < e
            · rw [List.getElem?_append_left (by omega)] at hx
              rw [f6'.2.2 i ki]
              exact hpt i x hx
            · rw [List.getElem?_append_right (by omega)] at hx
              have hi := (List.getElem?_eq_some_iff.mp hx).1
              have e0 : i - p.length = 0 := by
                have : i - p.length < 1 := hi
                omega
              rw [e0] at hx
              cases hx
              have e1 : i = e := by omega
              subst e1
              exact e6) q_hs_at (o_mf_mB hB f6') (by
            rw [m_get_of (q_hs_ne (by omega)), show 996 + 83 * (e + 1) = 996 + 83 * e + 83 by omega, m_get_put]
            exact ag1) vw1 (by omega) (by
            rw [q_hs_ne (by omega), m_put_ne _ _ _ (by omega), q_hs_ne (by omega)]
            exact hGf)
          have esn : o_pmi (p ++ [b]) (e + 1) = o_pmi p e ||| 2 ^ b := by
            rw [← hp]
            exact o_pmi_snoc p b
          rw [esn, nI_m1] at r7
          rw [esn] at fd7
          have f7 := o_mf_tr f6' o7 (by omega)
          have hin7 := o_in sx dd M L e (o_most (o_X B c n (o_ask B w b) (o_pmi p e ||| 2 ^ b) (p ++ [b]) a)) p H7 (by omega) hL hp hp6 (fun i x hx => by
            rw [f7.2.2 i (by have := (List.getElem?_eq_some_iff.mp hx).1; omega)]
            exact hpt i x hx)
          rw [o7.2.2 e (by omega), e6, nI_add] at hin7
          obtain ⟨G', r1, r2, r3⟩ := ihr (b + 1) (o_X B c n (o_ask B w b) (o_pmi p e ||| 2 ^ b) (p ++ [b]) a) H7 (by omega) f7 fd7
          refine ⟨G', r1, (h191.trans ?_).trans (r7.trans (hin7.trans r2)), r3⟩
          rfl
    have hin := o_in sx dd M L e (o_most a) p H (by omega) hL hp hp6 hpt
    rw [hm1, show (-1 : Int32) + nI 1 = nI 0 by decide] at hin
    obtain ⟨G', r1, r2, r3⟩ := scan (sNb B) 0 a H (by omega) (o_mf_rf e H) hfd
    exact ⟨G', r1, hin.trans r2, r3⟩
theorem m_bestOrder (sx : QX) (dd N : Nat) (B : SB) (hs : q_sB B) (H : QH) (w : SW) (hB : q_mB H B) (hag : q_ag B (m_get H 0) w) (hv : q_vw B N w) (hN : N < 600000) : ∃ H', q_CL (q_tb sx) q_kpt (dd + 6) (159, ([vr 9 165], H)) = rI (o_most (o_X B (o_c w) (o_L B w) w 0 [] none)) H' ∧ (∀ a, a ≠ 166 → a ≠ 181 → a ≠ 182 → H' a = H a) ∧ (∀ j, j < 996 → H' 166 j = H 166 j) ∧ o_fd (H' 182) (o_X B (o_c w) (o_L B w) w 0 [] none) := by
  have hs' := hs
  obtain ⟨⟨g1, g2⟩, ⟨g3, g4⟩, ⟨g5, g6⟩, -⟩ := hs'
  have hL := o_L_le hs w
  have hM := o_M_lt (o_c w) g2
  have hb9 := b_X7_bestOrder_0 sx (dd + 5) H
  rw [show dd + 5 = dd + 2 + 3 by omega, m_bedOf sx (dd + 2) B H w hs hB hag, q_cIs, show dd + 2 + 3 = dd + 4 + 1 by omega, ones_eq sx (dd + 4) _ H (by omega), q_cIs, o_M_ones hs w, m_copy sx (dd + 4) 0 996 H (by omega) (by omega) (by omega), q_cVs, q_inbN (by omega), decide_eq_true (show 0 < 7 by omega), cond_true, q_cl_nI (show 0 < 2147483648 by omega)] at hb9
  have agv : q_ag B (z_ov (m_get H 0) (m_get H 996)) w := ag_tr (ag_ov hs _ _) hag
  generalize hv1 : z_ov (m_get H 0) (m_get H 996) = v1 at hb9 agv
  have f1 : ∀ a, a ≠ 166 → a ≠ 181 → (q_hs (m_put H 996 v1) 181 0 (-1)) a = H a := fun a k1 k2 => by rw [q_hs_ne k2, m_put_ne _ _ _ k1]
  obtain ⟨H', o, r, fd⟩ := m_osearch sx dd (o_M (o_c w) (sNb B)) (o_L B w) (o_c w) B hs hL hM (fun b hb => by
    rw [o_M_bit _ g2 b (by omega)]
    by_cases k : o_c w b = true
    · rw [if_pos ⟨hb, k⟩, k]
      simp
    · rw [if_neg (fun q => k q.2)]
      exact propext ⟨fun q => absurd q (by decide), fun q => absurd q k⟩) (o_L B w) 0 N [] none (q_hs (m_put H 996 v1) 181 0 (-1)) w (by omega) rfl (fun i x hx => by simp at hx) (fun i x hx => by simp at hx) q_hs_at (by
    unfold q_mB at hB ⊢
    rw [f1 165 (by omega) (by omega), f1 167 (by omega) (by omega), f1 168 (by omega) (by omega), f1 169 (by omega) (by omega), f1 170 (by omega) (by omega), f1 171 (by omega) (by omega)]
    exact hB) (by
    rw [m_get_of (q_hs_ne (by omega)), show 996 + 83 * 0 = 996 by omega, m_get_put]
    exact agv) hv (by omega) (fun v hv => by cases hv)
  have hout : ∀ x G, o_ev sx dd (o_M (o_c w) (sNb B)) (o_L B w) x (nI 0 + -1) G = rI x G := fun x G => by
    unfold o_ev
    refine (b_X7_bestOrder_30 sx (dd + 5) _ _ x (nI 0 + -1) G).trans ?_
    rw [decide_eq_true (show nI 0 + -1 < nI 0 by decide)]
    rfl
  refine ⟨H', hb9.trans (r.trans (hout _ _)), fun a k1 k2 k3 => ?_, fun j hj => ?_, fd⟩
  · rw [o.1 a k1 k2 k3, f1 a k1 k2]
  · rw [o.2.1 j (by omega), q_hs_ne (by omega), m_put_lt _ _ _ hj]
theorem two_order (sx : QX) (d n : Nat) (A : SA) (hA : q_sA n A) (hn : n < 500000) (x : Int32) : q_two sx d 73 160 [vi x] A n := by
  have hA' := hA
  obtain ⟨-, hs, hv, -⟩ := hA'
  have hs' := hs
  obtain ⟨⟨g1, g2⟩, ⟨g3, g4⟩, ⟨g5, g6⟩, -⟩ := hs'
  have hL := o_L_le hs (aW A)
  by_cases c1 : -1 ≤ x
  · have hne := o_X_full (c := o_c (aW A)) hs (o_L (aB A) (aW A)) (aW A) 0 [] none (by omega) (Nat.le_of_eq (o_L_av (aB A) (aW A)))
    cases eX : o_X (aB A) (o_c (aW A)) (o_L (aB A) (aW A)) (aW A) 0 [] none with
    | none => exact absurd eX hne
    | some v =>
      have hlen := o_X_len (B := aB A) (c := o_c (aW A)) (o_L (aB A) (aW A)) (o_L (aB A) (aW A)) (aW A) 0 [] none (Nat.zero_add _) (fun v hv => by cases hv) v eX
      have ans : ∀ j, j < v.2.length → ∃ z, v.2[j]? = some z := fun j hj => ⟨v.2[j]'hj, List.getElem?_eq_getElem hj⟩
      refine ⟨if x < nI 0 then nI v.1 else if nI (o_L (aB A) (aW A)) ≤ x then -4 else nI ((v.2[x.toNatClampNeg]?).getD 0), A, q_sA_mono hA (by omega), fun H hR => ?_, fun H hR => ?_⟩
      · obtain ⟨H1, r1, o1, l1, m1, fd1⟩ := q_seek sx (d + 19) n (aB A) hs H (aW A) hR.2.1 hR.2.2.1 hv (by omega)
        rw [eX] at m1 fd1
        refine ⟨H1, (b_X6_order_0 sx (d + 39) x H).trans ?_, q_RC_of hR (by rw [o1 1 (by omega)]) (fun a ha => o1 a (by omega)), fun a ha => o1 a (by omega)⟩
        rw [decide_eq_true c1, cond_true, r1, q_cVs, l1, m1]
        by_cases c2 : x < nI 0
        · have e1 : x = -1 := by
            rw [Int32.lt_iff_toInt_lt] at c2
            rw [Int32.le_iff_toInt_le] at c1
            rw [show (nI 0).toInt = 0 by decide] at c2
            rw [show (-1 : Int32).toInt = -1 by decide] at c1
            exact Int32.toInt_inj.mp (by rw [show (-1 : Int32).toInt = -1 by decide]; omega)
          subst e1
          rw [if_pos c2]
          rfl
        · obtain ⟨j, hj, rfl⟩ := nI_of c2
          rw [if_neg c2, decide_eq_true (show nI j ≠ -1 from fun k => by rw [k] at c2; exact c2 (by decide)), cond_true]
          by_cases c3 : nI (o_L (aB A) (aW A)) ≤ nI j
          · rw [if_pos c3, decide_eq_true c3, cond_true]
          · rw [if_neg c3, decide_eq_false c3, cond_false]
            rw [nI_leI (by omega) hj] at c3
            obtain ⟨z, hz⟩ := ans j (by omega)
            rw [at_6 sx _ 164 j H1 (by omega), q_cIs, q_cl_nI (by omega), hz, (fd1 v rfl).2 j z hz]
            rfl
      · obtain ⟨H1, r1, o1, o2, fd1⟩ := m_bestOrder sx (d + 33) n (aB A) hs H (aW A) hR.2.1 hR.2.2.1.1 hv (by omega)
        rw [eX] at r1 fd1
        refine ⟨H1, (b_X7_order_0 sx (d + 39) x H).trans ?_, q_RM_of hR hA (fun j _ => by rw [o1 165 (by omega) (by omega) (by omega)]) (fun j _ => o2 j (by omega)) (fun a k1 k2 => o1 a (by omega) (by omega) (by omega)), fun a ha => o1 a (by omega) (by omega) (by omega)⟩
        have hR1 : q_RM A H1 := q_RM_of hR hA (fun j _ => by rw [o1 165 (by omega) (by omega) (by omega)]) (fun j _ => o2 j (by omega)) (fun a k1 k2 => o1 a (by omega) (by omega) (by omega))
        rw [decide_eq_true c1, cond_true, show d + 39 = d + 33 + 6 by omega, r1, q_cIs, show d + 33 + 6 = d + 36 + 3 by omega, m_bedOf sx (d + 36) (aB A) H1 (aW A) hs hR1.2.1 hR1.2.2.1.1, q_cIs, show d + 36 + 3 = d + 38 + 1 by omega, ones_eq sx (d + 38) _ H1 (by have := o_M_lt (o_c (aW A)) g2; omega), q_cIs, o_M_ones hs]
        by_cases c2 : x < nI 0
        · rw [if_pos c2, decide_eq_false (Int32.not_le.mpr c2)]
          rfl
        · obtain ⟨j, hj, rfl⟩ := nI_of c2
          rw [if_neg c2, decide_eq_true (Int32.not_lt.mp c2), cond_true]
          by_cases c3 : nI (o_L (aB A) (aW A)) ≤ nI j
          · rw [if_pos c3, decide_eq_true c3, cond_true]
          · rw [if_neg c3, decide_eq_false c3, cond_false]
            rw [nI_leI (by omega) hj] at c3
            obtain ⟨z, hz⟩ := ans j (by omega)
            rw [q_inbN (by omega), decide_eq_true (show j < 6 by omega), cond_true, q_cl_nI (by omega), hz, (fd1 v rfl).2 j z hz]
            rfl
  · refine two_same hA (-1) (fun H hR => (b_X6_order_0 sx (d + 39) x H).trans ?_) (fun H hR => (b_X7_order_0 sx (d + 39) x H).trans ?_)
    · rw [decide_eq_false c1]
      rfl
    · rw [decide_eq_false c1]
      rfl
