/-! the class orders -/
theorem o_bit : ∀ m, m < 64 → ∀ b, b < 6 → ∀ o, o < 6 → (m ||| 2 ^ b) / 2 ^ o % 2 = if o = b then 1 else m / 2 ^ o % 2 := by decide +kernel
theorem o_or_lt : ∀ m, m < 64 → ∀ b, b < 6 → m ||| 2 ^ b < 64 := by decide +kernel
theorem o_orI : ∀ m, m < 64 → ∀ b, b < 6 → nI m ||| (nI 1 <<< (nI b &&& 31)) = nI (m ||| 2 ^ b) := by decide +kernel
def o_most : OA → Int32
  | none => -1
  | some v => nI v.1
def o_fd (f : Nat → Int32) (a : OA) : Prop := ∀ v, a = some v → v.1 ≤ 6 ∧ ∀ (i x : Nat), v.2[i]? = some x → f i = nI x
theorem o_m1_lt {k : Nat} (hk : k < 1000) : (-1 : Int32) < nI k := Int32.lt_of_lt_of_le (show (-1 : Int32) < nI 0 by decide) ((nI_leI (by omega) (by omega)).mpr (Nat.zero_le _))
theorem o_lt {f : Nat → Int32} {a : OA} {k : Nat} (ha : o_fd f a) (hk : k < 1000) : decide (o_most a < nI k) = !(o_pr k a) := by
  cases a with
  | none => exact decide_eq_true (o_m1_lt hk)
  | some v =>
    have := (ha v rfl).1
    show decide (nI v.1 < nI k) = !(decide (k ≤ v.1))
    by_cases c : v.1 < k
    · rw [decide_eq_true ((nI_ltI (by omega) (by omega)).mpr c), decide_eq_false (by omega)]; rfl
    · rw [decide_eq_false (fun q => c ((nI_ltI (by omega) (by omega)).mp q)), decide_eq_true (by omega)]; rfl
def o_cf (e : Nat) (H H' : QH) : Prop := (∀ a, a < 121 + 7 * e → a ≠ 112 → H' a = H a) ∧ (∀ a, 165 ≤ a → H' a = H a) ∧ H' 112 3 = H 112 3 ∧ ∀ i, i < e → H' 163 i = H 163 i
theorem o_cf_rf (e : Nat) (H : QH) : o_cf e H H := ⟨fun _ _ _ => rfl, fun _ _ => rfl, rfl, fun _ _ => rfl⟩
theorem o_cf_tr {e e' : Nat} {H G G' : QH} (h1 : o_cf e H G) (h2 : o_cf e' G G') (he : e ≤ e') : o_cf e H G' := ⟨fun a q1 q2 => (h2.1 a (by omega) q2).trans (h1.1 a q1 q2), fun a q => (h2.2.1 a q).trans (h1.2.1 a q), h2.2.2.1.trans h1.2.2.1, fun i q => (h2.2.2.2 i (by omega)).trans (h1.2.2.2 i q)⟩
theorem o_ext (sx : QX) (c : Nat → Bool) (B : SB) (hs : q_sB B) (L : Nat) (hL : L ≤ 6) : ∀ (n e d N m : Nat) (p : List Nat) (a : OA) (H : QH) (w : SW), e + n = L → m < 64 → p.length = e → (∀ i x : Nat, p[i]? = some x → H 163 i = nI x) → q_rB H B → q_ag B (c_get H (114 + 7 * e)) w → q_vw B N w → N + 36 * n < 800000 → (∀ o, o < sNb B → c o = decide (c_get H 114 (7 + o) = nI 0)) → (∀ o, o < sNb B → c o = true → m / 2 ^ o % 2 = 0 → w (7 + o) = nI 0) → H 112 3 = nI L → H 112 4 = o_most a → o_fd (H 164) a → ∃ H', q_CL (q_tb sx) q_kpt (d + n + 7) (15, ([vr 2 112, vn e, vn m, vn (o_cnt B c w)], H)) = rV H' ∧ o_cf e H H' ∧ H' 112 4 = o_most (o_C B c n w m p a) ∧ o_fd (H' 164) (o_C B c n w m p a) := by
  have hs' := hs
  obtain ⟨⟨g1, g2⟩, ⟨g3, g4⟩, ⟨g5, g6⟩, -⟩ := hs'
  intro n
  induction n with
  | zero =>
    intro e d N m p a H w he hm hp hpt hB hag hv hN hc hfree h3 h4 hfd
    have hb9 := b_X1_extend_0 sx (d + 6) (nI e) (nI m) (nI (o_cnt B c w)) H
    have hcl := o_cnt_le (c := c) (w := w) hs
    rw [h3, h4, nI_add, pk_sub (by omega), show o_cnt B c w + L - e = o_cnt B c w by omega, o_lt hfd (by omega)] at hb9
    unfold o_C
    cases hpr : o_pr (o_cnt B c w) a with
    | true =>
      rw [hpr] at hb9
      rw [if_pos rfl]
      exact ⟨H, hb9, o_cf_rf e H, h4, hfd⟩
    | false =>
      rw [hpr] at hb9
      rw [if_neg (by decide)]
      rw [decide_eq_false (show ¬ nI e < nI L by rw [nI_ltI (by omega) (by omega)]; omega), copy_6 sx _ 163 164 _ (by omega)] at hb9
      refine ⟨_, hb9, ⟨fun q k1 k2 => ?_, fun q k => ?_, ?_, fun i k => ?_⟩, ?_, fun v hv => ?_⟩
      · funext j
        unfold z_copy
        rw [if_neg (by omega), q_hs_ne k2]
      · funext j
        unfold z_copy
        rw [if_neg (by omega), q_hs_ne (by omega)]
      · unfold z_copy
        rw [if_neg (by omega), q_hs_ix (by omega)]
      · unfold z_copy
        rw [if_neg (by omega), q_hs_ne (by omega)]
      · unfold z_copy
        rw [if_neg (by omega), q_hs_at]
        rfl
      · cases hv
        refine ⟨hcl, fun i x hx => ?_⟩
        have hi : i < p.length := (List.getElem?_eq_some_iff.mp hx).1
        unfold z_copy
        rw [if_pos ⟨rfl, by omega⟩, q_hs_ne (by omega)]
        exact hpt i x hx
  | succ n ih =>
    intro e d N m p a H w he hm hp hpt hB hag hv hN hc hfree h3 h4 hfd
    have hb9 := b_X1_extend_0 sx (d + n + 7) (nI e) (nI m) (nI (o_cnt B c w)) H
    have hcl := o_cnt_le (c := c) (w := w) hs
    rw [h3, h4, nI_add, pk_sub (by omega), show o_cnt B c w + L - e = o_cnt B c w + (n + 1) by omega, o_lt hfd (by omega)] at hb9
    unfold o_C
    cases hpr : o_pr (o_cnt B c w + (n + 1)) a with
    | true =>
      rw [hpr] at hb9
      rw [if_pos rfl]
      exact ⟨H, hb9, o_cf_rf e H, h4, hfd⟩
    | false =>
      rw [hpr] at hb9
      rw [if_neg (by decide)]
      rw [decide_eq_true (show nI e < nI L by rw [nI_ltI (by omega) (by omega)]; omega), Bool.not_false, cond_true, cond_true, nI_add, pick_7 sx _ 113 e H (by omega), q_cR5, pick_7 sx _ 113 (e + 1) H (by omega), q_cR5, pick_7 sx _ 113 0 H (by omega), q_cR5, show 113 + 1 + 7 * e = 114 + 7 * e by omega, show 113 + 1 + 7 * (e + 1) = 121 + 7 * e by omega, show 113 + 1 + 7 * 0 = 114 by omega] at hb9
      have loop : ∀ (r b : Nat) (a : OA) (G : QH), b + r = sNb B → o_cf e H G → G 112 4 = o_most a → o_fd (G 164) a → ∃ G', q_EV (q_tb sx) q_kpt (d + n + 7 + 1) 15 (92, ([(0, vr 2 112), (1, vn e), (2, vn m), (3, vn (o_cnt B c w)), (4, vr 5 (114 + 7 * e)), (5, vr 5 (121 + 7 * e)), (6, vr 5 114), (7, vn b)], ([], G))) = rV G' ∧ o_cf e H G' ∧ G' 112 4 = o_most (z_fl (fun b a => if m / 2 ^ b % 2 = 1 ∨ c b = false then a else o_C B c n (o_ask B w b) (m ||| 2 ^ b) (p ++ [b]) a) r b a) ∧ o_fd (G' 164) (z_fl (fun b a => if m / 2 ^ b % 2 = 1 ∨ c b = false then a else o_C B c n (o_ask B w b) (m ||| 2 ^ b) (p ++ [b]) a) r b a) := by
        intro r
        induction r with
        | zero =>
          intro b a G hbr hf hG4 hGf
          refine ⟨G, (b_X1_extend_92 sx (d + n + 7) (114 + 7 * e) (121 + 7 * e) 114 (nI e) (nI m) (nI (o_cnt B c w)) (nI b) G).trans ?_, hf, hG4, hGf⟩
          rw [hf.1 4 (by omega) (by omega), hB.1, decide_eq_true (show nI (sNb B) ≤ nI b by rw [nI_leI (by omega) (by omega)]; omega)]
          rfl
        | succ r ihr =>
          intro b a G hbr hf hG4 hGf
          have hbn : b < sNb B := by omega
          have cg : c_get G 114 = c_get H 114 := c_get_of (fun q k1 k2 => hf.1 q (by omega) (by omega))
          have h92 := b_X1_extend_92 sx (d + n + 7) (114 + 7 * e) (121 + 7 * e) 114 (nI e) (nI m) (nI (o_cnt B c w)) (nI b) G
          rw [hf.1 4 (by omega) (by omega), hB.1, decide_eq_false (show ¬ nI (sNb B) ≤ nI b by rw [nI_leI (by omega) (by omega)]; omega), cond_false, q_bit m (by omega) b (by omega), q_isIn sx _ 114 b (nI 0) G (by omega), cg, ← hc b hbn, q_cIs] at h92
          show ∃ G', _ = rV G' ∧ o_cf e H G' ∧ G' 112 4 = o_most (z_fl _ r (b + 1) _) ∧ o_fd (G' 164) (z_fl _ r (b + 1) _)
          have skip : (m / 2 ^ b % 2 = 1 ∨ c b = false) → ∃ G', q_EV (q_tb sx) q_kpt (d + n + 7 + 1) 15 (92, ([(0, vr 2 112), (1, vn e), (2, vn m), (3, vn (o_cnt B c w)), (4, vr 5 (114 + 7 * e)), (5, vr 5 (121 + 7 * e)), (6, vr 5 114), (7, vn b)], ([], G))) = rV G' ∧ o_cf e H G' ∧ G' 112 4 = o_most (z_fl (fun b a => if m / 2 ^ b % 2 = 1 ∨ c b = false then a else o_C B c n (o_ask B w b) (m ||| 2 ^ b) (p ++ [b]) a) r (b + 1) a) ∧ o_fd (G' 164) (z_fl (fun b a => if m / 2 ^ b % 2 = 1 ∨ c b = false then a else o_C B c n (o_ask B w b) (m ||| 2 ^ b) (p ++ [b]) a) r (b + 1) a) := by
            intro hsk
            obtain ⟨G', r1, r2⟩ := ihr (b + 1) a G (by omega) hf hG4 hGf
            refine ⟨G', (h92.trans ?_).trans r1, r2⟩
            rw [nI_add]
            by_cases k : m / 2 ^ b % 2 = 1
            · rw [k, decide_eq_true rfl, cond_true]
            · have k0 : m / 2 ^ b % 2 = 0 := by omega
              have k2 : c b = false := hsk.resolve_left k
              rw [k0, k2, decide_eq_false (show ¬ nI 0 = nI 1 by decide), cond_false, decide_eq_false (show ¬ z01 false ≠ nI 0 by decide), cond_false]
          by_cases hsk : m / 2 ^ b % 2 = 1 ∨ c b = false
          · simp only [if_pos hsk]
            exact skip hsk
          · simp only [if_neg hsk]
            have k0 : m / 2 ^ b % 2 = 0 := by
              have := Nat.mod_lt (m / 2 ^ b) (show 2 > 0 by omega)
              by_cases k : m / 2 ^ b % 2 = 1
              · exact absurd (Or.inl k) hsk
              · omega
            have kc : c b = true := by
              cases k : c b with
              | true => rfl
              | false => exact absurd (Or.inr k) hsk
            have hw0 := hfree b hbn kc k0
            obtain ⟨vw1, fr1⟩ := vw_ask hs hbn hv (by omega)
            have eP : q_hs G 163 e (nI b) = q_hs G 163 e (nI b) := rfl
            have rB1 : q_rB (q_hs G 163 e (nI b)) B := q_rB_of hB (fun q k => by rw [q_hs_ne (by omega)]; exact hf.1 q (by omega) (by omega))
            have gq : c_get (q_hs G 163 e (nI b)) (114 + 7 * e) = c_get H (114 + 7 * e) := c_get_of (fun q k1 k2 => by rw [q_hs_ne (by omega)]; exact hf.1 q (by omega) (by omega))
            have agv : q_ag B (z_ov (c_get H (114 + 7 * e)) (c_get (q_hs G 163 e (nI b)) (121 + 7 * e))) w := ag_tr (ag_ov hs _ _) hag
            rw [k0, kc, decide_eq_false (show ¬ nI 0 = nI 1 by decide), cond_false, decide_eq_true (show z01 true ≠ nI 0 by decide), cond_true, put_6 sx _ 163 e _ G (by omega), q_cVs, show d + n + 7 = d + n + 5 + 2 by omega, q_copyFrom sx (d + n + 5) (121 + 7 * e) (114 + 7 * e) _ (by omega), q_cVs, gq, show d + n + 5 + 2 = d + n + 2 + 5 by omega, q_askAll sx (d + n + 2) (121 + 7 * e) b N _ B (q_rB_put rB1 (by omega)) hs (by omega) (by rw [c_get_put]; exact vw_ag hs hv agv) (by omega) hbn, q_cVs, c_get_put, c_put_put, show d + n + 2 + 5 = d + n + 5 + 2 by omega, q_isIn sx (d + n + 5) (121 + 7 * e) b (nI 1) _ (by omega), c_get_put, q_cIs] at h92
            have ag1 : q_ag B (o_ask B (z_ov (c_get H (114 + 7 * e)) (c_get (q_hs G 163 e (nI b)) (121 + 7 * e))) b) (o_ask B w b) := ag_ask hs hbn agv
            rw [ag1 (7 + b) (by omega)] at h92
            generalize hv1 : o_ask B (z_ov (c_get H (114 + 7 * e)) (c_get (q_hs G 163 e (nI b)) (121 + 7 * e))) b = v1 at h92 ag1
            have f1 : o_cf e G (c_put (q_hs G 163 e (nI b)) (121 + 7 * e) v1) := by
              refine ⟨fun q k1 k2 => ?_, fun q k => ?_, ?_, fun i k => ?_⟩
              · rw [c_put_out _ _ _ (by omega), q_hs_ne (by omega)]
              · rw [c_put_out _ _ _ (by omega), q_hs_ne (by omega)]
              · rw [c_put_out _ _ _ (by omega), q_hs_ne (by omega)]
              · rw [c_put_out _ _ _ (by omega), q_hs_ix (by omega)]
            have f2 := o_cf_tr hf f1 (Nat.le_refl _)
            have g112 : (c_put (q_hs G 163 e (nI b)) (121 + 7 * e) v1) 112 = G 112 := by rw [c_put_out _ _ _ (by omega), q_hs_ne (by omega)]
            have g164 : (c_put (q_hs G 163 e (nI b)) (121 + 7 * e) v1) 164 = G 164 := by rw [c_put_out _ _ _ (by omega), q_hs_ne (by omega)]
            obtain ⟨H6, r6, o6, m6, fd6⟩ := ih (e + 1) d (N + 36) (m ||| 2 ^ b) (p ++ [b]) a (c_put (q_hs G 163 e (nI b)) (121 + 7 * e) v1) (o_ask B w b) (by omega) (o_or_lt m hm b (by omega)) (by rw [List.length_append, hp]; rfl) (fun i x hx => by
              rw [c_put_out _ _ _ (by omega)]
              by_cases ki : i < e
              · rw [List.getElem?_append_left (by omega)] at hx
                rw [q_hs_ix (by omega), hf.2.2.2 i ki]
                exact hpt i x hx
              · have hi : i < (p ++ [b]).length := (List.getElem?_eq_some_iff.mp hx).1
                rw [List.length_append, hp] at hi
                have ei : i = e := by
                  have : i < e + 1 := hi
                  omega
                subst ei
                rw [List.getElem?_append_right (by omega), hp, Nat.sub_self] at hx
                cases hx
                exact q_hs_at) (q_rB_put rB1 (by omega)) (by rw [show 114 + 7 * (e + 1) = 121 + 7 * e by omega, c_get_put]; exact ag1) vw1 (by omega) (fun o ho => by
                rw [c_get_of (H := H) (fun q k1 k2 => f2.1 q (by omega) (by omega))]
                exact hc o ho) (fun o ho kco kbo => by
                rw [o_bit m hm b (by omega) o (by omega)] at kbo
                by_cases eo : o = b
                · rw [if_pos eo] at kbo; cases kbo
                · rw [if_neg eo] at kbo
                  exact (z_asks_pl (by omega) (by omega) eo _ _).trans (hfree o ho kco kbo)) (by rw [g112, hf.2.2.1]; exact h3) (by rw [g112]; exact hG4) (by rw [g164]; exact hGf)
            have run : q_EV (q_tb sx) q_kpt (d + n + 7 + 1) 15 (92, ([(0, vr 2 112), (1, vn e), (2, vn m), (3, vn (o_cnt B c w)), (4, vr 5 (114 + 7 * e)), (5, vr 5 (121 + 7 * e)), (6, vr 5 114), (7, vn b)], ([], G))) = q_EV (q_tb sx) q_kpt (d + n + 7 + 1) 15 (92, ([(0, vr 2 112), (1, vn e), (2, vn m), (3, vn (o_cnt B c w)), (4, vr 5 (114 + 7 * e)), (5, vr 5 (121 + 7 * e)), (6, vr 5 114), (7, vn (b + 1))], ([], H6))) := by
              refine h92.trans ?_
              have ecnt := o_cnt_ask (c := c) (v := o_ask B w b) hbn kc hw0 (fun o ho eo => z_asks_pl (by omega) (by omega) eo _ _)
              rw [o_orI m hm b (by omega), nI_add, nI_add]
              rcases z_asks_b (b := b) (B := B) (by omega) (z_hs B w) w (Or.inl hw0) with k | k
              · have k' : o_ask B w b (7 + b) = nI 0 := k
                rw [if_pos k'] at ecnt
                rw [ecnt] at r6
                rw [k', decide_eq_false (show ¬ nI 0 = nI 1 by decide), decide_eq_true (show z01 false = nI 0 by decide), cond_true]
                rw [show d + n + 5 + 2 = d + n + 7 by omega, r6, q_cVs]
              · have k' : o_ask B w b (7 + b) = nI 1 := k
                rw [if_neg (by rw [k']; decide)] at ecnt
                rw [ecnt] at r6
                rw [k', decide_eq_true rfl, decide_eq_false (show ¬ z01 true = nI 0 by decide), cond_false]
                rw [show d + n + 5 + 2 = d + n + 7 by omega, nI_add, r6, q_cVs]
            obtain ⟨G', r1, r2⟩ := ihr (b + 1) (o_C B c n (o_ask B w b) (m ||| 2 ^ b) (p ++ [b]) a) H6 (by omega) (o_cf_tr f2 o6 (by omega)) m6 fd6
            exact ⟨G', run.trans r1, r2⟩
      obtain ⟨G', r1, r2, r3, r4⟩ := loop (sNb B) 0 a H (by omega) (o_cf_rf e H) h4 hfd
      exact ⟨G', hb9.trans r1, r2, r3, r4⟩
