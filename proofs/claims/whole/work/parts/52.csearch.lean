/-! the class searches -/
theorem z_best_fold (B : SB) (w : SW) (b : Nat) : ∀ (a : Option (Nat × Nat) × Int32), a = z_fold (sNs B) (z_bsp B w b) (none, nI 0) → (∀ s k, s < sNs B → k < sNw B → nI 0 < w (79 + s) → z_worth B w s b k ≤ a.2) ∧ ((a.1 = none ∧ a.2 = nI 0) ∨ ∃ s k, a.1 = some (s, k) ∧ a.2 = z_worth B w s b k) := by
  rintro a rfl
  have key := z_fold_inv (fun i (a : Option (Nat × Nat) × Int32) => (∀ s k, s < i → k < sNw B → nI 0 < w (79 + s) → z_worth B w s b k ≤ a.2) ∧ ((a.1 = none ∧ a.2 = nI 0) ∨ ∃ s k, a.1 = some (s, k) ∧ a.2 = z_worth B w s b k)) (sNs B) (z_bsp B w b) (none, nI 0) ⟨fun s k h => absurd h (Nat.not_lt_zero _), Or.inl ⟨rfl, rfl⟩⟩ (fun s a hs ⟨h1, h2⟩ => by
    unfold z_bsp
    by_cases c : nI 0 < w (79 + s)
    · rw [if_pos c]
      have key2 := z_fold_inv (fun j (a : Option (Nat × Nat) × Int32) => (∀ s' k, s' < s → k < sNw B → nI 0 < w (79 + s') → z_worth B w s' b k ≤ a.2) ∧ (∀ k, k < j → z_worth B w s b k ≤ a.2) ∧ ((a.1 = none ∧ a.2 = nI 0) ∨ ∃ s k, a.1 = some (s, k) ∧ a.2 = z_worth B w s b k)) (sNw B) (z_bstep B w b s) a ⟨h1, fun k h => absurd h (Nat.not_lt_zero _), h2⟩ (fun k a hk ⟨q1, q2, q3⟩ => by
        unfold z_bstep
        by_cases c2 : a.2 < z_worth B w s b k
        · rw [if_pos c2]
          refine ⟨fun s' k' m1 m2 m3 => Int32.le_of_lt (Int32.lt_of_le_of_lt (q1 s' k' m1 m2 m3) c2), fun k' m1 => ?_, Or.inr ⟨s, k, rfl, rfl⟩⟩
          by_cases e : k' = k
          · subst e; exact Int32.le_refl _
          · exact Int32.le_of_lt (Int32.lt_of_le_of_lt (q2 k' (by omega)) c2)
        · rw [if_neg c2]
          refine ⟨q1, fun k' m1 => ?_, q3⟩
          by_cases e : k' = k
          · subst e; exact Int32.not_lt.mp c2
          · exact q2 k' (by omega))
      obtain ⟨q1, q2, q3⟩ := key2
      refine ⟨fun s' k m1 m2 m3 => ?_, q3⟩
      by_cases e : s' = s
      · subst e; exact q2 k m2
      · exact q1 s' k (by omega) m2 m3
    · rw [if_neg c]
      refine ⟨fun s' k m1 m2 m3 => ?_, h2⟩
      by_cases e : s' = s
      · subst e; exact absurd m3 c
      · exact h1 s' k (by omega) m2 m3)
  exact key
theorem z_best_no {B : SB} {w : SW} {b : Nat} (h : z_best B w b = none) {s k : Nat} (hs : s < sNs B) (hk : k < sNw B) (h0 : nI 0 < w (79 + s)) : z_worth B w s b k ≤ nI 0 := by
  obtain ⟨h1, h2⟩ := z_best_fold B w b _ rfl
  unfold z_best at h
  rcases h2 with ⟨-, e⟩ | ⟨s', k', e, -⟩
  · rw [← e]; exact h1 s k hs hk h0
  · rw [e] at h; cases h
theorem z_best_max {B : SB} {w : SW} {b s0 k0 : Nat} (h : z_best B w b = some (s0, k0)) {s k : Nat} (hs : s < sNs B) (hk : k < sNw B) (h0 : nI 0 < w (79 + s)) : z_worth B w s b k ≤ z_worth B w s0 b k0 := by
  obtain ⟨h1, h2⟩ := z_best_fold B w b _ rfl
  unfold z_best at h
  rcases h2 with ⟨e, -⟩ | ⟨s', k', e, e2⟩
  · rw [e] at h; cases h
  · rw [e] at h
    cases h
    rw [← e2]; exact h1 s k hs hk h0
def z_sh (v : SW) (s b k : Nat) (x y : Int32) : SW := upd (upd (upd v (79 + s) (v (79 + s) - x)) (19 + 6 * b + k) (v (19 + 6 * b + k) + x)) (1 + b) (v (1 + b) + y)
theorem q_shift (sx : QX) (d s b k : Nat) (x y : Int32) (H : QH) (hs : s < 4) (hb : b < 6) (hk : k < 6) : q_CL (q_tb sx) q_kpt (d + 3) (49, ([vr 6 110, vn s, vn b, vn k, vi x, vi y], H)) = rV (c_put H 29 (z_sh (c_get H 29) s b k x y)) := by
  refine (b_X4_shift_0 sx (d + 2) (nI s) (nI b) (nI k) x y H).trans ?_
  rw [at_4 sx _ 33 s H hs, q_cIs, put_4 sx _ 33 s _ H hs, q_cVs, c_h4 H 29 _ s hs, q_hear sx d 29 b k x _ hb hk, q_cVs, c_get_put, c_put_put, pk_un (by omega), at_6 sx _ 30 b _ hb, q_cIs, put_6 sx _ 30 b _ _ hb, q_cVs, c_h1 _ 29 _ b hb, c_get_put, c_put_put, c_r1 (c_put H 29 _) 29 b hb, c_get_put, pk_un (by omega), pk_un (by omega), c_r4 H 29 s hs]
  rfl
theorem z_sh_back {v : SW} {s b k : Nat} {y : Int32} (hs : s < 4) (hb : b < 6) (hk : k < 6) : z_sh (z_sh v s b k (nI 1) y) s b k (-1) (0 - y) = v := by
  funext j
  unfold z_sh
  by_cases c1 : j = 1 + b
  · subst c1
    rw [pk_us, pk_us, Int32.zero_sub, Int32.add_assoc, Int32.add_right_neg, Int32.add_zero]
  · rw [pk_un c1]
    by_cases c2 : j = 19 + 6 * b + k
    · subst c2
      rw [pk_us, pk_un (by omega), pk_us]
      rw [Int32.add_assoc, show nI 1 + (-1 : Int32) = 0 by decide, Int32.add_zero]
    · rw [pk_un c2]
      by_cases c3 : j = 79 + s
      · subst c3
        rw [pk_us, pk_un (by omega), pk_un (by omega), pk_us]
        rw [Int32.sub_eq_add_neg, Int32.sub_eq_add_neg, Int32.add_assoc, show -(nI 1) + -(-1 : Int32) = 0 by decide, Int32.add_zero]
      · rw [pk_un c3, pk_un c1, pk_un c2, pk_un c3]
/-- a quarry is where the search stands -/
def x_rel (B : SB) (b : Nat) (v : SW) (st : ST) : Prop := (∀ s, s < sNs B → v (79 + s) = nI (st.1 s) ∧ st.1 s < 1000) ∧ (∀ k, k < sNw B → v (19 + 6 * b + k) = nI (st.2.1 k) ∧ st.2.1 k < 1000000) ∧ v (1 + b) = nI st.2.2
theorem x_rel_w {B : SB} {b : Nat} {v : SW} {st : ST} {g : Nat → Nat → Nat} (h : x_rel B b v st) (hg : ∀ s k, s < sNs B → k < sNw B → z_spk B s b k = nI (g s k) ∧ g s k < 1000) {s k : Nat} (hs : s < sNs B) (hk : k < sNw B) : z_worth B v s b k = nI (x_w g st s k) := by
  unfold z_worth x_w
  obtain ⟨e1, h1⟩ := hg s k hs hk
  obtain ⟨e2, h2⟩ := h.2.1 k hk
  rw [e1, e2, z_less_n (by omega) (by omega)]
theorem x_rel_st {B : SB} {b : Nat} {v : SW} {st : ST} {g : Nat → Nat → Nat} (hB : q_sB B) (hb : b < sNb B) (h : x_rel B b v st) {s k : Nat} (hs : s < sNs B) (hk : k < sNw B) (h0 : 0 < st.1 s) (hN : st.2.1 k + 1 < 1000000) : x_rel B b (z_sh v s b k (nI 1) (nI (x_w g st s k))) (x_st g st s k) := by
  obtain ⟨⟨g1, g2⟩, ⟨g3, g4⟩, ⟨g5, g6⟩, -⟩ := hB
  obtain ⟨h1, h2, h3⟩ := h
  unfold z_sh
  refine ⟨fun s' hs' => ?_, fun k' hk' => ?_, ?_⟩
  · rw [pk_un (by omega), pk_un (by omega)]
    show _ = nI (if s' = s then st.1 s' - 1 else st.1 s') ∧ (if s' = s then st.1 s' - 1 else st.1 s') < 1000
    obtain ⟨e, he⟩ := h1 s' hs'
    by_cases c : s' = s
    · subst c
      rw [pk_us, if_pos rfl, e, pk_sub (by omega)]
      exact ⟨rfl, by omega⟩
    · rw [pk_un (by omega), if_neg c]
      exact ⟨e, he⟩
  · rw [pk_un (by omega)]
    show _ = nI (if k' = k then st.2.1 k' + 1 else st.2.1 k') ∧ (if k' = k then st.2.1 k' + 1 else st.2.1 k') < 1000000
    obtain ⟨e, he⟩ := h2 k' hk'
    by_cases c : k' = k
    · subst c
      rw [pk_us, if_pos rfl, e, nI_add]
      exact ⟨rfl, hN⟩
    · rw [pk_un (by omega), pk_un (by omega), if_neg c]
      exact ⟨e, he⟩
  · rw [pk_us, h3, nI_add]
    rfl
theorem c_put_at {H H' : QH} {p : Nat} {w : SW} {a : Nat} (h : H' a = H a) : c_put H' p w a = c_put H p w a := by
  funext i
  unfold c_put
  rw [h]
theorem q_ext (sx : QX) (b t : Nat) (g : Nat → Nat → Nat) (B : SB) (hs : q_sB B) (hb : b < sNb B) (hg : ∀ s k, s < sNs B → k < sNw B → z_spk B s b k = nI (g s k) ∧ g s k < 1000) (ht : sN B b = nI t) (ht2 : t ≤ 60) : ∀ (n depth many d N : Nat) (H : QH) (st : ST), depth + n = many → many ≤ 4 → q_rB H B → q_hd B (c_get H 29) N → N + n < 900000 → x_rel B b (c_get H 29) st → (∀ k, k < sNw B → st.2.1 k ≤ N) → st.2.2 + 1000 * n < 100000 → ∃ H', q_CL (q_tb sx) q_kpt (d + n + 5) (48, ([vr 6 110, vn b, vn depth, vn many], H)) = rI (z01 (x_C (sNs B) (sNw B) t g n st).isSome) H' ∧ (∀ a, a ≠ 111 → H' a = H a) ∧ (∀ i, i < depth → H' 111 i = H 111 i) ∧ ∀ l, x_C (sNs B) (sNw B) t g n st = some l → ∀ (i : Nat) (x : Nat × Nat), l[i]? = some x → H' 111 (depth + i) = nI (10 * x.1 + x.2) := by
  have hs' := hs
  obtain ⟨⟨g1, g2⟩, ⟨g3, g4⟩, ⟨g5, g6⟩, -⟩ := hs'
  intro n
  induction n with
  | zero =>
    intro depth many d N H st hd hm hB hh hN hr hk hst
    have hb9 := b_X4_extend_0 sx (d + 4) (nI b) (nI depth) (nI many) H
    rw [q_lackOf sx _ 29 b H B hB hs hb, ht, hr.2.2, q_cIs] at hb9
    unfold x_C
    by_cases c : t ≤ st.2.2
    · rw [if_pos c]
      have e : ¬ nI 0 < nI t - nI st.2.2 := by
        rw [Int32.lt_iff_toInt_lt, pk_sub_toInt (by omega) (by omega), nI_toInt (by omega)]
        omega
      rw [decide_eq_false e] at hb9
      exact ⟨H, hb9, fun _ _ => rfl, fun _ _ => rfl, fun l hl i x hx => by cases hl; simp at hx⟩
    · rw [if_neg c]
      rw [pk_sub (by omega), decide_eq_true (show nI 0 < nI (t - st.2.2) by rw [nI_ltI (by omega) (by omega)]; omega), cond_true, decide_eq_true (show nI many ≤ nI depth by rw [nI_leI (by omega) (by omega)]; omega), cond_true] at hb9
      exact ⟨H, hb9, fun _ _ => rfl, fun _ _ => rfl, fun l hl => by cases hl⟩
  | succ n ih =>
    intro depth many d N H st hd hm hB hh hN hr hk hst
    have hb9 := b_X4_extend_0 sx (d + n + 5) (nI b) (nI depth) (nI many) H
    rw [q_lackOf sx _ 29 b H B hB hs hb, ht, hr.2.2, q_cIs] at hb9
    by_cases c : t ≤ st.2.2
    · have ex : x_C (sNs B) (sNw B) t g (n + 1) st = some [] := by unfold x_C; rw [if_pos c]
      rw [ex]
      have e : ¬ nI 0 < nI t - nI st.2.2 := by
        rw [Int32.lt_iff_toInt_lt, pk_sub_toInt (by omega) (by omega), nI_toInt (by omega)]
        omega
      rw [decide_eq_false e] at hb9
      exact ⟨H, hb9, fun _ _ => rfl, fun _ _ => rfl, fun l hl i x hx => by cases hl; simp at hx⟩
    · rw [pk_sub (by omega), decide_eq_true (show nI 0 < nI (t - st.2.2) by rw [nI_ltI (by omega) (by omega)]; omega), cond_true, decide_eq_false (show ¬ nI many ≤ nI depth by rw [nI_leI (by omega) (by omega)]; omega), cond_false, decide_eq_true (show nI depth < nI 4 by rw [nI_ltI (by omega) (by omega)]; omega), cond_true, q_dearest sx _ 29 b N H B hB hs hh (by omega) hb, q_cIs] at hb9
      have pos : ∀ s, s < sNs B → 0 < st.1 s → nI 0 < c_get H 29 (79 + s) := fun s k1 k2 => by
        obtain ⟨e, he⟩ := hr.1 s k1
        rw [e, nI_ltI (by omega) (by omega)]
        exact k2
      rcases z_best_in B (c_get H 29) b with eb | ⟨s0, k0, q1, q2, eb, -⟩
      · have ex : x_C (sNs B) (sNw B) t g (n + 1) st = none := x_C_bound (n + 1) st 0 (fun s k1 k2 k k3 => by
          have h1 := z_best_no eb k1 k3 (pos s k1 k2)
          rw [x_rel_w hr hg k1 k3, nI_leI (by unfold x_w; have := (hg s k k1 k3).2; omega) (by omega)] at h1
          exact h1) (by omega)
        rw [ex]
        rw [eb, decide_eq_false z_code_none, cond_false] at hb9
        exact ⟨H, hb9, fun _ _ => rfl, fun _ _ => rfl, fun l hl => by cases hl⟩
      · obtain ⟨d1, d2⟩ := z_code_some s0 k0 (by omega) (by omega)
        rw [eb, decide_eq_true (z_code_ge s0 k0 (by omega) (by omega)), cond_true, d2, d1] at hb9
        have hb8 : _ = q_cI (q_CL (q_tb sx) q_kpt (d + n + 5) (26, ([vr 5 29, vn s0, vn b, vn k0], H))) _ := hb9
        have hw0 := (hg s0 k0 q1 q2).2
        rw [q_worthOf sx _ 29 s0 b k0 N H B hB hs hh (by omega) q1 hb q2, x_rel_w hr hg q1 q2, q_cIs, q_lackOf sx _ 29 b H B hB hs hb, ht, hr.2.2, q_cIs, pk_sub (by omega), pk_sub (by omega), pk_mul] at hb8
        have hxw : x_w g st s0 k0 ≤ 1000 := by unfold x_w; omega
        have hmul : x_w g st s0 k0 * (many - depth) ≤ 1000 * 4 := Nat.mul_le_mul hxw (by omega)
        by_cases c2 : t - st.2.2 ≤ x_w g st s0 k0 * (many - depth)
        · rw [decide_eq_true (show nI (t - st.2.2) ≤ nI (x_w g st s0 k0 * (many - depth)) by rw [nI_leI (by omega) (by omega)]; exact c2), cond_true] at hb8
          have ex : x_C (sNs B) (sNw B) t g (n + 1) st = x_fr (fun s => if 0 < st.1 s then x_fr (fun k => (x_C (sNs B) (sNw B) t g n (x_st g st s k)).map (fun l => (s, k) :: l)) (sNw B) 0 else none) (sNs B) 0 := by
            show (if t ≤ st.2.2 then _ else _) = _
            rw [if_neg c]
          rw [ex]
          have rl : ∀ G : QH, (∀ a, a ≠ 111 → G a = H a) → q_rB G B ∧ c_get G 29 = c_get H 29 := fun G hG => ⟨q_rB_of hB (fun a ha => hG a (by omega)), c_get_of (fun a k1 k2 => hG a (by omega))⟩
          have inner : ∀ s, s < sNs B → 0 < st.1 s → ∀ (m k : Nat) (G : QH), k + m = sNw B → (∀ a, a ≠ 111 → G a = H a) → (∀ i, i < depth → G 111 i = H 111 i) → ∃ G', (∀ a, a ≠ 111 → G' a = H a) ∧ (∀ i, i < depth → G' 111 i = H 111 i) ∧ ((x_fr (fun k => (x_C (sNs B) (sNw B) t g n (x_st g st s k)).map (fun l => (s, k) :: l)) m k = none ∧ q_EV (q_tb sx) q_kpt (d + n + 6) 48 (114, ([(0, vr 6 110), (1, vn b), (2, vn depth), (3, vn many), (4, vr 5 29), (7, vn s), (8, vn k)], ([], G))) = q_EV (q_tb sx) q_kpt (d + n + 6) 48 (82, ([(0, vr 6 110), (1, vn b), (2, vn depth), (3, vn many), (4, vr 5 29), (7, vn (s + 1))], ([], G')))) ∨ ∃ l, x_fr (fun k => (x_C (sNs B) (sNw B) t g n (x_st g st s k)).map (fun l => (s, k) :: l)) m k = some l ∧ q_EV (q_tb sx) q_kpt (d + n + 6) 48 (114, ([(0, vr 6 110), (1, vn b), (2, vn depth), (3, vn many), (4, vr 5 29), (7, vn s), (8, vn k)], ([], G))) = rI (nI 1) G' ∧ ∀ (i : Nat) (x : Nat × Nat), l[i]? = some x → G' 111 (depth + i) = nI (10 * x.1 + x.2)) := by
            intro s q3 q4 m
            induction m with
            | zero =>
              intro k G hkm hG1 hG2
              refine ⟨G, hG1, hG2, Or.inl ⟨rfl, (b_X4_extend_114 sx (d + n + 5) (nI b) (nI depth) (nI many) (nI s) (nI k) G).trans ?_⟩⟩
              rw [(rl G hG1).1.2.1, decide_eq_true (show nI (sNw B) ≤ nI k by rw [nI_leI (by omega) (by omega)]; omega), cond_true, nI_add]
            | succ m ihm =>
              intro k G hkm hG1 hG2
              obtain ⟨rB, rG⟩ := rl G hG1
              have hkn : k < sNw B := by omega
              have h114 := b_X4_extend_114 sx (d + n + 5) (nI b) (nI depth) (nI many) (nI s) (nI k) G
              have hh1 : q_hd B (c_get (q_hs G 111 depth (nI (10 * s + k))) 29) N := by
                rw [c_get_of (fun a k1 k2 => q_hs_ne (by omega)), rG]; exact hh
              have rB1 : q_rB (q_hs G 111 depth (nI (10 * s + k))) B := q_rB_of rB (fun a ha => q_hs_ne (by omega))
              have rG1 : c_get (q_hs G 111 depth (nI (10 * s + k))) 29 = c_get H 29 := by rw [c_get_of (fun a k1 k2 => q_hs_ne (by omega)), rG]
              rw [rB.2.1, decide_eq_false (show ¬ nI (sNw B) ≤ nI k by rw [nI_leI (by omega) (by omega)]; omega), cond_false, saying_eq, q_cIs, pk_mul, nI_add, put_4 sx _ 111 depth _ G (by omega), q_cVs, q_worthOf sx _ 29 s b k N _ B rB1 hs hh1 (by omega) q3 hb hkn, rG1, x_rel_w hr hg q3 hkn, q_cIs, q_shift sx _ s b k _ _ _ (by omega) (by omega) (by omega), q_cVs, rG1, nI_add] at h114
              have hs1 := x_rel_st (g := g) hs hb hr q3 hkn q4 (by have := hk k hkn; omega)
              have hxw2 : x_w g st s k ≤ 1000 := by unfold x_w; have := (hg s k q3 hkn).2; omega
              obtain ⟨H5, r5, o5, p5, w5⟩ := ih (depth + 1) many d (N + 1) (c_put (q_hs G 111 depth (nI (10 * s + k))) 29 (z_sh (c_get H 29) s b k (nI 1) (nI (x_w g st s k)))) (x_st g st s k) (by omega) hm (q_rB_put rB1 (by omega)) (by
                rw [c_get_put]
                intro o j ho hj
                obtain ⟨y, hy, ey⟩ := hh o j ho hj
                unfold z_sh
                rw [pk_un (by omega)]
                by_cases c3 : 19 + 6 * o + j = 19 + 6 * b + k
                · rw [← c3, pk_us, ey, nI_add]
                  exact ⟨y + 1, by omega, rfl⟩
                · rw [pk_un c3, pk_un (by omega), ey]
                  exact ⟨y, by omega, rfl⟩) (by omega) (by rw [c_get_put]; exact hs1) (fun k' hk' => by
                have := hk k' hk'
                show (if k' = k then st.2.1 k' + 1 else st.2.1 k') ≤ N + 1
                split <;> omega) (by
                show st.2.2 + x_w g st s k + 1000 * n < 100000
                omega)
              rw [r5, q_cIs, q_shift sx _ s b k _ _ _ (by omega) (by omega) (by omega), q_cVs] at h114
              have g5 : c_get H5 29 = z_sh (c_get H 29) s b k (nI 1) (nI (x_w g st s k)) := by
                rw [c_get_of (fun a k1 k2 => o5 a (by omega)), c_get_put]
              rw [g5, z_sh_back (by omega) (by omega) (by omega)] at h114
              have n1 : ∀ a, a ≠ 111 → (c_put H5 29 (c_get H 29)) a = H a := fun a ha => by
                rw [c_put_at (H := c_put (q_hs G 111 depth (nI (10 * s + k))) 29 (z_sh (c_get H 29) s b k (nI 1) (nI (x_w g st s k)))) (o5 a ha), c_put_put, c_put_at (H := H) (by rw [q_hs_ne ha]; exact hG1 a ha), c_put_get]
              have n2 : ∀ i, (c_put H5 29 (c_get H 29)) 111 i = H5 111 i := fun i => by rw [c_put_out H5 _ _ (by omega)]
              have n3 : ∀ i, i < depth + 1 → H5 111 i = (q_hs G 111 depth (nI (10 * s + k))) 111 i := fun i hi => by rw [p5 i hi, c_put_out _ _ _ (by omega)]
              have n4 : ∀ i, i < depth → (c_put H5 29 (c_get H 29)) 111 i = H 111 i := fun i hi => by rw [n2, n3 i (by omega), q_hs_ix (by omega)]; exact hG2 i hi
              cases ec : x_C (sNs B) (sNw B) t g n (x_st g st s k) with
              | none =>
                rw [ec] at h114
                obtain ⟨G', m1, m2, m3⟩ := ihm (k + 1) (c_put H5 29 (c_get H 29)) (by omega) n1 n4
                have e0 : x_fr (fun k => (x_C (sNs B) (sNw B) t g n (x_st g st s k)).map (fun l => (s, k) :: l)) (m + 1) k = x_fr (fun k => (x_C (sNs B) (sNw B) t g n (x_st g st s k)).map (fun l => (s, k) :: l)) m (k + 1) := x_fr_n (by show (x_C (sNs B) (sNw B) t g n (x_st g st s k)).map _ = none; rw [ec]; rfl)
                rw [e0]
                refine ⟨G', m1, m2, ?_⟩
                have h114' : q_EV (q_tb sx) q_kpt (d + n + 6) 48 (114, ([(0, vr 6 110), (1, vn b), (2, vn depth), (3, vn many), (4, vr 5 29), (7, vn s), (8, vn k)], ([], G))) = q_EV (q_tb sx) q_kpt (d + n + 6) 48 (114, ([(0, vr 6 110), (1, vn b), (2, vn depth), (3, vn many), (4, vr 5 29), (7, vn s), (8, vn (k + 1))], ([], c_put H5 29 (c_get H 29)))) := h114.trans (by rw [nI_add]; rfl)
                rcases m3 with ⟨m4, m5⟩ | ⟨l, m4, m5, m6⟩
                · exact Or.inl ⟨m4, h114'.trans m5⟩
                · exact Or.inr ⟨l, m4, h114'.trans m5, m6⟩
              | some l =>
                rw [ec] at h114
                refine ⟨c_put H5 29 (c_get H 29), n1, n4, Or.inr ⟨(s, k) :: l, x_fr_s (by show (x_C (sNs B) (sNw B) t g n (x_st g st s k)).map _ = _; rw [ec]; rfl), h114.trans rfl, fun i x hx => ?_⟩⟩
                rw [n2]
                cases i with
                | zero =>
                  have e5 : (s, k) = x := by simpa using hx
                  rw [← e5, n3 _ (by omega)]
                  exact q_hs_at
                | succ i =>
                  have := w5 l ec i x hx
                  rw [show depth + (i + 1) = depth + 1 + i by omega]
                  exact this
          have outer : ∀ (m s : Nat) (G : QH), s + m = sNs B → (∀ a, a ≠ 111 → G a = H a) → (∀ i, i < depth → G 111 i = H 111 i) → ∃ G', (∀ a, a ≠ 111 → G' a = H a) ∧ (∀ i, i < depth → G' 111 i = H 111 i) ∧ q_EV (q_tb sx) q_kpt (d + n + 6) 48 (82, ([(0, vr 6 110), (1, vn b), (2, vn depth), (3, vn many), (4, vr 5 29), (7, vn s)], ([], G))) = rI (z01 (x_fr (fun s => if 0 < st.1 s then x_fr (fun k => (x_C (sNs B) (sNw B) t g n (x_st g st s k)).map (fun l => (s, k) :: l)) (sNw B) 0 else none) m s).isSome) G' ∧ ∀ l, x_fr (fun s => if 0 < st.1 s then x_fr (fun k => (x_C (sNs B) (sNw B) t g n (x_st g st s k)).map (fun l => (s, k) :: l)) (sNw B) 0 else none) m s = some l → ∀ (i : Nat) (x : Nat × Nat), l[i]? = some x → G' 111 (depth + i) = nI (10 * x.1 + x.2) := by
            intro m
            induction m with
            | zero =>
              intro s G hsm hG1 hG2
              refine ⟨G, hG1, hG2, (b_X4_extend_82 sx (d + n + 5) (nI b) (nI depth) (nI many) (nI s) G).trans ?_, fun l hl => by cases hl⟩
              rw [(rl G hG1).1.2.2.1, decide_eq_true (show nI (sNs B) ≤ nI s by rw [nI_leI (by omega) (by omega)]; omega)]
              rfl
            | succ m ihm =>
              intro s G hsm hG1 hG2
              obtain ⟨rB, rG⟩ := rl G hG1
              have hsn : s < sNs B := by omega
              have h82 := b_X4_extend_82 sx (d + n + 5) (nI b) (nI depth) (nI many) (nI s) G
              obtain ⟨es, hes⟩ := hr.1 s hsn
              rw [rB.2.2.1, decide_eq_false (show ¬ nI (sNs B) ≤ nI s by rw [nI_leI (by omega) (by omega)]; omega), cond_false, at_4 sx _ 33 s G (by omega), q_cIs, c_r4 G 29 s (by omega), rG, es, nI_add] at h82
              by_cases c4 : 0 < st.1 s
              · rw [decide_eq_true (show nI 0 < nI (st.1 s) by rw [nI_ltI (by omega) (by omega)]; exact c4), cond_true] at h82
                obtain ⟨G1, m1, m2, m3⟩ := inner s hsn c4 (sNw B) 0 G (by omega) hG1 hG2
                rcases m3 with ⟨m4, m5⟩ | ⟨l, m4, m5, m6⟩
                · obtain ⟨G2, p1, p2, p3, p4⟩ := ihm (s + 1) G1 (by omega) m1 m2
                  rw [x_fr_n (by show (if 0 < st.1 s then _ else _) = none; rw [if_pos c4]; exact m4)]
                  exact ⟨G2, p1, p2, h82.trans (m5.trans p3), p4⟩
                · rw [x_fr_s (by show (if 0 < st.1 s then _ else _) = some l; rw [if_pos c4]; exact m4)]
                  exact ⟨G1, m1, m2, h82.trans m5, fun l' hl' => by cases hl'; exact m6⟩
              · rw [decide_eq_false (show ¬ nI 0 < nI (st.1 s) by rw [nI_ltI (by omega) (by omega)]; exact c4), cond_false] at h82
                obtain ⟨G2, p1, p2, p3, p4⟩ := ihm (s + 1) G (by omega) hG1 hG2
                rw [x_fr_n (by show (if 0 < st.1 s then _ else _) = none; rw [if_neg c4])]
                exact ⟨G2, p1, p2, h82.trans p3, p4⟩
          obtain ⟨G', m1, m2, m3, m4⟩ := outer (sNs B) 0 H (by omega) (fun _ _ => rfl) (fun _ _ => rfl)
          exact ⟨G', hb8.trans m3, m1, m2, m4⟩
        · have ex : x_C (sNs B) (sNw B) t g (n + 1) st = none := x_C_bound (n + 1) st (x_w g st s0 k0) (fun s k1 k2 k k3 => by
            have h1 := z_best_max eb k1 k3 (pos s k1 k2)
            rw [x_rel_w hr hg k1 k3, x_rel_w hr hg q1 q2, nI_leI (by unfold x_w; have := (hg s k k1 k3).2; omega) (by omega)] at h1
            exact h1) (by
              have e7 : many - depth = n + 1 := by omega
              rw [e7, Nat.mul_comm] at c2
              omega)
          rw [ex]
          rw [decide_eq_false (show ¬ nI (t - st.2.2) ≤ nI (x_w g st s0 k0 * (many - depth)) by rw [nI_leI (by omega) (by omega)]; exact c2)] at hb8
          exact ⟨H, hb8, fun _ _ => rfl, fun _ _ => rfl, fun l hl => by cases hl⟩
