/-! the class's order from its start; the model orders -/
def o_av (B : SB) (c : Nat → Bool) (m : Nat) : Nat := z_sum (sNb B) (fun b => if m / 2 ^ b % 2 = 1 ∨ c b = false then 0 else 1)
theorem z_sum_ex {f : Nat → Nat} : ∀ n, 1 ≤ z_sum n f → ∃ b, b < n ∧ 1 ≤ f b := by
  intro n
  induction n with
  | zero => intro h; exact absurd (show 1 ≤ 0 from h) (by decide)
  | succ n ih =>
    intro h
    rw [z_sum_s] at h
    by_cases k : 1 ≤ f n
    · exact ⟨n, by omega, k⟩
    · obtain ⟨b, h1, h2⟩ := ih (by omega)
      exact ⟨b, by omega, h2⟩
theorem o_av_or {B : SB} {c : Nat → Bool} {m b : Nat} (hs : q_sB B) (hm : m < 64) (hb : b < sNb B) (h0 : m / 2 ^ b % 2 = 0) (hc : c b = true) : o_av B c (m ||| 2 ^ b) + 1 = o_av B c m := by
  obtain ⟨⟨g1, g2⟩, -⟩ := hs
  have key : ∀ i, i ≤ sNb B → (i ≤ b → z_sum i (fun b_1 => if (m ||| 2 ^ b) / 2 ^ b_1 % 2 = 1 ∨ c b_1 = false then 0 else 1) = z_sum i (fun b => if m / 2 ^ b % 2 = 1 ∨ c b = false then 0 else 1)) ∧ (b < i → z_sum i (fun b_1 => if (m ||| 2 ^ b) / 2 ^ b_1 % 2 = 1 ∨ c b_1 = false then 0 else 1) + 1 = z_sum i (fun b => if m / 2 ^ b % 2 = 1 ∨ c b = false then 0 else 1)) := by
    intro i
    induction i with
    | zero => intro _; exact ⟨fun _ => rfl, fun h => absurd h (Nat.not_lt_zero _)⟩
    | succ i ih =>
      intro hi
      obtain ⟨q1, q2⟩ := ih (by omega)
      rw [z_sum_s, z_sum_s]
      have eb := o_bit m hm b (by omega) i (by omega)
      refine ⟨fun k => ?_, fun k => ?_⟩
      · rw [if_neg (by omega)] at eb
        rw [q1 (by omega), eb]
      · by_cases e : i = b
        · subst e
          rw [if_pos rfl] at eb
          rw [q1 (Nat.le_refl _), eb, if_pos (Or.inl rfl), if_neg (fun q => q.elim (fun q => by omega) (fun q => by rw [hc] at q; cases q))]
        · rw [if_neg e] at eb
          have := q2 (by omega)
          rw [eb]
          omega
  exact (key (sNb B) (Nat.le_refl _)).2 hb
theorem z_fl_inv {σ : Type} {f : Nat → σ → σ} (P : σ → Prop) : ∀ (n i : Nat) (a : σ), (∀ j b, i ≤ j → j < i + n → P b → P (f j b)) → P a → P (z_fl f n i a) := by
  intro n
  induction n with
  | zero => intro i a _ h; exact h
  | succ n ih =>
    intro i a h h0
    exact ih (i + 1) _ (fun j b h1 h2 h3 => h j b (by omega) (by omega) h3) (h i a (Nat.le_refl _) (by omega) h0)
theorem z_fl_hit {σ : Type} {f : Nat → σ → σ} (P : σ → Prop) : ∀ (n i : Nat) (a : σ), (∀ j b, i ≤ j → j < i + n → P b → P (f j b)) → (∃ j, i ≤ j ∧ j < i + n ∧ ∀ b, P (f j b)) → P (z_fl f n i a) := by
  intro n
  induction n with
  | zero => intro i a _ ⟨j, h1, h2, _⟩; omega
  | succ n ih =>
    intro i a h ⟨j, h1, h2, h3⟩
    by_cases e : j = i
    · subst e
      exact z_fl_inv P n (j + 1) _ (fun k b q1 q2 q3 => h k b (by omega) (by omega) q3) (h3 a)
    · exact ih (i + 1) _ (fun k b q1 q2 q3 => h k b (by omega) (by omega) q3) ⟨j, by omega, by omega, h3⟩
theorem o_X_some {B : SB} {c : Nat → Bool} : ∀ (n : Nat) (w : SW) (m : Nat) (p : List Nat) (a : OA), a ≠ none → o_X B c n w m p a ≠ none := by
  intro n
  induction n with
  | zero =>
    intro w m p a h
    cases a with
    | none => exact absurd rfl h
    | some v =>
      show (if v.1 < o_cnt B c w then some (o_cnt B c w, p) else some v) ≠ none
      split <;> intro q <;> cases q
  | succ n ih =>
    intro w m p a h
    refine z_fl_inv (fun (a : OA) => a ≠ none) _ _ _ (fun b a _ _ ha => ?_) h
    show (if m / 2 ^ b % 2 = 1 ∨ c b = false then a else o_X B c n (o_ask B w b) (m ||| 2 ^ b) (p ++ [b]) a) ≠ none
    split
    · exact ha
    · exact ih _ _ _ _ ha
theorem o_X_full {B : SB} {c : Nat → Bool} (hs : q_sB B) : ∀ (n : Nat) (w : SW) (m : Nat) (p : List Nat) (a : OA), m < 64 → n ≤ o_av B c m → o_X B c n w m p a ≠ none := by
  intro n
  induction n with
  | zero =>
    intro w m p a _ _
    cases a with
    | none => intro q; cases q
    | some v => exact o_X_some 0 w m p _ (fun q => by cases q)
  | succ n ih =>
    intro w m p a hm h
    obtain ⟨b, hb, h1⟩ := z_sum_ex (sNb B) (show 1 ≤ o_av B c m by omega)
    have h1' : 1 ≤ (if m / 2 ^ b % 2 = 1 ∨ c b = false then 0 else 1) := h1
    have hno : ¬ (m / 2 ^ b % 2 = 1 ∨ c b = false) := fun q => by rw [if_pos q] at h1'; omega
    have k0 : m / 2 ^ b % 2 = 0 := by
      have := Nat.mod_lt (m / 2 ^ b) (show 2 > 0 by omega)
      by_cases k : m / 2 ^ b % 2 = 1
      · exact absurd (Or.inl k) hno
      · omega
    have kc : c b = true := by
      cases k : c b with
      | true => rfl
      | false => exact absurd (Or.inr k) hno
    have hav := o_av_or hs hm hb k0 kc
    have hb6 : b < 6 := by
      obtain ⟨⟨g1, g2⟩, -⟩ := hs
      omega
    refine z_fl_hit (fun (a : OA) => a ≠ none) _ _ _ (fun b a _ _ ha => ?_) ⟨b, Nat.zero_le _, by omega, fun a => ?_⟩
    · show (if m / 2 ^ b % 2 = 1 ∨ c b = false then a else o_X B c n (o_ask B w b) (m ||| 2 ^ b) (p ++ [b]) a) ≠ none
      split
      · exact ha
      · exact o_X_some _ _ _ _ _ ha
    · show (if m / 2 ^ b % 2 = 1 ∨ c b = false then a else o_X B c n (o_ask B w b) (m ||| 2 ^ b) (p ++ [b]) a) ≠ none
      rw [if_neg hno]
      exact ih _ _ _ _ (o_or_lt m hm b hb6) (by omega)
theorem o_X_len {B : SB} {c : Nat → Bool} (L : Nat) : ∀ (n : Nat) (w : SW) (m : Nat) (p : List Nat) (a : OA), p.length + n = L → (∀ v, a = some v → v.2.length = L) → ∀ v, o_X B c n w m p a = some v → v.2.length = L := by
  intro n
  induction n with
  | zero =>
    intro w m p a hp ha v hv
    cases a with
    | none =>
      cases hv
      exact hp
    | some u =>
      have hv' : (if u.1 < o_cnt B c w then some (o_cnt B c w, p) else some u) = some v := hv
      split at hv'
      · cases hv'; exact hp
      · cases hv'; exact ha _ rfl
  | succ n ih =>
    intro w m p a hp ha
    refine z_fl_inv (fun (a : OA) => ∀ v, a = some v → v.2.length = L) _ _ _ (fun b a _ _ ha => ?_) ha
    show ∀ v, (if m / 2 ^ b % 2 = 1 ∨ c b = false then a else o_X B c n (o_ask B w b) (m ||| 2 ^ b) (p ++ [b]) a) = some v → v.2.length = L
    split
    · exact ha
    · exact ih _ _ _ _ (by rw [List.length_append]; show p.length + 1 + n = L; omega) ha
/-- the blocks in the bed, and how many -/
def o_c (w : SW) (b : Nat) : Bool := decide (w (7 + b) = nI 0)
def o_L (B : SB) (w : SW) : Nat := z_tally B w (nI 0)
theorem o_L_av (B : SB) (w : SW) : o_L B w = o_av B (o_c w) 0 := by
  refine z_fold_congr _ _ _ _ (fun b a _ => ?_)
  have e1 : (if 0 / 2 ^ b % 2 = 1 ∨ o_c w b = false then 0 else 1) = if w (7 + b) = nI 0 then 1 else 0 := by
    rw [Nat.zero_div]
    by_cases c : w (7 + b) = nI 0
    · have k : o_c w b = true := decide_eq_true c
      rw [if_pos c, if_neg (by rw [k]; simp)]
    · have k : o_c w b = false := decide_eq_false c
      rw [if_neg c, if_pos (Or.inr k)]
  show (if w (7 + b) = nI 0 then a + 1 else a) = a + (if 0 / 2 ^ b % 2 = 1 ∨ o_c w b = false then 0 else 1)
  rw [e1]
  split <;> rfl
theorem o_L_le {B : SB} (hs : q_sB B) (w : SW) : o_L B w ≤ 6 := by
  obtain ⟨⟨g1, g2⟩, -⟩ := hs
  have := z_fold_inv (fun i (a : Nat) => a ≤ i) (sNb B) (fun b a => if w (7 + b) = nI 0 then a + 1 else a) 0 (Nat.le_refl _) (fun b a _ h => by
    show (if w (7 + b) = nI 0 then a + 1 else a) ≤ b + 1
    split <;> omega)
  have e : o_L B w = z_fold (sNb B) (fun b a => if w (7 + b) = nI 0 then a + 1 else a) 0 := rfl
  omega
theorem o_cnt_0 (B : SB) (w : SW) : o_cnt B (o_c w) w = 0 := z_fold_inv (fun _ (a : Nat) => a = 0) (sNb B) _ 0 rfl (fun b a _ h => by
  show (if o_c w b = true ∧ ¬ w (7 + b) = nI 0 then a + 1 else a) = 0
  rw [if_neg (fun q => q.2 (of_decide_eq_true q.1))]
  exact h)
theorem q_seek (sx : QX) (d N : Nat) (B : SB) (hs : q_sB B) (H : QH) (w : SW) (hB : q_rB H B) (hag : q_ag B (c_get H 22) w) (hv : q_vw B N w) (hN : N < 700000) : ∃ H', q_CL (q_tb sx) q_kpt (d + 20) (14, ([vr 2 112, vr 5 22], H)) = rV H' ∧ (∀ a, a < 112 ∨ 165 ≤ a → H' a = H a) ∧ H' 112 3 = nI (o_L B w) ∧ H' 112 4 = o_most (o_X B (o_c w) (o_L B w) w 0 [] none) ∧ o_fd (H' 164) (o_X B (o_c w) (o_L B w) w 0 [] none) := by
  have hs' := hs
  obtain ⟨⟨g1, g2⟩, ⟨g3, g4⟩, ⟨g5, g6⟩, -⟩ := hs'
  have hL := o_L_le hs w
  have hb9 := b_X1_seek_0 sx (d + 19) 22 H
  have agv : q_ag B (z_ov (c_get H 22) (c_get H 114)) w := ag_tr (ag_ov hs _ _) hag
  rw [pick_7 sx (d + 18) 113 0 H (by omega), q_cR5, show 113 + 1 + 7 * 0 = 114 by omega, show d + 19 = d + 17 + 2 by omega, q_copyFrom sx (d + 17) 114 22 H (by omega), q_cVs, q_tally sx (d + 17) 114 (nI 0) _ B (q_rB_put hB (by omega)) hs, c_get_put, q_cIs, ag_tally hs agv] at hb9
  generalize hv1 : z_ov (c_get H 22) (c_get H 114) = v1 at hb9 agv
  have e0 : ∀ a, a ≠ 112 → (q_hs (q_hs (c_put H 114 v1) 112 3 (nI (z_tally B w (nI 0)))) 112 4 (-1)) a = c_put H 114 v1 a := fun a ha => by rw [q_hs_ne ha, q_hs_ne ha]
  have cg : c_get (q_hs (q_hs (c_put H 114 v1) 112 3 (nI (z_tally B w (nI 0)))) 112 4 (-1)) 114 = v1 := by rw [c_get_of (fun a k1 k2 => e0 a (by omega)), c_get_put]
  obtain ⟨H', r, o, m4, fd⟩ := o_ext sx (o_c w) B hs (o_L B w) hL (o_L B w) 0 (d + 12 - o_L B w) N 0 [] none (q_hs (q_hs (c_put H 114 v1) 112 3 (nI (z_tally B w (nI 0)))) 112 4 (-1)) w (by omega) (by omega) rfl (fun i x hx => by simp at hx) (q_rB_of (q_rB_put hB (show 13 ≤ 114 by omega)) (fun a ha => e0 a (by omega))) (by rw [show 114 + 7 * 0 = 114 by omega, cg]; exact agv) hv (by omega) (fun o ho => by
    rw [cg, agv (7 + o) (by omega)]
    rfl) (fun o ho kc _ => of_decide_eq_true kc) (by rw [q_hs_ix (by omega), q_hs_at]; rfl) q_hs_at (fun v hv => by cases hv)
  rw [o_cnt_0, show d + 12 - o_L B w + o_L B w + 7 = d + 17 + 2 by omega] at r
  rw [r, q_cVs] at hb9
  rw [o_C_X hs] at m4 fd
  refine ⟨H', hb9, fun a ha => ?_, ?_, m4, fd⟩
  · rcases ha with h | h
    · rw [o.1 a (by omega) (by omega), e0 a (by omega), c_put_out _ _ _ (by omega)]
    · rw [o.2.1 a h, e0 a (by omega), c_put_out _ _ _ (by omega)]
  · rw [o.2.2.1, q_hs_ix (by omega), q_hs_at]
    rfl
/-! the model's bed as bits -/
def o_M (c : Nat → Bool) (n : Nat) : Nat := z_fold n (fun b m => if c b = true then m ||| 2 ^ b else m) 0
theorem o_M_lt (c : Nat → Bool) {n : Nat} (hn : n ≤ 6) : o_M c n < 64 := z_fold_inv (fun _ (m : Nat) => m < 64) n _ 0 (by omega) (fun b m hb h => by
  show (if c b = true then m ||| 2 ^ b else m) < 64
  split
  · exact o_or_lt m h b (by omega)
  · exact h)
theorem o_M_bit (c : Nat → Bool) {n : Nat} (hn : n ≤ 6) : ∀ o, o < 6 → o_M c n / 2 ^ o % 2 = if o < n ∧ c o = true then 1 else 0 := by
  have key : ∀ i, i ≤ n → ∀ o, o < 6 → o_M c i / 2 ^ o % 2 = if o < i ∧ c o = true then 1 else 0 := by
    intro i
    induction i with
    | zero =>
      intro _ o ho
      show 0 / 2 ^ o % 2 = _
      rw [Nat.zero_div, if_neg (fun q => by omega)]
    | succ i ih =>
      intro hi o ho
      have h1 := ih (by omega) o ho
      have hl := o_M_lt c (show i ≤ 6 by omega)
      show (if c i = true then o_M c i ||| 2 ^ i else o_M c i) / 2 ^ o % 2 = _
      by_cases k : c i = true
      · rw [if_pos k, o_bit _ hl i (by omega) o ho]
        by_cases e : o = i
        · subst e
          rw [if_pos rfl, if_pos ⟨by omega, k⟩]
        · rw [if_neg e, h1]
          by_cases q : o < i ∧ c o = true
          · rw [if_pos q, if_pos ⟨by omega, q.2⟩]
          · rw [if_neg q, if_neg (fun p => q ⟨by omega, p.2⟩)]
      · rw [if_neg k, h1]
        by_cases q : o < i ∧ c o = true
        · rw [if_pos q, if_pos ⟨by omega, q.2⟩]
        · rw [if_neg q, if_neg (fun p => q ⟨by
            by_cases e : o = i
            · subst e; exact absurd p.2 k
            · omega, p.2⟩)]
  exact key n (Nat.le_refl _)
theorem o_M_ones {B : SB} (hs : q_sB B) (w : SW) : z_ones (o_M (o_c w) (sNb B)) = o_L B w := by
  obtain ⟨⟨g1, g2⟩, -⟩ := hs
  have e1 : z_ones (o_M (o_c w) (sNb B)) = z_sum (sNb B + (6 - sNb B)) (fun k => o_M (o_c w) (sNb B) / 2 ^ k % 2) := by
    rw [show sNb B + (6 - sNb B) = 6 by omega]
    rfl
  rw [e1, z_sum_add, o_L_av]
  have e2 : z_sum (6 - sNb B) (fun m => o_M (o_c w) (sNb B) / 2 ^ (sNb B + m) % 2) = 0 := by
    have : z_sum (6 - sNb B) (fun m => o_M (o_c w) (sNb B) / 2 ^ (sNb B + m) % 2) = z_sum (6 - sNb B) (fun _ => 0) := z_sum_congr (fun m hm => by
      rw [o_M_bit _ g2 _ (by omega), if_neg (fun q => by omega)])
    rw [this]
    exact z_fold_inv (fun _ (a : Nat) => a = 0) (6 - sNb B) _ 0 rfl (fun b a _ h => by show a + 0 = 0; omega)
  rw [e2, Nat.add_zero]
  refine z_sum_congr (fun b hb => ?_)
  rw [o_M_bit _ g2 b (by omega), Nat.zero_div]
  by_cases k : o_c w b = true
  · rw [if_pos ⟨hb, k⟩, if_neg (fun q => q.elim (fun q => by cases q) (fun q => by rw [k] at q; cases q))]
  · rw [if_neg (fun q => k q.2), if_pos (Or.inr (by
      cases q : o_c w b with
      | true => exact absurd q k
      | false => rfl))]
theorem o_or0 : ∀ m, m < 64 → nI m ||| nI 0 = nI m := by decide +kernel
theorem m_bedOf (sx : QX) (d : Nat) (B : SB) (H : QH) (w : SW) (hs : q_sB B) (hB : q_mB H B) (ha : q_ag B (m_get H 0) w) : q_CL (q_tb sx) q_kpt (d + 3) (158, ([vr 9 165], H)) = rI (nI (o_M (o_c w) (sNb B))) H := by
  have hs' := hs
  obtain ⟨⟨g1, g2⟩, ⟨g3, g4⟩, ⟨g5, g6⟩, -⟩ := hs'
  refine (b_X7_bedOf_0 sx (d + 2) H).trans ?_
  obtain ⟨l1, l2⟩ := z_loopI (fun i (m : Nat) => m < 64) (sNb B) (fun k m => q_EV (q_tb sx) q_kpt (d + 3) 158 (4, ([(0, vr 9 165), (1, vn m), (2, vn k)], ([], H)))) (fun b m => if o_c w b = true then m ||| 2 ^ b else m) 0 (by omega) (fun b m hb h => by
    show (if o_c w b = true then m ||| 2 ^ b else m) < 64
    split
    · exact o_or_lt m h b (by omega)
    · exact h) (fun b m hb h => by
    refine (b_X7_bedOf_4 sx (d + 2) (nI m) (nI b) H).trans ?_
    rw [hB.1, decide_eq_false (show ¬ nI (sNb B) ≤ nI b by rw [nI_leI (by omega) (by omega)]; omega), cond_false, m_inBed sx _ 0 b H B hB hs (by omega) (by omega), z_inT hb, ha (7 + b) (by omega), q_cIs, o_orI m h b (by omega), o_or0 m h, nI_add]
    show cond (decide (z01 (o_c w b) = nI 0)) _ _ = _
    cases k : o_c w b with
    | true => rfl
    | false => rfl)
  refine l1.trans ((b_X7_bedOf_4 sx (d + 2) _ (nI (sNb B)) H).trans ?_)
  rw [hB.1, decide_eq_true (Int32.le_refl _)]
  rfl
