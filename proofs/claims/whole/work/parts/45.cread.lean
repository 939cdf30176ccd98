/-! the class: an item, all items -/
theorem q_it116 (sx : QX) (d : Nat) (H : QH) : q_EV (q_tb sx) q_kpt (d + 1) 52 (116, ([], ([], H))) = rI (nI 0) H := (b_X5_readItem_116 sx d H).trans ((b_X5_readItem_117 sx d (nI 0) H).trans rfl)
theorem q_it117 (sx : QX) (d : Nat) (H : QH) : q_EV (q_tb sx) q_kpt (d + 1) 52 (117, ([], ([vn 1], H))) = rI (nI 1) H := (b_X5_readItem_117 sx d (nI 1) H).trans rfl
theorem q_it178 (sx : QX) (d : Nat) (H : QH) : q_EV (q_tb sx) q_kpt (d + 1) 52 (178, ([], ([], H))) = rI (nI 0) H := (b_X5_readItem_178 sx d H).trans ((b_X5_readItem_179 sx d (nI 0) H).trans rfl)
theorem q_it179 (sx : QX) (d : Nat) (H : QH) : q_EV (q_tb sx) q_kpt (d + 1) 52 (179, ([], ([vn 1], H))) = rI (nI 1) H := (b_X5_readItem_179 sx d (nI 1) H).trans rfl
theorem q_it208 (sx : QX) (d : Nat) (H : QH) : q_EV (q_tb sx) q_kpt (d + 1) 52 (208, ([], ([], H))) = rI (nI 0) H := (b_X5_readItem_208 sx d H).trans ((b_X5_readItem_209 sx d (nI 0) H).trans rfl)
theorem q_it209 (sx : QX) (d : Nat) (H : QH) : q_EV (q_tb sx) q_kpt (d + 1) 52 (209, ([], ([vn 1], H))) = rI (nI 1) H := (b_X5_readItem_209 sx d (nI 1) H).trans rfl
theorem q_it158 (sx : QX) (d : Nat) (H : QH) : q_EV (q_tb sx) q_kpt (d + 1) 52 (158, ([], ([], H))) = rI (nI 0) H := (b_X5_readItem_158 sx d H).trans ((b_X5_readItem_159 sx d (nI 0) H).trans rfl)
theorem q_it159 (sx : QX) (d : Nat) (H : QH) : q_EV (q_tb sx) q_kpt (d + 1) 52 (159, ([], ([vn 1], H))) = rI (nI 1) H := (b_X5_readItem_159 sx d (nI 1) H).trans rfl
theorem q_it136 (sx : QX) (d : Nat) (H : QH) : q_EV (q_tb sx) q_kpt (d + 1) 52 (136, ([], ([], H))) = rI (nI 0) H := (b_X5_readItem_136 sx d H).trans ((b_X5_readItem_137 sx d (nI 0) H).trans rfl)
theorem q_it137 (sx : QX) (d : Nat) (H : QH) : q_EV (q_tb sx) q_kpt (d + 1) 52 (137, ([], ([vn 1], H))) = rI (nI 1) H := (b_X5_readItem_137 sx d (nI 1) H).trans rfl
theorem z_add98 (R : SB) (a b : Nat) : z_add R (nI 98) [a, b] = if sNb R < 6 ∧ a < 4 ∧ 1 ≤ b ∧ b ≤ 60 then some (r_b R a b) else none := by
  unfold z_add
  rw [if_pos rfl]
theorem z_add98n (R : SB) (t : List Nat) (h : t.length ≠ 2) : z_add R (nI 98) t = none := by
  unfold z_add
  rw [if_pos rfl]
  split
  · exact absurd rfl h
  · rfl
theorem z_add102 (R : SB) (a : Nat) : z_add R (nI 102) [a] = if a ≤ 9 then some (r_f R a) else none := by
  unfold z_add
  rw [if_neg (show ¬ nI 102 = nI 98 by decide), if_pos rfl]
theorem z_add102n (R : SB) (t : List Nat) (h : t.length ≠ 1) : z_add R (nI 102) t = none := by
  unfold z_add
  rw [if_neg (show ¬ nI 102 = nI 98 by decide), if_pos rfl]
  split
  · exact absurd rfl h
  · rfl
theorem z_add112 (R : SB) (a b c : Nat) : z_add R (nI 112) [a, b, c] = if a < sNs R ∧ b < sNb R ∧ c < 8 then some (r_p R a b c) else none := by
  unfold z_add
  rw [if_neg (show ¬ nI 112 = nI 98 by decide), if_neg (show ¬ nI 112 = nI 102 by decide), if_pos rfl]
theorem z_add112n (R : SB) (t : List Nat) (h : t.length ≠ 3) : z_add R (nI 112) t = none := by
  unfold z_add
  rw [if_neg (show ¬ nI 112 = nI 98 by decide), if_neg (show ¬ nI 112 = nI 102 by decide), if_pos rfl]
  split
  · exact absurd rfl h
  · rfl
theorem z_add115 (R : SB) (a b : Nat) : z_add R (nI 115) [a, b] = if sNs R < 4 ∧ a < 4 ∧ 1 ≤ b ∧ b ≤ 9 then some (r_s R a b) else none := by
  unfold z_add
  rw [if_neg (show ¬ nI 115 = nI 98 by decide), if_neg (show ¬ nI 115 = nI 102 by decide), if_neg (show ¬ nI 115 = nI 112 by decide), if_pos rfl]
theorem z_add115n (R : SB) (t : List Nat) (h : t.length ≠ 2) : z_add R (nI 115) t = none := by
  unfold z_add
  rw [if_neg (show ¬ nI 115 = nI 98 by decide), if_neg (show ¬ nI 115 = nI 102 by decide), if_neg (show ¬ nI 115 = nI 112 by decide), if_pos rfl]
  split
  · exact absurd rfl h
  · rfl
theorem z_add119 (R : SB) (a : Nat) : z_add R (nI 119) [a] = if sNw R < 6 ∧ 1 ≤ a ∧ a ≤ 20 then some (r_w R a) else none := by
  unfold z_add
  rw [if_neg (show ¬ nI 119 = nI 98 by decide), if_neg (show ¬ nI 119 = nI 102 by decide), if_neg (show ¬ nI 119 = nI 112 by decide), if_neg (show ¬ nI 119 = nI 115 by decide), if_pos rfl]
theorem z_add119n (R : SB) (t : List Nat) (h : t.length ≠ 1) : z_add R (nI 119) t = none := by
  unfold z_add
  rw [if_neg (show ¬ nI 119 = nI 98 by decide), if_neg (show ¬ nI 119 = nI 102 by decide), if_neg (show ¬ nI 119 = nI 112 by decide), if_neg (show ¬ nI 119 = nI 115 by decide), if_pos rfl]
  split
  · exact absurd rfl h
  · rfl
theorem q_readItem (sx : QX) (d L p q : Nat) (T : Nat → Int32) (H : QH) (R : SB) (hL : L ≤ 200) (h : c_tx H L T p) (hp : p < 1000) (hq : 4 ≤ q) (hR : q_rR R) (hB : c_bed H q R) : ∃ H', q_CL (q_tb sx) q_kpt (d + 5) (52, ([vr 7 1, vr 1 q], H)) = rI (z01 (z_item (z_l L T) p R).isSome) H' ∧ (∀ x, x ≠ 1 → x ≠ 3 → (x < q ∨ q + 9 ≤ x) → H' x = H x) ∧ (∀ i, i ≠ 3 → H' 1 i = H 1 i) ∧ (z_item (z_l L T) p R = none → c_bed H' q R) ∧ ∀ v, z_item (z_l L T) p R = some v → c_bed H' q v.1 ∧ H' 1 3 = nI v.2 := by
  have h' := h
  obtain ⟨h1, h2, h3⟩ := h'
  have hb := b_X5_readItem_0 sx (d + 4) q H
  rw [h3, q_letter sx _ L p T H hL h1 h2 (by omega), q_cIs, h3, nI_add] at hb
  obtain ⟨H1, r, o1, o2, -, o4⟩ := q_nums sx (d + 1) L T hL 3 0 (p + 1) (q_hs H 1 3 (nI (p + 1))) (by omega) (c_tx_hs h) (by omega)
  have r' : q_CL (q_tb sx) q_kpt (d + 4) (53, ([vr 7 1], q_hs H 1 3 (nI (p + 1)))) = rI (match z_nums (z_l L T) 3 (p + 1) with
    | none => -1
    | some v => nI (0 + v.1.length)) H1 := (b_X5_readNumbers_0 sx (d + 3) _).trans r
  rw [r', q_cIs, at_3 sx _ 3 0 H1 (by omega), q_cIs, at_3 sx _ 3 1 H1 (by omega), q_cIs] at hb
  have o1' : ∀ x, x ≠ 1 → x ≠ 3 → H1 x = H x := fun x k1 k2 => by rw [o1 x k1 k2, q_hs_ne k1]
  have o2' : ∀ i, i ≠ 3 → H1 1 i = H 1 i := fun i k => by rw [o2 i k, q_hs_ix k]
  have hB1 : c_bed H1 q R := c_bed_of hB (fun a k1 k2 => o1' a (by omega) (by omega))
  have fail : z_item (z_l L T) p R = none → q_CL (q_tb sx) q_kpt (d + 5) (52, ([vr 7 1, vr 1 q], H)) = rI (nI 0) H1 → ∃ H', q_CL (q_tb sx) q_kpt (d + 5) (52, ([vr 7 1, vr 1 q], H)) = rI (z01 (z_item (z_l L T) p R).isSome) H' ∧ (∀ x, x ≠ 1 → x ≠ 3 → (x < q ∨ q + 9 ≤ x) → H' x = H x) ∧ (∀ i, i ≠ 3 → H' 1 i = H 1 i) ∧ (z_item (z_l L T) p R = none → c_bed H' q R) ∧ ∀ v, z_item (z_l L T) p R = some v → c_bed H' q v.1 ∧ H' 1 3 = nI v.2 := fun e1 e2 => by
    rw [e1]
    exact ⟨H1, e2, fun x k1 k2 _ => o1' x k1 k2, o2', fun _ => hB1, fun v hv => (by cases hv)⟩
  cases e : z_nums (z_l L T) 3 (p + 1) with
  | none =>
    rw [e] at hb
    have hz : z_item (z_l L T) p R = none := by
      unfold z_item
      rw [e]
      rfl
    refine fail hz (hb.trans ?_)
    have m2 : decide ((-1 : Int32) ≠ nI 2) = true := by decide
    have m1 : decide ((-1 : Int32) ≠ nI 1) = true := by decide
    have m3 : decide ((-1 : Int32) ≠ nI 3) = true := by decide
    simp only [m1, m2, m3, cond_true, q_it116, q_it178, q_it208, q_it158, q_it136]
    simp only [Bool.cond_self]
  | some v =>
    obtain ⟨t, u⟩ := v
    obtain ⟨l1, l2, l3, l4⟩ := z_nums_len 3 (p + 1) _ e
    obtain ⟨k1, k2⟩ := o4 _ e
    have hz : z_item (z_l L T) p R = (z_add R (z_l L T p) t).bind (fun R' => some (R', u)) := by
      unfold z_item
      rw [e]
      rfl
    rw [e] at hb
    have hb' : q_CL (q_tb sx) q_kpt (d + 5) (52, ([vr 7 1, vr 1 q], H)) = _ := hb
    simp only [Nat.zero_add] at hb' k2
    have l1' : t.length ≤ 3 := l1
    by_cases n98 : z_l L T p = nI 98
    · rw [decide_eq_true n98, cond_true] at hb'
      rw [n98] at hz
      by_cases ln : t.length = 2
      · rw [decide_eq_false (show ¬ nI t.length ≠ nI 2 from fun k => k (congrArg nI ln)), cond_false] at hb'
        obtain ⟨a, b, rfl⟩ : ∃ a b, t = [a, b] := by
          match t, ln with
          | [a, b], _ => exact ⟨a, b, rfl⟩
        have v0 : H1 3 0 = nI a := k2 0 a rfl
        have b0 : a < 100 := l4 0 a rfl
        have v1 : H1 3 1 = nI b := k2 1 b rfl
        have b1 : b < 100 := l4 1 b rfl
        obtain ⟨H2, r2, o5, cb⟩ := q_addBlock sx (d + 2) q a b H1 R hR hB1 b0 b1
        rw [v0, v1, r2, q_cIs] at hb'
        have u2 : H2 1 3 = nI u := by rw [o5 1 (by omega)]; exact k1
        have hz3 : z_item (z_l L T) p R = (if sNb R < 6 ∧ a < 4 ∧ 1 ≤ b ∧ b ≤ 60 then some (r_b R a b) else none : Option SB).bind (fun R' => some (R', u)) := hz.trans (by rw [z_add98])
        rw [hz3]
        by_cases cc : sNb R < 6 ∧ a < 4 ∧ 1 ≤ b ∧ b ≤ 60
        · rw [if_pos cc] at cb ⊢
          rw [decide_eq_true cc] at hb'
          refine ⟨H2, hb'.trans (q_it117 sx (d + 4) H2), fun x q1 q2 q3 => (o5 x q3).trans (o1' x q1 q2), fun i q1 => by rw [o5 1 (by omega)]; exact o2' i q1, fun k => (by cases k), fun v hv => ?_⟩
          cases hv
          exact ⟨cb, u2⟩
        · rw [if_neg cc] at cb ⊢
          rw [decide_eq_false cc] at hb'
          exact ⟨H2, hb'.trans (q_it116 sx (d + 4) H2), fun x q1 q2 q3 => (o5 x q3).trans (o1' x q1 q2), fun i q1 => by rw [o5 1 (by omega)]; exact o2' i q1, fun _ => cb, fun v hv => (by cases hv)⟩
      · rw [decide_eq_true (show nI t.length ≠ nI 2 from fun k => ln ((nI_eq (by omega) (by omega)).mp k)), cond_true] at hb'
        refine fail ?_ (hb'.trans (q_it116 sx (d + 4) H1))
        rw [hz, z_add98n R t ln]
        rfl
    by_cases n102 : z_l L T p = nI 102
    · rw [decide_eq_false n98, cond_false, decide_eq_true n102, cond_true] at hb'
      rw [n102] at hz
      by_cases ln : t.length = 1
      · rw [decide_eq_false (show ¬ nI t.length ≠ nI 1 from fun k => k (congrArg nI ln)), cond_false] at hb'
        obtain ⟨a, rfl⟩ := List.length_eq_one_iff.mp ln
        have v0 : H1 3 0 = nI a := k2 0 a rfl
        have b0 : a < 100 := l4 0 a rfl
        obtain ⟨H2, r2, o5, cb⟩ := q_setFrost sx (d + 2) q a H1 R hB1 b0
        rw [v0, r2, q_cIs] at hb'
        have u2 : H2 1 3 = nI u := by rw [o5 1 (by omega)]; exact k1
        have hz3 : z_item (z_l L T) p R = (if a ≤ 9 then some (r_f R a) else none : Option SB).bind (fun R' => some (R', u)) := hz.trans (by rw [z_add102])
        rw [hz3]
        by_cases cc : a ≤ 9
        · rw [if_pos cc] at cb ⊢
          rw [decide_eq_true cc] at hb'
          refine ⟨H2, hb'.trans (q_it179 sx (d + 4) H2), fun x q1 q2 q3 => (o5 x q3).trans (o1' x q1 q2), fun i q1 => by rw [o5 1 (by omega)]; exact o2' i q1, fun k => (by cases k), fun v hv => ?_⟩
          cases hv
          exact ⟨cb, u2⟩
        · rw [if_neg cc] at cb ⊢
          rw [decide_eq_false cc] at hb'
          exact ⟨H2, hb'.trans (q_it178 sx (d + 4) H2), fun x q1 q2 q3 => (o5 x q3).trans (o1' x q1 q2), fun i q1 => by rw [o5 1 (by omega)]; exact o2' i q1, fun _ => cb, fun v hv => (by cases hv)⟩
      · rw [decide_eq_true (show nI t.length ≠ nI 1 from fun k => ln ((nI_eq (by omega) (by omega)).mp k)), cond_true] at hb'
        refine fail ?_ (hb'.trans (q_it178 sx (d + 4) H1))
        rw [hz, z_add102n R t ln]
        rfl
    by_cases n112 : z_l L T p = nI 112
    · rw [decide_eq_false n98, cond_false, decide_eq_false n102, cond_false, decide_eq_true n112, cond_true] at hb'
      rw [n112] at hz
      by_cases ln : t.length = 3
      · rw [decide_eq_false (show ¬ nI t.length ≠ nI 3 from fun k => k (congrArg nI ln)), cond_false] at hb'
        obtain ⟨a, b, c, rfl⟩ : ∃ a b c, t = [a, b, c] := by
          match t, ln with
          | [a, b, c], _ => exact ⟨a, b, c, rfl⟩
        have v0 : H1 3 0 = nI a := k2 0 a rfl
        have b0 : a < 100 := l4 0 a rfl
        have v1 : H1 3 1 = nI b := k2 1 b rfl
        have b1 : b < 100 := l4 1 b rfl
        have v2 : H1 3 2 = nI c := k2 2 c rfl
        have b2 : c < 100 := l4 2 c rfl
        rw [at_3 sx _ 3 2 H1 (by omega), q_cIs] at hb'
        obtain ⟨H2, r2, o5, cb⟩ := q_addVow sx (d + 2) q a b c H1 R hR hB1 b0 b1 b2
        rw [v0, v1, v2, r2, q_cIs] at hb'
        have u2 : H2 1 3 = nI u := by rw [o5 1 (by omega)]; exact k1
        have hz3 : z_item (z_l L T) p R = (if a < sNs R ∧ b < sNb R ∧ c < 8 then some (r_p R a b c) else none : Option SB).bind (fun R' => some (R', u)) := hz.trans (by rw [z_add112])
        rw [hz3]
        by_cases cc : a < sNs R ∧ b < sNb R ∧ c < 8
        · rw [if_pos cc] at cb ⊢
          rw [decide_eq_true cc] at hb'
          refine ⟨H2, hb'.trans (q_it209 sx (d + 4) H2), fun x q1 q2 q3 => (o5 x q3).trans (o1' x q1 q2), fun i q1 => by rw [o5 1 (by omega)]; exact o2' i q1, fun k => (by cases k), fun v hv => ?_⟩
          cases hv
          exact ⟨cb, u2⟩
        · rw [if_neg cc] at cb ⊢
          rw [decide_eq_false cc] at hb'
          exact ⟨H2, hb'.trans (q_it208 sx (d + 4) H2), fun x q1 q2 q3 => (o5 x q3).trans (o1' x q1 q2), fun i q1 => by rw [o5 1 (by omega)]; exact o2' i q1, fun _ => cb, fun v hv => (by cases hv)⟩
      · rw [decide_eq_true (show nI t.length ≠ nI 3 from fun k => ln ((nI_eq (by omega) (by omega)).mp k)), cond_true] at hb'
        refine fail ?_ (hb'.trans (q_it208 sx (d + 4) H1))
        rw [hz, z_add112n R t ln]
        rfl
    by_cases n115 : z_l L T p = nI 115
    · rw [decide_eq_false n98, cond_false, decide_eq_false n102, cond_false, decide_eq_false n112, cond_false, decide_eq_true n115, cond_true] at hb'
      rw [n115] at hz
      by_cases ln : t.length = 2
      · rw [decide_eq_false (show ¬ nI t.length ≠ nI 2 from fun k => k (congrArg nI ln)), cond_false] at hb'
        obtain ⟨a, b, rfl⟩ : ∃ a b, t = [a, b] := by
          match t, ln with
          | [a, b], _ => exact ⟨a, b, rfl⟩
        have v0 : H1 3 0 = nI a := k2 0 a rfl
        have b0 : a < 100 := l4 0 a rfl
        have v1 : H1 3 1 = nI b := k2 1 b rfl
        have b1 : b < 100 := l4 1 b rfl
        obtain ⟨H2, r2, o5, cb⟩ := q_addSpeaker sx (d + 2) q a b H1 R hR hB1 b0 b1
        rw [v0, v1, r2, q_cIs] at hb'
        have u2 : H2 1 3 = nI u := by rw [o5 1 (by omega)]; exact k1
        have hz3 : z_item (z_l L T) p R = (if sNs R < 4 ∧ a < 4 ∧ 1 ≤ b ∧ b ≤ 9 then some (r_s R a b) else none : Option SB).bind (fun R' => some (R', u)) := hz.trans (by rw [z_add115])
        rw [hz3]
        by_cases cc : sNs R < 4 ∧ a < 4 ∧ 1 ≤ b ∧ b ≤ 9
        · rw [if_pos cc] at cb ⊢
          rw [decide_eq_true cc] at hb'
          refine ⟨H2, hb'.trans (q_it159 sx (d + 4) H2), fun x q1 q2 q3 => (o5 x q3).trans (o1' x q1 q2), fun i q1 => by rw [o5 1 (by omega)]; exact o2' i q1, fun k => (by cases k), fun v hv => ?_⟩
          cases hv
          exact ⟨cb, u2⟩
        · rw [if_neg cc] at cb ⊢
          rw [decide_eq_false cc] at hb'
          exact ⟨H2, hb'.trans (q_it158 sx (d + 4) H2), fun x q1 q2 q3 => (o5 x q3).trans (o1' x q1 q2), fun i q1 => by rw [o5 1 (by omega)]; exact o2' i q1, fun _ => cb, fun v hv => (by cases hv)⟩
      · rw [decide_eq_true (show nI t.length ≠ nI 2 from fun k => ln ((nI_eq (by omega) (by omega)).mp k)), cond_true] at hb'
        refine fail ?_ (hb'.trans (q_it158 sx (d + 4) H1))
        rw [hz, z_add115n R t ln]
        rfl
    by_cases n119 : z_l L T p = nI 119
    · rw [decide_eq_false n98, cond_false, decide_eq_false n102, cond_false, decide_eq_false n112, cond_false, decide_eq_false n115, cond_false, decide_eq_true n119, cond_true] at hb'
      rw [n119] at hz
      by_cases ln : t.length = 1
      · rw [decide_eq_false (show ¬ nI t.length ≠ nI 1 from fun k => k (congrArg nI ln)), cond_false] at hb'
        obtain ⟨a, rfl⟩ := List.length_eq_one_iff.mp ln
        have v0 : H1 3 0 = nI a := k2 0 a rfl
        have b0 : a < 100 := l4 0 a rfl
        obtain ⟨H2, r2, o5, cb⟩ := q_addWord sx (d + 2) q a H1 R hR hB1 b0
        rw [v0, r2, q_cIs] at hb'
        have u2 : H2 1 3 = nI u := by rw [o5 1 (by omega)]; exact k1
        have hz3 : z_item (z_l L T) p R = (if sNw R < 6 ∧ 1 ≤ a ∧ a ≤ 20 then some (r_w R a) else none : Option SB).bind (fun R' => some (R', u)) := hz.trans (by rw [z_add119])
        rw [hz3]
        by_cases cc : sNw R < 6 ∧ 1 ≤ a ∧ a ≤ 20
        · rw [if_pos cc] at cb ⊢
          rw [decide_eq_true cc] at hb'
          refine ⟨H2, hb'.trans (q_it137 sx (d + 4) H2), fun x q1 q2 q3 => (o5 x q3).trans (o1' x q1 q2), fun i q1 => by rw [o5 1 (by omega)]; exact o2' i q1, fun k => (by cases k), fun v hv => ?_⟩
          cases hv
          exact ⟨cb, u2⟩
        · rw [if_neg cc] at cb ⊢
          rw [decide_eq_false cc] at hb'
          exact ⟨H2, hb'.trans (q_it136 sx (d + 4) H2), fun x q1 q2 q3 => (o5 x q3).trans (o1' x q1 q2), fun i q1 => by rw [o5 1 (by omega)]; exact o2' i q1, fun _ => cb, fun v hv => (by cases hv)⟩
      · rw [decide_eq_true (show nI t.length ≠ nI 1 from fun k => ln ((nI_eq (by omega) (by omega)).mp k)), cond_true] at hb'
        refine fail ?_ (hb'.trans (q_it136 sx (d + 4) H1))
        rw [hz, z_add119n R t ln]
        rfl
    rw [decide_eq_false n98, cond_false, decide_eq_false n102, cond_false, decide_eq_false n112, cond_false, decide_eq_false n115, cond_false, decide_eq_false n119, cond_false] at hb'
    refine fail ?_ hb'
    rw [hz]
    unfold z_add
    rw [if_neg n98, if_neg n102, if_neg n112, if_neg n115, if_neg n119]
    rfl
theorem q_clear (sx : QX) (d q : Nat) (H : QH) : ∃ H', q_CL (q_tb sx) q_kpt (d + 2) (0, ([vr 1 q], H)) = rV H' ∧ (∀ x, x < q ∨ q + 9 ≤ x → H' x = H x) ∧ c_bed H' q r_0 := by
  have hb := b_X0_clear_0 sx (d + 1) q H
  rw [fill_24 sx d (q + 6)] at hb
  have rd : ∀ G a j, z_fill (q + 6) 24 (-4) G a j = if a = q + 6 ∧ j < 24 then -4 else G a j := fun G a j => rfl
  have ne : ∀ G a, a ≠ q + 6 → z_fill (q + 6) 24 (-4) G a = G a := fun G a ha => by
    funext j
    rw [rd, if_neg (fun k => ha k.1)]
  refine ⟨_, hb, fun x hx => ?_, ?_, ?_, ?_, ?_, fun o ho => absurd ho (Nat.not_lt_zero _), fun o ho => absurd ho (Nat.not_lt_zero _), fun o ho => absurd ho (Nat.not_lt_zero _), fun o ho => absurd ho (Nat.not_lt_zero _), fun o ho => absurd ho (Nat.not_lt_zero _), fun o ho => ?_⟩
  · rw [ne _ x (by omega), q_hs_ne (by omega), q_hs_ne (by omega), q_hs_ne (by omega), q_hs_ne (by omega)]
  · rw [ne _ q (by omega), q_hs_ix (by omega), q_hs_ix (by omega), q_hs_ix (by omega), q_hs_at]; rfl
  · rw [ne _ q (by omega), q_hs_ix (by omega), q_hs_ix (by omega), q_hs_at]; rfl
  · rw [ne _ q (by omega), q_hs_ix (by omega), q_hs_at]; rfl
  · rw [ne _ q (by omega), q_hs_at]; rfl
  · rw [rd, if_pos ⟨rfl, ho⟩]; rfl
def z_flt : Option Nat → Int32
  | none => -4
  | some p => nI p
theorem q_readL (sx : QX) (d L q : Nat) (T : Nat → Int32) (hL : L ≤ 200) (hq : 4 ≤ q) : ∀ (n i p : Nat) (R : SB) (H : QH), i + n = 200 → c_tx H L T p → p < 1000 → q_rR R → c_bed H q R → ∃ H', q_EV (q_tb sx) q_kpt (d + 6) 51 (11, ([(0, vr 7 1), (1, vr 1 q), (2, vn i)], ([], H))) = rI (z_flt (z_rd L (z_l L T) n p R).1) H' ∧ (∀ x, x ≠ 1 → x ≠ 3 → (x < q ∨ q + 9 ≤ x) → H' x = H x) ∧ (∀ i, i ≠ 3 → H' 1 i = H 1 i) ∧ c_bed H' q (z_rd L (z_l L T) n p R).2 := by
  intro n
  induction n with
  | zero =>
    intro i p R H hi h hp hR hB
    refine ⟨H, (b_X5_readInto_11 sx (d + 5) q (nI i) H).trans ?_, fun _ _ _ _ => rfl, fun _ _ => rfl, hB⟩
    simp (disch := omega) only [Bool.cond_decide, nI_add, pk_mul, q_inbN, q_cl_nI, q_ltN, q_leN, q_eqN, q_ifT, q_ifF, q_cIs, q_cVs, decide_false, decide_true, Bool.not_false, Bool.not_true, cond_true, cond_false, ne_eq, not_false_eq_true, not_true_eq_false, if_true, if_false]
    rfl
  | succ n ih =>
    intro i p R H hi h hp hR hB
    have h' := h
    obtain ⟨h1, h2, h3⟩ := h'
    have hb := b_X5_readInto_11 sx (d + 5) q (nI i) H
    rw [decide_eq_false (show ¬ nI 200 ≤ nI i by rw [nI_leI (by omega) (by omega)]; omega), cond_false, h1, h3] at hb
    unfold z_rd
    by_cases c : p < L
    · rw [if_pos c]
      rw [decide_eq_false (show ¬ nI L ≤ nI p by rw [nI_leI (by omega) (by omega)]; omega), cond_false] at hb
      obtain ⟨H1, r, o1, o2, o3, o4⟩ := q_readItem sx d L p q T H R hL h hp hq hR hB
      rw [r, q_cIs] at hb
      cases e : z_item (z_l L T) p R with
      | none =>
        rw [e] at hb
        exact ⟨H1, hb, o1, o2, o3 e⟩
      | some v =>
        rw [e] at hb
        obtain ⟨k1, k2⟩ := o4 v e
        have hin := z_itm_in (q := v.2) (R' := v.1) hR ((z_item_eq _ p R hR).trans e)
        have hlen : v.2 ≤ p + 10 := by
          unfold z_item at e
          obtain ⟨w, e1, e⟩ := ob_some e
          obtain ⟨R', e2, e⟩ := ob_some e
          have := (z_nums_len 3 (p + 1) w e1).2.1
          cases e
          show w.2 ≤ p + 10
          omega
        obtain ⟨H2, r2, q1, q2, q3⟩ := ih (i + 1) v.2 v.1 H1 (by omega) ⟨(o2 2 (by omega)).trans h1, fun j hj => by rw [o1 2 (by omega) (by omega) (by omega)]; exact h2 j hj, k2⟩ (by omega) hin.1 k1
        refine ⟨H2, (hb.trans ?_).trans r2, fun x k1 k2 k3 => (q1 x k1 k2 k3).trans (o1 x k1 k2 k3), fun j hj => (q2 j hj).trans (o2 j hj), q3⟩
        rw [nI_add]
        rfl
    · rw [if_neg c]
      rw [decide_eq_true (show nI L ≤ nI p by rw [nI_leI (by omega) (by omega)]; omega), cond_true] at hb
      exact ⟨H, hb, fun _ _ _ _ => rfl, fun _ _ => rfl, hB⟩
theorem q_readInto (sx : QX) (d L q : Nat) (T : Nat → Int32) (H : QH) (hL : L ≤ 200) (hq : 4 ≤ q) (h1 : H 1 2 = nI L) (h2 : ∀ j, j < L → H 2 j = T j) : ∃ H', q_CL (q_tb sx) q_kpt (d + 6) (51, ([vr 7 1, vr 1 q], H)) = rI (z_flt (z_read L T).1) H' ∧ (∀ x, x ≠ 1 → x ≠ 3 → (x < q ∨ q + 9 ≤ x) → H' x = H x) ∧ (∀ i, i ≠ 3 → H' 1 i = H 1 i) ∧ c_bed H' q (z_read L T).2 := by
  have hb := b_X5_readInto_0 sx (d + 5) q H
  obtain ⟨H1, r, o1, cb⟩ := q_clear sx (d + 3) q H
  rw [r, q_cVs] at hb
  obtain ⟨H2, r2, p1, p2, p3⟩ := q_readL sx d L q T hL hq 200 0 0 r_0 (q_hs H1 1 3 (nI 0)) (by omega) ⟨by rw [q_hs_ix (by omega), o1 1 (by omega)]; exact h1, fun j hj => by rw [q_hs_ne (by omega), o1 2 (by omega)]; exact h2 j hj, q_hs_at⟩ (by omega) rR_0 (c_bed_of cb (fun a k1 k2 => q_hs_ne (by omega)))
  exact ⟨H2, hb.trans r2, fun x k1 k2 k3 => by rw [p1 x k1 k2 k3, q_hs_ne k1, o1 x k3], fun i hi => by rw [p2 i hi, q_hs_ix hi, o1 1 (by omega)], p3⟩
