/-! THE TEXT: what it says, told once; l is the letter at a place (0 behind the end) -/
def z_d (x : Int32) : Option Nat := if nI 48 ≤ x ∧ x ≤ nI 57 then some (x.toNatClampNeg - 48) else none
theorem z_d_cases (x : Int32) : (z_d x = none ∧ ¬ (nI 48 ≤ x ∧ x ≤ nI 57) ∧ ¬ (¬ x - nI 48 < nI 0 ∧ x - nI 48 ≤ nI 9)) ∨ ∃ k, k < 10 ∧ x = nI (48 + k) ∧ z_d x = some k := by
  by_cases h : nI 48 ≤ x ∧ x ≤ nI 57
  · have h0 : ¬ x < 0 := fun q => Int32.lt_irrefl (Int32.lt_trans (Int32.lt_of_le_of_lt h.1 q) (show (0 : Int32) < nI 48 by decide))
    obtain ⟨k, hk, rfl⟩ := nI_of h0
    have h' := h
    rw [nI_leI (by omega) hk, nI_leI hk (by omega)] at h'
    refine Or.inr ⟨k - 48, by omega, by rw [show 48 + (k - 48) = k by omega], ?_⟩
    unfold z_d
    rw [if_pos h, q_cl_nI (by omega)]
  · refine Or.inl ⟨if_neg h, h, fun q => ?_⟩
    obtain ⟨j, hj, e⟩ := nI_of q.1
    have q2 := q.2
    rw [e, nI_leI hj (by omega)] at q2
    have ex : x = nI (j + 48) := by
      rw [← nI_add, ← e, Int32.sub_add_cancel]
    rw [ex, nI_leI (by omega) (by omega), nI_leI (by omega) (by omega)] at h
    omega
def z_num (l : Nat → Int32) (p : Nat) : Option (Nat × Nat) := match z_d (l p) with
  | none => none
  | some f => match z_d (l (p + 1)) with
    | none => some (f, p + 1)
    | some g => some (10 * f + g, p + 2)
theorem z_num_in {l : Nat → Int32} {p v q : Nat} (h : z_num l p = some (v, q)) : v < 100 ∧ p < q ∧ q ≤ p + 2 := by
  unfold z_num at h
  rcases z_d_cases (l p) with ⟨e, -⟩ | ⟨f, hf, -, e⟩
  · rw [e] at h; cases h
  · rw [e] at h
    rcases z_d_cases (l (p + 1)) with ⟨e2, -⟩ | ⟨g, hg, -, e2⟩
    · rw [e2] at h
      cases h
      omega
    · rw [e2] at h
      cases h
      omega
def z_nums (l : Nat → Int32) : Nat → Nat → Option (List Nat × Nat)
  | 0, _ => none
  | n + 1, p => match z_num l p with
    | none => none
    | some (a, q) => if l q = nI 59 then some ([a], q + 1) else if l q = nI 44 then (match z_nums l n (q + 1) with
      | none => none
      | some (t, r) => some (a :: t, r)) else none
def r_0 : SB := ((0, (0, 0)), fun i _ => if i = 5 then nI 1 else if i = 6 then -4 else nI 0)
def r_b (R : SB) (a b : Nat) : SB := ((sNb R + 1, (sNw R, sNs R)), fun i j => if i = 0 ∧ j = sNb R then nI a else if i = 1 ∧ j = sNb R then nI b else R.2 i j)
def r_w (R : SB) (a : Nat) : SB := ((sNb R, (sNw R + 1, sNs R)), fun i j => if i = 2 ∧ j = sNw R then nI a else R.2 i j)
def r_s (R : SB) (a b : Nat) : SB := ((sNb R, (sNw R, sNs R + 1)), fun i j => if i = 3 ∧ j = sNs R then nI a else if i = 4 ∧ j = sNs R then nI b else R.2 i j)
def r_f (R : SB) (a : Nat) : SB := ((sNb R, (sNw R, sNs R)), fun i j => if i = 5 ∧ j = 0 then nI a else R.2 i j)
def r_p (R : SB) (s b u : Nat) : SB := ((sNb R, (sNw R, sNs R)), fun i j => if i = 6 ∧ j = 6 * s + b then nI u else R.2 i j)
def q_rR (R : SB) : Prop := sNb R ≤ 6 ∧ sNw R ≤ 6 ∧ sNs R ≤ 4 ∧ (∀ b, b < sNb R → (∃ n, n < 4 ∧ sK R b = nI n) ∧ ∃ n, 1 ≤ n ∧ n ≤ 60 ∧ sN R b = nI n) ∧ (∀ k, k < sNw R → ∃ n, 1 ≤ n ∧ n ≤ 20 ∧ sT R k = nI n) ∧ (∀ s, s < sNs R → (∃ n, n < 4 ∧ sS R s = nI n) ∧ ∃ n, 1 ≤ n ∧ n ≤ 9 ∧ sD R s = nI n) ∧ ∃ n, n ≤ 9 ∧ sC R = nI n
theorem rR_sB {R : SB} (h : q_rR R) (h1 : 1 ≤ sNb R) (h2 : 1 ≤ sNw R) (h3 : 1 ≤ sNs R) : q_sB R := by
  obtain ⟨a, b, c, d, e, f, g⟩ := h
  exact ⟨⟨h1, a⟩, ⟨h2, b⟩, ⟨h3, c⟩, d, e, f, g⟩
theorem rR_0 : q_rR r_0 := ⟨Nat.zero_le _, Nat.zero_le _, Nat.zero_le _, fun b h => absurd h (Nat.not_lt_zero _), fun b h => absurd h (Nat.not_lt_zero _), fun b h => absurd h (Nat.not_lt_zero _), ⟨1, by omega, rfl⟩⟩
theorem rR_b {R : SB} {a b : Nat} (h : q_rR R) (h0 : sNb R < 6) (ha : a < 4) (hb : 1 ≤ b ∧ b ≤ 60) : q_rR (r_b R a b) := by
  obtain ⟨k1, k2, k3, k4, k5, k6, k7⟩ := h
  refine ⟨show sNb R + 1 ≤ 6 by omega, k2, k3, fun o ho => ?_, fun k hk => ?_, fun s hs => ?_, ?_⟩
  · have ho' : o < sNb R + 1 := ho
    show (∃ n, n < 4 ∧ (if 0 = 0 ∧ o = sNb R then nI a else if 0 = 1 ∧ o = sNb R then nI b else R.2 0 o) = nI n) ∧ ∃ n, 1 ≤ n ∧ n ≤ 60 ∧ (if 1 = 0 ∧ o = sNb R then nI a else if 1 = 1 ∧ o = sNb R then nI b else R.2 1 o) = nI n
    by_cases c : o = sNb R
    · rw [if_pos ⟨rfl, c⟩, if_neg (by omega), if_pos ⟨rfl, c⟩]
      exact ⟨⟨a, ha, rfl⟩, b, hb.1, hb.2, rfl⟩
    · rw [if_neg (fun q => c q.2), if_neg (fun q => c q.2), if_neg (fun q => c q.2), if_neg (fun q => c q.2)]
      exact k4 o (by omega)
  · show ∃ n, 1 ≤ n ∧ n ≤ 20 ∧ (if 2 = 0 ∧ k = sNb R then nI a else if 2 = 1 ∧ k = sNb R then nI b else R.2 2 k) = nI n
    rw [if_neg (by omega), if_neg (by omega)]
    exact k5 k hk
  · show (∃ n, n < 4 ∧ (if 3 = 0 ∧ s = sNb R then nI a else if 3 = 1 ∧ s = sNb R then nI b else R.2 3 s) = nI n) ∧ ∃ n, 1 ≤ n ∧ n ≤ 9 ∧ (if 4 = 0 ∧ s = sNb R then nI a else if 4 = 1 ∧ s = sNb R then nI b else R.2 4 s) = nI n
    rw [if_neg (by omega), if_neg (by omega), if_neg (by omega), if_neg (by omega)]
    exact k6 s hs
  · show ∃ n, n ≤ 9 ∧ (if 5 = 0 ∧ 0 = sNb R then nI a else if 5 = 1 ∧ 0 = sNb R then nI b else R.2 5 0) = nI n
    rw [if_neg (by omega), if_neg (by omega)]
    exact k7
theorem rR_w {R : SB} {a : Nat} (h : q_rR R) (h0 : sNw R < 6) (ha : 1 ≤ a ∧ a ≤ 20) : q_rR (r_w R a) := by
  obtain ⟨k1, k2, k3, k4, k5, k6, k7⟩ := h
  refine ⟨k1, show sNw R + 1 ≤ 6 by omega, k3, fun o ho => ?_, fun k hk => ?_, fun s hs => ?_, ?_⟩
  · show (∃ n, n < 4 ∧ (if 0 = 2 ∧ o = sNw R then nI a else R.2 0 o) = nI n) ∧ ∃ n, 1 ≤ n ∧ n ≤ 60 ∧ (if 1 = 2 ∧ o = sNw R then nI a else R.2 1 o) = nI n
    rw [if_neg (by omega), if_neg (by omega)]
    exact k4 o ho
  · have hk' : k < sNw R + 1 := hk
    show ∃ n, 1 ≤ n ∧ n ≤ 20 ∧ (if 2 = 2 ∧ k = sNw R then nI a else R.2 2 k) = nI n
    by_cases c : k = sNw R
    · rw [if_pos ⟨rfl, c⟩]
      exact ⟨a, ha.1, ha.2, rfl⟩
    · rw [if_neg (fun q => c q.2)]
      exact k5 k (by omega)
  · show (∃ n, n < 4 ∧ (if 3 = 2 ∧ s = sNw R then nI a else R.2 3 s) = nI n) ∧ ∃ n, 1 ≤ n ∧ n ≤ 9 ∧ (if 4 = 2 ∧ s = sNw R then nI a else R.2 4 s) = nI n
    rw [if_neg (by omega), if_neg (by omega)]
    exact k6 s hs
  · show ∃ n, n ≤ 9 ∧ (if 5 = 2 ∧ 0 = sNw R then nI a else R.2 5 0) = nI n
    rw [if_neg (by omega)]
    exact k7
theorem rR_s {R : SB} {a b : Nat} (h : q_rR R) (h0 : sNs R < 4) (ha : a < 4) (hb : 1 ≤ b ∧ b ≤ 9) : q_rR (r_s R a b) := by
  obtain ⟨k1, k2, k3, k4, k5, k6, k7⟩ := h
  refine ⟨k1, k2, show sNs R + 1 ≤ 4 by omega, fun o ho => ?_, fun k hk => ?_, fun s hs => ?_, ?_⟩
  · show (∃ n, n < 4 ∧ (if 0 = 3 ∧ o = sNs R then nI a else if 0 = 4 ∧ o = sNs R then nI b else R.2 0 o) = nI n) ∧ ∃ n, 1 ≤ n ∧ n ≤ 60 ∧ (if 1 = 3 ∧ o = sNs R then nI a else if 1 = 4 ∧ o = sNs R then nI b else R.2 1 o) = nI n
    rw [if_neg (by omega), if_neg (by omega), if_neg (by omega), if_neg (by omega)]
    exact k4 o ho
  · show ∃ n, 1 ≤ n ∧ n ≤ 20 ∧ (if 2 = 3 ∧ k = sNs R then nI a else if 2 = 4 ∧ k = sNs R then nI b else R.2 2 k) = nI n
    rw [if_neg (by omega), if_neg (by omega)]
    exact k5 k hk
  · have hs' : s < sNs R + 1 := hs
    show (∃ n, n < 4 ∧ (if 3 = 3 ∧ s = sNs R then nI a else if 3 = 4 ∧ s = sNs R then nI b else R.2 3 s) = nI n) ∧ ∃ n, 1 ≤ n ∧ n ≤ 9 ∧ (if 4 = 3 ∧ s = sNs R then nI a else if 4 = 4 ∧ s = sNs R then nI b else R.2 4 s) = nI n
    by_cases c : s = sNs R
    · rw [if_pos ⟨rfl, c⟩, if_neg (by omega), if_pos ⟨rfl, c⟩]
      exact ⟨⟨a, ha, rfl⟩, b, hb.1, hb.2, rfl⟩
    · rw [if_neg (fun q => c q.2), if_neg (fun q => c q.2), if_neg (fun q => c q.2), if_neg (fun q => c q.2)]
      exact k6 s (by omega)
  · show ∃ n, n ≤ 9 ∧ (if 5 = 3 ∧ 0 = sNs R then nI a else if 5 = 4 ∧ 0 = sNs R then nI b else R.2 5 0) = nI n
    rw [if_neg (by omega), if_neg (by omega)]
    exact k7
theorem rR_f {R : SB} {a : Nat} (h : q_rR R) (ha : a ≤ 9) : q_rR (r_f R a) := by
  obtain ⟨k1, k2, k3, k4, k5, k6, k7⟩ := h
  refine ⟨k1, k2, k3, fun o ho => ?_, fun k hk => ?_, fun s hs => ?_, ?_⟩
  · show (∃ n, n < 4 ∧ (if 0 = 5 ∧ o = 0 then nI a else R.2 0 o) = nI n) ∧ ∃ n, 1 ≤ n ∧ n ≤ 60 ∧ (if 1 = 5 ∧ o = 0 then nI a else R.2 1 o) = nI n
    rw [if_neg (by omega), if_neg (by omega)]
    exact k4 o ho
  · show ∃ n, 1 ≤ n ∧ n ≤ 20 ∧ (if 2 = 5 ∧ k = 0 then nI a else R.2 2 k) = nI n
    rw [if_neg (by omega)]
    exact k5 k hk
  · show (∃ n, n < 4 ∧ (if 3 = 5 ∧ s = 0 then nI a else R.2 3 s) = nI n) ∧ ∃ n, 1 ≤ n ∧ n ≤ 9 ∧ (if 4 = 5 ∧ s = 0 then nI a else R.2 4 s) = nI n
    rw [if_neg (by omega), if_neg (by omega)]
    exact k6 s hs
  · exact ⟨a, ha, rfl⟩
theorem rR_p {R : SB} {s b u : Nat} (h : q_rR R) : q_rR (r_p R s b u) := by
  obtain ⟨k1, k2, k3, k4, k5, k6, k7⟩ := h
  refine ⟨k1, k2, k3, fun o ho => ?_, fun k hk => ?_, fun t ht => ?_, ?_⟩
  · show (∃ n, n < 4 ∧ (if 0 = 6 ∧ o = 6 * s + b then nI u else R.2 0 o) = nI n) ∧ ∃ n, 1 ≤ n ∧ n ≤ 60 ∧ (if 1 = 6 ∧ o = 6 * s + b then nI u else R.2 1 o) = nI n
    rw [if_neg (by omega), if_neg (by omega)]
    exact k4 o ho
  · show ∃ n, 1 ≤ n ∧ n ≤ 20 ∧ (if 2 = 6 ∧ k = 6 * s + b then nI u else R.2 2 k) = nI n
    rw [if_neg (by omega)]
    exact k5 k hk
  · show (∃ n, n < 4 ∧ (if 3 = 6 ∧ t = 6 * s + b then nI u else R.2 3 t) = nI n) ∧ ∃ n, 1 ≤ n ∧ n ≤ 9 ∧ (if 4 = 6 ∧ t = 6 * s + b then nI u else R.2 4 t) = nI n
    rw [if_neg (by omega), if_neg (by omega)]
    exact k6 t ht
  · show ∃ n, n ≤ 9 ∧ (if 5 = 6 ∧ 0 = 6 * s + b then nI u else R.2 5 0) = nI n
    rw [if_neg (by omega)]
    exact k7
/-- one item, as the class reads it -/
def z_add (R : SB) (c : Int32) (t : List Nat) : Option SB :=
  if c = nI 98 then (match t with
    | [a, b] => if sNb R < 6 ∧ a < 4 ∧ 1 ≤ b ∧ b ≤ 60 then some (r_b R a b) else none
    | _ => none)
  else if c = nI 102 then (match t with
    | [a] => if a ≤ 9 then some (r_f R a) else none
    | _ => none)
  else if c = nI 112 then (match t with
    | [s, b, u] => if s < sNs R ∧ b < sNb R ∧ u < 8 then some (r_p R s b u) else none
    | _ => none)
  else if c = nI 115 then (match t with
    | [a, b] => if sNs R < 4 ∧ a < 4 ∧ 1 ≤ b ∧ b ≤ 9 then some (r_s R a b) else none
    | _ => none)
  else if c = nI 119 then (match t with
    | [a] => if sNw R < 6 ∧ 1 ≤ a ∧ a ≤ 20 then some (r_w R a) else none
    | _ => none)
  else none
def z_item (l : Nat → Int32) (p : Nat) (R : SB) : Option (SB × Nat) := (z_nums l 3 (p + 1)).bind (fun v => (z_add R (l p) v.1).bind (fun R' => some (R', v.2)))
/-- the same, as the model reads it -/
def z_tn (l : Nat → Int32) (lo hi : Nat) (g : Int32) (p : Nat) : Option (Nat × Nat) := match z_num l p with
  | none => none
  | some (v, q) => if lo ≤ v ∧ v < hi ∧ l q = g then some (v, q + 1) else none
def z_itm (l : Nat → Int32) (p : Nat) (R : SB) : Option (SB × Nat) :=
  if l p = nI 98 then (if sNb R = 6 then none else (z_tn l 0 4 (nI 44) (p + 1)).bind (fun v => (z_tn l 1 61 (nI 59) v.2).bind (fun w => some (r_b R v.1 w.1, w.2))))
  else if l p = nI 102 then (z_tn l 0 10 (nI 59) (p + 1)).bind (fun v => some (r_f R v.1, v.2))
  else if l p = nI 112 then (z_tn l 0 (sNs R) (nI 44) (p + 1)).bind (fun v => (z_tn l 0 (sNb R) (nI 44) v.2).bind (fun w => (z_tn l 0 8 (nI 59) w.2).bind (fun u => some (r_p R v.1 w.1 u.1, u.2))))
  else if l p = nI 115 then (if sNs R = 4 then none else (z_tn l 0 4 (nI 44) (p + 1)).bind (fun v => (z_tn l 1 10 (nI 59) v.2).bind (fun w => some (r_s R v.1 w.1, w.2))))
  else if l p = nI 119 then (if sNw R = 6 then none else (z_tn l 1 21 (nI 59) (p + 1)).bind (fun v => some (r_w R v.1, v.2)))
  else none
theorem ob_ite {α β : Type} {c : Prop} [Decidable c] (v : α) (f : α → Option β) : (if c then some v else none).bind f = if c then f v else none := by split <;> rfl
theorem ob_n {α β : Type} (f : α → Option β) : (none : Option α).bind f = none := rfl
theorem ob_s {α β : Type} (v : α) (f : α → Option β) : (some v).bind f = f v := rfl
theorem ob_some {α β : Type} {o : Option α} {f : α → Option β} {b : β} (h : o.bind f = some b) : ∃ a, o = some a ∧ f a = some b := by
  cases o with
  | none => cases h
  | some a => exact ⟨a, rfl, h⟩
theorem z_tn_in {l : Nat → Int32} {lo hi p : Nat} {g : Int32} {v : Nat × Nat} (h : z_tn l lo hi g p = some v) : lo ≤ v.1 ∧ v.1 < hi ∧ p < v.2 := by
  unfold z_tn at h
  cases e : z_num l p with
  | none => rw [e] at h; cases h
  | some w =>
    obtain ⟨a, q⟩ := w
    rw [e] at h
    have h' : (if lo ≤ a ∧ a < hi ∧ l q = g then some (a, q + 1) else none) = some v := h
    by_cases c : lo ≤ a ∧ a < hi ∧ l q = g
    · rw [if_pos c] at h'
      cases h'
      have := (z_num_in e).2.1
      exact ⟨c.1, c.2.1, by show p < q + 1; omega⟩
    · rw [if_neg c] at h'; cases h'
theorem m44 : ¬ nI 44 = nI 59 := by decide
theorem m59 : ¬ nI 59 = nI 44 := by decide
/-- the shapes that a run of numbers may have -/
theorem z_nums_cases (l : Nat → Int32) (p : Nat) :
    (z_num l p = none ∧ z_nums l 3 p = none)
    ∨ (∃ a q, z_num l p = some (a, q) ∧ ((l q = nI 59 ∧ z_nums l 3 p = some ([a], q + 1))
      ∨ (¬ l q = nI 59 ∧ ¬ l q = nI 44 ∧ z_nums l 3 p = none)
      ∨ (l q = nI 44 ∧ z_num l (q + 1) = none ∧ z_nums l 3 p = none)
      ∨ (l q = nI 44 ∧ ∃ b r, z_num l (q + 1) = some (b, r) ∧ ((l r = nI 59 ∧ z_nums l 3 p = some ([a, b], r + 1))
        ∨ (¬ l r = nI 59 ∧ ¬ l r = nI 44 ∧ z_nums l 3 p = none)
        ∨ (l r = nI 44 ∧ z_num l (r + 1) = none ∧ z_nums l 3 p = none)
        ∨ (l r = nI 44 ∧ ∃ c t, z_num l (r + 1) = some (c, t) ∧ ((l t = nI 59 ∧ z_nums l 3 p = some ([a, b, c], t + 1)) ∨ (¬ l t = nI 59 ∧ z_nums l 3 p = none))))))) := by
  cases e1 : z_num l p with
  | none => exact Or.inl ⟨rfl, by unfold z_nums; rw [e1]⟩
  | some v1 =>
    obtain ⟨a, q⟩ := v1
    refine Or.inr ⟨a, q, rfl, ?_⟩
    by_cases c1 : l q = nI 59
    · exact Or.inl ⟨c1, by unfold z_nums; rw [e1]; show (if l q = nI 59 then _ else _) = _; rw [if_pos c1]⟩
    · by_cases c2 : l q = nI 44
      · have h1 : z_nums l 3 p = (match z_nums l 2 (q + 1) with
          | none => none
          | some (t, r) => some (a :: t, r)) := by
          show (match z_num l p with
            | none => none
            | some (a, q) => if l q = nI 59 then some ([a], q + 1) else if l q = nI 44 then _ else none) = _
          rw [e1]
          show (if l q = nI 59 then _ else if l q = nI 44 then _ else _) = _
          rw [if_neg c1, if_pos c2]
        cases e2 : z_num l (q + 1) with
        | none =>
          refine Or.inr (Or.inr (Or.inl ⟨c2, rfl, ?_⟩))
          rw [h1]
          have h2 : z_nums l 2 (q + 1) = none := by unfold z_nums; rw [e2]
          rw [h2]
        | some v2 =>
          obtain ⟨b, r⟩ := v2
          refine Or.inr (Or.inr (Or.inr ⟨c2, b, r, rfl, ?_⟩))
          by_cases c3 : l r = nI 59
          · refine Or.inl ⟨c3, ?_⟩
            have h2 : z_nums l 2 (q + 1) = some ([b], r + 1) := by unfold z_nums; rw [e2]; show (if l r = nI 59 then _ else _) = _; rw [if_pos c3]
            rw [h1, h2]
          · by_cases c4 : l r = nI 44
            · have h2 : z_nums l 2 (q + 1) = (match z_nums l 1 (r + 1) with
                | none => none
                | some (t, u) => some (b :: t, u)) := by
                show (match z_num l (q + 1) with
                  | none => none
                  | some (a, q) => if l q = nI 59 then some ([a], q + 1) else if l q = nI 44 then _ else none) = _
                rw [e2]
                show (if l r = nI 59 then _ else if l r = nI 44 then _ else _) = _
                rw [if_neg c3, if_pos c4]
              cases e3 : z_num l (r + 1) with
              | none =>
                refine Or.inr (Or.inr (Or.inl ⟨c4, rfl, ?_⟩))
                have h3 : z_nums l 1 (r + 1) = none := by unfold z_nums; rw [e3]
                rw [h1, h2, h3]
              | some v3 =>
                obtain ⟨c, t⟩ := v3
                refine Or.inr (Or.inr (Or.inr ⟨c4, c, t, rfl, ?_⟩))
                by_cases c5 : l t = nI 59
                · have h3 : z_nums l 1 (r + 1) = some ([c], t + 1) := by unfold z_nums; rw [e3]; show (if l t = nI 59 then _ else _) = _; rw [if_pos c5]
                  exact Or.inl ⟨c5, by rw [h1, h2, h3]⟩
                · have h3 : z_nums l 1 (r + 1) = none := by
                    unfold z_nums
                    rw [e3]
                    show (if l t = nI 59 then _ else if l t = nI 44 then _ else _) = _
                    rw [if_neg c5]
                    split <;> rfl
                  exact Or.inr ⟨c5, by rw [h1, h2, h3]⟩
            · refine Or.inr (Or.inl ⟨c3, c4, ?_⟩)
              have h2 : z_nums l 2 (q + 1) = none := by
                unfold z_nums
                rw [e2]
                show (if l r = nI 59 then _ else if l r = nI 44 then _ else _) = _
                rw [if_neg c3, if_neg c4]
              rw [h1, h2]
      · refine Or.inr (Or.inl ⟨c1, c2, ?_⟩)
        unfold z_nums
        rw [e1]
        show (if l q = nI 59 then _ else if l q = nI 44 then _ else _) = _
        rw [if_neg c1, if_neg c2]
theorem z_tn_none {l : Nat → Int32} {lo hi p : Nat} {g : Int32} (h : z_num l p = none) : z_tn l lo hi g p = none := by
  unfold z_tn
  rw [h]
theorem z_tn_some {l : Nat → Int32} {lo hi p a q : Nat} {g : Int32} (h : z_num l p = some (a, q)) : z_tn l lo hi g p = if lo ≤ a ∧ a < hi ∧ l q = g then some (a, q + 1) else none := by
  unfold z_tn
  rw [h]
theorem z_item_eq (l : Nat → Int32) (p : Nat) (R : SB) (hR : q_rR R) : z_itm l p R = z_item l p R := by
  obtain ⟨k1, k2, k3, -⟩ := hR
  unfold z_itm z_item z_add
  rcases z_nums_cases l (p + 1) with ⟨h1, h2⟩ | ⟨a, q, h1, ⟨c1, h2⟩ | ⟨c1, c2, h2⟩ | ⟨c1, h3, h2⟩ | ⟨c1, b, r, h3, ⟨c2, h2⟩ | ⟨c2, c3, h2⟩ | ⟨c2, h4, h2⟩ | ⟨c2, c, t, h4, ⟨c3, h2⟩ | ⟨c3, h2⟩⟩⟩⟩
  · simp only [h2, z_tn_none h1, ob_n, ite_self]
  · simp only [h2, z_tn_some h1, c1, m59, ob_n, ob_s, ob_ite, and_false, and_true, if_false, ite_self]
    repeat' split
    all_goals first | rfl | omega
  · simp only [h2, z_tn_some h1, c1, c2, ob_n, and_false, if_false, ite_self]
  · simp only [h2, z_tn_some h1, z_tn_none h3, c1, m44, ob_n, ob_s, ob_ite, and_false, and_true, if_false, ite_self]
  · simp only [h2, z_tn_some h1, z_tn_some h3, c1, c2, m44, m59, ob_n, ob_s, ob_ite, and_false, and_true, if_false, ite_self]
    repeat' split
    all_goals first | rfl | omega
  · simp only [h2, z_tn_some h1, z_tn_some h3, c1, c2, c3, m44, m59, ob_n, ob_s, ob_ite, and_false, and_true, if_false, ite_self]
  · simp only [h2, z_tn_some h1, z_tn_some h3, z_tn_none h4, c1, c2, m44, m59, ob_n, ob_s, ob_ite, and_false, and_true, if_false, ite_self]
  · simp only [h2, z_tn_some h1, z_tn_some h3, z_tn_some h4, c1, c2, c3, m44, m59, ob_n, ob_s, ob_ite, and_false, and_true, if_false, ite_self]
    repeat' split
    all_goals first | rfl | omega
  · simp only [h2, z_tn_some h1, z_tn_some h3, z_tn_some h4, c1, c2, c3, m44, m59, ob_n, ob_s, ob_ite, and_false, and_true, if_false, ite_self]
theorem z_itm_in {l : Nat → Int32} {p : Nat} {R R' : SB} {q : Nat} (hR : q_rR R) (h : z_itm l p R = some (R', q)) : q_rR R' ∧ p < q := by
  have hR' := hR
  obtain ⟨k1, k2, k3, -⟩ := hR'
  unfold z_itm at h
  by_cases c1 : l p = nI 98
  · rw [if_pos c1] at h
    by_cases c2 : sNb R = 6
    · rw [if_pos c2] at h; cases h
    · rw [if_neg c2] at h
      obtain ⟨v, e1, h⟩ := ob_some h
      obtain ⟨w, e2, h⟩ := ob_some h
      have i1 := z_tn_in e1
      have i2 := z_tn_in e2
      cases h
      exact ⟨rR_b hR (by omega) (by omega) (by omega), by omega⟩
  rw [if_neg c1] at h
  by_cases c2 : l p = nI 102
  · rw [if_pos c2] at h
    obtain ⟨v, e1, h⟩ := ob_some h
    have i1 := z_tn_in e1
    cases h
    exact ⟨rR_f hR (by omega), by omega⟩
  rw [if_neg c2] at h
  by_cases c3 : l p = nI 112
  · rw [if_pos c3] at h
    obtain ⟨v, e1, h⟩ := ob_some h
    obtain ⟨w, e2, h⟩ := ob_some h
    obtain ⟨u, e3, h⟩ := ob_some h
    have i1 := z_tn_in e1
    have i2 := z_tn_in e2
    have i3 := z_tn_in e3
    cases h
    exact ⟨rR_p hR, by omega⟩
  rw [if_neg c3] at h
  by_cases c4 : l p = nI 115
  · rw [if_pos c4] at h
    by_cases c5 : sNs R = 4
    · rw [if_pos c5] at h; cases h
    · rw [if_neg c5] at h
      obtain ⟨v, e1, h⟩ := ob_some h
      obtain ⟨w, e2, h⟩ := ob_some h
      have i1 := z_tn_in e1
      have i2 := z_tn_in e2
      cases h
      exact ⟨rR_s hR (by omega) (by omega) (by omega), by omega⟩
  rw [if_neg c4] at h
  by_cases c5 : l p = nI 119
  · rw [if_pos c5] at h
    by_cases c6 : sNw R = 6
    · rw [if_pos c6] at h; cases h
    · rw [if_neg c6] at h
      obtain ⟨v, e1, h⟩ := ob_some h
      have i1 := z_tn_in e1
      cases h
      exact ⟨rR_w hR (by omega) (by omega), by omega⟩
  rw [if_neg c5] at h
  cases h
/-- all items, up to the first fault -/
def z_rd (L : Nat) (l : Nat → Int32) : Nat → Nat → SB → Option Nat × SB
  | 0, _, R => (none, R)
  | n + 1, p, R => if p < L then (match z_item l p R with
    | none => (some p, R)
    | some v => z_rd L l n v.2 v.1) else (none, R)
def z_l (L : Nat) (T : Nat → Int32) (i : Nat) : Int32 := if i < L then T i else nI 0
def z_read (L : Nat) (T : Nat → Int32) : Option Nat × SB := z_rd L (z_l L T) 200 0 r_0
theorem z_rd_in {L : Nat} {l : Nat → Int32} : ∀ (n p : Nat) (R : SB), q_rR R → q_rR (z_rd L l n p R).2 := by
  intro n
  induction n with
  | zero => intro p R h; exact h
  | succ n ih =>
    intro p R h
    unfold z_rd
    by_cases c : p < L
    · rw [if_pos c]
      cases e : z_item l p R with
      | none => exact h
      | some v => exact ih v.2 v.1 (z_itm_in h ((z_item_eq l p R h).trans e)).1
    · rw [if_neg c]; exact h
