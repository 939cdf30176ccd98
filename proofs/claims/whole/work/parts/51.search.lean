/-! THE SEARCH FOR THE FEWEST SAYINGS, apart from all machines -/
def x_fr {α : Type} (f : Nat → Option α) : Nat → Nat → Option α
  | 0, _ => none
  | m + 1, i => match f i with
    | some a => some a
    | none => x_fr f m (i + 1)
theorem x_fr_congr {α : Type} {f g : Nat → Option α} : ∀ (m i : Nat), (∀ j, i ≤ j → j < i + m → f j = g j) → x_fr f m i = x_fr g m i := by
  intro m
  induction m with
  | zero => intro i _; rfl
  | succ m ih =>
    intro i h
    unfold x_fr
    rw [h i (Nat.le_refl _) (by omega), ih (i + 1) (fun j h1 h2 => h j (by omega) (by omega))]
theorem x_fr_none {α : Type} {f : Nat → Option α} : ∀ (m i : Nat), x_fr f m i = none → ∀ j, i ≤ j → j < i + m → f j = none := by
  intro m
  induction m with
  | zero => intro i _ j h1 h2; omega
  | succ m ih =>
    intro i h j h1 h2
    unfold x_fr at h
    cases e : f i with
    | some a => rw [e] at h; cases h
    | none =>
      rw [e] at h
      by_cases c : j = i
      · subst c; exact e
      · exact ih (i + 1) h j (by omega) (by omega)
theorem x_fr_all {α : Type} {f : Nat → Option α} : ∀ (m i : Nat), (∀ j, i ≤ j → j < i + m → f j = none) → x_fr f m i = none := by
  intro m
  induction m with
  | zero => intro i _; rfl
  | succ m ih =>
    intro i h
    unfold x_fr
    rw [h i (Nat.le_refl _) (by omega)]
    exact ih (i + 1) (fun j h1 h2 => h j (by omega) (by omega))
theorem x_fr_n {α : Type} {f : Nat → Option α} {m i : Nat} (h : f i = none) : x_fr f (m + 1) i = x_fr f m (i + 1) := by
  show (match f i with | some a => some a | none => x_fr f m (i + 1)) = _
  rw [h]
theorem x_fr_s {α : Type} {f : Nat → Option α} {m i : Nat} {a : α} (h : f i = some a) : x_fr f (m + 1) i = some a := by
  show (match f i with | some a => some a | none => x_fr f m (i + 1)) = _
  rw [h]
theorem x_fr_add {α : Type} {f : Nat → Option α} (b : Nat) : ∀ (a i : Nat), x_fr f (a + b) i = match x_fr f a i with
    | some x => some x
    | none => x_fr f b (i + a) := by
  intro a
  induction a with
  | zero => intro i; rw [Nat.zero_add]; rfl
  | succ a ih =>
    intro i
    rw [show a + 1 + b = a + b + 1 by omega]
    cases e : f i with
    | some x => rw [x_fr_s e, x_fr_s e]
    | none => rw [x_fr_n e, x_fr_n e, ih (i + 1), show i + 1 + a = i + (a + 1) by omega]
theorem x_fr_sh {α : Type} {f : Nat → Option α} (c : Nat) : ∀ (m i : Nat), x_fr f m (i + c) = x_fr (fun j => f (j + c)) m i := by
  intro m
  induction m with
  | zero => intro i; rfl
  | succ m ih =>
    intro i
    unfold x_fr
    rw [← ih (i + 1), show i + 1 + c = i + c + 1 by omega]
theorem x_fr_mul {α : Type} (F : Nat → Nat → Option α) (nw : Nat) (hw : 0 < nw) : ∀ (m s : Nat), x_fr (fun i => F (i / nw) (i % nw)) (m * nw) (s * nw) = x_fr (fun s => x_fr (F s) nw 0) m s := by
  intro m
  induction m with
  | zero => intro s; rw [Nat.zero_mul]; rfl
  | succ m ih =>
    intro s
    rw [Nat.succ_mul, Nat.add_comm (m * nw) nw, x_fr_add]
    have e : x_fr (fun i => F (i / nw) (i % nw)) nw (s * nw) = x_fr (F s) nw 0 := by
      have := x_fr_sh (f := fun i => F (i / nw) (i % nw)) (s * nw) nw 0
      rw [Nat.zero_add] at this
      rw [this]
      refine x_fr_congr _ _ (fun j h1 h2 => ?_)
      show F ((j + s * nw) / nw) ((j + s * nw) % nw) = F s j
      rw [Nat.add_mul_div_right j s hw, Nat.add_mul_mod_self_right, Nat.div_eq_of_lt (by omega), Nat.mod_eq_of_lt (by omega), Nat.zero_add]
    rw [e, show s * nw + nw = (s + 1) * nw by rw [Nat.succ_mul], ih (s + 1)]
    rfl
abbrev ST : Type := (Nat → Nat) × ((Nat → Nat) × Nat)
def x_w (g : Nat → Nat → Nat) (st : ST) (s k : Nat) : Nat := g s k - st.2.1 k
def x_st (g : Nat → Nat → Nat) (st : ST) (s k : Nat) : ST := (fun j => if j = s then st.1 j - 1 else st.1 j, (fun j => if j = k then st.2.1 j + 1 else st.2.1 j, st.2.2 + x_w g st s k))
def x_X (ns nw t : Nat) (g : Nat → Nat → Nat) : Nat → ST → Option (List (Nat × Nat))
  | 0, st => if t ≤ st.2.2 then some [] else none
  | n + 1, st => x_fr (fun s => if 0 < st.1 s then x_fr (fun k => (x_X ns nw t g n (x_st g st s k)).map (fun l => (s, k) :: l)) nw 0 else none) ns 0
def x_C (ns nw t : Nat) (g : Nat → Nat → Nat) : Nat → ST → Option (List (Nat × Nat))
  | 0, st => if t ≤ st.2.2 then some [] else none
  | n + 1, st => if t ≤ st.2.2 then some [] else x_fr (fun s => if 0 < st.1 s then x_fr (fun k => (x_C ns nw t g n (x_st g st s k)).map (fun l => (s, k) :: l)) nw 0 else none) ns 0
theorem om_none {α β : Type} {o : Option α} {f : α → β} (h : o.map f = none) : o = none := by
  cases o with
  | none => rfl
  | some a => cases h
section XS
variable {ns nw t : Nat} {g : Nat → Nat → Nat}
theorem x_X_no {n : Nat} {st : ST} (h : x_X ns nw t g (n + 1) st = none) {s k : Nat} (hs : s < ns) (h0 : 0 < st.1 s) (hk : k < nw) : x_X ns nw t g n (x_st g st s k) = none := by
  have h1 := x_fr_none ns 0 h s (Nat.zero_le _) (by omega)
  have h2 : (if 0 < st.1 s then x_fr (fun k => (x_X ns nw t g n (x_st g st s k)).map (fun l => (s, k) :: l)) nw 0 else none) = none := h1
  rw [if_pos h0] at h2
  exact om_none (x_fr_none nw 0 h2 k (Nat.zero_le _) (by omega))
theorem x_C_X : ∀ (n : Nat) (st : ST), (∀ j, j < n → x_X ns nw t g j st = none) → x_C ns nw t g n st = x_X ns nw t g n st := by
  intro n
  induction n with
  | zero => intro st _; rfl
  | succ n ih =>
    intro st h
    have h0 : ¬ t ≤ st.2.2 := fun q => by
      have := h 0 (by omega)
      unfold x_X at this
      rw [if_pos q] at this
      cases this
    unfold x_C x_X
    rw [if_neg h0]
    refine x_fr_congr _ _ (fun s h1 h2 => ?_)
    show (if 0 < st.1 s then _ else _) = (if 0 < st.1 s then _ else _)
    by_cases c : 0 < st.1 s
    · rw [if_pos c, if_pos c]
      refine x_fr_congr _ _ (fun k h3 h4 => ?_)
      show (x_C ns nw t g n (x_st g st s k)).map _ = (x_X ns nw t g n (x_st g st s k)).map _
      rw [ih (x_st g st s k) (fun j hj => x_X_no (h (j + 1) (by omega)) (by omega) c (by omega))]
    · rw [if_neg c, if_neg c]
theorem x_C_none : ∀ (n : Nat) (st : ST), x_C ns nw t g n st = none → ∀ j, j ≤ n → x_X ns nw t g j st = none := by
  intro n
  induction n with
  | zero =>
    intro st h j hj
    have e : j = 0 := by omega
    subst e
    exact h
  | succ n ih =>
    intro st h j hj
    unfold x_C at h
    by_cases c : t ≤ st.2.2
    · rw [if_pos c] at h; cases h
    · rw [if_neg c] at h
      cases j with
      | zero => unfold x_X; rw [if_neg c]
      | succ j =>
        refine x_fr_all ns 0 (fun s h1 h2 => ?_)
        show (if 0 < st.1 s then _ else _) = none
        have h3 : (if 0 < st.1 s then x_fr (fun k => (x_C ns nw t g n (x_st g st s k)).map (fun l => (s, k) :: l)) nw 0 else none) = none := x_fr_none ns 0 h s h1 h2
        by_cases c2 : 0 < st.1 s
        · rw [if_pos c2] at h3 ⊢
          refine x_fr_all nw 0 (fun k h4 h5 => ?_)
          show (x_X ns nw t g j (x_st g st s k)).map _ = none
          rw [ih _ (om_none (x_fr_none nw 0 h3 k h4 h5)) j (by omega)]
          rfl
        · rw [if_neg c2]
theorem x_w_le (st : ST) (s k s' k' : Nat) : x_w g (x_st g st s k) s' k' ≤ x_w g st s' k' := by
  unfold x_w x_st
  show g s' k' - (if k' = k then st.2.1 k' + 1 else st.2.1 k') ≤ g s' k' - st.2.1 k'
  split <;> omega
theorem x_C_bound : ∀ (n : Nat) (st : ST) (M : Nat), (∀ s, s < ns → 0 < st.1 s → ∀ k, k < nw → x_w g st s k ≤ M) → st.2.2 + n * M < t → x_C ns nw t g n st = none := by
  intro n
  induction n with
  | zero =>
    intro st M _ h
    unfold x_C
    rw [if_neg (by omega)]
  | succ n ih =>
    intro st M hM h
    rw [Nat.succ_mul] at h
    unfold x_C
    rw [if_neg (by omega)]
    refine x_fr_all ns 0 (fun s h1 h2 => ?_)
    show (if 0 < st.1 s then _ else _) = none
    by_cases c : 0 < st.1 s
    · rw [if_pos c]
      refine x_fr_all nw 0 (fun k h3 h4 => ?_)
      show (x_C ns nw t g n (x_st g st s k)).map _ = none
      have hw := hM s (by omega) c k (by omega)
      rw [ih (x_st g st s k) M (fun s' q1 q2 k' q3 => ?_) (by show st.2.2 + x_w g st s k + n * M < t; omega)]
      · rfl
      · refine Nat.le_trans (x_w_le st s k s' k') (hM s' q1 ?_ k' q3)
        have q2' : 0 < (if s' = s then st.1 s' - 1 else st.1 s') := q2
        by_cases e : s' = s
        · rw [if_pos e] at q2'; omega
        · rw [if_neg e] at q2'; exact q2'
    · rw [if_neg c]
/-- how many, and which -/
def x_min (f : Nat → Option (List (Nat × Nat))) : Nat → Nat → Option (Nat × List (Nat × Nat))
  | 0, _ => none
  | n + 1, m => match f m with
    | some l => some (m, l)
    | none => x_min f n (m + 1)
theorem x_min_eq (st : ST) : ∀ (n m : Nat), (∀ j, j < m → x_X ns nw t g j st = none) → x_min (fun m => x_C ns nw t g m st) n m = x_min (fun m => x_X ns nw t g m st) n m := by
  intro n
  induction n with
  | zero => intro m _; rfl
  | succ n ih =>
    intro m h
    unfold x_min
    show (match x_C ns nw t g m st with
      | some l => some (m, l)
      | none => x_min (fun m => x_C ns nw t g m st) n (m + 1)) = (match x_X ns nw t g m st with
      | some l => some (m, l)
      | none => x_min (fun m => x_X ns nw t g m st) n (m + 1))
    rw [x_C_X m st h]
    cases e : x_X ns nw t g m st with
    | some l => rfl
    | none => exact ih (m + 1) (fun j hj => by
        by_cases c : j = m
        · subst c; exact e
        · exact h j (by omega))
theorem x_X_len : ∀ (n : Nat) (st : ST) (l : List (Nat × Nat)), x_X ns nw t g n st = some l → l.length = n ∧ ∀ (i : Nat) (x : Nat × Nat), l[i]? = some x → x.1 < ns ∧ x.2 < nw := by
  have fr : ∀ {α : Type} (f : Nat → Option α) (m i : Nat) (a : α), x_fr f m i = some a → ∃ j, i ≤ j ∧ j < i + m ∧ f j = some a := by
    intro α f m
    induction m with
    | zero => intro i a h; cases h
    | succ m ih =>
      intro i a h
      cases e : f i with
      | some b =>
        rw [x_fr_s e] at h
        cases h
        exact ⟨i, Nat.le_refl _, by omega, e⟩
      | none =>
        rw [x_fr_n e] at h
        obtain ⟨j, h1, h2, h3⟩ := ih (i + 1) a h
        exact ⟨j, by omega, by omega, h3⟩
  intro n
  induction n with
  | zero =>
    intro st l h
    unfold x_X at h
    by_cases c : t ≤ st.2.2
    · rw [if_pos c] at h
      cases h
      exact ⟨rfl, fun i x hx => by simp at hx⟩
    · rw [if_neg c] at h; cases h
  | succ n ih =>
    intro st l h
    obtain ⟨s, h1, h2, h3⟩ := fr _ ns 0 l h
    have h3' : (if 0 < st.1 s then x_fr (fun k => (x_X ns nw t g n (x_st g st s k)).map (fun l => (s, k) :: l)) nw 0 else none) = some l := h3
    by_cases c : 0 < st.1 s
    · rw [if_pos c] at h3'
      obtain ⟨k, h4, h5, h6⟩ := fr _ nw 0 l h3'
      have h6' : (x_X ns nw t g n (x_st g st s k)).map (fun l => (s, k) :: l) = some l := h6
      cases e : x_X ns nw t g n (x_st g st s k) with
      | none => rw [e] at h6'; cases h6'
      | some l2 =>
        rw [e] at h6'
        cases h6'
        obtain ⟨q1, q2⟩ := ih _ l2 e
        refine ⟨by rw [List.length_cons, q1], fun i x hx => ?_⟩
        cases i with
        | zero =>
          have e5 : (s, k) = x := by simpa using hx
          rw [← e5]
          exact ⟨by show s < ns; omega, by show k < nw; omega⟩
        | succ i => exact q2 i x hx
    · rw [if_neg c] at h3'; cases h3'
end XS
