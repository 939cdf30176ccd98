/-! THE PURE PART, base: numbers, folds, the two views of the heap -/
theorem e_0 : (0 : Int32) = nI 0 := rfl
theorem e_1 : (1 : Int32) = nI 1 := rfl
theorem e_2 : (2 : Int32) = nI 2 := rfl
theorem e_3 : (3 : Int32) = nI 3 := rfl
theorem e_4 : (4 : Int32) = nI 4 := rfl
theorem e_5 : (5 : Int32) = nI 5 := rfl
theorem e_6 : (6 : Int32) = nI 6 := rfl
theorem e_7 : (7 : Int32) = nI 7 := rfl
theorem e_8 : (8 : Int32) = nI 8 := rfl
theorem e_9 : (9 : Int32) = nI 9 := rfl
theorem e_10 : (10 : Int32) = nI 10 := rfl
theorem e_11 : (11 : Int32) = nI 11 := rfl
theorem e_12 : (12 : Int32) = nI 12 := rfl
theorem e_13 : (13 : Int32) = nI 13 := rfl
theorem e_19 : (19 : Int32) = nI 19 := rfl
theorem e_20 : (20 : Int32) = nI 20 := rfl
theorem e_24 : (24 : Int32) = nI 24 := rfl
theorem e_30 : (30 : Int32) = nI 30 := rfl
theorem e_32 : (32 : Int32) = nI 32 := rfl
theorem e_36 : (36 : Int32) = nI 36 := rfl
theorem e_48 : (48 : Int32) = nI 48 := rfl
theorem e_50 : (50 : Int32) = nI 50 := rfl
theorem e_55 : (55 : Int32) = nI 55 := rfl
theorem e_57 : (57 : Int32) = nI 57 := rfl
theorem e_58 : (58 : Int32) = nI 58 := rfl
theorem e_60 : (60 : Int32) = nI 60 := rfl
theorem e_61 : (61 : Int32) = nI 61 := rfl
theorem e_62 : (62 : Int32) = nI 62 := rfl
theorem e_63 : (63 : Int32) = nI 63 := rfl
theorem e_64 : (64 : Int32) = nI 64 := rfl
theorem e_65 : (65 : Int32) = nI 65 := rfl
theorem e_79 : (79 : Int32) = nI 79 := rfl
theorem e_80 : (80 : Int32) = nI 80 := rfl
theorem e_83 : (83 : Int32) = nI 83 := rfl
theorem e_99 : (99 : Int32) = nI 99 := rfl
theorem e_100 : (100 : Int32) = nI 100 := rfl
theorem e_126 : (126 : Int32) = nI 126 := rfl
theorem e_144 : (144 : Int32) = nI 144 := rfl
theorem e_166 : (166 : Int32) = nI 166 := rfl
theorem e_200 : (200 : Int32) = nI 200 := rfl
theorem e_207 : (207 : Int32) = nI 207 := rfl
theorem e_249 : (249 : Int32) = nI 249 := rfl
theorem e_255 : (255 : Int32) = nI 255 := rfl
theorem e_256 : (256 : Int32) = nI 256 := rfl
theorem e_332 : (332 : Int32) = nI 332 := rfl
theorem e_581 : (581 : Int32) = nI 581 := rfl
theorem e_996 : (996 : Int32) = nI 996 := rfl
theorem e_1577 : (1577 : Int32) = nI 1577 := rfl
theorem e_6151 : (6151 : Int32) = nI 6151 := rfl
theorem e_7919 : (7919 : Int32) = nI 7919 := rfl
theorem e_9999 : (9999 : Int32) = nI 9999 := rfl
theorem e_65521 : (65521 : Int32) = nI 65521 := rfl
theorem q_of (n : Nat) : Int32.ofNat n = nI n := rfl
theorem q_cl_nI {k : Nat} (h : k < 2147483648) : (nI k).toNatClampNeg = k := nI_clamp h
theorem q_ltN {a b : Nat} (ha : a < 2147483648) (hb : b < 2147483648) : (nI a < nI b) = (a < b) := propext (nI_ltI ha hb)
theorem q_leN {a b : Nat} (ha : a < 2147483648) (hb : b < 2147483648) : (nI a ≤ nI b) = (a ≤ b) := propext (nI_leI ha hb)
theorem q_eqN {a b : Nat} (ha : a < 2147483648) (hb : b < 2147483648) : (nI a = nI b) = (a = b) := propext (nI_eq ha hb)
theorem q_ltN0 {a : Nat} (ha : a < 2147483648) : (nI a < 0) = False := eq_false (nI_pos ha)
theorem q_ifT {α : Type} {c : Prop} [Decidable c] {a b : α} (h : c) : (if c then a else b) = a := if_pos h
theorem q_ifF {α : Type} {c : Prop} [Decidable c] {a b : α} (h : ¬ c) : (if c then a else b) = b := if_neg h
theorem q_inbN {k n : Nat} (h : k < 2147483648) : q_inb (nI k) n = decide (k < n) := by
  unfold q_inb
  rw [q_cl_nI h, show decide (nI k < 0) = false from decide_eq_false (nI_pos h)]
  by_cases hk : k < n
  · rw [q_lF hk]; simp [hk]
  · rw [q_lT (Nat.not_lt.mp hk)]; simp [hk]
theorem q_cIs (x : Int32) (H : QH) (k : Int32 → QH → Option QR) : q_cI (some (some (.inl x), H)) k = k x H := rfl
theorem q_cVs (H : QH) (k : QH → Option QR) : q_cV (some (none, H)) k = k H := rfl
theorem q_cR0 (H : QH) (y : Nat) (k0 : QH → Option QR) (k5 : Nat → QH → Option QR) : q_cR (some (some (.inr (.inr (0, y))), H)) k0 k5 = k0 H := rfl
theorem q_cR5 (H : QH) (p : Nat) (k0 : QH → Option QR) (k5 : Nat → QH → Option QR) : q_cR (some (some (.inr (.inr (5, p))), H)) k0 k5 = k5 p H := rfl
noncomputable abbrev CL (sx : QX) (d mid : Nat) (as : List QV) (H : QH) : Option QR := q_CL (q_tb sx) q_kpt d (mid, (as, H))
abbrev vi (x : Int32) : QV := .inl x
abbrev vn (k : Nat) : QV := .inl (nI k)
abbrev vr (k p : Nat) : QV := .inr (.inr (k, p))
abbrev rI (x : Int32) (H : QH) : Option QR := some (some (.inl x), H)
abbrev rV (H : QH) : Option QR := some (none, H)
def z01 (b : Bool) : Int32 := cond b (nI 1) (nI 0)
/-- up to n, from 0 on -/
def z_fold {σ : Type} : Nat → (Nat → σ → σ) → σ → σ
  | 0, _, a => a
  | n + 1, f, a => f n (z_fold n f a)
theorem z_loop {σ : Type} {R : Type} (n : Nat) (F : Nat → σ → R) (f : Nat → σ → σ) (hs : ∀ k a, k < n → F k a = F (k + 1) (f k a)) (a : σ) : F 0 a = F n (z_fold n f a) := by
  have h : ∀ i, i ≤ n → F 0 a = F i (z_fold i f a) := by
    intro i
    induction i with
    | zero => intro _; rfl
    | succ i ih => intro hi; rw [ih (by omega), hs i _ (by omega)]; rfl
  exact h n (Nat.le_refl n)
theorem z_loopI {σ : Type} {R : Type} (I : Nat → σ → Prop) (n : Nat) (F : Nat → σ → R) (f : Nat → σ → σ) (a : σ) (h0 : I 0 a) (hI : ∀ k a, k < n → I k a → I (k + 1) (f k a)) (hs : ∀ k a, k < n → I k a → F k a = F (k + 1) (f k a)) : F 0 a = F n (z_fold n f a) ∧ I n (z_fold n f a) := by
  have h : ∀ i, i ≤ n → F 0 a = F i (z_fold i f a) ∧ I i (z_fold i f a) := by
    intro i
    induction i with
    | zero => intro _; exact ⟨rfl, h0⟩
    | succ i ih =>
      intro hi
      obtain ⟨h1, h2⟩ := ih (by omega)
      exact ⟨by rw [h1, hs i _ (by omega) h2]; rfl, hI i _ (by omega) h2⟩
  exact h n (Nat.le_refl n)
theorem z_fold_inv {σ : Type} (I : Nat → σ → Prop) (n : Nat) (f : Nat → σ → σ) (a : σ) (h0 : I 0 a) (hI : ∀ k a, k < n → I k a → I (k + 1) (f k a)) : I n (z_fold n f a) :=
  (z_loopI (R := Unit) I n (fun _ _ => ()) f a h0 hI (fun _ _ _ _ => rfl)).2
theorem z_fold_congr {σ : Type} (n : Nat) (f g : Nat → σ → σ) (a : σ) (h : ∀ k b, k < n → f k b = g k b) : z_fold n f a = z_fold n g a := by
  induction n with
  | zero => rfl
  | succ n ih =>
    show f n (z_fold n f a) = g n (z_fold n g a)
    rw [ih (fun k b hk => h k b (by omega)), h n _ (by omega)]
-- writes
theorem q_hs_rd (H : QH) (p j : Nat) (x : Int32) (a b : Nat) : q_hs H p j x a b = if a = p ∧ b = j then x else H a b := by
  unfold q_hs
  by_cases h1 : a = p
  · rw [q_bT h1]
    by_cases h2 : b = j
    · rw [q_bT h2, if_pos ⟨h1, h2⟩]; rfl
    · rw [q_bF h2, if_neg (fun h => h2 h.2)]; rfl
  · rw [q_bF h1, if_neg (fun h => h1 h.1)]; rfl
/-- the model's rows from r on, in the one row 166 -/
def m_get (H : QH) (r : Nat) : Nat → Int32 := fun j => H 166 (r + j)
def m_put (H : QH) (r : Nat) (w : Nat → Int32) : QH := fun a j => if a = 166 ∧ r ≤ j then w (j - r) else H a j
theorem m_get_put (H : QH) (r : Nat) (w : Nat → Int32) : m_get (m_put H r w) r = w := by
  funext j
  unfold m_get m_put
  rw [if_pos ⟨rfl, Nat.le_add_right r j⟩, Nat.add_sub_cancel_left]
theorem m_put_put (H : QH) (r : Nat) (w v : Nat → Int32) : m_put (m_put H r w) r v = m_put H r v := by
  funext a j
  unfold m_put
  by_cases h : a = 166 ∧ r ≤ j
  · rw [if_pos h, if_pos h]
  · rw [if_neg h, if_neg h, if_neg h]
theorem m_put_get (H : QH) (r : Nat) : m_put H r (m_get H r) = H := by
  funext a j
  unfold m_put m_get
  by_cases h : a = 166 ∧ r ≤ j
  · rw [if_pos h, h.1, Nat.add_sub_cancel' h.2]
  · rw [if_neg h]
theorem m_rd (H : QH) (r j : Nat) : H 166 (r + j) = m_get H r j := rfl
theorem m_put_ne (H : QH) (r : Nat) (w : Nat → Int32) {a : Nat} (h : a ≠ 166) : m_put H r w a = H a := by
  funext j
  unfold m_put
  rw [if_neg (fun q => h q.1)]
theorem m_put_lt (H : QH) (r : Nat) (w : Nat → Int32) {j : Nat} (h : j < r) : m_put H r w 166 j = H 166 j := by
  unfold m_put
  rw [if_neg (fun q => by omega)]
theorem m_hs (H : QH) (r i : Nat) (x : Int32) : q_hs H 166 (r + i) x = m_put H r (upd (m_get H r) i x) := by
  funext a j
  rw [q_hs_rd]
  unfold m_put upd m_get
  by_cases h1 : a = 166
  · by_cases h2 : j = r + i
    · rw [if_pos ⟨h1, h2⟩, if_pos ⟨h1, by omega⟩, if_pos (by omega)]
    · rw [if_neg (fun q => h2 q.2)]
      by_cases h3 : r ≤ j
      · rw [if_pos ⟨h1, h3⟩, if_neg (by omega), h1, Nat.add_sub_cancel' h3]
      · rw [if_neg (fun q => h3 q.2)]
  · rw [if_neg (fun q => h1 q.1), if_neg (fun q => h1 q.1)]
/-- the class's quarry at p, laid out as the model's row is -/
def c_i1 (j : Nat) : Nat := if j = 0 then 0 else if j < 7 then 1 else if j < 13 then 2 else if j < 19 then 3 else if j < 55 then 5 else if j < 79 then 6 else if j < 83 then 4 else 0
def c_i2 (j : Nat) : Nat := if j = 0 then 1 else if j < 7 then j - 1 else if j < 13 then j - 7 else if j < 19 then j - 13 else if j < 55 then j - 19 else if j < 79 then j - 55 else if j < 83 then j - 79 else j
def c_j (a i : Nat) : Option Nat := if a = 0 then (if i = 1 then some 0 else if 83 ≤ i then some i else none) else if a = 1 then (if i < 6 then some (1 + i) else none) else if a = 2 then (if i < 6 then some (7 + i) else none) else if a = 3 then (if i < 6 then some (13 + i) else none) else if a = 4 then (if i < 4 then some (79 + i) else none) else if a = 5 then (if i < 36 then some (19 + i) else none) else if a = 6 then (if i < 24 then some (55 + i) else none) else none
def c_get (H : QH) (p : Nat) : Nat → Int32 := fun j => H (p + c_i1 j) (c_i2 j)
def c_put (H : QH) (p : Nat) (w : Nat → Int32) : QH := fun a i => if p ≤ a then (match c_j (a - p) i with
  | some j => w j
  | none => H a i) else H a i
theorem c_j_i (j : Nat) : c_j (c_i1 j) (c_i2 j) = some j := by
  unfold c_i1 c_i2
  repeat' split
  all_goals (unfold c_j; simp; try first | omega | (rw [if_neg (by omega), if_pos (by omega)]))
theorem c_i_j {a i j : Nat} (h : c_j a i = some j) : c_i1 j = a ∧ c_i2 j = i := by
  unfold c_j at h
  repeat' split at h
  all_goals first
    | (cases h; done)
    | (simp only [Option.some.injEq] at h; subst h; unfold c_i1 c_i2; constructor <;> (repeat' split) <;> omega)
theorem c_get_put (H : QH) (p : Nat) (w : Nat → Int32) : c_get (c_put H p w) p = w := by
  funext j
  unfold c_get c_put
  rw [if_pos (Nat.le_add_right _ _), Nat.add_sub_cancel_left, c_j_i]
theorem c_put_put (H : QH) (p : Nat) (w v : Nat → Int32) : c_put (c_put H p w) p v = c_put H p v := by
  funext a i
  unfold c_put
  by_cases h : p ≤ a
  · simp only [if_pos h]
    cases c_j (a - p) i <;> rfl
  · rw [if_neg h, if_neg h, if_neg h]
theorem c_put_get (H : QH) (p : Nat) : c_put H p (c_get H p) = H := by
  funext a i
  unfold c_put c_get
  by_cases h : p ≤ a
  · rw [if_pos h]
    cases e : c_j (a - p) i with
    | some j =>
      obtain ⟨h1, h2⟩ := c_i_j e
      show H (p + c_i1 j) (c_i2 j) = H a i
      rw [h1, h2, Nat.add_sub_cancel' h]
    | none => rfl
  · rw [if_neg h]
theorem c_put_out (H : QH) (p : Nat) (w : Nat → Int32) {a : Nat} (h : a < p ∨ p + 7 ≤ a) : c_put H p w a = H a := by
  funext i
  unfold c_put
  by_cases h1 : p ≤ a
  · rw [if_pos h1]
    have e : c_j (a - p) i = none := by
      unfold c_j
      repeat' split
      all_goals (first | rfl | omega)
    rw [e]
  · rw [if_neg h1]
theorem c_hs {H : QH} {p a i j : Nat} {x : Int32} (h : c_j a i = some j) : q_hs H (p + a) i x = c_put H p (upd (c_get H p) j x) := by
  funext a' i'
  rw [q_hs_rd]
  unfold c_put upd
  by_cases h1 : p ≤ a'
  · rw [if_pos h1]
    cases e : c_j (a' - p) i' with
    | some j' =>
      obtain ⟨h3, h4⟩ := c_i_j e
      obtain ⟨h5, h6⟩ := c_i_j h
      show _ = (if j' = j then x else c_get H p j')
      by_cases hj : j' = j
      · subst hj
        rw [if_pos ⟨by omega, by omega⟩, if_pos rfl]
      · rw [if_neg hj]
        have : ¬ (a' = p + a ∧ i' = i) := fun q => hj (by
          have e2 : c_j (a' - p) i' = c_j a i := by rw [q.2, q.1, Nat.add_sub_cancel_left]
          rw [e, h] at e2
          exact Option.some.inj e2)
        rw [if_neg this]
        unfold c_get
        rw [h3, h4, Nat.add_sub_cancel' h1]
    | none =>
      have : ¬ (a' = p + a ∧ i' = i) := fun q => by
        rw [q.2, q.1, Nat.add_sub_cancel_left, h] at e
        cases e
      rw [if_neg this]
  · rw [if_neg h1, if_neg (fun q => by omega)]
theorem c_rd {H : QH} {p a i j : Nat} (h : c_j a i = some j) : H (p + a) i = c_get H p j := by
  obtain ⟨h1, h2⟩ := c_i_j h
  unfold c_get
  rw [h1, h2]
theorem c_j0 : c_j 0 1 = some 0 := rfl
theorem c_j1 {b : Nat} (h : b < 6) : c_j 1 b = some (1 + b) := by simp [c_j, h]
theorem c_j2 {b : Nat} (h : b < 6) : c_j 2 b = some (7 + b) := by simp [c_j, h]
theorem c_j3 {b : Nat} (h : b < 6) : c_j 3 b = some (13 + b) := by simp [c_j, h]
theorem c_j4 {b : Nat} (h : b < 4) : c_j 4 b = some (79 + b) := by simp [c_j, h]
theorem c_j5 {b : Nat} (h : b < 36) : c_j 5 b = some (19 + b) := by simp [c_j, h]
theorem c_j6 {b : Nat} (h : b < 24) : c_j 6 b = some (55 + b) := by simp [c_j, h]
