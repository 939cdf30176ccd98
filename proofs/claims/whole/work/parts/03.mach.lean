/-! THE LITTLE MACHINE: values are numbers or typed places (kind, place); a heap is a map place -> index -> Int32; refs in cells are fixed by the shape. A table gives each instruction as a function to one of four forms: go, branch, return, call. -/
abbrev QV : Type := Int32 ⊕ (Int64 ⊕ (Nat × Nat))
abbrev QL : Type := List (Nat × QV)
abbrev QH : Type := Nat → Nat → Int32
abbrev QS : Type := Nat × (QL × (List QV × QH))
abbrev QR : Type := Option QV × QH
abbrev QE : Type := Nat × (List QV × QH)
abbrev QC : Type := (QH → QS) ⊕ ((Int32 → QH → QS) ⊕ ((QH → QS) × (Nat → QH → QS)))
abbrev QW : Type := Int32 × (List (Int32 × QS) × QS)
abbrev QN : Type := Option ((Bool × QS) ⊕ ((Bool × (QS × QS)) ⊕ ((Bool × QR) ⊕ ((Bool × (QE × QC)) ⊕ QW))))
abbrev QO : Type := QL → List QV → QH → QN
abbrev QT : Type := Nat → Nat → Option QO
abbrev QK : Type := Nat → Nat → Option (List Nat)
def q_big : QV → Bool
  | .inr (.inl _) => true
  | _ => false
def q_la : Nat → List QV → QL
  | _, [] => []
  | i, v :: vs => (i, v) :: q_la (cond (q_big v) (i + 2) (i + 1)) vs
def q_lk : QL → Nat → Option QV
  | [], _ => none
  | (j, v) :: l, i => cond (Nat.beq j i) (some v) (q_lk l i)
def q_mem (i : Nat) : List Nat → Bool
  | [] => false
  | j :: l => cond (Nat.beq j i) true (q_mem i l)
def q_kp (ks : List Nat) : QL → QL
  | [] => []
  | (j, v) :: l => cond (q_mem j ks) ((j, v) :: q_kp ks l) (q_kp ks l)
def q_rm (i : Nat) : QL → QL
  | [] => []
  | (j, v) :: l => cond (Nat.beq j i) (q_rm i l) (cond (cond (Nat.beq (j + 1) i) (q_big v) false) (q_rm i l) ((j, v) :: q_rm i l))
def q_in (i : Nat) (v : QV) : QL → QL
  | [] => [(i, v)]
  | (j, w) :: l => cond (Nat.ble i j) ((i, v) :: (j, w) :: l) ((j, w) :: q_in i v l)
def q_st (i : Nat) (v : QV) (l : QL) : QL := q_in i v (q_rm i l)
def q_st2 (i : Nat) (v : QV) (l : QL) : QL := q_in i v (q_rm (i + 1) (q_rm i l))
def q_cV (r : Option QR) (k : QH → Option QR) : Option QR := match r with
  | some (none, H) => k H
  | _ => none
def q_cI (r : Option QR) (k : Int32 → QH → Option QR) : Option QR := match r with
  | some (some (.inl x), H) => k x H
  | _ => none
def q_cR (r : Option QR) (k0 : QH → Option QR) (k5 : Nat → QH → Option QR) : Option QR := match r with
  | some (some (.inr (.inr (0, _))), H) => k0 H
  | some (some (.inr (.inr (5, p))), H) => k5 p H
  | _ => none
def q_pick (x : Int32) (d : QS) : List (Int32 × QS) → QS
  | [] => d
  | (k, t) :: l => if x = k then t else q_pick x d l
def q_sw (K : QS → Option QR) (x : Int32) (d : QS) : List (Int32 × QS) → Option QR
  | [] => K d
  | (k, t) :: l => cond (decide (x = k)) (K t) (q_sw K x d l)
theorem q_sw_eq (K : QS → Option QR) (x : Int32) (d : QS) (l : List (Int32 × QS)) : q_sw K x d l = K (q_pick x d l) := by
  induction l with
  | nil => rfl
  | cons q l ih =>
    obtain ⟨k, t⟩ := q
    unfold q_sw q_pick
    by_cases h : x = k
    · simp [h]
    · simp [h, ih]
def q_run (Kc : QE → Option QR) (K : QS → Option QR) : QN → Option QR
  | none => none
  | some (.inl (b, t)) => cond b (K t) none
  | some (.inr (.inl (b, (t, u)))) => cond b (K t) (K u)
  | some (.inr (.inr (.inl (b, r)))) => cond b (some r) none
  | some (.inr (.inr (.inr (.inl (b, (e, .inl f)))))) => cond b (q_cV (Kc e) (fun H => K (f H))) none
  | some (.inr (.inr (.inr (.inl (b, (e, .inr (.inl f))))))) => cond b (q_cI (Kc e) (fun x H => K (f x H))) none
  | some (.inr (.inr (.inr (.inl (b, (e, .inr (.inr (f, g)))))))) => cond b (q_cR (Kc e) (fun H => K (f H)) (fun p H => K (g p H))) none
  | some (.inr (.inr (.inr (.inr (x, (l, d)))))) => q_sw K x d l
theorem q_cV_some {r : Option QR} {k : QH → Option QR} {z : QR} (h : q_cV r k = some z) : ∃ H, r = some (none, H) ∧ k H = some z := by
  unfold q_cV at h
  split at h
  · exact ⟨_, rfl, h⟩
  · cases h
theorem q_cI_some {r : Option QR} {k : Int32 → QH → Option QR} {z : QR} (h : q_cI r k = some z) : ∃ x H, r = some (some (.inl x), H) ∧ k x H = some z := by
  unfold q_cI at h
  split at h
  · exact ⟨_, _, rfl, h⟩
  · cases h
theorem q_cR_some {r : Option QR} {k0 : QH → Option QR} {k5 : Nat → QH → Option QR} {z : QR} (h : q_cR r k0 k5 = some z) : (∃ y H, r = some (some (.inr (.inr (0, y))), H) ∧ k0 H = some z) ∨ (∃ p H, r = some (some (.inr (.inr (5, p))), H) ∧ k5 p H = some z) := by
  unfold q_cR at h
  split at h
  · exact Or.inl ⟨_, _, rfl, h⟩
  · exact Or.inr ⟨_, _, rfl, h⟩
  · cases h
theorem q_cond {b : Bool} {x : Option QR} {z : QR} (h : cond b x none = some z) : b = true ∧ x = some z := by
  cases b
  · cases h
  · exact ⟨rfl, h⟩
/-- what a run used is used at finitely many places: it is kept when the two maps grow -/
theorem q_run_mono {Kc Kc' : QE → Option QR} {K K' : QS → Option QR} (hc : ∀ e r, Kc e = some r → Kc' e = some r) (hk : ∀ t r, K t = some r → K' t = some r) : ∀ (N : QN) (r : QR), q_run Kc K N = some r → q_run Kc' K' N = some r
  | none, r, h => by cases h
  | some (.inl (b, t)), r, h => by
    obtain ⟨rfl, h2⟩ := q_cond h
    exact hk _ _ h2
  | some (.inr (.inl (b, (t, u)))), r, h => by
    cases b
    · exact hk u r h
    · exact hk t r h
  | some (.inr (.inr (.inl (b, z)))), r, h => h
  | some (.inr (.inr (.inr (.inl (b, (e, .inl f)))))), r, h => by
    obtain ⟨rfl, h2⟩ := q_cond h
    obtain ⟨H, h3, h4⟩ := q_cV_some h2
    show q_cV (Kc' e) _ = some r
    rw [hc _ _ h3]
    exact hk _ _ h4
  | some (.inr (.inr (.inr (.inl (b, (e, .inr (.inl f))))))), r, h => by
    obtain ⟨rfl, h2⟩ := q_cond h
    obtain ⟨x, H, h3, h4⟩ := q_cI_some h2
    show q_cI (Kc' e) _ = some r
    rw [hc _ _ h3]
    exact hk _ _ h4
  | some (.inr (.inr (.inr (.inl (b, (e, .inr (.inr (f, g)))))))), r, h => by
    obtain ⟨rfl, h2⟩ := q_cond h
    show q_cR (Kc' e) _ _ = some r
    rcases q_cR_some h2 with ⟨y, H, h3, h4⟩ | ⟨y, H, h3, h4⟩
    · rw [hc _ _ h3]; exact hk _ _ h4
    · rw [hc _ _ h3]; exact hk _ _ h4
  | some (.inr (.inr (.inr (.inr (x, (l, d)))))), r, h => by
    have h : q_sw K x d l = some r := h
    show q_sw K' x d l = some r
    rw [q_sw_eq] at h ⊢
    exact hk _ _ h
theorem q_run_cont {Kc : Nat → QE → Option QR} {K : Nat → QS → Option QR} {Lc : QE → Option QR} {L : QS → Option QR} (mc : ∀ i j e r, i ≤ j → Kc i e = some r → Kc j e = some r) (mk : ∀ i j t r, i ≤ j → K i t = some r → K j t = some r) (hc : ∀ e r, Lc e = some r → ∃ n, Kc n e = some r) (hk : ∀ t r, L t = some r → ∃ n, K n t = some r) : ∀ (N : QN) (r : QR), q_run Lc L N = some r → ∃ n, q_run (Kc n) (K n) N = some r
  | none, r, h => by cases h
  | some (.inl (b, t)), r, h => by
    obtain ⟨rfl, h2⟩ := q_cond h
    exact hk _ _ h2
  | some (.inr (.inl (b, (t, u)))), r, h => by
    cases b
    · exact hk u r h
    · exact hk t r h
  | some (.inr (.inr (.inl (b, z)))), r, h => ⟨0, h⟩
  | some (.inr (.inr (.inr (.inl (b, (e, .inl f)))))), r, h => by
    obtain ⟨rfl, h2⟩ := q_cond h
    obtain ⟨H, h3, h4⟩ := q_cV_some h2
    obtain ⟨n1, e1⟩ := hc _ _ h3
    obtain ⟨n2, e2⟩ := hk _ _ h4
    refine ⟨max n1 n2, ?_⟩
    show q_cV (Kc (max n1 n2) e) _ = some r
    rw [mc _ _ _ _ (Nat.le_max_left n1 n2) e1]
    exact mk _ _ _ _ (Nat.le_max_right n1 n2) e2
  | some (.inr (.inr (.inr (.inl (b, (e, .inr (.inl f))))))), r, h => by
    obtain ⟨rfl, h2⟩ := q_cond h
    obtain ⟨x, H, h3, h4⟩ := q_cI_some h2
    obtain ⟨n1, e1⟩ := hc _ _ h3
    obtain ⟨n2, e2⟩ := hk _ _ h4
    refine ⟨max n1 n2, ?_⟩
    show q_cI (Kc (max n1 n2) e) _ = some r
    rw [mc _ _ _ _ (Nat.le_max_left n1 n2) e1]
    exact mk _ _ _ _ (Nat.le_max_right n1 n2) e2
  | some (.inr (.inr (.inr (.inl (b, (e, .inr (.inr (f, g)))))))), r, h => by
    obtain ⟨rfl, h2⟩ := q_cond h
    rcases q_cR_some h2 with ⟨y, H, h3, h4⟩ | ⟨y, H, h3, h4⟩
    · obtain ⟨n1, e1⟩ := hc _ _ h3
      obtain ⟨n2, e2⟩ := hk _ _ h4
      refine ⟨max n1 n2, ?_⟩
      show q_cR (Kc (max n1 n2) e) _ _ = some r
      rw [mc _ _ _ _ (Nat.le_max_left n1 n2) e1]
      exact mk _ _ _ _ (Nat.le_max_right n1 n2) e2
    · obtain ⟨n1, e1⟩ := hc _ _ h3
      obtain ⟨n2, e2⟩ := hk _ _ h4
      refine ⟨max n1 n2, ?_⟩
      show q_cR (Kc (max n1 n2) e) _ _ = some r
      rw [mc _ _ _ _ (Nat.le_max_left n1 n2) e1]
      exact mk _ _ _ _ (Nat.le_max_right n1 n2) e2
  | some (.inr (.inr (.inr (.inr (x, (l, d)))))), r, h => by
    have h : q_sw L x d l = some r := h
    rw [q_sw_eq] at h
    obtain ⟨n, hn⟩ := hk _ _ h
    exact ⟨n, by show q_sw (K n) x d l = some r; rw [q_sw_eq]; exact hn⟩
def q_cut (kp : QK) (mid : Nat) (t : QS) : QS := match kp mid t.1 with
  | some ks => (t.1, (q_kp ks t.2.1, t.2.2))
  | none => t
def q_step (tb : QT) (Kc : QE → Option QR) (K : QS → Option QR) (mid : Nat) (t : QS) : Option QR := match tb mid t.1 with
  | some o => q_run Kc K (o t.2.1 t.2.2.1 t.2.2.2)
  | none => none
def q_ev (tb : QT) (kp : QK) : Nat → Nat → Nat → QS → Option QR
  | 0, _, _, _ => none
  | _ + 1, 0, _, _ => none
  | n + 1, d + 1, mid, t => q_step tb (fun e => q_ev tb kp n d e.1 (0, (q_la 0 e.2.1, ([], e.2.2)))) (fun u => q_ev tb kp n (d + 1) mid (q_cut kp mid u)) mid t
theorem q_step_mono {tb : QT} {Kc Kc' : QE → Option QR} {K K' : QS → Option QR} {mid : Nat} {t : QS} {r : QR} (hc : ∀ e r, Kc e = some r → Kc' e = some r) (hk : ∀ t r, K t = some r → K' t = some r) (h : q_step tb Kc K mid t = some r) : q_step tb Kc' K' mid t = some r := by
  unfold q_step at h ⊢
  split at h
  · rename_i o ho
    exact q_run_mono hc hk _ _ h
  · cases h
theorem q_ev_succ (tb : QT) (kp : QK) : ∀ (n d mid : Nat) (t : QS) (r : QR), q_ev tb kp n d mid t = some r → q_ev tb kp (n + 1) d mid t = some r := by
  intro n
  induction n with
  | zero => intro d mid t r h; cases h
  | succ n ih =>
    intro d mid t r h
    cases d with
    | zero => cases h
    | succ d =>
      show q_step tb _ _ mid t = some r
      exact q_step_mono (fun e r h => ih _ _ _ _ h) (fun t r h => ih _ _ _ _ h) h
theorem q_ev_le (tb : QT) (kp : QK) {i j d mid : Nat} {t : QS} {r : QR} (hij : i ≤ j) (h : q_ev tb kp i d mid t = some r) : q_ev tb kp j d mid t = some r := by
  induction hij with
  | refl => exact h
  | step _ ih => exact q_ev_succ tb kp _ _ _ _ _ ih
noncomputable def q_EV (tb : QT) (kp : QK) (d mid : Nat) (t : QS) : Option QR := by
  classical
  exact if h : ∃ r n, q_ev tb kp n d mid t = some r then some (Classical.choose h) else none
theorem q_EV_iff (tb : QT) (kp : QK) (d mid : Nat) (t : QS) (r : QR) : q_EV tb kp d mid t = some r ↔ ∃ n, q_ev tb kp n d mid t = some r := by
  classical
  unfold q_EV
  constructor
  · intro h
    split at h
    · rename_i hx
      cases h
      exact Classical.choose_spec hx
    · cases h
  · rintro ⟨n, hn⟩
    have hx : ∃ r n, q_ev tb kp n d mid t = some r := ⟨r, n, hn⟩
    rw [dif_pos hx]
    obtain ⟨m, hm⟩ := Classical.choose_spec hx
    have h1 := q_ev_le tb kp (Nat.le_max_left n m) hn
    have h2 := q_ev_le tb kp (Nat.le_max_right n m) hm
    rw [h1] at h2
    exact h2.symm
theorem q_oext {a b : Option QR} (h : ∀ r, a = some r ↔ b = some r) : a = b := by
  cases a with
  | none =>
    cases b with
    | none => rfl
    | some y => exact absurd ((h y).mpr rfl) (by simp)
  | some x => exact ((h x).mp rfl).symm
/-- a method's run from its entry -/
noncomputable def q_CL (tb : QT) (kp : QK) (d : Nat) (e : QE) : Option QR := q_EV tb kp d e.1 (0, (q_la 0 e.2.1, ([], e.2.2)))
theorem q_EV_eq (tb : QT) (kp : QK) (d mid : Nat) (t : QS) : q_EV tb kp (d + 1) mid t = q_step tb (q_CL tb kp d) (fun u => q_EV tb kp (d + 1) mid (q_cut kp mid u)) mid t := by
  refine q_oext fun r => ⟨fun h => ?_, fun h => ?_⟩
  · obtain ⟨n, hn⟩ := (q_EV_iff tb kp _ _ _ _).mp h
    cases n with
    | zero => cases hn
    | succ n => exact q_step_mono (fun e r h => (q_EV_iff tb kp _ _ _ _).mpr ⟨n, h⟩) (fun t r h => (q_EV_iff tb kp _ _ _ _).mpr ⟨n, h⟩) hn
  · unfold q_step at h
    split at h
    · rename_i o ho
      obtain ⟨n, hn⟩ := q_run_cont (Kc := fun n e => q_ev tb kp n d e.1 (0, (q_la 0 e.2.1, ([], e.2.2)))) (K := fun n u => q_ev tb kp n (d + 1) mid (q_cut kp mid u)) (fun i j e r hij h => q_ev_le tb kp hij h) (fun i j t r hij h => q_ev_le tb kp hij h) (fun e r h => (q_EV_iff tb kp _ _ _ _).mp h) (fun t r h => (q_EV_iff tb kp _ _ _ _).mp h) _ _ h
      refine (q_EV_iff tb kp _ _ _ _).mpr ⟨n + 1, ?_⟩
      show q_step tb _ _ mid t = some r
      unfold q_step
      rw [ho]
      exact hn
    · cases h
noncomputable def q_go (tb : QT) (kp : QK) (d mid : Nat) : Nat → QS → Option QR
  | 0, t => q_EV tb kp (d + 1) mid t
  | k + 1, t => q_step tb (q_CL tb kp d) (fun u => match kp mid u.1 with
    | some ks => q_EV tb kp (d + 1) mid (u.1, (q_kp ks u.2.1, u.2.2))
    | none => q_go tb kp d mid k u) mid t
theorem q_go_eq (tb : QT) (kp : QK) (d mid : Nat) : ∀ (k : Nat) (t : QS), q_go tb kp d mid k t = q_EV tb kp (d + 1) mid t := by
  intro k
  induction k with
  | zero => intro t; rfl
  | succ k ih =>
    intro t
    rw [q_EV_eq]
    show q_step tb _ _ mid t = _
    have e : (fun u : QS => match kp mid u.1 with
      | some ks => q_EV tb kp (d + 1) mid (u.1, (q_kp ks u.2.1, u.2.2))
      | none => q_go tb kp d mid k u) = (fun u => q_EV tb kp (d + 1) mid (q_cut kp mid u)) := by
      funext u
      unfold q_cut
      split
      · rfl
      · exact ih u
    rw [e]
