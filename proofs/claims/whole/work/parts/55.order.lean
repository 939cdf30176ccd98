/-! THE ORDER, apart from the machines -/
def z_fl {σ : Type} (f : Nat → σ → σ) : Nat → Nat → σ → σ
  | 0, _, a => a
  | n + 1, i, a => z_fl f n (i + 1) (f i a)
theorem z_fl_congr {σ : Type} {f g : Nat → σ → σ} : ∀ (n i : Nat) (a : σ), (∀ j b, i ≤ j → j < i + n → f j b = g j b) → z_fl f n i a = z_fl g n i a := by
  intro n
  induction n with
  | zero => intro i a _; rfl
  | succ n ih =>
    intro i a h
    unfold z_fl
    rw [h i a (Nat.le_refl _) (by omega)]
    exact ih (i + 1) _ (fun j b h1 h2 => h j b (by omega) (by omega))
theorem z_fl_id {σ : Type} {f : Nat → σ → σ} {a : σ} : ∀ (n i : Nat), (∀ j, i ≤ j → j < i + n → f j a = a) → z_fl f n i a = a := by
  intro n
  induction n with
  | zero => intro i _; rfl
  | succ n ih =>
    intro i h
    unfold z_fl
    rw [h i (Nat.le_refl _) (by omega)]
    exact ih (i + 1) (fun j h1 h2 => h j (by omega) (by omega))
def z_hs (B : SB) (w : SW) : Nat := z_fold (sNs B) (fun s a => a + (w (79 + s)).toNatClampNeg) 0
def o_ask (B : SB) (w : SW) (b : Nat) : SW := z_asks B b (z_hs B w) w
def o_cnt (B : SB) (c : Nat → Bool) (w : SW) : Nat := z_fold (sNb B) (fun b a => if c b = true ∧ ¬ w (7 + b) = nI 0 then a + 1 else a) 0
abbrev OA : Type := Option (Nat × List Nat)
def o_leaf (out : Nat) (p : List Nat) (a : OA) : OA := match a with
  | none => some (out, p)
  | some v => if v.1 < out then some (out, p) else some v
def o_X (B : SB) (c : Nat → Bool) : Nat → SW → Nat → List Nat → OA → OA
  | 0, w, _, p, a => o_leaf (o_cnt B c w) p a
  | n + 1, w, m, p, a => z_fl (fun b a => if m / 2 ^ b % 2 = 1 ∨ c b = false then a else o_X B c n (o_ask B w b) (m ||| 2 ^ b) (p ++ [b]) a) (sNb B) 0 a
def o_pr (k : Nat) : OA → Bool
  | none => false
  | some v => decide (k ≤ v.1)
def o_C (B : SB) (c : Nat → Bool) : Nat → SW → Nat → List Nat → OA → OA
  | 0, w, _, p, a => if o_pr (o_cnt B c w) a = true then a else some (o_cnt B c w, p)
  | n + 1, w, m, p, a => if o_pr (o_cnt B c w + (n + 1)) a = true then a else z_fl (fun b a => if m / 2 ^ b % 2 = 1 ∨ c b = false then a else o_C B c n (o_ask B w b) (m ||| 2 ^ b) (p ++ [b]) a) (sNb B) 0 a
theorem z_says_pl {B : SB} {w : SW} {s b k o : Nat} (hb : b < 6) (ho : o < 6) (h : o ≠ b) : z_says B w s b k (7 + o) = w (7 + o) := by
  unfold z_says
  rw [z_soften_ne (by omega) (by omega)]
  unfold z_hear
  rw [if_neg (by omega), pk_un (by omega)]
theorem z_says_b {B : SB} {w : SW} {s b k : Nat} (hb : b < 6) (h : w (7 + b) = nI 0) : z_says B w s b k (7 + b) = nI 0 ∨ z_says B w s b k (7 + b) = nI 1 := by
  unfold z_says z_soften
  split
  · left
    rw [pk_un (by omega)]
    unfold z_hear
    rw [if_neg (by omega), pk_un (by omega)]
    exact h
  · right
    rw [pk_us]
theorem z_asks_pl {B : SB} {b o : Nat} (hb : b < 6) (ho : o < 6) (h : o ≠ b) : ∀ (n : Nat) (w : SW), z_asks B b n w (7 + o) = w (7 + o) := by
  intro n
  induction n with
  | zero => intro w; rfl
  | succ n ih =>
    intro w
    unfold z_asks
    by_cases c : w (7 + b) = nI 0
    · rw [if_pos c]
      cases e : z_best B w b with
      | none => rfl
      | some v =>
        show z_asks B b n (z_says B w v.1 b v.2) (7 + o) = w (7 + o)
        rw [ih, z_says_pl hb ho h]
    · rw [if_neg c]
theorem z_asks_b {B : SB} {b : Nat} (hb : b < 6) : ∀ (n : Nat) (w : SW), (w (7 + b) = nI 0 ∨ w (7 + b) = nI 1) → z_asks B b n w (7 + b) = nI 0 ∨ z_asks B b n w (7 + b) = nI 1 := by
  intro n
  induction n with
  | zero => intro w h; exact h
  | succ n ih =>
    intro w h
    unfold z_asks
    by_cases c : w (7 + b) = nI 0
    · rw [if_pos c]
      cases e : z_best B w b with
      | none => exact h
      | some v => exact ih _ (z_says_b hb c)
    · rw [if_neg c]
      exact h
theorem z_asks_out {B : SB} {b n : Nat} {w : SW} (h : ¬ w (7 + b) = nI 0) : z_asks B b n w = w := by
  cases n with
  | zero => rfl
  | succ n =>
    unfold z_asks
    rw [if_neg h]
theorem o_cnt_ask {B : SB} {c : Nat → Bool} {v w : SW} {b : Nat} (hb : b < sNb B) (hc : c b = true) (hw : w (7 + b) = nI 0) (h : ∀ o, o < sNb B → o ≠ b → v (7 + o) = w (7 + o)) : o_cnt B c v = if v (7 + b) = nI 0 then o_cnt B c w else o_cnt B c w + 1 := by
  have key : ∀ i, i ≤ sNb B → (i ≤ b → z_fold i (fun b a => if c b = true ∧ ¬ v (7 + b) = nI 0 then a + 1 else a) 0 = z_fold i (fun b a => if c b = true ∧ ¬ w (7 + b) = nI 0 then a + 1 else a) 0) ∧ (b < i → z_fold i (fun b a => if c b = true ∧ ¬ v (7 + b) = nI 0 then a + 1 else a) 0 = if v (7 + b) = nI 0 then z_fold i (fun b a => if c b = true ∧ ¬ w (7 + b) = nI 0 then a + 1 else a) 0 else z_fold i (fun b a => if c b = true ∧ ¬ w (7 + b) = nI 0 then a + 1 else a) 0 + 1) := by
    intro i
    induction i with
    | zero => intro _; exact ⟨fun _ => rfl, fun h => absurd h (Nat.not_lt_zero _)⟩
    | succ i ih =>
      intro hi
      obtain ⟨h1, h2⟩ := ih (by omega)
      have sv : ∀ u : SW, z_fold (i + 1) (fun b a => if c b = true ∧ ¬ u (7 + b) = nI 0 then a + 1 else a) 0 = if c i = true ∧ ¬ u (7 + i) = nI 0 then z_fold i (fun b a => if c b = true ∧ ¬ u (7 + b) = nI 0 then a + 1 else a) 0 + 1 else z_fold i (fun b a => if c b = true ∧ ¬ u (7 + b) = nI 0 then a + 1 else a) 0 := fun u => rfl
      rw [sv v, sv w]
      refine ⟨fun hib => ?_, fun hib => ?_⟩
      · rw [h1 (by omega), h i (by omega) (by omega)]
      · by_cases e : i = b
        · subst e
          rw [h1 (Nat.le_refl _), if_neg (fun q => q.2 hw : ¬ (c i = true ∧ ¬ w (7 + i) = nI 0))]
          by_cases q : v (7 + i) = nI 0
          · rw [if_neg (fun k => k.2 q), if_pos q]
          · rw [if_pos ⟨hc, q⟩, if_neg q]
        · rw [h2 (by omega), h i (by omega) e]
          by_cases q : v (7 + b) = nI 0
          · simp only [if_pos q]
          · simp only [if_neg q]
            split <;> rfl
  exact (key (sNb B) (Nat.le_refl _)).2 hb
theorem o_cnt_le {B : SB} {c : Nat → Bool} {w : SW} (hs : q_sB B) : o_cnt B c w ≤ 6 := by
  obtain ⟨⟨g1, g2⟩, -⟩ := hs
  have := z_fold_inv (fun i (a : Nat) => a ≤ i) (sNb B) (fun b a => if c b = true ∧ ¬ w (7 + b) = nI 0 then a + 1 else a) 0 (Nat.le_refl _) (fun b a _ h => by
    show (if c b = true ∧ ¬ w (7 + b) = nI 0 then a + 1 else a) ≤ b + 1
    split <;> omega)
  unfold o_cnt
  omega
theorem o_cnt_up {B : SB} {c : Nat → Bool} {w : SW} {b : Nat} (hs : q_sB B) (hb : b < sNb B) (hc : c b = true) : o_cnt B c (o_ask B w b) ≤ o_cnt B c w + 1 := by
  obtain ⟨⟨g1, g2⟩, -⟩ := hs
  by_cases hw : w (7 + b) = nI 0
  · rw [o_cnt_ask (v := o_ask B w b) (w := w) hb hc hw (fun o ho he => z_asks_pl (by omega) (by omega) he _ _)]
    split <;> omega
  · unfold o_ask
    rw [z_asks_out hw]
    omega
theorem o_X_pr {B : SB} {c : Nat → Bool} (hs : q_sB B) : ∀ (n : Nat) (w : SW) (m : Nat) (p : List Nat) (v : Nat × List Nat), o_cnt B c w + n ≤ v.1 → o_X B c n w m p (some v) = some v := by
  intro n
  induction n with
  | zero =>
    intro w m p v h
    show (if v.1 < o_cnt B c w then some (o_cnt B c w, p) else some v) = some v
    rw [if_neg (by omega)]
  | succ n ih =>
    intro w m p v h
    refine z_fl_id _ _ (fun b h1 h2 => ?_)
    show (if m / 2 ^ b % 2 = 1 ∨ c b = false then some v else _) = some v
    by_cases k : m / 2 ^ b % 2 = 1 ∨ c b = false
    · rw [if_pos k]
    · rw [if_neg k]
      refine ih _ _ _ v ?_
      have hc : c b = true := by
        cases e : c b with
        | true => rfl
        | false => exact absurd (Or.inr e) k
      have := o_cnt_up (w := w) hs (show b < sNb B by omega) hc
      omega
theorem o_C_X {B : SB} {c : Nat → Bool} (hs : q_sB B) : ∀ (n : Nat) (w : SW) (m : Nat) (p : List Nat) (a : OA), o_C B c n w m p a = o_X B c n w m p a := by
  intro n
  induction n with
  | zero =>
    intro w m p a
    unfold o_C o_X o_leaf
    cases a with
    | none => rfl
    | some v =>
      show (if decide (o_cnt B c w ≤ v.1) = true then some v else some (o_cnt B c w, p)) = if v.1 < o_cnt B c w then some (o_cnt B c w, p) else some v
      by_cases k : o_cnt B c w ≤ v.1
      · rw [if_pos (decide_eq_true k), if_neg (by omega)]
      · rw [if_neg (fun q => k (of_decide_eq_true q)), if_pos (by omega)]
  | succ n ih =>
    intro w m p a
    have e : z_fl (fun b a => if m / 2 ^ b % 2 = 1 ∨ c b = false then a else o_C B c n (o_ask B w b) (m ||| 2 ^ b) (p ++ [b]) a) (sNb B) 0 a = o_X B c (n + 1) w m p a := by
      refine z_fl_congr _ _ _ (fun b a _ _ => ?_)
      by_cases k : m / 2 ^ b % 2 = 1 ∨ c b = false
      · rw [if_pos k, if_pos k]
      · rw [if_neg k, if_neg k, ih]
    show (if o_pr (o_cnt B c w + (n + 1)) a = true then a else _) = _
    rw [e]
    cases a with
    | none => rfl
    | some v =>
      show (if decide (o_cnt B c w + (n + 1) ≤ v.1) = true then some v else _) = _
      by_cases k : o_cnt B c w + (n + 1) ≤ v.1
      · rw [if_pos (decide_eq_true k), o_X_pr hs (n + 1) w m p v k]
      · rw [if_neg (fun q => k (of_decide_eq_true q))]
/-! asking: all hours -/
theorem z_hs_I {B : SB} {w : SW} {N : Nat} (hv : q_vw B N w) : z_fold (sNs B) (fun s a => a + w (79 + s)) (nI 0) = nI (z_hs B w) := by
  have key : ∀ i, i ≤ sNs B → z_fold i (fun s a => a + w (79 + s)) (nI 0) = nI (z_fold i (fun s a => a + (w (79 + s)).toNatClampNeg) 0) := by
    intro i
    induction i with
    | zero => intro _; rfl
    | succ i ih =>
      intro hi
      show z_fold i _ _ + w (79 + i) = nI (z_fold i _ _ + (w (79 + i)).toNatClampNeg)
      obtain ⟨m, hm, em⟩ := hv.2.2 i (by omega)
      rw [ih (by omega), em, q_cl_nI (by omega), nI_add]
  exact key _ (Nat.le_refl _)
theorem z_hs_le {B : SB} {w : SW} {N : Nat} (hs : q_sB B) (hv : q_vw B N w) : z_hs B w ≤ 36 := by
  obtain ⟨-, -, ⟨g5, g6⟩, -⟩ := hs
  have := z_fold_inv (fun i (a : Nat) => a ≤ 9 * i) (sNs B) (fun s a => a + (w (79 + s)).toNatClampNeg) 0 (Nat.le_refl _) (fun s a h k => by
    obtain ⟨m, hm, em⟩ := hv.2.2 s h
    show a + (w (79 + s)).toNatClampNeg ≤ 9 * (s + 1)
    rw [em, q_cl_nI (by omega)]
    omega)
  unfold z_hs
  omega
theorem z_hs_ag {B : SB} {v w : SW} (h : q_ag B v w) : z_hs B v = z_hs B w := z_fold_congr _ _ _ _ (fun s a hs => by rw [h (79 + s) (by omega)])
theorem z_says_ho {B : SB} {w : SW} {s s' b k : Nat} (hs : q_sB B) (hb : b < sNb B) (h : s' ≠ s) : z_says B w s b k (79 + s') = w (79 + s') := by
  obtain ⟨⟨g1, g2⟩, -⟩ := hs
  unfold z_says
  rw [z_soften_ne (by omega) (by omega)]
  unfold z_hear
  rw [if_neg (by omega), pk_un (by omega)]
theorem z_sum_dec {f g : Nat → Nat} {s : Nat} (h : ∀ t, t ≠ s → f t = g t) (h1 : f s + 1 = g s) : ∀ n, (n ≤ s → z_sum n f = z_sum n g) ∧ (s < n → z_sum n f + 1 = z_sum n g) := by
  intro n
  induction n with
  | zero => exact ⟨fun _ => rfl, fun h => absurd h (Nat.not_lt_zero _)⟩
  | succ n ih =>
    obtain ⟨q1, q2⟩ := ih
    rw [z_sum_s, z_sum_s]
    refine ⟨fun k1 => ?_, fun k1 => ?_⟩
    · rw [q1 (by omega), h n (by omega)]
    · by_cases e : n = s
      · subst e
        rw [q1 (Nat.le_refl _)]
        omega
      · have := q2 (by omega)
        rw [h n e]
        omega
theorem z_hs_sum (B : SB) (w : SW) : z_hs B w = z_sum (sNs B) (fun s => (w (79 + s)).toNatClampNeg) := rfl
theorem z_hs_says {B : SB} {w : SW} {s b k N : Nat} (hs : q_sB B) (hb : b < sNb B) (h1 : s < sNs B) (hv : q_vw B N w) (h0 : nI 0 < w (79 + s)) : z_hs B (z_says B w s b k) + 1 = z_hs B w := by
  rw [z_hs_sum, z_hs_sum]
  refine (z_sum_dec (f := fun t => (z_says B w s b k (79 + t)).toNatClampNeg) (g := fun t => (w (79 + t)).toNatClampNeg) (s := s) (fun t ht => congrArg Int32.toNatClampNeg (z_says_ho hs hb ht)) ?_ (sNs B)).2 h1
  obtain ⟨m, hm, em⟩ := hv.2.2 s h1
  rw [em, nI_ltI (by omega) (by omega)] at h0
  have e1 : (z_says B w s b k (79 + s)).toNatClampNeg = m - 1 := by
    rw [z_says_far hs hb, em, pk_sub (by omega), q_cl_nI (by omega)]
  have e2 : (w (79 + s)).toNatClampNeg = m := by rw [em, q_cl_nI (by omega)]
  show (z_says B w s b k (79 + s)).toNatClampNeg + 1 = (w (79 + s)).toNatClampNeg
  rw [e1, e2]
  omega
theorem vw_asks {B : SB} {b : Nat} (hs : q_sB B) (hb : b < sNb B) : ∀ (n N : Nat) (w : SW), q_vw B N w → N + n < 1000000 → q_vw B (N + n) (z_asks B b n w) ∧ z_fr B (z_asks B b n w) w := by
  intro n
  induction n with
  | zero => intro N w h _; exact ⟨h, fr_rf B w⟩
  | succ n ih =>
    intro N w h hN
    unfold z_asks
    by_cases c : w (7 + b) = nI 0
    · rw [if_pos c]
      rcases z_best_in B w b with e | ⟨s, k, e1, e2, e3, e4⟩
      · rw [e]
        exact ⟨vw_mono h (by omega), fr_rf B w⟩
      · rw [e3]
        obtain ⟨k1, k2⟩ := ih (N + 1) (z_says B w s b k) (vw_says hs h (by omega) e1 hb e2 c e4) (by omega)
        exact ⟨by rw [show N + (n + 1) = N + 1 + n by omega]; exact k1, fr_tr k2 (fr_says hs e1 hb)⟩
    · rw [if_neg c]
      exact ⟨vw_mono h (by omega), fr_rf B w⟩
theorem vw_ask {B : SB} {b N : Nat} {w : SW} (hs : q_sB B) (hb : b < sNb B) (h : q_vw B N w) (hN : N < 900000) : q_vw B (N + 36) (o_ask B w b) ∧ z_fr B (o_ask B w b) w := by
  have hl := z_hs_le hs h
  obtain ⟨k1, k2⟩ := vw_asks hs hb (z_hs B w) N w h (by omega)
  exact ⟨vw_mono k1 (by omega), k2⟩
theorem ag_ask {B : SB} {b : Nat} {v w : SW} (hs : q_sB B) (hb : b < sNb B) (h : q_ag B v w) : q_ag B (o_ask B v b) (o_ask B w b) := by
  unfold o_ask
  rw [z_hs_ag h]
  exact ag_asks hs hb _ v w h
theorem q_askAll (sx : QX) (d p b N : Nat) (H : QH) (B : SB) (hB : q_rB H B) (hs : q_sB B) (hp : 13 ≤ p) (hv : q_vw B N (c_get H p)) (hN : N < 900000) (h2 : b < sNb B) : q_CL (q_tb sx) q_kpt (d + 5) (39, ([vr 5 p, vn b], H)) = rV (c_put H p (o_ask B (c_get H p) b)) := by
  refine (b_X3_askAll_0 sx (d + 4) p (nI b) H).trans ?_
  rw [q_hoursLeft sx (d + 2) p H B hB hs, q_cIs, z_hs_I hv]
  have hl := z_hs_le hs hv
  exact q_askAll_loop sx d p b B hs hp h2 (z_hs B (c_get H p)) H N hB hv.1 (by omega)
theorem z_code_m4 {s k : Nat} (hs : s < 4) (hk : k < 6) : ¬ z_code (some (s, k)) = -4 := z_codeW_m4 (k := 10 * s + k) (by omega)
theorem z_best_0 {B : SB} {w : SW} {b N : Nat} (hv : q_vw B N w) (h : z_hs B w = 0) : z_best B w b = none := by
  rcases z_best_in B w b with e | ⟨s, k, e1, e2, e3, e4⟩
  · exact e
  · exfalso
    obtain ⟨m, hm, em⟩ := hv.2.2 s e1
    rw [em, nI_ltI (by omega) (by omega)] at e4
    have key : ∀ i, i ≤ sNs B → s < i → m ≤ z_fold i (fun t a => a + (w (79 + t)).toNatClampNeg) 0 := by
      intro i
      induction i with
      | zero => intro _ h; omega
      | succ i ih =>
        intro hi hsi
        show m ≤ z_fold i _ 0 + (w (79 + i)).toNatClampNeg
        by_cases c : i = s
        · subst c
          rw [em, q_cl_nI (by omega)]
          omega
        · have := ih (by omega) (by omega)
          omega
    have := key (sNs B) (Nat.le_refl _) e1
    unfold z_hs at h
    omega
theorem m_asksL (sx : QX) (d r b : Nat) (B : SB) (hs : q_sB B) (hb : b < sNb B) (hr : r + 83 ≤ 1577) : ∀ (n N : Nat) (H : QH), q_mB H B → q_vw B N (m_get H r) → N + n < 900000 → z_hs B (m_get H r) = n → q_EV (q_tb sx) q_kpt (d + 5) 157 (7, ([(0, vr 9 165), (1, vn r), (2, vn b), (3, vi (z_code (z_best B (m_get H r) b)))], ([], H))) = rV (m_put H r (z_asks B b n (m_get H r))) := by
  have hs' := hs
  obtain ⟨⟨g1, g2⟩, ⟨g3, g4⟩, ⟨g5, g6⟩, -⟩ := hs'
  intro n
  induction n with
  | zero =>
    intro N H hB hv hN hn
    refine (b_X7_asks_7 sx (d + 4) (nI r) (nI b) _ H).trans ?_
    rw [m_inBed sx _ r b H B hB hs hr (by omega), q_cIs, z_best_0 hv hn, show z_asks B b 0 (m_get H r) = m_get H r from rfl, m_put_get]
    cases z_in B (m_get H r) b <;> rfl
  | succ n ih =>
    intro N H hB hv hN hn
    refine (b_X7_asks_7 sx (d + 4) (nI r) (nI b) _ H).trans ?_
    rw [m_inBed sx _ r b H B hB hs hr (by omega), q_cIs, z_inT hb]
    unfold z_asks
    by_cases c : m_get H r (7 + b) = nI 0
    · rw [if_pos c, decide_eq_true c, decide_eq_false (show ¬ z01 true = nI 0 by decide), cond_false]
      rcases z_best_in B (m_get H r) b with e | ⟨s, k, e1, e2, e3, e4⟩
      · rw [e, m_put_get]
        rfl
      · obtain ⟨d1, d2⟩ := z_code_some s k (by omega) (by omega)
        rw [e3, decide_eq_false (z_code_m4 (by omega) (by omega)), cond_false, d2, d1]
        rw [m_says sx _ r s b k H B hB hs hr e1 hb e2 c, q_cVs, m_bestOf sx _ r b _ B (q_mB_put hB) hs hr hb, q_cIs]
        have hn1 := z_hs_says (k := k) hs hb e1 hv e4
        have r1 := ih (N + 1) (m_put H r (z_says B (m_get H r) s b k)) (q_mB_put hB) (by rw [m_get_put]; exact vw_says hs hv (by omega) e1 hb e2 c e4) (by omega) (by rw [m_get_put]; omega)
        rw [m_get_put, m_put_put] at r1
        rw [m_get_put]
        simp (disch := omega) only [q_eqN, q_nd, cond_true]
        exact r1
    · rw [if_neg c, decide_eq_false c, m_put_get]
      rfl
theorem m_asks (sx : QX) (d r b N : Nat) (H : QH) (B : SB) (hs : q_sB B) (hb : b < sNb B) (hr : r + 83 ≤ 1577) (hB : q_mB H B) (hv : q_vw B N (m_get H r)) (hN : N < 800000) : q_CL (q_tb sx) q_kpt (d + 5) (157, ([vr 9 165, vn r, vn b], H)) = rV (m_put H r (o_ask B (m_get H r) b)) := by
  refine (b_X7_asks_0 sx (d + 4) (nI r) (nI b) H).trans ?_
  rw [m_bestOf sx _ r b H B hB hs hr hb, q_cIs]
  have hl := z_hs_le hs hv
  exact m_asksL sx d r b B hs hb hr (z_hs B (m_get H r)) N H hB hv (by omega) rfl
