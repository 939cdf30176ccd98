/-! deaf: sums over sets, and Euclid -/
def z_sum (N : Nat) (g : Nat → Nat) : Nat := z_fold N (fun m a => a + g m) 0
theorem z_sum_s (N : Nat) (g : Nat → Nat) : z_sum (N + 1) g = z_sum N g + g N := rfl
theorem z_sum_shift (N : Nat) (g : Nat → Nat) : z_sum (N + 1) g = g 0 + z_sum N (fun m => g (m + 1)) := by
  induction N with
  | zero => show 0 + g 0 = g 0 + 0; omega
  | succ N ih => rw [z_sum_s, ih, z_sum_s]; omega
theorem z_sum_rev (N : Nat) (g : Nat → Nat) : z_sum N (fun m => g (N - 1 - m)) = z_sum N g := by
  induction N with
  | zero => rfl
  | succ N ih =>
    rw [z_sum_shift, z_sum_s, ← ih]
    have e : z_sum N (fun m => g (N + 1 - 1 - (m + 1))) = z_sum N (fun m => g (N - 1 - m)) := z_fold_congr _ _ _ _ (fun k b _ => congrArg (fun q => b + g q) (by omega))
    rw [e]
    show g (N + 1 - 1 - 0) + _ = _
    rw [show N + 1 - 1 - 0 = N by omega]
    omega
theorem z_sum_le {N : Nat} {f g : Nat → Nat} (h : ∀ m, m < N → f m ≤ g m) : z_sum N f ≤ z_sum N g := by
  induction N with
  | zero => exact Nat.le_refl _
  | succ N ih =>
    rw [z_sum_s, z_sum_s]
    exact Nat.add_le_add (ih (fun m hm => h m (by omega))) (h N (by omega))
theorem z_sum_congr {N : Nat} {f g : Nat → Nat} (h : ∀ m, m < N → f m = g m) : z_sum N f = z_sum N g := z_fold_congr _ _ _ _ (fun k b hk => by rw [h k hk])
theorem z_sum_add (N M : Nat) (g : Nat → Nat) : z_sum (N + M) g = z_sum N g + z_sum M (fun m => g (N + m)) := by
  induction M with
  | zero => rfl
  | succ M ih =>
    rw [← Nat.add_assoc, z_sum_s, ih, z_sum_s]
    omega
theorem z_sum_mul (N c : Nat) (g : Nat → Nat) : z_sum N (fun m => g m * c) = z_sum N g * c := by
  induction N with
  | zero => exact (Nat.zero_mul c).symm
  | succ N ih => rw [z_sum_s, z_sum_s, ih, Nat.add_mul]
/-- by those that are taken: the ways of a set -/
def z_wt (x n m : Nat) : Nat := z_fold n (fun i a => a * (if m / 2 ^ i % 2 = 1 then 10 - x else x)) 1
theorem z_wt_lo (x : Nat) : ∀ n m k, n ≤ k → z_wt x n (2 ^ k + m) = z_wt x n m := by
  intro n
  induction n with
  | zero => intro m k _; rfl
  | succ n ih =>
    intro m k hk
    show z_wt x n (2 ^ k + m) * _ = z_wt x n m * _
    rw [ih m k (by omega)]
    have e : (2 ^ k + m) / 2 ^ n % 2 = m / 2 ^ n % 2 := by
      rw [show 2 ^ k = 2 ^ (k - n - 1) * 2 * 2 ^ n by rw [← Nat.pow_succ, ← Nat.pow_add]; congr 1; omega, Nat.mul_comm _ (2 ^ n), Nat.mul_add_div (Nat.pow_pos (by omega)), Nat.mul_comm _ 2, Nat.mul_add_mod]
    rw [e]
theorem z_wt_all (x : Nat) (hx : x ≤ 10) : ∀ n, z_sum (2 ^ n) (z_wt x n) = 10 ^ n := by
  intro n
  induction n with
  | zero => rfl
  | succ n ih =>
    rw [Nat.pow_succ, Nat.mul_two, z_sum_add]
    have e1 : z_sum (2 ^ n) (z_wt x (n + 1)) = z_sum (2 ^ n) (z_wt x n) * x := by
      rw [← z_sum_mul]
      refine z_sum_congr (fun m hm => ?_)
      show z_wt x n m * _ = _
      rw [Nat.div_eq_of_lt hm]
      rfl
    have e2 : z_sum (2 ^ n) (fun m => z_wt x (n + 1) (2 ^ n + m)) = z_sum (2 ^ n) (z_wt x n) * (10 - x) := by
      rw [← z_sum_mul]
      refine z_sum_congr (fun m hm => ?_)
      show z_wt x n (2 ^ n + m) * _ = _
      rw [z_wt_lo x n m n (Nat.le_refl _), show (2 ^ n + m) / 2 ^ n % 2 = 1 by rw [Nat.add_comm, Nat.add_div_right m (Nat.pow_pos (by omega)), Nat.div_eq_of_lt hm]]
      rfl
    rw [e1, e2, ih, ← Nat.mul_add, Nat.pow_succ, show x + (10 - x) = 10 by omega]
theorem z_wt_le (x : Nat) (hx : x ≤ 10) (n m : Nat) (hn : n ≤ 8) : z_wt x n m ≤ 10 ^ n := by
  induction n with
  | zero => exact Nat.le_refl _
  | succ n ih =>
    show z_wt x n m * _ ≤ 10 ^ (n + 1)
    rw [Nat.pow_succ]
    refine Nat.mul_le_mul (ih (by omega)) ?_
    split <;> omega
/-- how much softer: by those that are taken -/
def z_sf (f n m : Nat) : Nat := z_fold n (fun i a => if m / 2 ^ i % 2 = 1 then a + (f - i) else a) 0
theorem z_sf_le (f n m : Nat) : z_sf f n m ≤ n * f := by
  induction n with
  | zero => exact Nat.zero_le _
  | succ n ih =>
    show (if m / 2 ^ n % 2 = 1 then z_sf f n m + (f - n) else z_sf f n m) ≤ (n + 1) * f
    rw [Nat.add_mul]
    split <;> omega
theorem z_sf_hi (f m n : Nat) (hm : m < 2 ^ n) : ∀ k, z_sf f (n + k) m = z_sf f n m := by
  intro k
  induction k with
  | zero => rfl
  | succ k ih =>
    show (if m / 2 ^ (n + k) % 2 = 1 then z_sf f (n + k) m + (f - (n + k)) else z_sf f (n + k) m) = _
    rw [Nat.div_eq_of_lt (Nat.lt_of_lt_of_le hm (Nat.pow_le_pow_right (by omega) (by omega))), if_neg (by decide), ih]
theorem z_s8_n {f m : Nat} (hf : f ≤ 1000) : ∀ n, n ≤ 8 → z_fold n (z_s8 (nI f) m) (nI 0) = nI (z_sf f n m) := by
  intro n
  induction n with
  | zero => intro _; rfl
  | succ n ih =>
    intro hn
    show z_s8 (nI f) m n (z_fold n (z_s8 (nI f) m) (nI 0)) = nI (if m / 2 ^ n % 2 = 1 then z_sf f n m + (f - n) else z_sf f n m)
    rw [ih (by omega)]
    unfold z_s8
    rw [z_max_n (by omega) (by omega), nI_add]
    split <;> rfl
/-- Euclid, in so many steps -/
def z_euc : Nat → Nat → Nat → Nat
  | 0, a, _ => a
  | n + 1, a, b => if b = 0 then a else z_euc n b (a % b)
theorem z_euc_gcd : ∀ (k n a b : Nat), b < 2 ^ k → 2 * k ≤ n → z_euc n a b = Nat.gcd a b := by
  intro k
  induction k with
  | zero =>
    intro n a b hb _
    have hb0 : b = 0 := by simpa using hb
    subst hb0
    rw [Nat.gcd_zero_right]
    cases n with
    | zero => rfl
    | succ n => rfl
  | succ k ih =>
    intro n a b hb hn
    obtain ⟨n1, rfl⟩ : ∃ n1, n = n1 + 2 := ⟨n - 2, by omega⟩
    show (if b = 0 then a else (if a % b = 0 then b else z_euc n1 (a % b) (b % (a % b)))) = _
    by_cases h0 : b = 0
    · subst h0; rw [if_pos rfl, Nat.gcd_zero_right]
    · rw [if_neg h0]
      have hr : a % b < b := Nat.mod_lt _ (by omega)
      have g1 : Nat.gcd a b = Nat.gcd b (a % b) := by rw [Nat.gcd_comm a b, Nat.gcd_rec b a, Nat.gcd_comm]
      by_cases h1 : a % b = 0
      · rw [if_pos h1, g1, h1, Nat.gcd_zero_right]
      · rw [if_neg h1, g1]
        have g2 : Nat.gcd b (a % b) = Nat.gcd (a % b) (b % (a % b)) := by rw [Nat.gcd_comm b (a % b), Nat.gcd_rec (a % b) b, Nat.gcd_comm]
        rw [g2]
        refine ih n1 _ _ ?_ (by omega)
        rw [Nat.pow_succ] at hb
        by_cases h2 : a % b ≤ 2 ^ k
        · exact Nat.lt_of_lt_of_le (Nat.mod_lt _ (by omega)) h2
        · rw [Nat.mod_eq_sub_mod (by omega), Nat.mod_eq_of_lt (by omega)]
          omega
theorem q_cmL (sx : QX) (d : Nat) (H : QH) : ∀ (n i a b : Nat), i + n = 64 → a < 2147483648 → b < 2147483648 → q_EV (q_tb sx) q_kpt (d + 1) 94 (2, ([(0, vn a), (1, vn b), (2, vn i)], ([], H))) = rI (nI (z_euc n a b)) H := by
  intro n
  induction n with
  | zero =>
    intro i a b hi ha hb
    refine (b_X6_commonMeasure_2 sx d (nI a) (nI b) (nI i) H).trans ?_
    simp (disch := omega) only [Bool.cond_decide, nI_add, pk_mul, q_inbN, q_cl_nI, q_ltN, q_leN, q_eqN, q_ifT, q_ifF, q_cIs, q_cVs, decide_false, decide_true, Bool.not_false, Bool.not_true, cond_true, cond_false, ne_eq, not_false_eq_true, not_true_eq_false, if_true, if_false]
    rfl
  | succ n ih =>
    intro i a b hi ha hb
    refine (b_X6_commonMeasure_2 sx d (nI a) (nI b) (nI i) H).trans ?_
    show _ = rI (nI (if b = 0 then a else z_euc n b (a % b))) H
    by_cases h0 : b = 0
    · subst h0
      simp (disch := omega) only [Bool.cond_decide, nI_add, pk_mul, q_inbN, q_cl_nI, q_ltN, q_leN, q_eqN, q_ifT, q_ifF, q_cIs, q_cVs, decide_false, decide_true, Bool.not_false, Bool.not_true, cond_true, cond_false, ne_eq, not_false_eq_true, not_true_eq_false, if_true, if_false]
    · rw [pk_rem ha (by omega) hb, if_neg h0]
      simp (disch := omega) only [Bool.cond_decide, nI_add, pk_mul, q_inbN, q_cl_nI, q_ltN, q_leN, q_eqN, q_ifT, q_ifF, q_cIs, q_cVs, decide_false, decide_true, Bool.not_false, Bool.not_true, cond_true, cond_false, ne_eq, not_false_eq_true, not_true_eq_false, if_true, if_false, q_nd]
      exact ih (i + 1) b (a % b) (by omega) hb (Nat.lt_of_le_of_lt (Nat.mod_le _ _) ha)
theorem m_cmL (sx : QX) (d U D : Nat) (y : Int32) (H : QH) (hU : U < 2147483648) (hD : D < 2147483648) : ∀ (n b a : Nat), b ≤ n → a < 2147483648 → b < 2147483648 → 0 < Nat.gcd a b → q_EV (q_tb sx) q_kpt (d + 1) 170 (245, ([(6, vi y), (7, vn U), (8, vn D), (9, vn a), (10, vn b)], ([], H))) = rI (if y = nI 0 then nI (U / Nat.gcd a b) else nI (D / Nat.gcd a b)) H := by
  intro n
  induction n with
  | zero =>
    intro b a hn ha hb hg
    have h0 : b = 0 := by omega
    subst h0
    rw [Nat.gcd_zero_right] at hg ⊢
    refine (b_X7_deaf_245 sx d y (nI U) (nI D) (nI a) (nI 0) H).trans ?_
    rw [pk_div hD hg ha, pk_div hU hg ha]
    simp (disch := omega) only [Bool.cond_decide, nI_add, pk_mul, q_inbN, q_cl_nI, q_ltN, q_leN, q_eqN, q_ifT, q_ifF, q_cIs, q_cVs, decide_false, decide_true, Bool.not_false, Bool.not_true, cond_true, cond_false, ne_eq, not_false_eq_true, not_true_eq_false, if_true, if_false, q_nd]
    by_cases c : y = nI 0
    · rw [if_neg (fun q => q c), if_pos c]
    · rw [if_pos c, if_neg c]
  | succ n ih =>
    intro b a hn ha hb hg
    by_cases h0 : b = 0
    · subst h0
      exact ih 0 a (by omega) ha hb hg
    · refine (b_X7_deaf_245 sx d y (nI U) (nI D) (nI a) (nI b) H).trans ?_
      have hr : a % b < b := Nat.mod_lt _ (by omega)
      have g1 : Nat.gcd a b = Nat.gcd b (a % b) := by rw [Nat.gcd_comm a b, Nat.gcd_rec b a, Nat.gcd_comm]
      rw [pk_rem ha (by omega) hb]
      simp (disch := omega) only [Bool.cond_decide, nI_add, pk_mul, q_inbN, q_cl_nI, q_ltN, q_leN, q_eqN, q_ifT, q_ifF, q_cIs, q_cVs, decide_false, decide_true, Bool.not_false, Bool.not_true, cond_true, cond_false, ne_eq, not_false_eq_true, not_true_eq_false, if_true, if_false, q_nd]
      rw [g1] at hg ⊢
      exact ih (a % b) b (by omega) hb (by omega) hg
theorem weight_eq (sx : QX) (d m n x : Nat) (H : QH) (hm : m < 256) (hn : n ≤ 8) (hx : x ≤ 10) : q_CL (q_tb sx) q_kpt (d + 1) (93, ([vn m, vn n, vn x], H)) = rI (nI (z_wt x n m)) H := by
  refine (b_X6_weight_0 sx d (nI m) (nI n) (nI x) H).trans ?_
  have hl := z_loop n (fun i a => q_EV (q_tb sx) q_kpt (d + 1) 93 (5, ([(0, vn m), (1, vn n), (2, vn x), (3, vn a), (4, vn i)], ([], H)))) (fun i a => a * (if m / 2 ^ i % 2 = 1 then 10 - x else x)) (fun i a hi => by
    refine (b_X6_weight_5 sx d (nI m) (nI n) (nI x) (nI a) (nI i) H).trans ?_
    rw [q_bit m hm i (by omega), pk_sub (by omega)]
    have hb2 : m / 2 ^ i % 2 < 2 := Nat.mod_lt _ (by omega)
    by_cases c : m / 2 ^ i % 2 = 1
    · simp (disch := omega) only [Bool.cond_decide, nI_add, pk_mul, q_inbN, q_cl_nI, q_ltN, q_leN, q_eqN, q_ifT, q_ifF, q_cIs, q_cVs, decide_false, decide_true, Bool.not_false, Bool.not_true, cond_true, cond_false, ne_eq, not_false_eq_true, not_true_eq_false, if_true, if_false, c]
    · have c0 : m / 2 ^ i % 2 = 0 := by omega
      simp (disch := omega) only [Bool.cond_decide, nI_add, pk_mul, q_inbN, q_cl_nI, q_ltN, q_leN, q_eqN, q_ifT, q_ifF, q_cIs, q_cVs, decide_false, decide_true, Bool.not_false, Bool.not_true, cond_true, cond_false, ne_eq, not_false_eq_true, not_true_eq_false, if_true, if_false, c0]) 1
  refine hl.trans ?_
  refine (b_X6_weight_5 sx d (nI m) (nI n) (nI x) _ (nI n) H).trans ?_
  simp (disch := omega) only [Bool.cond_decide, nI_add, pk_mul, q_inbN, q_cl_nI, q_ltN, q_leN, q_eqN, q_ifT, q_ifF, q_cIs, q_cVs, decide_false, decide_true, Bool.not_false, Bool.not_true, cond_true, cond_false, ne_eq, not_false_eq_true, not_true_eq_false, if_true, if_false]
  rfl
theorem z_pow10 : ∀ n, n ≤ 8 → 10 ^ n ≤ 100000000 := fun n hn => Nat.le_trans (Nat.pow_le_pow_right (by omega) hn) (by decide)
theorem z_pow2 : ∀ n, n ≤ 8 → 2 ^ n ≤ 256 := fun n hn => Nat.le_trans (Nat.pow_le_pow_right (by omega) hn) (by decide)
/-- the ways that bring it out, of ten to the n -/
def z_up (lack f x n : Nat) : Nat := z_sum (2 ^ n) (fun m => if lack ≤ z_sf f n m then z_wt x n m else 0)
theorem z_up_le (lack f x n : Nat) (hx : x ≤ 10) : z_up lack f x n ≤ 10 ^ n := by
  rw [← z_wt_all x hx n]
  refine z_sum_le (fun m _ => ?_)
  split
  · exact Nat.le_refl _
  · exact Nat.zero_le _
theorem z_gcd_pos (a n : Nat) : 0 < Nat.gcd a (10 ^ n) := Nat.gcd_pos_of_pos_right _ (Nat.pow_pos (by omega))
theorem q_deafL (sx : QX) (d s b k n x N : Nat) (y : Int32) (H : QH) (B : SB) (hB : q_rB H B) (hs : q_sB B) (hv : q_vw B N (c_get H 22)) (hN : N < 900000) (h1 : s < sNs B) (h2 : b < sNb B) (h3 : k < sNw B) (hn : n ≤ 8) (hx : x ≤ 10) (f u t : Nat) (hf : f ≤ 1000) (ef : z_worth B (c_get H 22) s b k = nI f) (eu : c_get H 22 (1 + b) = nI u) (et : sN B b = nI t) (hut : u ≤ t) (ht : t ≤ 60) : q_EV (q_tb sx) q_kpt (d + 4) 80 (65, ([(0, vr 8 0), (1, vn s), (2, vn b), (3, vn k), (4, vn n), (5, vn x), (6, vi y), (7, vn 0), (8, vn 0)], ([], H))) = rI (if y = nI 0 then nI (z_up (t - u) f x n / Nat.gcd (z_up (t - u) f x n) (10 ^ n)) else nI (10 ^ n / Nat.gcd (z_up (t - u) f x n) (10 ^ n))) H := by
  have hs' := hs
  obtain ⟨⟨g1, g2⟩, ⟨g3, g4⟩, ⟨g5, g6⟩, -⟩ := hs'
  have p2 := z_pow2 n hn
  have p10 := z_pow10 n hn
  have hup := z_up_le (t - u) f x n hx
  have hl := z_loop (2 ^ n) (fun m a => q_EV (q_tb sx) q_kpt (d + 4) 80 (65, ([(0, vr 8 0), (1, vn s), (2, vn b), (3, vn k), (4, vn n), (5, vn x), (6, vi y), (7, vn a), (8, vn m)], ([], H)))) (fun m a => a + (if t - u ≤ z_sf f n m then z_wt x n m else 0)) (fun m a hm => by
    refine (b_X6_deaf_65 sx (d + 3) (nI s) (nI b) (nI k) (nI n) (nI x) y (nI a) (nI m) H).trans ?_
    have e8 : z_fold 8 (z_s8 (nI f) m) (nI 0) = nI (z_sf f n m) := by
      rw [z_s8_n hf 8 (by omega)]
      have := z_sf_hi f m n hm (8 - n)
      rw [show n + (8 - n) = 8 by omega] at this
      rw [this]
    have hsf := z_sf_le f n m
    have hsf2 : n * f ≤ 8 * 1000 := Nat.mul_le_mul hn hf
    rw [q_shl1 n (by omega), q_softerBy sx d 22 s b k m N H B hB hs hv.1 (by omega) h1 h2 h3 (by omega), ef, e8, q_cIs, q_lackOf sx _ 22 b H B hB hs h2, eu, et, pk_sub hut, q_cIs, weight_eq sx _ m n x H (by omega) hn hx, q_cIs]
    by_cases c : t - u ≤ z_sf f n m
    · rw [if_pos c]
      simp (disch := omega) only [Bool.cond_decide, nI_add, pk_mul, q_inbN, q_cl_nI, q_ltN, q_leN, q_eqN, q_ifT, q_ifF, q_cIs, q_cVs, decide_false, decide_true, Bool.not_false, Bool.not_true, cond_true, cond_false, ne_eq, not_false_eq_true, not_true_eq_false, if_true, if_false]
    · rw [if_neg c]
      simp (disch := omega) only [Bool.cond_decide, nI_add, pk_mul, q_inbN, q_cl_nI, q_ltN, q_leN, q_eqN, q_ifT, q_ifF, q_cIs, q_cVs, decide_false, decide_true, Bool.not_false, Bool.not_true, cond_true, cond_false, ne_eq, not_false_eq_true, not_true_eq_false, if_true, if_false]
      rfl) 0
  refine hl.trans ?_
  rw [show z_fold (2 ^ n) (fun m a => a + (if t - u ≤ z_sf f n m then z_wt x n m else 0)) 0 = z_up (t - u) f x n from rfl]
  refine (b_X6_deaf_65 sx (d + 3) (nI s) (nI b) (nI k) (nI n) (nI x) y _ (nI (2 ^ n)) H).trans ?_
  rw [q_shl1 n (by omega), decide_eq_true (Int32.le_refl _), cond_true]
  have hl2 := z_loop n (fun i a => q_EV (q_tb sx) q_kpt (d + 4) 80 (123, ([(4, vn n), (6, vi y), (7, vn (z_up (t - u) f x n)), (8, vn a), (9, vn i)], ([], H)))) (fun i a => a * 10) (fun i a hi => by
    refine (b_X6_deaf_123 sx (d + 3) (nI n) y _ (nI a) (nI i) H).trans ?_
    simp (disch := omega) only [Bool.cond_decide, nI_add, pk_mul, q_inbN, q_cl_nI, q_ltN, q_leN, q_eqN, q_ifT, q_ifF, q_cIs, q_cVs, decide_false, decide_true, Bool.not_false, Bool.not_true, cond_true, cond_false, ne_eq, not_false_eq_true, not_true_eq_false, if_true, if_false]) 1
  refine hl2.trans ?_
  have ep : ∀ n, z_fold n (fun i a => a * 10) 1 = 10 ^ n := by
    intro n
    induction n with
    | zero => rfl
    | succ n ih => show z_fold n _ 1 * 10 = _; rw [ih, Nat.pow_succ]
  rw [ep n]
  refine (b_X6_deaf_123 sx (d + 3) (nI n) y _ _ (nI n) H).trans ?_
  rw [decide_eq_true (Int32.le_refl _), cond_true]
  have ecm : q_CL (q_tb sx) q_kpt (d + 3) (94, ([vn (z_up (t - u) f x n), vn (10 ^ n)], H)) = rI (nI (Nat.gcd (z_up (t - u) f x n) (10 ^ n))) H := by
    refine (b_X6_commonMeasure_0 sx (d + 2) _ _ H).trans ?_
    refine (q_cmL sx (d + 2) H 64 0 _ _ (by omega) (by omega) (by omega)).trans ?_
    rw [z_euc_gcd 27 64 _ _ (by omega) (by omega)]
  have hg := z_gcd_pos (z_up (t - u) f x n) n
  have hg2 : Nat.gcd (z_up (t - u) f x n) (10 ^ n) ≤ 10 ^ n := Nat.le_of_dvd (Nat.pow_pos (by omega)) (Nat.gcd_dvd_right _ _)
  rw [ecm, q_cIs, pk_div (by omega) hg (by omega), pk_div (by omega) hg (by omega)]
  simp (disch := omega) only [Bool.cond_decide, nI_add, pk_mul, q_inbN, q_cl_nI, q_ltN, q_leN, q_eqN, q_ifT, q_ifF, q_cIs, q_cVs, decide_false, decide_true, Bool.not_false, Bool.not_true, cond_true, cond_false, ne_eq, not_false_eq_true, not_true_eq_false, if_true, if_false, q_nd]
  by_cases c : y = nI 0
  · rw [if_neg (fun q => q c), if_pos c]
  · rw [if_pos c, if_neg c]
/-! the model's: the others are taken -/
theorem z_flip : ∀ n, n < 9 → ∀ m, m < 2 ^ n → ∀ e, e < n → ((2 ^ n - 1 - m) / 2 ^ e % 2 = 1 ↔ ¬ m / 2 ^ e % 2 = 1) := by decide +kernel
theorem m_deafW (sx : QX) (d s b k n x m a0 : Nat) (y D U : Int32) (H : QH) (B : SB) (hB : q_mB H B) (hs : q_sB B) (h1 : s < sNs B) (h2 : b < sNb B) (h3 : k < sNw B) (hn : n ≤ 8) (hx : x ≤ 10) (hm : m < 2 ^ n) (g h : Nat) (eg : z_spk B s b k = nI g) (hg : g ≤ 1000) (eh : m_get H 0 (19 + 6 * b + k) = nI h) (hh : h < 1000000) : q_EV (q_tb sx) q_kpt (d + 4) 170 (132, ([(0, vr 9 165), (1, vn s), (2, vn b), (3, vn k), (4, vn n), (5, vn x), (6, vi y), (7, vi U), (8, vi D), (9, vn m), (10, vn 1), (11, vn a0), (12, vn 0)], ([], H))) = q_EV (q_tb sx) q_kpt (d + 4) 170 (132, ([(0, vr 9 165), (1, vn s), (2, vn b), (3, vn k), (4, vn n), (5, vn x), (6, vi y), (7, vi U), (8, vi D), (9, vn m), (10, vn (z_wt x n (2 ^ n - 1 - m))), (11, vn (a0 + z_sf (g - h) n (2 ^ n - 1 - m))), (12, vn n)], ([], H))) := by
  have hs' := hs
  obtain ⟨⟨g1, g2⟩, ⟨g3, g4⟩, ⟨g5, g6⟩, -⟩ := hs'
  have p2 := z_pow2 n hn
  have hl := z_loop n (fun e (a : Nat × Nat) => q_EV (q_tb sx) q_kpt (d + 4) 170 (132, ([(0, vr 9 165), (1, vn s), (2, vn b), (3, vn k), (4, vn n), (5, vn x), (6, vi y), (7, vi U), (8, vi D), (9, vn m), (10, vn a.1), (11, vn (a0 + a.2)), (12, vn e)], ([], H)))) (fun e a => (a.1 * (if (2 ^ n - 1 - m) / 2 ^ e % 2 = 1 then 10 - x else x), if (2 ^ n - 1 - m) / 2 ^ e % 2 = 1 then a.2 + (g - h - e) else a.2)) (fun e a he => by
    refine (b_X7_deaf_132 sx (d + 3) (nI s) (nI b) (nI k) (nI n) (nI x) y U D (nI m) _ _ (nI e) H).trans ?_
    have hfl := z_flip n (by omega) m hm e he
    rw [has_eq sx (d + 2) m e H (by omega) (by omega), q_cIs]
    by_cases c : m / 2 ^ e % 2 = 1
    · have c' : ¬ (2 ^ n - 1 - m) / 2 ^ e % 2 = 1 := fun q => (hfl.mp q) c
      rw [decide_eq_true c, if_neg c', if_neg c']
      simp (disch := omega) only [Bool.cond_decide, nI_add, pk_mul, q_inbN, q_cl_nI, q_ltN, q_leN, q_eqN, q_ifT, q_ifF, q_cIs, q_cVs, decide_false, decide_true, Bool.not_false, Bool.not_true, cond_true, cond_false, ne_eq, not_false_eq_true, not_true_eq_false, if_true, if_false, z01, has_eq, Nat.add_zero]
    · have c' : (2 ^ n - 1 - m) / 2 ^ e % 2 = 1 := hfl.mpr c
      rw [decide_eq_false c, if_pos c', if_pos c', pk_sub hx]
      simp (disch := omega) only [Bool.cond_decide, nI_add, pk_mul, q_inbN, q_cl_nI, q_ltN, q_leN, q_eqN, q_ifT, q_ifF, q_cIs, q_cVs, decide_false, decide_true, Bool.not_false, Bool.not_true, cond_true, cond_false, ne_eq, not_false_eq_true, not_true_eq_false, if_true, if_false, z01, has_eq]
      rw [m_spoken sx (d + 1) s b k H B hB hs h1 h2 h3, eg, q_cIs, m_heardOf sx (d + 2) 0 b k H (by omega) (by omega) (by omega), eh, q_cIs, nI_add, m_less, z_less_n (by omega) (by omega), q_cIs, nI_add, show g - (h + e) = g - h - e by omega, Nat.add_assoc a0]) (1, 0)
  have e1 : ∀ j, z_fold j (fun e (a : Nat × Nat) => (a.1 * (if (2 ^ n - 1 - m) / 2 ^ e % 2 = 1 then 10 - x else x), if (2 ^ n - 1 - m) / 2 ^ e % 2 = 1 then a.2 + (g - h - e) else a.2)) (1, 0) = (z_wt x j (2 ^ n - 1 - m), z_sf (g - h) j (2 ^ n - 1 - m)) := by
    intro j
    induction j with
    | zero => rfl
    | succ j ih =>
      show (fun e (a : Nat × Nat) => (a.1 * (if (2 ^ n - 1 - m) / 2 ^ e % 2 = 1 then 10 - x else x), if (2 ^ n - 1 - m) / 2 ^ e % 2 = 1 then a.2 + (g - h - e) else a.2)) j (z_fold j _ (1, 0)) = _
      rw [ih]
      rfl
  rw [e1 n] at hl
  exact hl
theorem m_deafL (sx : QX) (d s b k n x : Nat) (y : Int32) (H : QH) (B : SB) (hB : q_mB H B) (hs : q_sB B) (h1 : s < sNs B) (h2 : b < sNb B) (h3 : k < sNw B) (hn : n ≤ 8) (hx : x ≤ 10) (g h u t : Nat) (eg : z_spk B s b k = nI g) (hg : g ≤ 1000) (eh : m_get H 0 (19 + 6 * b + k) = nI h) (hh : h < 1000000) (eu : m_get H 0 (1 + b) = nI u) (et : sN B b = nI t) (hut : u ≤ t) (ht : t ≤ 60) : q_EV (q_tb sx) q_kpt (d + 4) 170 (84, ([(0, vr 9 165), (1, vn s), (2, vn b), (3, vn k), (4, vn n), (5, vn x), (6, vi y), (7, vn 0), (8, vn 1), (9, vn 0)], ([], H))) = rI (if y = nI 0 then nI (z_up (t - u) (g - h) x n / Nat.gcd (z_up (t - u) (g - h) x n) (10 ^ n)) else nI (10 ^ n / Nat.gcd (z_up (t - u) (g - h) x n) (10 ^ n))) H := by
  have hs' := hs
  obtain ⟨⟨g1, g2⟩, ⟨g3, g4⟩, ⟨g5, g6⟩, -⟩ := hs'
  have p2 := z_pow2 n hn
  have p10 := z_pow10 n hn
  have hup := z_up_le (t - u) (g - h) x n hx
  have hl2 := z_loop n (fun i a => q_EV (q_tb sx) q_kpt (d + 4) 170 (84, ([(0, vr 9 165), (1, vn s), (2, vn b), (3, vn k), (4, vn n), (5, vn x), (6, vi y), (7, vn 0), (8, vn a), (9, vn i)], ([], H)))) (fun i a => a * 10) (fun i a hi => by
    refine (b_X7_deaf_84 sx (d + 3) (nI s) (nI b) (nI k) (nI n) (nI x) y (nI 0) (nI a) (nI i) H).trans ?_
    simp (disch := omega) only [Bool.cond_decide, nI_add, pk_mul, q_inbN, q_cl_nI, q_ltN, q_leN, q_eqN, q_ifT, q_ifF, q_cIs, q_cVs, decide_false, decide_true, Bool.not_false, Bool.not_true, cond_true, cond_false, ne_eq, not_false_eq_true, not_true_eq_false, if_true, if_false]) 1
  refine hl2.trans ?_
  have ep : ∀ n, z_fold n (fun i a => a * 10) 1 = 10 ^ n := by
    intro n
    induction n with
    | zero => rfl
    | succ n ih => show z_fold n _ 1 * 10 = _; rw [ih, Nat.pow_succ]
  rw [ep n]
  refine (b_X7_deaf_84 sx (d + 3) (nI s) (nI b) (nI k) (nI n) (nI x) y (nI 0) _ (nI n) H).trans ?_
  rw [decide_eq_true (Int32.le_refl _), cond_true]
  have eN : H 168 b = nI t := (hB.2.2.2.2.2.1 b h2).trans et
  have eu2 : H 166 (1 + b) = nI u := by rw [m_get0] at eu; exact eu
  have hl := z_loop (2 ^ n) (fun m a => q_EV (q_tb sx) q_kpt (d + 4) 170 (107, ([(0, vr 9 165), (1, vn s), (2, vn b), (3, vn k), (4, vn n), (5, vn x), (6, vi y), (7, vn a), (8, vn (10 ^ n)), (9, vn m)], ([], H)))) (fun m a => a + (if t - u ≤ z_sf (g - h) n (2 ^ n - 1 - m) then z_wt x n (2 ^ n - 1 - m) else 0)) (fun m a hm => by
    refine (b_X7_deaf_107 sx (d + 3) (nI s) (nI b) (nI k) (nI n) (nI x) y (nI a) _ (nI m) H).trans ?_
    rw [q_shl1 n (by omega)]
    simp (disch := omega) only [Bool.cond_decide, nI_add, pk_mul, q_inbN, q_cl_nI, q_ltN, q_leN, q_eqN, q_ifT, q_ifF, q_cIs, q_cVs, decide_false, decide_true, Bool.not_false, Bool.not_true, cond_true, cond_false, ne_eq, not_false_eq_true, not_true_eq_false, if_true, if_false, eu2]
    refine (m_deafW sx d s b k n x m u y (nI (10 ^ n)) (nI a) H B hB hs h1 h2 h3 hn hx hm g h eg hg eh hh).trans ?_
    refine (b_X7_deaf_132 sx (d + 3) (nI s) (nI b) (nI k) (nI n) (nI x) y (nI a) _ (nI m) _ _ (nI n) H).trans ?_
    have hsf := z_sf_le (g - h) n (2 ^ n - 1 - m)
    have hsf2 : n * (g - h) ≤ 8 * 1000 := Nat.mul_le_mul hn (by omega)
    by_cases c : t - u ≤ z_sf (g - h) n (2 ^ n - 1 - m)
    · rw [if_pos c]
      simp (disch := omega) only [Bool.cond_decide, nI_add, pk_mul, q_inbN, q_cl_nI, q_ltN, q_leN, q_eqN, q_ifT, q_ifF, q_cIs, q_cVs, decide_false, decide_true, Bool.not_false, Bool.not_true, cond_true, cond_false, ne_eq, not_false_eq_true, not_true_eq_false, if_true, if_false, eN]
    · rw [if_neg c]
      simp (disch := omega) only [Bool.cond_decide, nI_add, pk_mul, q_inbN, q_cl_nI, q_ltN, q_leN, q_eqN, q_ifT, q_ifF, q_cIs, q_cVs, decide_false, decide_true, Bool.not_false, Bool.not_true, cond_true, cond_false, ne_eq, not_false_eq_true, not_true_eq_false, if_true, if_false, eN]) 0
  refine hl.trans ?_
  have es : z_fold (2 ^ n) (fun m a => a + (if t - u ≤ z_sf (g - h) n (2 ^ n - 1 - m) then z_wt x n (2 ^ n - 1 - m) else 0)) 0 = z_up (t - u) (g - h) x n := z_sum_rev (2 ^ n) (fun m => if t - u ≤ z_sf (g - h) n m then z_wt x n m else 0)
  rw [es]
  refine (b_X7_deaf_107 sx (d + 3) (nI s) (nI b) (nI k) (nI n) (nI x) y _ _ (nI (2 ^ n)) H).trans ?_
  rw [q_shl1 n (by omega), decide_eq_true (Int32.le_refl _), cond_true]
  exact m_cmL sx (d + 3) _ _ y H (by omega) (by omega) (10 ^ n) (10 ^ n) (z_up (t - u) (g - h) x n) (Nat.le_refl _) (by omega) (by omega) (z_gcd_pos _ n)
theorem in_8 (x : Int32) : (decide (nI 0 ≤ x) && decide (x ≤ nI 8)) = q_inb x 9 := in_inb x 9 (by omega) (by omega)
theorem in_10 (x : Int32) : (decide (nI 0 ≤ x) && decide (x ≤ nI 10)) = q_inb x 11 := in_inb x 11 (by omega) (by omega)
theorem two_deaf (sx : QX) (d n : Nat) (A : SA) (hA : q_sA n A) (hn : n < 800000) (x y z p q r : Int32) : q_two sx d 80 170 [vi x, vi y, vi z, vi p, vi q, vi r] A n := by
  have hA' := hA
  obtain ⟨-, hs, hv, -⟩ := hA'
  have hs' := hs
  obtain ⟨⟨g1, g2⟩, ⟨g3, g4⟩, ⟨g5, g6⟩, gK, -⟩ := hs'
  have hc := fun H => b_X6_deaf_0 sx (d + 39) x y z p q r H
  have hm := fun H => b_X7_deaf_0 sx (d + 39) x y z p q r H
  have n0 : ¬ z01 true = nI 0 := by decide
  have n1 : z01 false = nI 0 := by decide
  rcases q_three hs x y z with e | ⟨s, b, w, h1, h2, h3, rfl, rfl, rfl⟩
  · refine two_same hA (-1) (fun H hR => (hc H).trans ?_) (fun H hR => (hm H).trans ?_)
    · rw [q_isX sx _ x y z H _ hR.2.1 hs, e]; rfl
    · exact m_bad3 e sx (d + 37) H hs hR.2.1 _ _ (fun _ => rfl) rfl
  · have hc2 : ∀ H, q_RC A H → _ := fun H hR => (hc H).trans (by rw [q_isX sx _ _ _ _ H _ hR.2.1 hs, q_threeT hs h1 h2 h3, q_cIs])
    have hm2 : ∀ H, q_RM A H → _ := fun H hR => (hm H).trans (m_good3 h1 h2 h3 sx (d + 37) H hs hR.2.1 _ _)
    simp only [e64_0, e64_8, e64_10, e64_1, in_eq, in_1, isPart_eq, Bool.cond_decide, q_cIs, if_neg n0, decide_eq_false m1_ne, cond_false] at hm2 hc2
    cases c1 : (decide (nI 0 ≤ p) && decide (p ≤ nI 8)) with
    | false =>
      refine two_same hA (-1) (fun H hR => (hc2 H hR).trans ?_) (fun H hR => (hm2 H hR).trans ?_)
      · rcases out_lo c1 with k | k
        · rw [if_pos k]
        · rw [if_pos k, ite_self]
      · rw [c1]; simp [n1]
    | true =>
      obtain ⟨n', -, hn', rfl⟩ := (in_lo p 0 8 (by omega) (by omega)).mp c1
      have f1 : ¬ nI n' < nI 0 := by rw [nI_ltI (by omega) (by omega)]; omega
      have f2 : ¬ nI 8 < nI n' := by rw [nI_ltI (by omega) (by omega)]; omega
      simp only [c1, if_neg n0] at hm2
      simp only [if_neg f1, if_neg f2] at hc2
      cases c2 : (decide (nI 0 ≤ q) && decide (q ≤ nI 10)) with
      | false =>
        refine two_same hA (-1) (fun H hR => (hc2 H hR).trans ?_) (fun H hR => (hm2 H hR).trans ?_)
        · rcases out_lo c2 with k | k
          · rw [if_pos k]
          · rw [if_pos k, ite_self]
        · rw [c2]; simp [n1]
      | true =>
        obtain ⟨x', -, hx', rfl⟩ := (in_lo q 0 10 (by omega) (by omega)).mp c2
        have f3 : ¬ nI x' < nI 0 := by rw [nI_ltI (by omega) (by omega)]; omega
        have f4 : ¬ nI 10 < nI x' := by rw [nI_ltI (by omega) (by omega)]; omega
        simp only [c2, if_neg n0] at hm2
        simp only [if_neg f3, if_neg f4] at hc2
        cases c3 : q_inb r 2 with
        | false =>
          refine two_same hA (-1) (fun H hR => (hc2 H hR).trans ?_) (fun H hR => (hm2 H hR).trans ?_)
          · rw [c3]; simp [n1]
          · rw [c3]; simp [n1]
        | true =>
          simp only [c3, ne_eq, if_pos n0] at hm2 hc2
          by_cases hin : aW A (7 + b) = nI 0
          · obtain ⟨u, eu, hu, hlt⟩ := (hv.2.1 b h2).2 hin
            obtain ⟨-, t, ht1, ht2, et⟩ := gK b h2
            rw [et, nI_ltI (by omega) (by omega)] at hlt
            obtain ⟨g, hg, eg⟩ := z_spk_b hs (s := s) h2 h3
            obtain ⟨h, hh, eh⟩ := hv.1 b w h2 h3
            have ew : z_worth (aB A) (aW A) s b w = nI (g - h) := by
              unfold z_worth
              rw [eg, eh, z_less_n (by omega) (by omega)]
            refine two_same hA (if r = nI 0 then nI (z_up (t - u) (g - h) x' n' / Nat.gcd (z_up (t - u) (g - h) x' n') (10 ^ n')) else nI (10 ^ n' / Nat.gcd (z_up (t - u) (g - h) x' n') (10 ^ n'))) (fun H hR => (hc2 H hR).trans ?_) (fun H hR => (hm2 H hR).trans ?_)
            · rw [q_isIn sx _ 22 b _ H (by omega), hR.2.2.1 (7 + b) (by omega), decide_eq_true hin, q_cIs, if_pos n0]
              exact q_deafL sx (d + 36) s b w n' x' n r H (aB A) hR.2.1 hs (vw_ag hs hv hR.2.2.1) (by omega) h1 h2 h3 hn' hx' (g - h) u t (by omega) ((ag_worth hs hR.2.2.1 h2 h3).trans ew) ((hR.2.2.1 (1 + b) (by omega)).trans eu) et (by omega) ht2
            · rw [m_inBed sx _ 0 b H (aB A) hR.2.1 hs (by omega) (by omega), z_inT h2, hR.2.2.1.1 (7 + b) (by omega), decide_eq_true hin, q_cIs, if_pos n0]
              exact m_deafL sx (d + 36) s b w n' x' r H (aB A) hR.2.1 hs h1 h2 h3 hn' hx' g h u t eg (by omega) ((hR.2.2.1.1 (19 + 6 * b + w) (by omega)).trans eh) (by omega) ((hR.2.2.1.1 (1 + b) (by omega)).trans eu) et (by omega) ht2
          · refine two_same hA (-2) (fun H hR => (hc2 H hR).trans ?_) (fun H hR => (hm2 H hR).trans ?_)
            · rw [q_isIn sx _ 22 b _ H (by omega), hR.2.2.1 (7 + b) (by omega), decide_eq_false hin, q_cIs]
              rfl
            · rw [m_inBed sx _ 0 b H (aB A) hR.2.1 hs (by omega) (by omega), z_inT h2, hR.2.2.1.1 (7 + b) (by omega), decide_eq_false hin, q_cIs]
              rfl
