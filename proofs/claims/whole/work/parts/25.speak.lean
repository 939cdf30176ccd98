/-! hearing, saying -/
theorem z_fold_eqI {σ : Type} (I : Nat → σ → Prop) (n : Nat) (f g : Nat → σ → σ) (a : σ) (h0 : I 0 a) (h : ∀ k x, k < n → I k x → f k x = g k x ∧ I (k + 1) (f k x)) : z_fold n f a = z_fold n g a ∧ I n (z_fold n f a) := by
  have key : ∀ i, i ≤ n → z_fold i f a = z_fold i g a ∧ I i (z_fold i f a) := by
    intro i
    induction i with
    | zero => intro _; exact ⟨rfl, h0⟩
    | succ i ih =>
      intro hi
      obtain ⟨h1, h2⟩ := ih (by omega)
      obtain ⟨h3, h4⟩ := h i _ (by omega) h2
      refine ⟨?_, h4⟩
      show f i (z_fold i f a) = g i (z_fold i g a)
      rw [← h1]
      exact h3
  exact key n (Nat.le_refl n)
theorem z_incs (n : Nat) (c : Nat → Bool) (ix : Nat → Nat) (w : SW) (inj : ∀ i j, i < n → j < n → c i = true → c j = true → ix i = ix j → i = j) (j : Nat) :
    ((∃ i, i < n ∧ c i = true ∧ ix i = j) → z_fold n (fun i w => if c i = true then upd w (ix i) (w (ix i) + nI 1) else w) w j = w j + nI 1) ∧ ((¬ ∃ i, i < n ∧ c i = true ∧ ix i = j) → z_fold n (fun i w => if c i = true then upd w (ix i) (w (ix i) + nI 1) else w) w j = w j) := by
  induction n with
  | zero => exact ⟨fun ⟨i, h, _⟩ => absurd h (by omega), fun _ => rfl⟩
  | succ n ih =>
    have ih := ih (fun i j hi hj => inj i j (by omega) (by omega))
    show (_ → (if c n = true then upd (z_fold n _ w) (ix n) (z_fold n _ w (ix n) + nI 1) else z_fold n _ w) j = _) ∧ (_ → (if c n = true then upd (z_fold n _ w) (ix n) (z_fold n _ w (ix n) + nI 1) else z_fold n _ w) j = _)
    by_cases hc : c n = true
    · rw [if_pos hc]
      by_cases hj : j = ix n
      · subst hj
        rw [pk_us]
        have hno : ¬ ∃ i, i < n ∧ c i = true ∧ ix i = ix n := fun ⟨i, h1, h2, h3⟩ => absurd (inj i n (by omega) (by omega) h2 hc h3) (by omega)
        exact ⟨fun _ => by rw [ih.2 hno], fun h => absurd ⟨n, by omega, hc, rfl⟩ h⟩
      · rw [pk_un hj]
        refine ⟨fun ⟨i, h1, h2, h3⟩ => ih.1 ⟨i, ?_, h2, h3⟩, fun h => ih.2 (fun ⟨i, h1, h2, h3⟩ => h ⟨i, by omega, h2, h3⟩)⟩
        rcases Nat.lt_or_ge i n with h4 | h4
        · exact h4
        · have : i = n := by omega
          subst this
          exact absurd h3.symm hj
    · rw [if_neg hc]
      refine ⟨fun ⟨i, h1, h2, h3⟩ => ih.1 ⟨i, ?_, h2, h3⟩, fun h => ih.2 (fun ⟨i, h1, h2, h3⟩ => h ⟨i, by omega, h2, h3⟩)⟩
      rcases Nat.lt_or_ge i n with h4 | h4
      · exact h4
      · have : i = n := by omega
        subst this
        exact absurd h2 hc
theorem z_in_congr {B : SB} {w v : SW} {b : Nat} (hs : q_sB B) (h : ∀ j, 7 ≤ j → j < 13 → v j = w j) : z_in B v b = z_in B w b := by
  obtain ⟨⟨h1, h2⟩, -⟩ := hs
  unfold z_in
  by_cases hb : b < sNb B
  · rw [h (7 + b) (by omega) (by omega)]
  · simp [hb]
theorem z_hears_congr {B : SB} {w v : SW} {b o : Nat} (hs : q_sB B) (h : ∀ j, 7 ≤ j → j < 13 → v j = w j) : z_hears B v b o = z_hears B w b o := by
  unfold z_hears
  rw [z_in_congr hs h, z_in_congr hs h]
/-- one step of hearing: the block o, if it is one -/
def z_h1 (B : SB) (b k o : Nat) (w : SW) : SW := if (decide (o < sNb B) && z_hears B w b o) = true then upd w (19 + 6 * o + k) (w (19 + 6 * o + k) + nI 1) else w
theorem z_hear_all (B : SB) (b k : Nat) (w : SW) (hs : q_sB B) (hk : k < sNw B) : z_fold (sNb B) (z_h1 B b k) w = z_hear B w b k := by
  have hs' := hs
  obtain ⟨⟨g1, g2⟩, ⟨g3, g4⟩, -⟩ := hs'
  obtain ⟨e1, -⟩ := z_fold_eqI (fun _ v => ∀ j, j < 19 → v j = w j) (sNb B) (z_h1 B b k) (fun o v => if (decide (o < sNb B) && z_hears B w b o) = true then upd v (19 + 6 * o + k) (v (19 + 6 * o + k) + nI 1) else v) w (fun _ _ => rfl) (fun o v ho hv => by
    have e := z_hears_congr (b := b) (o := o) hs (fun j h1 h2 => hv j (by omega))
    refine ⟨by unfold z_h1; rw [e], fun j hj => ?_⟩
    unfold z_h1
    split
    · unfold upd
      rw [if_neg (by omega)]
      exact hv j hj
    · exact hv j hj)
  rw [e1]
  funext j
  have key := z_incs (sNb B) (fun o => decide (o < sNb B) && z_hears B w b o) (fun o => 19 + 6 * o + k) w (fun i j hi hj _ _ h => by omega) j
  unfold z_hear
  by_cases hj : 19 ≤ j ∧ j < 55 ∧ (j - 19) % 6 = k ∧ (j - 19) / 6 < sNb B ∧ z_hears B w b ((j - 19) / 6) = true
  · rw [if_pos hj]
    exact key.1 ⟨(j - 19) / 6, hj.2.2.2.1, by simp [hj.2.2.2.1, hj.2.2.2.2], by omega⟩
  · rw [if_neg hj]
    refine key.2 (fun ⟨i, h1, h2, h3⟩ => hj ?_)
    have hd : (j - 19) / 6 = i := by omega
    have hm : (j - 19) % 6 = k := by omega
    refine ⟨by omega, by omega, hm, by omega, ?_⟩
    rw [hd]
    simp [h1] at h2
    exact h2
theorem z_hear_five (B : SB) (b k : Nat) (w : SW) (hs : q_sB B) (hb : b < sNb B) (hk : k < sNw B) : z_fold 5 (fun i v => if b + i < 2 then v else z_h1 B b k (b + i - 2) v) w = z_hear B w b k := by
  have hs' := hs
  obtain ⟨⟨g1, g2⟩, ⟨g3, g4⟩, -⟩ := hs'
  obtain ⟨e1, -⟩ := z_fold_eqI (fun _ v => ∀ j, j < 19 → v j = w j) 5 (fun i v => if b + i < 2 then v else z_h1 B b k (b + i - 2) v) (fun i v => if (decide (2 ≤ b + i) && (decide (b + i - 2 < sNb B) && z_hears B w b (b + i - 2))) = true then upd v (19 + 6 * (b + i - 2) + k) (v (19 + 6 * (b + i - 2) + k) + nI 1) else v) w (fun _ _ => rfl) (fun i v hi hv => by
    have e := z_hears_congr (b := b) (o := b + i - 2) hs (fun j h1 h2 => hv j (by omega))
    refine ⟨?_, fun j hj => ?_⟩
    · by_cases h : b + i < 2
      · rw [if_pos h, if_neg (by simp; omega)]
      · rw [if_neg h]
        unfold z_h1
        rw [e, show decide (2 ≤ b + i) = true from decide_eq_true (by omega), Bool.true_and]
    · show (if b + i < 2 then v else z_h1 B b k (b + i - 2) v) j = w j
      split
      · exact hv j hj
      · unfold z_h1
        split
        · unfold upd
          rw [if_neg (by omega)]
          exact hv j hj
        · exact hv j hj)
  rw [e1]
  funext j
  have key := z_incs 5 (fun i => decide (2 ≤ b + i) && (decide (b + i - 2 < sNb B) && z_hears B w b (b + i - 2))) (fun i => 19 + 6 * (b + i - 2) + k) w (fun i j hi hj h1 h2 h => by
    simp at h1 h2
    omega) j
  unfold z_hear
  by_cases hj : 19 ≤ j ∧ j < 55 ∧ (j - 19) % 6 = k ∧ (j - 19) / 6 < sNb B ∧ z_hears B w b ((j - 19) / 6) = true
  · rw [if_pos hj]
    have hh := hj.2.2.2.2
    have hr : (j - 19) / 6 + 2 ≥ b ∧ (j - 19) / 6 ≤ b + 2 := by
      unfold z_hears at hh
      simp at hh
      omega
    refine key.1 ⟨(j - 19) / 6 + 2 - b, by omega, ?_, by omega⟩
    have e : b + ((j - 19) / 6 + 2 - b) - 2 = (j - 19) / 6 := by omega
    rw [e]
    simp [hj.2.2.2.1, hj.2.2.2.2]
    omega
  · rw [if_neg hj]
    refine key.2 (fun ⟨i, h1, h2, h3⟩ => hj ?_)
    simp at h2
    have hd : (j - 19) / 6 = b + i - 2 := by omega
    have hm : (j - 19) % 6 = k := by omega
    refine ⟨by omega, by omega, hm, by omega, ?_⟩
    rw [hd]
    exact h2.2.2
theorem nI_eq_sub1 {o b : Nat} (ho : o < 1000000) (hb : b < 1000000) : (nI o = nI b - nI 1) = (o + 1 = b) := by
  refine propext ⟨fun h => ?_, fun h => ?_⟩
  · have h1 := congrArg Int32.toInt h
    rw [pk_sub_toInt (by omega) (by omega), nI_toInt (by omega)] at h1
    omega
  · subst h
    rw [pk_sub (by omega)]
    rfl
theorem q_hT_neg (sx : QX) (d p : Nat) (y x : Int32) (H : QH) (hx : x < nI 0) : q_CL (q_tb sx) q_kpt (d + 2) (31, ([vr 5 p, vi y, vi x], H)) = rI (nI 0) H := by
  refine (b_X3_hearsThrough_0 sx (d + 1) p y x H).trans ?_
  rw [decide_eq_true hx]
  rfl
theorem q_hT_big (sx : QX) (d p o : Nat) (y : Int32) (H : QH) (B : SB) (hB : q_rB H B) (hs : q_sB B) (ho : sNb B ≤ o) (ho2 : o < 1000000) : q_CL (q_tb sx) q_kpt (d + 2) (31, ([vr 5 p, vi y, vn o], H)) = rI (nI 0) H := by
  obtain ⟨⟨g1, g2⟩, -⟩ := hs
  refine (b_X3_hearsThrough_0 sx (d + 1) p y (nI o) H).trans ?_
  rw [hB.1]
  simp (disch := omega) only [Bool.cond_decide, nI_add, pk_mul, q_inbN, q_cl_nI, q_ltN, q_leN, q_eqN, q_ifT, q_ifF, q_cIs, q_cVs, decide_false, decide_true, Bool.not_false, Bool.not_true, cond_true, cond_false, ne_eq, not_false_eq_true, not_true_eq_false, if_true, if_false]
theorem q_hT (sx : QX) (d p b o : Nat) (H : QH) (B : SB) (hB : q_rB H B) (hs : q_sB B) (hb : b < sNb B) (ho : o < sNb B) (hne : o ≠ b) (h1 : o ≤ b + 2) (h2 : b ≤ o + 2) : q_CL (q_tb sx) q_kpt (d + 2) (31, ([vr 5 p, vn b, vn o], H)) = rI (z01 (z_hears B (c_get H p) b o)) H := by
  obtain ⟨⟨g1, g2⟩, -⟩ := hs
  refine (b_X3_hearsThrough_0 sx (d + 1) p (nI b) (nI o) H).trans ?_
  rw [hB.1]
  have hdiv : (nI (b + o)) / nI 2 = nI ((b + o) / 2) := pk_div (by omega) (by omega) (by omega)
  simp (disch := omega) only [Bool.cond_decide, nI_add, pk_mul, q_inbN, q_cl_nI, q_ltN, q_leN, q_eqN, q_ifT, q_ifF, q_cIs, q_cVs, decide_false, decide_true, Bool.not_false, Bool.not_true, cond_true, cond_false, ne_eq, not_false_eq_true, not_true_eq_false, if_true, if_false, at_6, c_r2 H p, nI_eq_sub1, hdiv]
  unfold z_hears z_in
  have hm : (b + o) / 2 < sNb B := by omega
  simp only [ho, hm, hne, decide_true, decide_false, Bool.true_and, Bool.false_or]
  by_cases e1 : c_get H p (7 + o) = nI 0
  · by_cases e2 : o + 1 = b
    · simp [e1, e2, z01]
    · by_cases e3 : o = b + 1
      · subst e3; simp [e1, z01]
      · have e4 : o + 2 = b ∨ b + 2 = o := by omega
        have e5 : ¬ (b + 1 = o) := fun q => e3 q.symm
        by_cases e6 : c_get H p (7 + (b + o) / 2) = nI 0 <;> simp [e1, e2, e3, e4, e5, e6, z01]
  · simp [e1, z01]
theorem nI_ot (b i : Nat) (h : 2 ≤ b + i) : nI b - nI 2 + nI i = nI (b + i - 2) := by
  have e : nI (b + i - 2) + nI 2 = nI (b + i) := by rw [nI_add, show b + i - 2 + 2 = b + i by omega]
  have e2 : nI b - nI 2 + nI i = (nI b + nI i) - nI 2 := by
    rw [Int32.sub_eq_add_neg, Int32.sub_eq_add_neg, Int32.add_assoc, Int32.add_comm (-nI 2), ← Int32.add_assoc]
  rw [e2, nI_add, ← e, Int32.add_sub_cancel]
theorem nI_ot_s (b i : Nat) : nI b - nI 2 + nI i + nI 1 = nI b - nI 2 + nI (i + 1) := by
  rw [Int32.add_assoc, nI_add]
theorem nI_ot_n (b i : Nat) (h : b + i < 2) : nI b - nI 2 + nI i < nI 0 ∧ nI b - nI 2 + nI i ≠ nI b ∧ ¬ (nI (b + 2) < nI b - nI 2 + nI i) := by
  rcases (show (b = 0 ∧ i = 0) ∨ (b = 0 ∧ i = 1) ∨ (b = 1 ∧ i = 0) by omega) with ⟨rfl, rfl⟩ | ⟨rfl, rfl⟩ | ⟨rfl, rfl⟩ <;> decide +kernel
theorem q_speak (sx : QX) (d p s b k N : Nat) (H : QH) (B : SB) (hB : q_rB H B) (hs : q_sB B) (hp : 13 ≤ p) (hh : q_hd B (c_get H p) N) (hN : N < 1000000) (h1 : s < sNs B) (h2 : b < sNb B) (h3 : k < sNw B) : q_CL (q_tb sx) q_kpt (d + 3) (29, ([vr 5 p, vn s, vn b, vn k], H)) = rV (c_put H p (z_says B (c_get H p) s b k)) := by
  have hs' := hs
  obtain ⟨⟨g1, g2⟩, ⟨g3, g4⟩, ⟨g5, g6⟩, -⟩ := hs'
  refine (b_X3_speak_0 sx (d + 2) p (nI s) (nI b) (nI k) H).trans ?_
  rw [q_worthOf sx d p s b k N H B hB hs hh hN h1 h2 h3]
  simp (disch := omega) only [Bool.cond_decide, nI_add, pk_mul, q_inbN, q_cl_nI, q_ltN, q_leN, q_eqN, q_ifT, q_ifF, q_cIs, q_cVs, decide_false, decide_true, Bool.not_false, Bool.not_true, cond_true, cond_false, ne_eq, not_false_eq_true, not_true_eq_false, if_true, if_false, at_4, put_4, c_r4 H p]
  rw [c_h4 H p _ s (by omega)]
  have hl := z_loop 5 (fun i w => q_EV (q_tb sx) q_kpt (d + 3) 29 (32, ([(0, vr 5 p), (2, vn b), (3, vn k), (4, vi (z_worth B (c_get H p) s b k)), (5, vi (nI b - nI 2 + nI i))], ([], c_put H p w)))) (fun i v => if b + i < 2 then v else z_h1 B b k (b + i - 2) v) (fun i w hi => by
    refine (b_X3_speak_32 sx (d + 2) p (nI b) (nI k) _ _ _).trans ?_
    rw [nI_add]
    by_cases hc : b + i < 2
    · obtain ⟨n1, n2, n3⟩ := nI_ot_n b i hc
      rw [q_hT_neg sx d p (nI b) _ _ n1, if_pos hc]
      rw [decide_eq_false n3, decide_eq_false n2, nI_ot_s]
      rfl
    · rw [if_neg hc, nI_ot b i (by omega), ← nI_ot_s, nI_ot b i (by omega)]
      by_cases ho : b + i - 2 = b
      · rw [ho]
        simp (disch := omega) only [Bool.cond_decide, nI_add, pk_mul, q_inbN, q_cl_nI, q_ltN, q_leN, q_eqN, q_ifT, q_ifF, q_cIs, q_cVs, decide_false, decide_true, Bool.not_false, Bool.not_true, cond_true, cond_false, ne_eq, not_false_eq_true, not_true_eq_false, if_true, if_false, q_hear]
        rw [c_put_put, c_get_put]
        unfold z_h1
        rw [if_pos (by simp [h2, z_hears])]
      · by_cases hn : b + i - 2 < sNb B
        · rw [q_hT sx d p b (b + i - 2) _ B (q_rB_put hB hp) hs h2 hn ho (by omega) (by omega), c_get_put]
          simp (disch := omega) only [Bool.cond_decide, nI_add, pk_mul, q_inbN, q_cl_nI, q_ltN, q_leN, q_eqN, q_ifT, q_ifF, q_cIs, q_cVs, decide_false, decide_true, Bool.not_false, Bool.not_true, cond_true, cond_false, ne_eq, not_false_eq_true, not_true_eq_false, if_true, if_false, q_hear]
          rw [c_put_put, c_get_put]
          unfold z_h1
          cases hz : z_hears B w b (b + i - 2) with
          | true => simp [z01, hn, nI_eq]
          | false => simp [z01, nI_eq]
        · rw [q_hT_big sx d p (b + i - 2) _ _ B (q_rB_put hB hp) hs (by omega) (by omega)]
          simp (disch := omega) only [Bool.cond_decide, nI_add, pk_mul, q_inbN, q_cl_nI, q_ltN, q_leN, q_eqN, q_ifT, q_ifF, q_cIs, q_cVs, decide_false, decide_true, Bool.not_false, Bool.not_true, cond_true, cond_false, ne_eq, not_false_eq_true, not_true_eq_false, if_true, if_false]
          unfold z_h1
          rw [if_neg (by simp [hn])]) (upd (c_get H p) (79 + s) (c_get H p (79 + s) - nI 1))
  rw [show nI b - nI 2 = nI b - nI 2 + nI 0 from (by rw [show nI 0 = 0 from nI_0, Int32.add_zero])]
  refine Eq.trans hl ?_
  rw [z_hear_five B b k _ hs h2 h3]
  refine (b_X3_speak_32 sx (d + 2) p (nI b) (nI k) _ _ _).trans ?_
  rw [nI_ot b 5 (by omega)]
  simp (disch := omega) only [Bool.cond_decide, nI_add, pk_mul, q_inbN, q_cl_nI, q_ltN, q_leN, q_eqN, q_ifT, q_ifF, q_cIs, q_cVs, decide_false, decide_true, Bool.not_false, Bool.not_true, cond_true, cond_false, ne_eq, not_false_eq_true, not_true_eq_false, if_true, if_false]
  rw [q_soften sx d p b _ _ B (q_rB_put hB hp) hs hp h2, c_put_put, c_get_put]
  rfl
