/-! quarries alike where the bed looks: every function answers alike -/
def q_ag (B : SB) (v w : SW) : Prop := ∀ j, j < 79 + sNs B → v j = w j
theorem ag_rf (B : SB) (w : SW) : q_ag B w w := fun _ _ => rfl
theorem ag_sym {B : SB} {v w : SW} (h : q_ag B v w) : q_ag B w v := fun j hj => (h j hj).symm
theorem ag_tr {B : SB} {u v w : SW} (h1 : q_ag B u v) (h2 : q_ag B v w) : q_ag B u w := fun j hj => (h1 j hj).trans (h2 j hj)
theorem ag_upd {B : SB} {v w : SW} (h : q_ag B v w) (i : Nat) {x y : Int32} (e : x = y) : q_ag B (upd v i x) (upd w i y) := fun j hj => by
  subst e
  unfold upd
  split
  · rfl
  · exact h j hj
section AG
variable {B : SB} {v w : SW}
theorem ag_worth (hs : q_sB B) (h : q_ag B v w) {s b k : Nat} (hb : b < sNb B) (hk : k < sNw B) : z_worth B v s b k = z_worth B w s b k := by
  obtain ⟨⟨g1, g2⟩, ⟨g3, g4⟩, ⟨g5, g6⟩, -⟩ := hs
  unfold z_worth
  rw [h _ (by omega)]
theorem ag_in (hs : q_sB B) (h : q_ag B v w) (b : Nat) : z_in B v b = z_in B w b := z_in_congr hs (fun j h1 h2 => h j (by omega))
theorem ag_hears (hs : q_sB B) (h : q_ag B v w) (b o : Nat) : z_hears B v b o = z_hears B w b o := z_hears_congr hs (fun j h1 h2 => h j (by omega))
theorem ag_hear (hs : q_sB B) (h : q_ag B v w) (b k : Nat) : q_ag B (z_hear B v b k) (z_hear B w b k) := fun j hj => by
  unfold z_hear
  rw [ag_hears hs h, h j hj]
theorem ag_soften (hs : q_sB B) (h : q_ag B v w) {b : Nat} {x y : Int32} (hb : b < sNb B) (e : x = y) : q_ag B (z_soften B v b x) (z_soften B w b y) := by
  obtain ⟨⟨g1, g2⟩, -⟩ := hs
  subst e
  unfold z_soften
  rw [h (1 + b) (by omega)]
  split
  · exact ag_upd h _ rfl
  · exact ag_upd (ag_upd h _ rfl) _ rfl
theorem ag_says (hs : q_sB B) (h : q_ag B v w) {s b k : Nat} (h1 : s < sNs B) (hb : b < sNb B) (hk : k < sNw B) : q_ag B (z_says B v s b k) (z_says B w s b k) := by
  unfold z_says
  exact ag_soften hs (ag_hear hs (ag_upd h _ (by rw [h _ (by omega)])) _ _) hb (ag_worth hs h hb hk)
theorem ag_fold {σ τ : Type} (R : σ → τ → Prop) (n : Nat) (f : Nat → σ → σ) (g : Nat → τ → τ) {a : σ} {b : τ} (h0 : R a b) (h : ∀ k x y, k < n → R x y → R (f k x) (g k y)) : R (z_fold n f a) (z_fold n g b) := by
  have key : ∀ i, i ≤ n → R (z_fold i f a) (z_fold i g b) := by
    intro i
    induction i with
    | zero => intro _; exact h0
    | succ i ih => intro hi; exact h i _ _ (by omega) (ih (by omega))
  exact key n (Nat.le_refl n)
theorem ag_cstep (hs : q_sB B) (h : q_ag B v w) : q_ag B (z_fold (sNb B) (z_cstep B) v) (z_fold (sNb B) (z_cstep B) w) :=
  ag_fold (q_ag B) _ _ _ h (fun b x y hb hxy => by
    have hs' := hs
    obtain ⟨⟨g1, g2⟩, -⟩ := hs'
    unfold z_cstep
    rw [hxy (7 + b) (by omega)]
    split
    · exact ag_soften hs hxy hb rfl
    · exact hxy)
theorem ag_day (h : q_ag B v w) {dl : Nat → Int32} (hs : q_sB B) (hd : ∀ s, s < sNs B → dl s = sD B s) : q_ag B (z_day 4 dl v) (z_day (sNs B) (sD B) w) := fun j hj => by
  obtain ⟨-, -, ⟨g5, g6⟩, -⟩ := hs
  unfold z_day
  by_cases h1 : 79 ≤ j
  · rw [if_pos (show 79 ≤ j ∧ j < 79 + 4 by omega), if_pos (show 79 ≤ j ∧ j < 79 + sNs B by omega), hd _ (by omega)]
  · rw [if_neg (show ¬ (79 ≤ j ∧ j < 79 + 4) by omega), if_neg (show ¬ (79 ≤ j ∧ j < 79 + sNs B) by omega), h j hj, h 0 (by omega)]
theorem ag_bel (hs : q_sB B) (h : q_ag B v w) {b s : Nat} {u : Int32} (hb : b < sNb B) (h1 : s < sNs B) : z_bel v b u s = z_bel w b u s := by
  obtain ⟨⟨g1, g2⟩, ⟨g3, g4⟩, ⟨g5, g6⟩, -⟩ := hs
  unfold z_bel
  rw [h _ (by omega)]
theorem z_any_congr {n : Nat} {c c' : Nat → Bool} (h : ∀ k, k < n → c k = c' k) : z_any n c = z_any n c' := by
  induction n with
  | zero => rfl
  | succ n ih =>
    show (z_any n c || c n) = (z_any n c' || c' n)
    rw [ih (fun k hk => h k (by omega)), h n (by omega)]
theorem ag_else (hs : q_sB B) (h : q_ag B v w) {b : Nat} {u : Int32} (hb : b < sNb B) : z_else B v b u = z_else B w b u := by
  unfold z_else
  rw [z_any_congr (fun s h1 => ag_bel hs h hb h1)]
theorem ag_take (hs : q_sB B) (h : q_ag B v w) {b : Nat} {u : Int32} (hb : b < sNb B) : q_ag B (z_take B v b u) (z_take B w b u) := by
  unfold z_take
  rw [ag_else hs h hb]
  exact ag_upd (ag_upd h _ rfl) _ rfl
theorem ag_best (hs : q_sB B) (h : q_ag B v w) {b : Nat} (hb : b < sNb B) : z_best B v b = z_best B w b := by
  unfold z_best
  rw [z_fold_congr (sNs B) (z_bsp B v b) (z_bsp B w b) _ (fun s a h1 => by
    unfold z_bsp
    rw [h (79 + s) (by omega)]
    split
    · refine z_fold_congr _ _ _ _ (fun k a hk => ?_)
      unfold z_bstep
      rw [ag_worth hs h hb hk]
    · rfl)]
theorem ag_bword (hs : q_sB B) (h : q_ag B v w) {s b : Nat} (hb : b < sNb B) : z_bword B v s b = z_bword B w s b := by
  unfold z_bword
  rw [z_fold_congr (sNw B) (z_wstep B v s b) (z_wstep B w s b) _ (fun k a hk => by
    unfold z_wstep
    rw [ag_worth hs h hb hk])]
theorem ag_asks (hs : q_sB B) {b : Nat} (hb : b < sNb B) : ∀ (n : Nat) (v w : SW), q_ag B v w → q_ag B (z_asks B b n v) (z_asks B b n w) := by
  have hs' := hs
  obtain ⟨⟨g1, g2⟩, -⟩ := hs'
  intro n
  induction n with
  | zero => intro v w h; exact h
  | succ n ih =>
    intro v w h
    unfold z_asks
    rw [h (7 + b) (by omega), ag_best hs h hb]
    split
    · rcases z_best_in B w b with e | ⟨s, k, e1, e2, e3, -⟩
      · rw [e]; exact h
      · rw [e3]; exact ih _ _ (ag_says hs h e1 hb e2)
    · exact h
theorem ag_askW (hs : q_sB B) {s b : Nat} (h1 : s < sNs B) (hb : b < sNb B) : ∀ (n : Nat) (v w : SW), q_ag B v w → q_ag B (z_askW B s b n v) (z_askW B s b n w) := by
  have hs' := hs
  obtain ⟨⟨g1, g2⟩, -⟩ := hs'
  intro n
  induction n with
  | zero => intro v w h; exact h
  | succ n ih =>
    intro v w h
    unfold z_askW
    rw [h (7 + b) (by omega), ag_bword hs h hb]
    split
    · rcases z_bword_in B w s b with e | ⟨k, e2, e3⟩
      · rw [e]; exact h
      · rw [e3]; exact ih _ _ (ag_says hs h h1 hb e2)
    · exact h
theorem ag_tally (hs : q_sB B) (h : q_ag B v w) (x : Int32) : z_tally B v x = z_tally B w x := by
  obtain ⟨⟨g1, g2⟩, -⟩ := hs
  unfold z_tally
  exact z_fold_congr _ _ _ _ (fun b n hb => by rw [h _ (by omega)])
theorem ag_lies (hs : q_sB B) (h : q_ag B v w) {m b : Nat} (hb : b < sNb B) : z_lies B v m b = z_lies B w m b := by
  have hs' := hs
  obtain ⟨⟨g1, g2⟩, -⟩ := hs'
  unfold z_lies
  rw [h (13 + b) (by omega)]
  exact z_any_congr (fun s h1 => by rw [ag_bel hs h hb h1])
theorem ag_expl (hs : q_sB B) (h : q_ag B v w) (m : Nat) : z_expl B v m = z_expl B w m := by
  have hs' := hs
  obtain ⟨⟨g1, g2⟩, -⟩ := hs'
  unfold z_expl
  rw [z_any_congr (fun b hb => by rw [h (7 + b) (by omega), ag_lies hs h hb])]
theorem ag_harmOf (hs : q_sB B) (h : q_ag B v w) {b k : Nat} (hk : k < sNw B) : z_harmOf B v b k = z_harmOf B w b k := by
  have hs' := hs
  obtain ⟨⟨g1, g2⟩, ⟨g3, g4⟩, ⟨g5, g6⟩, -⟩ := hs'
  unfold z_harmOf
  refine z_fold_congr _ _ _ _ (fun o a ho => ?_)
  unfold z_hterm
  rw [ag_hears hs h, h _ (by omega)]
theorem ag_harm (hs : q_sB B) (h : q_ag B v w) {b : Nat} (hb : b < sNb B) : z_harm B v b = z_harm B w b := by
  unfold z_harm
  rw [z_fold_congr (sNs B) (z_hmsp B v b) (z_hmsp B w b) _ (fun s a h1 => by
    unfold z_hmsp
    rw [h (79 + s) (by omega)]
    split
    · refine z_fold_congr _ _ _ _ (fun k a hk => ?_)
      unfold z_hmstep
      rw [ag_worth hs h hb hk, ag_harmOf hs h hk]
    · rfl)]
end AG
/-- a quarry in order: n bounds what was heard -/
def q_vw (B : SB) (n : Nat) (w : SW) : Prop := q_hd B w n ∧ (∀ b, b < sNb B → (∃ m, m < 4 ∧ w (7 + b) = nI m) ∧ (w (7 + b) = nI 0 → ∃ m, w (1 + b) = nI m ∧ m < 60 ∧ nI m < sN B b)) ∧ ∀ s, s < sNs B → ∃ m, m ≤ 9 ∧ w (79 + s) = nI m
theorem vw_mono {B : SB} {n m : Nat} {w : SW} (h : q_vw B n w) (hnm : n ≤ m) : q_vw B m w := ⟨q_hd_mono h.1 hnm, h.2⟩
theorem vw_ag {B : SB} {n : Nat} {v w : SW} (hs : q_sB B) (h : q_vw B n w) (e : q_ag B v w) : q_vw B n v := by
  obtain ⟨⟨g1, g2⟩, ⟨g3, g4⟩, ⟨g5, g6⟩, -⟩ := hs
  obtain ⟨h1, h2, h3⟩ := h
  refine ⟨fun b k hb hk => ?_, fun b hb => ?_, fun s h => ?_⟩
  · rw [e _ (by omega)]; exact h1 b k hb hk
  · rw [e (7 + b) (by omega), e (1 + b) (by omega)]; exact h2 b hb
  · rw [e _ (by omega)]; exact h3 s h
theorem vw_soften {B : SB} {n b : Nat} {w : SW} {x : Int32} (hs : q_sB B) (h : q_vw B n w) (hb : b < sNb B) (hin : w (7 + b) = nI 0) (hx : ∃ c, c ≤ 1000 ∧ x = nI c) : q_vw B n (z_soften B w b x) := by
  have hs' := hs
  obtain ⟨⟨g1, g2⟩, ⟨g3, g4⟩, ⟨g5, g6⟩, gK, -⟩ := hs'
  obtain ⟨h1, h2, h3⟩ := h
  obtain ⟨m, em, hm, hlt⟩ := (h2 b hb).2 hin
  obtain ⟨c, hc, rfl⟩ := hx
  obtain ⟨-, t, ht1, ht2, et⟩ := gK b hb
  unfold z_soften
  by_cases h : w (1 + b) + nI c < sN B b
  · rw [if_pos h]
    refine ⟨fun o k ho hk => ?_, fun o ho => ?_, fun s hs => ?_⟩
    · rw [pk_un (by omega)]; exact h1 o k ho hk
    · rw [pk_un (by omega)]
      refine ⟨(h2 o ho).1, fun hin => ?_⟩
      by_cases e : o = b
      · subst e
        rw [pk_us]
        rw [em, nI_add] at h ⊢
        have h' := h
        rw [et, nI_ltI (by omega) (by omega)] at h'
        exact ⟨m + c, rfl, by omega, h⟩
      · rw [pk_un (by omega)]; exact (h2 o ho).2 hin
    · rw [pk_un (by omega)]; exact h3 s hs
  · rw [if_neg h]
    refine ⟨fun o k ho hk => ?_, fun o ho => ?_, fun s hs => ?_⟩
    · rw [pk_un (by omega), pk_un (by omega)]; exact h1 o k ho hk
    · by_cases e : o = b
      · subst e
        rw [pk_us]
        exact ⟨⟨1, by omega, rfl⟩, fun q => absurd q (by decide)⟩
      · rw [pk_un (by omega), pk_un (by omega), pk_un (by omega), pk_un (by omega)]; exact h2 o ho
    · rw [pk_un (by omega), pk_un (by omega)]; exact h3 s hs
theorem vw_hear {B : SB} {n b k : Nat} {w : SW} (hs : q_sB B) (h : q_vw B n w) : q_vw B (n + 1) (z_hear B w b k) := by
  obtain ⟨⟨g1, g2⟩, ⟨g3, g4⟩, ⟨g5, g6⟩, -⟩ := hs
  obtain ⟨h1, h2, h3⟩ := h
  refine ⟨fun o j ho hj => ?_, fun o ho => ?_, fun s hs => ?_⟩
  · obtain ⟨m, hm, e⟩ := h1 o j ho hj
    unfold z_hear
    split
    · rw [e, nI_add]; exact ⟨m + 1, by omega, rfl⟩
    · rw [e]; exact ⟨m, by omega, rfl⟩
  · have e1 : z_hear B w b k (7 + o) = w (7 + o) := by unfold z_hear; rw [if_neg (by omega)]
    have e2 : z_hear B w b k (1 + o) = w (1 + o) := by unfold z_hear; rw [if_neg (by omega)]
    rw [e1, e2]; exact h2 o ho
  · have e1 : z_hear B w b k (79 + s) = w (79 + s) := by unfold z_hear; rw [if_neg (by omega)]
    rw [e1]; exact h3 s hs
theorem vw_says {B : SB} {n s b k : Nat} {w : SW} (hs : q_sB B) (h : q_vw B n w) (hn : n < 1000000) (h1 : s < sNs B) (hb : b < sNb B) (hk : k < sNw B) (hin : w (7 + b) = nI 0) (hh : nI 0 < w (79 + s)) : q_vw B (n + 1) (z_says B w s b k) := by
  have hs' := hs
  obtain ⟨⟨g1, g2⟩, ⟨g3, g4⟩, ⟨g5, g6⟩, -⟩ := hs'
  unfold z_says
  have hw : q_vw B n (upd w (79 + s) (w (79 + s) - nI 1)) := by
    obtain ⟨q1, q2, q3⟩ := h
    refine ⟨fun o j ho hj => ?_, fun o ho => ?_, fun t ht => ?_⟩
    · rw [pk_un (by omega)]; exact q1 o j ho hj
    · rw [pk_un (by omega), pk_un (by omega)]; exact q2 o ho
    · by_cases e : t = s
      · subst e
        rw [pk_us]
        obtain ⟨m, hm, em⟩ := q3 t ht
        rw [em] at hh ⊢
        rw [nI_ltI (by omega) (by omega)] at hh
        exact ⟨m - 1, by omega, pk_sub (by omega)⟩
      · rw [pk_un (by omega)]; exact q3 t ht
  refine vw_soften hs (vw_hear hs hw) hb ?_ ?_
  · unfold z_hear
    rw [if_neg (by omega), pk_un (by omega)]
    exact hin
  · obtain ⟨c, hc, e, -⟩ := z_worth_n hs h.1 hn (s := s) hb hk
    exact ⟨c, by omega, e⟩
theorem vw_cold {B : SB} (hs : q_sB B) (b : Nat) : ∃ c, c ≤ 1000 ∧ z_cold B b = nI c := by
  obtain ⟨-, -, -, -, -, -, t, ht, et⟩ := hs
  unfold z_cold
  rw [et]
  split
  · exact ⟨2 * t, by omega, pk_mul 2 t⟩
  · exact ⟨t, by omega, rfl⟩
theorem vw_nights {B : SB} {n : Nat} {w : SW} (hs : q_sB B) (h : q_vw B n w) : q_vw B n (z_fold (sNb B) (z_cstep B) w) :=
  z_fold_inv (fun _ v => q_vw B n v) (sNb B) (z_cstep B) w h (fun b v hb hv => by
    unfold z_cstep
    split
    · rename_i hin; exact vw_soften hs hv hb hin (vw_cold hs b)
    · exact hv)
theorem vw_day {B : SB} {n : Nat} {w : SW} (hs : q_sB B) (h : q_vw B n w) : q_vw B n (z_day (sNs B) (sD B) w) := by
  obtain ⟨⟨g1, g2⟩, ⟨g3, g4⟩, ⟨g5, g6⟩, -, -, gS, -⟩ := hs
  obtain ⟨h1, h2, h3⟩ := h
  have e : ∀ j, 1 ≤ j → j < 79 → z_day (sNs B) (sD B) w j = w j := fun j h1 h2 => by unfold z_day; rw [if_neg (by omega), if_neg (by omega)]
  refine ⟨fun o j ho hj => ?_, fun o ho => ?_, fun t ht => ?_⟩
  · rw [e _ (by omega) (by omega)]; exact h1 o j ho hj
  · rw [e _ (by omega) (by omega), e _ (by omega) (by omega)]; exact h2 o ho
  · unfold z_day
    rw [if_pos (by omega), Nat.add_sub_cancel_left]
    obtain ⟨-, m, -, hm, em⟩ := gS t ht
    exact ⟨m, hm, em⟩
theorem vw_far {B : SB} {n i : Nat} {w : SW} {x : Int32} (h : q_vw B n w) (hi : (13 ≤ i ∧ i < 19) ∨ (55 ≤ i ∧ i < 79)) (hs : q_sB B) : q_vw B n (upd w i x) := by
  obtain ⟨⟨g1, g2⟩, ⟨g3, g4⟩, ⟨g5, g6⟩, -⟩ := hs
  obtain ⟨h1, h2, h3⟩ := h
  refine ⟨fun o j ho hj => ?_, fun o ho => ?_, fun t ht => ?_⟩
  · rw [pk_un (by omega)]; exact h1 o j ho hj
  · rw [pk_un (by omega), pk_un (by omega)]; exact h2 o ho
  · rw [pk_un (by omega)]; exact h3 t ht
theorem vw_take {B : SB} {n b : Nat} {w : SW} {u : Int32} (hs : q_sB B) (h : q_vw B n w) (hb : b < sNb B) : q_vw B n (z_take B w b u) := by
  have hs' := hs
  obtain ⟨⟨g1, g2⟩, ⟨g3, g4⟩, ⟨g5, g6⟩, -⟩ := hs'
  unfold z_take
  refine vw_far ?_ (Or.inl (by omega)) hs
  obtain ⟨h1, h2, h3⟩ := h
  refine ⟨fun o j ho hj => ?_, fun o ho => ?_, fun t ht => ?_⟩
  · rw [pk_un (by omega)]; exact h1 o j ho hj
  · by_cases e : o = b
    · subst e
      rw [pk_us]
      split
      · exact ⟨⟨3, by omega, rfl⟩, fun q => absurd q (by decide)⟩
      · exact ⟨⟨2, by omega, rfl⟩, fun q => absurd q (by decide)⟩
    · rw [pk_un (by omega), pk_un (by omega)]; exact h2 o ho
  · rw [pk_un (by omega)]; exact h3 t ht
