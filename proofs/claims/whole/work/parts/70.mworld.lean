/-! FROM the class's places alone to all -/
theorem k_en_at {g g1 : QG} {H H1 : QH} {p : Nat} {D : va_G} {Hh : Heap} (hnp : q_np g = 165) (hp : p < 165) (hc : g1.2.2 = g.2.2) (ha : ∀ q, q < 165 ∨ q = 183 → q_ad g1 q = q_ad g q) (hH : H1 p = H p) (h : va_at D vwCl (q_ad g p, q_en g H p) Hh) : va_at D vwCl (q_ad g1 p, q_en g1 H1 p) Hh := by
  rw [ha p (Or.inl hp)]
  have hp' : p < q_np g := by omega
  by_cases c1 : 100 ≤ q_sh p
  · rw [q_en_int rfl c1] at h ⊢
    rw [hc, hH]
    exact h
  · by_cases c2 : 20 ≤ q_sh p
    · rw [q_en_ref rfl c2 (by omega)] at h ⊢
      rw [hc]
      have h : Hh[q_ad g p]? = some (vp_cell g.2.2.2 (q_sh p - 20, .inr (.inr (.inr (.inr (fun j => some (q_ad g (p + 1 + 7 * j)))))))) := h
      show Hh[q_ad g p]? = some (vp_cell g.2.2.2 (q_sh p - 20, .inr (.inr (.inr (.inr (fun j => some (q_ad g1 (p + 1 + 7 * j))))))))
      rw [h, vp_cell_q, vp_cell_q]
      refine congrArg some (k_arrV (fun j hj => ?_))
      have hv := q_el_ok (g := g) (i := j) hp' c2 (by omega) hj
      rcases hv with ⟨hv, -⟩ | ⟨hv, -⟩
      · cases hv
      · rw [ha _ (Or.inl (by omega))]
    · rw [q_en_obj rfl (by omega)] at h ⊢
      have e : q_fs g1 H1 (q_sh p) p = q_fs g H (q_sh p) p := by
        unfold q_fs
        refine List.map_congr_left (fun j _ => ?_)
        unfold q_fv
        cases hfr : q_fr (q_sh p) j with
        | none => rw [hH]
        | some o =>
          obtain ⟨k, o2⟩ := o
          obtain ⟨hv, h1⟩ := q_fr_ok (g := g) hp' hfr
          have h1 : 1 ≤ k := h1
          obtain ⟨k, rfl⟩ : ∃ k', k = k' + 1 := ⟨k - 1, by omega⟩
          show Value.ref (q_ad g1 (q_tg p (k + 1, o2))) = Value.ref (q_ad g (q_tg p (k + 1, o2)))
          rcases hv with ⟨-, hv⟩ | ⟨hv, -⟩
          · rw [ha _ (Or.inr hv)]
          · rw [ha _ (Or.inl (by omega))]
      rw [e]
      exact h
def k_ad1 (f : Nat → Nat) (h0 : Nat) (u : Nat → Nat) (b sz : Nat) (p : Nat) : Nat := if p < 165 then f p else if p = 165 then h0 else if p < 183 then u (p - 165) else if p = 183 then b else if p = 184 then 0 else if p = 185 then sz else 0
theorem k_ad1_lt (D : va_G) (cI cQ : ClassId) (f : Nat → Nat) (h0 : Nat) (u : Nat → Nat) (b sz : Nat) {p : Nat} (hp : p < 165) : q_ad (k_g D cI cQ (k_ad1 f h0 u b sz)) p = f p := by
  show k_ad1 f h0 u b sz p = _
  unfold k_ad1
  rw [if_pos hp]
def k_H1 (Hc : QH) : QH := fun p => if p < 165 then Hc p else fun _ => nI 0
def k_mobj (h0 : Nat) (u : Nat → Nat) : Nat × va_E := (h0, .inr (7, [.ref (u 1), .int (nI 0), .int (nI 0), .int (nI 0), .ref (u 2), .ref (u 3), .int (nI 0), .ref (u 4), .int (nI 0), .ref (u 5), .ref (u 6), .int (nI 0), .ref (u 7), .int (nI 0), .int (nI 0), .int (nI 0), .int (nI 0), .ref (u 8), .int (nI 0), .ref (u 9), .int (nI 0), .ref (u 10), .int (nI 0), .ref (u 11), .ref (u 12), .ref (u 13), .ref (u 14), .ref (u 15), .ref (u 16), .ref (u 17)]))
def k_mrows (cI : ClassId) (u : Nat → Nat) : va_W := [(u 1, .inl (cI, (1577, .inl (fun _ => nI 0)))), (u 2, .inl (cI, (6, .inl (fun _ => nI 0)))), (u 3, .inl (cI, (6, .inl (fun _ => nI 0)))), (u 4, .inl (cI, (6, .inl (fun _ => nI 0)))), (u 5, .inl (cI, (4, .inl (fun _ => nI 0)))), (u 6, .inl (cI, (4, .inl (fun _ => nI 0)))), (u 7, .inl (cI, (200, .inl (fun _ => nI 0)))), (u 8, .inl (cI, (12, .inl (fun _ => nI 0)))), (u 9, .inl (cI, (6, .inl (fun _ => nI 0)))), (u 10, .inl (cI, (8, .inl (fun _ => nI 0)))), (u 11, .inl (cI, (24, .inl (fun _ => nI 0)))), (u 12, .inl (cI, (5, .inl (fun _ => nI 0)))), (u 13, .inl (cI, (5, .inl (fun _ => nI 0)))), (u 14, .inl (cI, (6, .inl (fun _ => nI 0)))), (u 15, .inl (cI, (4, .inl (fun _ => nI 0)))), (u 16, .inl (cI, (7, .inl (fun _ => nI 0)))), (u 17, .inl (cI, (6, .inl (fun _ => nI 0))))]
set_option maxHeartbeats 4000000 in
set_option maxRecDepth 100000 in
theorem k_m_eq (D : va_G) (cI cQ : ClassId) (f : Nat → Nat) (h0 : Nat) (u : Nat → Nat) (b sz : Nat) (Hc : QH) : (List.range' 165 18).map (fun p => (q_ad (k_g D cI cQ (k_ad1 f h0 u b sz)) p, q_en (k_g D cI cQ (k_ad1 f h0 u b sz)) (k_H1 Hc) p)) = k_mobj h0 u :: k_mrows cI u := by
  rfl
theorem k_m_spl (D : va_G) (cI cQ : ClassId) (f : Nat → Nat) (h0 : Nat) (u : Nat → Nat) (b sz : Nat) (Hc : QH) : q_wd (k_g D cI cQ (k_ad1 f h0 u b sz)) (k_H1 Hc) = (List.range 165).map (fun p => (q_ad (k_g D cI cQ (k_ad1 f h0 u b sz)) p, q_en (k_g D cI cQ (k_ad1 f h0 u b sz)) (k_H1 Hc) p)) ++ (k_mobj h0 u :: k_mrows cI u) := by
  rw [← k_m_eq D cI cQ f h0 u b sz Hc, ← List.map_append]
  have e : List.range 165 ++ List.range' 165 18 = List.range 183 := by decide +kernel
  rw [e]
  rfl
theorem k_Daddr {A : Nat → Prop} {X Y : va_W} (h : va_D A X) (hXY : ∀ (k : Nat) (q : Nat × va_E), Y[k]? = some q → ∃ e, X[k]? = some (q.1, e)) : va_D A Y := by
  refine ⟨fun i j p q hi hj e => ?_, fun k q hk => ?_⟩
  · obtain ⟨e1, h1⟩ := hXY i p hi
    obtain ⟨e2, h2⟩ := hXY j q hj
    exact h.1 i j _ _ h1 h2 e
  · obtain ⟨e1, h1⟩ := hXY k q hk
    exact h.2 k (q.1, e1) h1
/-- the model's object and rows beside the class's places: all places -/
theorem k_m_P {D : va_G} {cI cQ : ClassId} {g0 : QG} {Hc : QH} {h0 : Nat} {u : Nat → Nat} {b sz : Nat} {A : Nat → Prop} {H : Heap} (hnp : q_np g0 = 165) (hc : g0.2.2 = (cI, cQ)) (hb : q_ad g0 183 = b) (hP : va_P D vwCl (k_mobj h0 u :: (q_wd g0 Hc ++ k_mrows cI u)) H) (hD : va_D A (k_mobj h0 u :: (q_wd g0 Hc ++ k_mrows cI u))) : va_P D vwCl (q_wd (k_g D cI cQ (k_ad1 (q_ad g0) h0 u b sz)) (k_H1 Hc)) H ∧ va_D A (q_wd (k_g D cI cQ (k_ad1 (q_ad g0) h0 u b sz)) (k_H1 Hc)) := by
  rw [k_m_spl]
  have hP : va_P D vwCl ([k_mobj h0 u] ++ (q_wd g0 Hc ++ k_mrows cI u)) H := hP
  have hD : va_D A ([] ++ ([k_mobj h0 u] ++ (q_wd g0 Hc ++ k_mrows cI u))) := hD
  have ad : ∀ q, q < 165 ∨ q = 183 → q_ad (k_g D cI cQ (k_ad1 (q_ad g0) h0 u b sz)) q = q_ad g0 q := fun q hq => by
    show k_ad1 (q_ad g0) h0 u b sz q = _
    unfold k_ad1
    rcases hq with h | h
    · rw [if_pos h]
    · subst h
      rw [if_neg (by omega), if_neg (by omega), if_neg (by omega), if_pos rfl, hb]
  have mp : ∀ (k : Nat) (q : Nat × va_E), ((List.range 165).map (fun p => (q_ad (k_g D cI cQ (k_ad1 (q_ad g0) h0 u b sz)) p, q_en (k_g D cI cQ (k_ad1 (q_ad g0) h0 u b sz)) (k_H1 Hc) p)))[k]? = some q → k < 165 ∧ q = (q_ad (k_g D cI cQ (k_ad1 (q_ad g0) h0 u b sz)) k, q_en (k_g D cI cQ (k_ad1 (q_ad g0) h0 u b sz)) (k_H1 Hc) k) := fun k q hk => by
    have hl : k < 165 := by
      have := (List.getElem?_eq_some_iff.mp hk).1
      simpa using this
    rw [List.getElem?_map, List.getElem?_range hl] at hk
    exact ⟨hl, (Option.some.inj hk).symm⟩
  refine ⟨va_P.app (fun k q hk => ?_) ((k_Pl hP).app (k_Pr (k_Pr hP))), ?_⟩
  · obtain ⟨hl, rfl⟩ := mp k q hk
    refine k_en_at hnp hl hc.symm ad ?_ (k_Pl (k_Pr hP) k _ (q_wd_get g0 Hc (by omega)))
    show (if k < 165 then Hc k else fun _ => nI 0) = Hc k
    rw [if_pos hl]
  · have h1 := k_Ds hD
    rw [List.nil_append, List.append_assoc] at h1
    have h2 : va_D A (q_wd g0 Hc ++ ([k_mobj h0 u] ++ k_mrows cI u)) := k_Ds h1
    refine va_D.app (k_Daddr (k_Dl h2) (fun k q hk => ?_)) (k_Dr h2) (fun i j p q hi hj => ?_)
    · obtain ⟨hl, rfl⟩ := mp k q hk
      exact ⟨_, by
        show (q_wd g0 Hc)[k]? = some (q_ad (k_g D cI cQ (k_ad1 (q_ad g0) h0 u b sz)) k, _)
        rw [ad k (Or.inl hl)]
        exact q_wd_get g0 Hc (by omega)⟩
    · obtain ⟨hl, rfl⟩ := mp i p hi
      have := k_Dx h2 i j _ q (q_wd_get g0 Hc (p := i) (by omega)) hj
      show q_ad (k_g D cI cQ (k_ad1 (q_ad g0) h0 u b sz)) i ≠ q.1
      rw [ad i (Or.inl hl)]
      exact this
