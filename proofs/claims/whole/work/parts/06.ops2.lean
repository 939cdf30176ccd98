def q_inb (i : Int32) (n : Nat) : Bool := !(decide (i < 0) || Nat.ble n i.toNatClampNeg)
theorem q_inb_in {i : Int32} {n : Nat} (h : q_inb i n = true) : vp_in i n := by
  unfold q_inb at h
  simp only [Bool.not_eq_true', Bool.or_eq_false_iff, decide_eq_false_iff_not] at h
  intro q
  rcases q with q | q
  · exact h.1 q
  · rw [Nat.ble_eq_true_of_le q] at h
    exact absurd h.2 (by simp)
def o_iald (nx : Nat) : QO := fun ls st H => match st with
  | .inl i :: .inr (.inr (k, p)) :: st => cond (Nat.ble 100 k) (some (.inl (q_inb i (k - 100), (nx, (ls, (.inl (H p i.toNatClampNeg) :: st, H)))))) none
  | _ => none
def o_iast (nx : Nat) : QO := fun ls st H => match st with
  | .inl x :: .inl i :: .inr (.inr (k, p)) :: st => cond (Nat.ble 100 k) (some (.inl (q_inb i (k - 100), (nx, (ls, (st, q_hs H p i.toNatClampNeg x)))))) none
  | _ => none
def o_aald (nx : Nat) : QO := fun ls st H => match st with
  | .inl i :: .inr (.inr (k, p)) :: st => cond (Nat.ble 20 k) (cond (Nat.ble k 99) (some (.inl (q_inb i (k - 20), (nx, (ls, (.inr (.inr (5, p + 1 + 7 * i.toNatClampNeg)) :: st, H)))))) none) none
  | _ => none
def o_len (nx : Nat) : QO := fun ls st H => match st with
  | .inr (.inr (k, p)) :: st => cond (Nat.ble 100 k) (some (.inl (true, (nx, (ls, (.inl (Int32.ofNat (k - 100)) :: st, H)))))) (cond (Nat.ble 20 k) (some (.inl (true, (nx, (ls, (.inl (Int32.ofNat (k - 20)) :: st, H)))))) none)
  | _ => none
def o_sld (sx : QX) (nx : Nat) : QO := fun ls st H => match st with
  | .inl i :: .inr (.inr (10, 183)) :: st => some (.inl (q_inb i sx.1, (nx, (ls, (.inl (sx.2 i.toNatClampNeg) :: st, H)))))
  | _ => none
def o_slen (sx : QX) (nx : Nat) : QO := fun ls st H => match st with
  | .inr (.inr (10, 183)) :: st => some (.inl (true, (nx, (ls, (.inl (Int32.ofNat sx.1) :: st, H)))))
  | _ => none
def o_gf (ci j nx : Nat) : QO := fun ls st H => match st with
  | .inr (.inr (k, p)) :: st => cond (Nat.beq (q_cio k) ci) (match q_fr k j with
    | none => some (.inl (true, (nx, (ls, (.inl (H p j) :: st, H)))))
    | some o => some (.inl (true, (nx, (ls, (q_rv p o :: st, H)))))) none
  | _ => none
def o_pf (ci j nx : Nat) : QO := fun ls st H => match st with
  | .inl x :: .inr (.inr (k, p)) :: st => cond (Nat.beq (q_cio k) ci) (match q_fr k j with
    | none => some (.inl (true, (nx, (ls, (st, q_hs H p j x)))))
    | some _ => none) none
  | _ => none
theorem q_en_int {g : QG} {H : QH} {p k : Nat} (h : q_sh p = k) (hk : 100 ≤ k) : q_en g H p = .inl (g.2.2.1, (k - 100, .inl (H p))) := by
  unfold q_en q_ek
  rw [h, if_pos hk]
theorem q_en_ref {g : QG} {H : QH} {p k : Nat} (h : q_sh p = k) (hk : 20 ≤ k) (hk2 : k < 100) : q_en g H p = .inl (g.2.2.2, (k - 20, .inr (.inr (.inr (.inr (fun j => some (q_ad g (p + 1 + 7 * j)))))))) := by
  unfold q_en q_ek
  rw [h, if_neg (by omega), if_pos hk]
theorem q_en_obj {g : QG} {H : QH} {p k : Nat} (h : q_sh p = k) (hk2 : k < 20) : q_en g H p = .inr (q_cio k, q_fs g H k p) := by
  unfold q_en q_ek
  rw [h, if_neg (by omega), if_neg (by omega)]
theorem q_cio_lt {k c : Nat} (hc : c < 99) (h : q_cio k = c) : k < 10 ∧ 1 ≤ k := by
  have hk : k < 10 := by
    rcases Nat.lt_or_ge k 10 with h1 | h1
    · exact h1
    · exfalso
      unfold q_cio at h
      rw [List.getD_eq_getElem?_getD, List.getElem?_eq_none (by simpa using h1)] at h
      simp at h
      omega
  refine ⟨hk, ?_⟩
  rcases Nat.eq_zero_or_pos k with h1 | h1
  · subst h1
    have : (99 : Nat) = c := h
    omega
  · exact h1
theorem q_vd_at {g : QG} {k p : Nat} (h : q_vd g (.inr (.inr (k, p)))) (h1 : 1 ≤ k) (h2 : k ≠ 10) : p < q_np g ∧ q_sh p = k := by
  obtain ⟨k, rfl⟩ : ∃ k', k = k' + 1 := ⟨k - 1, by omega⟩
  rcases h with h | h
  · exact absurd h.1 h2
  · exact h
theorem q_c_ref {g : QG} {k p : Nat} (h1 : 1 ≤ k) : q_c g (.inr (.inr (k, p))) = .ref (q_ad g p) := by
  obtain ⟨k, rfl⟩ : ∃ k', k = k' + 1 := ⟨k - 1, by omega⟩
  rfl
theorem s_iald {sx : QX} {own : String} {cc : ByteArray} {nL : Nat} {rt : Option FieldType} {pc : Nat} (hd : decode cc pc = .ok (.iaload, 1)) : q_Snd sx own cc nL rt pc (o_iald (pc + 1)) := by
  intro g p l e R s m args below meth c cells slots Q rm P hC ls st H hok
  obtain ⟨hx, hb, hml, hown, hts, hK, hX, hbl, hN, hJ, hR, hret⟩ := hC
  unfold o_iald
  split
  · rename_i i k a st
    cases hk : Nat.ble 100 k with
    | false => exact trivial
    | true =>
      have hk1 := Nat.le_of_ble_eq_true hk
      intro hg
      obtain ⟨hp, hsh⟩ := q_vd_at (q_okS_hd (q_okS_tl hok.2)) (by omega) (by omega)
      refine ⟨⟨hok.1, q_okS_cons (q_vI _) (q_okS_tl (q_okS_tl hok.2))⟩, fun kk Hh locs lsA hl hP hS => ?_⟩
      show W p l e R s m args below meth c Hh locs cells slots Q (F0 m pc lsA (.int i :: q_c g (.inr (.inr (k, _))) :: st.map (q_c g)))
      rw [q_c_ref (by omega)]
      exact va_iald hx hb hK hP _ 0 ((q_wd_get g H hp).trans (by rw [q_en_int hsh hk1])) rfl (q_inb_in hg) hd (kk Hh locs lsA hl hP hS)
  · exact trivial
theorem s_iast {sx : QX} {own : String} {cc : ByteArray} {nL : Nat} {rt : Option FieldType} {pc : Nat} (hd : decode cc pc = .ok (.iastore, 1)) : q_Snd sx own cc nL rt pc (o_iast (pc + 1)) := by
  intro g p l e R s m args below meth c cells slots Q rm P hC ls st H hok
  obtain ⟨hx, hb, hml, hown, hts, hK, hX, hbl, hN, hJ, hR, hret⟩ := hC
  unfold o_iast
  split
  · rename_i x i k a st
    cases hk : Nat.ble 100 k with
    | false => exact trivial
    | true =>
      have hk1 := Nat.le_of_ble_eq_true hk
      intro hg
      obtain ⟨hp, hsh⟩ := q_vd_at (q_okS_hd (q_okS_tl (q_okS_tl hok.2))) (by omega) (by omega)
      refine ⟨⟨hok.1, q_okS_tl (q_okS_tl (q_okS_tl hok.2))⟩, fun kk Hh locs lsA hl hP hS => ?_⟩
      show W p l e R s m args below meth c Hh locs cells slots Q (F0 m pc lsA (.int x :: .int i :: q_c g (.inr (.inr (k, _))) :: st.map (q_c g)))
      rw [q_c_ref (by omega)]
      refine va_iast hx hb hK hP (q_wd_D hJ H) hS _ 0 ((q_wd_get g H hp).trans (by rw [q_en_int hsh hk1])) rfl (q_inb_in hg) hd (fun H1 locs1 hP1 hD1 hS1 => ?_)
      refine kk H1 locs1 lsA hl ?_ hS1
      have e1 := q_wd_set g (H := H) (H' := q_hs H _ i.toNatClampNeg x) hp (fun q hq => q_hs_ne hq)
      rw [q_en_int hsh hk1, q_hs_eq] at e1
      rw [e1] at hP1
      exact hP1
  · exact trivial
theorem s_aald {sx : QX} {own : String} {cc : ByteArray} {nL : Nat} {rt : Option FieldType} {pc : Nat} (hd : decode cc pc = .ok (.aaload, 1)) : q_Snd sx own cc nL rt pc (o_aald (pc + 1)) := by
  intro g p l e R s m args below meth c cells slots Q rm P hC ls st H hok
  obtain ⟨hx, hb, hml, hown, hts, hK, hX, hbl, hN, hJ, hR, hret⟩ := hC
  unfold o_aald
  split
  · rename_i i k a st
    cases hk : Nat.ble 20 k with
    | false => exact trivial
    | true =>
      cases hk9 : Nat.ble k 99 with
      | false => exact trivial
      | true =>
        have hk1 := Nat.le_of_ble_eq_true hk
        have hk2 := Nat.le_of_ble_eq_true hk9
        intro hg
        obtain ⟨hp, hsh⟩ := q_vd_at (q_okS_hd (q_okS_tl hok.2)) (by omega) (by omega)
        have hin := q_inb_in hg
        have hlt : i.toNatClampNeg < k - 20 := Nat.not_le.mp fun q => hin (Or.inr q)
        refine ⟨⟨hok.1, q_okS_cons (q_el_ok hp (by omega) (by omega) (by omega)) (q_okS_tl (q_okS_tl hok.2))⟩, fun kk Hh locs lsA hl hP hS => ?_⟩
        show W p l e R s m args below meth c Hh locs cells slots Q (F0 m pc lsA (.int i :: q_c g (.inr (.inr (k, _))) :: st.map (q_c g)))
        rw [q_c_ref (by omega)]
        have hcell : (q_wd g H)[a]? = some (q_ad g a, .inl (g.2.2.2, (k - 20, .inr (.inr (.inr (.inr (fun j => some (q_ad g (a + 1 + 7 * j)))))))))  := (q_wd_get g H hp).trans (by rw [q_en_ref hsh hk1 (by omega)])
        exact va_aldq hx hb hK hP _ 1 hcell rfl hin hd (kk Hh locs lsA hl hP hS)
  · exact trivial
theorem s_len {sx : QX} {own : String} {cc : ByteArray} {nL : Nat} {rt : Option FieldType} {pc : Nat} (hd : decode cc pc = .ok (.arraylength, 1)) : q_Snd sx own cc nL rt pc (o_len (pc + 1)) := by
  intro g p l e R s m args below meth c cells slots Q rm P hC ls st H hok
  obtain ⟨hx, hb, hml, hown, hts, hK, hX, hbl, hN, hJ, hR, hret⟩ := hC
  unfold o_len
  split
  · rename_i k a st
    cases hk : Nat.ble 100 k with
    | true =>
      have hk1 := Nat.le_of_ble_eq_true hk
      intro hg
      obtain ⟨hp, hsh⟩ := q_vd_at (q_okS_hd hok.2) (by omega) (by omega)
      refine ⟨⟨hok.1, q_okS_cons (q_vI _) (q_okS_tl hok.2)⟩, fun kk Hh locs lsA hl hP hS => ?_⟩
      show W p l e R s m args below meth c Hh locs cells slots Q (F0 m pc lsA (q_c g (.inr (.inr (k, _))) :: st.map (q_c g)))
      rw [q_c_ref (by omega)]
      have hcell : (q_wd g H)[a]? = some (q_ad g a, .inl (g.2.2.1, (k - 100, .inl (H a)))) := (q_wd_get g H hp).trans (by rw [q_en_int hsh hk1])
      exact va_alen hx hb hK hP _ 0 hcell rfl rfl hd (kk Hh locs lsA hl hP hS)
    | false =>
      cases hk2 : Nat.ble 20 k with
      | false => exact trivial
      | true =>
        have hk1 := Nat.le_of_ble_eq_true hk2
        have hk3 : k < 100 := Nat.not_le.mp fun q => by rw [q_lT q] at hk; cases hk
        intro hg
        obtain ⟨hp, hsh⟩ := q_vd_at (q_okS_hd hok.2) (by omega) (by omega)
        refine ⟨⟨hok.1, q_okS_cons (q_vI _) (q_okS_tl hok.2)⟩, fun kk Hh locs lsA hl hP hS => ?_⟩
        show W p l e R s m args below meth c Hh locs cells slots Q (F0 m pc lsA (q_c g (.inr (.inr (k, _))) :: st.map (q_c g)))
        rw [q_c_ref (by omega)]
        have hcell : (q_wd g H)[a]? = some (q_ad g a, .inl (g.2.2.2, (k - 20, .inr (.inr (.inr (.inr (fun j => some (q_ad g (a + 1 + 7 * j)))))))))  := (q_wd_get g H hp).trans (by rw [q_en_ref hsh hk1 hk3])
        exact va_alen hx hb hK hP _ 1 hcell rfl rfl hd (kk Hh locs lsA hl hP hS)
  · exact trivial
theorem q_A_b {g : QG} (hJ : q_inj g) : ¬ q_A g (q_ad g 183) := by
  rintro (⟨p, hp, h⟩ | ⟨h1, h2⟩)
  · have hn := q_np_le g
    have := hJ.1 183 p (by omega) (by omega) h
    omega
  · have := hJ.2 h1
    omega
theorem s_sld {sx : QX} {own : String} {cc : ByteArray} {nL : Nat} {rt : Option FieldType} {pc : Nat} (hd : decode cc pc = .ok (.iaload, 1)) : q_Snd sx own cc nL rt pc (o_sld sx (pc + 1)) := by
  intro g p l e R s m args below meth c cells slots Q rm P hC ls st H hok
  obtain ⟨hx, hb, hml, hown, hts, hK, hX, hbl, hN, hJ, hR, hret⟩ := hC
  unfold o_sld
  split
  · rename_i i st
    intro hg
    exact ⟨⟨hok.1, q_okS_cons (q_vI _) (q_okS_tl (q_okS_tl hok.2))⟩, fun kk Hh locs lsA hl hP hS => va_sld hx hb hX hbl (q_A_b hJ) hS (q_inb_in hg) hd (kk Hh locs lsA hl hP hS)⟩
  · exact trivial
theorem s_slen {sx : QX} {own : String} {cc : ByteArray} {nL : Nat} {rt : Option FieldType} {pc : Nat} (hd : decode cc pc = .ok (.arraylength, 1)) : q_Snd sx own cc nL rt pc (o_slen sx (pc + 1)) := by
  intro g p l e R s m args below meth c cells slots Q rm P hC ls st H hok
  obtain ⟨hx, hb, hml, hown, hts, hK, hX, hbl, hN, hJ, hR, hret⟩ := hC
  unfold o_slen
  split
  · rename_i st
    intro hg
    exact ⟨⟨hok.1, q_okS_cons (q_vI _) (q_okS_tl hok.2)⟩, fun kk Hh locs lsA hl hP hS => va_slen hx hb hX hbl (q_A_b hJ) hS hd (kk Hh locs lsA hl hP hS)⟩
  · exact trivial
theorem q_fs_get {g : QG} {H : QH} {k p j : Nat} (hj : j < q_nf k) : (q_fs g H k p)[j]? = some (q_fv g H k p j) := by
  unfold q_fs
  rw [List.getElem?_map, List.getElem?_range hj]
  rfl
theorem q_fs_set {g : QG} {H : QH} {k p j : Nat} {x : Int32} (h : q_fr k j = none) : (q_fs g H k p).set j (.int x) = q_fs g (q_hs H p j x) k p := by
  refine List.ext_getElem? fun i => ?_
  have hl1 : (q_fs g H k p).length = q_nf k := by simp [q_fs]
  by_cases hi : i < q_nf k
  · rw [q_fs_get hi]
    by_cases hij : i = j
    · subst hij
      rw [List.getElem?_set_self (by rw [hl1]; exact hi)]
      unfold q_fv
      rw [h, q_hs_eq]
      simp [upd]
    · rw [List.getElem?_set_ne (Ne.symm hij), q_fs_get hi]
      unfold q_fv
      rw [q_hs_eq]
      simp [upd, hij]
  · rw [List.getElem?_eq_none (by rw [List.length_set, hl1]; omega), List.getElem?_eq_none (by simp [q_fs]; omega)]
theorem s_gf {sx : QX} {own : String} {cc : ByteArray} {nL : Nat} {rt : Option FieldType} {pc : Nat} {ci j i : Nat} {C : String} {T : u_T} {N : Nat} (hd : decode cc pc = .ok (.getfield i, 3)) (hc : vwCl[ci]? = some (C, T, N)) (hj : j < N) (hN : ∀ k, q_cio k = ci → q_nf k = N) (hin : ∀ w ∈ u_ws C T N, w ∈ q_tw) (hT : (T j).1 = C) (hw : Cond.fieldLink own i C (T j).2.1 (T j).2.2.1 ∈ q_tw) : q_Snd sx own cc nL rt pc (o_gf ci j (pc + 3)) := by
  intro g p l e R s m args below meth c cells slots Q rm P hC ls st H hok
  obtain ⟨hx, hb, hml, hown, hts, hK, hX, hbl, hNst, hJ, hR, hret⟩ := hC
  unfold o_gf
  split
  · rename_i k a st
    cases hk : Nat.beq (q_cio k) ci with
    | false => exact trivial
    | true =>
      have hk1 : q_cio k = ci := Nat.eq_of_beq_eq_true hk
      have hci : ci < 8 := (List.getElem?_eq_some_iff.mp hc).1
      obtain ⟨hk2, hk3⟩ := q_cio_lt (by omega) hk1
      obtain ⟨hp, hsh⟩ := q_vd_at (q_okS_hd hok.2) hk3 (by omega)
      have hcell := (q_wd_get g H hp).trans (by rw [q_en_obj hsh (by omega), hk1])
      have hf := q_fs_get (g := g) (H := H) (k := k) (p := a) (j := j) (by rw [hN k hk1]; exact hj)
      have hsame : ∀ x, s.fieldFound? (T j).1 (T j).2.1 (T j).2.2.1 = some x → s.fieldFound? C (T j).2.1 (T j).2.2.1 = some x := fun x h => hT ▸ h
      cases hfr : q_fr k j with
      | none =>
        refine fun _ => ⟨⟨hok.1, q_okS_cons (q_vI _) (q_okS_tl hok.2)⟩, fun kk Hh locs lsA hl hP hS => ?_⟩
        show W p l e R s m args below meth c Hh locs cells slots Q (F0 m pc lsA (q_c g (.inr (.inr (k, _))) :: st.map (q_c g)))
        rw [q_c_ref hk3]
        exact va_get hx hb hts hin hown hK hP _ hcell hc j hj (hts _ hw) hsame (v := .int (H _ j)) (by rw [hf]; unfold q_fv; rw [hfr]) hd (kk Hh locs lsA hl hP hS)
      | some o =>
        refine fun _ => ⟨⟨hok.1, q_okS_cons (q_fr_ok hp (by rw [hsh]; exact hfr)).1 (q_okS_tl hok.2)⟩, fun kk Hh locs lsA hl hP hS => ?_⟩
        show W p l e R s m args below meth c Hh locs cells slots Q (F0 m pc lsA (q_c g (.inr (.inr (k, _))) :: st.map (q_c g)))
        rw [q_c_ref hk3]
        exact va_get hx hb hts hin hown hK hP _ hcell hc j hj (hts _ hw) hsame (v := q_c g (q_rv _ o)) (by rw [hf]; unfold q_fv; rw [hfr]) hd (kk Hh locs lsA hl hP hS)
  · exact trivial
theorem s_pf {sx : QX} {own : String} {cc : ByteArray} {nL : Nat} {rt : Option FieldType} {pc : Nat} {ci j i : Nat} {C : String} {T : u_T} {N : Nat} (ty0 : Nat → FieldType) (hd : decode cc pc = .ok (.putfield i, 3)) (hc : vwCl[ci]? = some (C, T, N)) (hj : j < N) (hN : ∀ k, q_cio k = ci → q_nf k = N) (hin : ∀ w ∈ u_ws C T N, w ∈ q_tw) (hT : (T j).1 = C) (hw : Cond.fieldLink own i C (T j).2.1 (T j).2.2.1 ∈ q_tw) (hty : ∀ k, k < N → parseFieldDescriptor (T k).2.2.1 = some (ty0 k)) (hnm : ∀ a, a < N → ∀ b, b < N → a ≠ b → (T a).2.1 ≠ (T b).2.1) (hfin : (T j).2.2.2 = false) (hint : ty0 j = .int) : q_Snd sx own cc nL rt pc (o_pf ci j (pc + 3)) := by
  intro g p l e R s m args below meth c cells slots Q rm P hC ls st H hok
  obtain ⟨hx, hb, hml, hown, hts, hK, hX, hbl, hNst, hJ, hR, hret⟩ := hC
  unfold o_pf
  split
  · rename_i x k a st
    cases hk : Nat.beq (q_cio k) ci with
    | false => exact trivial
    | true =>
      have hk1 : q_cio k = ci := Nat.eq_of_beq_eq_true hk
      have hci : ci < 8 := (List.getElem?_eq_some_iff.mp hc).1
      obtain ⟨hk2, hk3⟩ := q_cio_lt (by omega) hk1
      obtain ⟨hp, hsh⟩ := q_vd_at (q_okS_hd (q_okS_tl hok.2)) hk3 (by omega)
      have hcell := (q_wd_get g H hp).trans (by rw [q_en_obj hsh (by omega), hk1])
      have hsame : ∀ x, s.fieldFound? (T j).1 (T j).2.1 (T j).2.2.1 = some x → s.fieldFound? C (T j).2.1 (T j).2.2.1 = some x := fun x h => hT ▸ h
      cases hfr : q_fr k j with
      | some o => exact trivial
      | none =>
        refine fun _ => ⟨⟨hok.1, q_okS_tl (q_okS_tl hok.2)⟩, fun kk Hh locs lsA hl hP hS => ?_⟩
        show W p l e R s m args below meth c Hh locs cells slots Q (F0 m pc lsA (.int x :: q_c g (.inr (.inr (k, _))) :: st.map (q_c g)))
        rw [q_c_ref hk3]
        refine va_put hx hb hts hin ty0 hty hnm hown hK hP (q_wd_D hJ H) hS _ hcell hc j hj (hts _ hw) hsame hfin (ty := .int) (v := .int x) (by rw [hty j hj, hint]) rfl rfl (by simp [q_fs]; rw [hN k hk1]; exact hj) hd (fun H1 locs1 hP1 hD1 hS1 => ?_)
        refine kk H1 locs1 lsA hl ?_ hS1
        have e1 := q_wd_set g (H := H) (H' := q_hs H _ j x) hp (fun q hq => q_hs_ne hq)
        rw [q_en_obj hsh (by omega), hk1, ← q_fs_set hfr] at e1
        rw [e1] at hP1
        exact hP1
  · exact trivial
/-! returns -/
def o_ir (bz : Bool) : QO := fun ls st H => match st with
  | [.inl x] => some (.inr (.inr (.inl (cond bz (decide (x = 0) || decide (x = 1)) true, (some (.inl x), H)))))
  | _ => none
def o_vr : QO := fun ls st H => match st with
  | [] => some (.inr (.inr (.inl (true, (none, H)))))
  | _ => none
def o_ar : QO := fun ls st H => match st with
  | [.inr (.inr (k, p))] => some (.inr (.inr (.inl (true, (some (.inr (.inr (k, p))), H)))))
  | _ => none
theorem s_ir {sx : QX} {own : String} {cc : ByteArray} {nL : Nat} {rt : Option FieldType} {pc : Nat} (hd : decode cc pc = .ok (.ireturn, 1)) (hrt : rt = some .int) : q_Snd sx own cc nL rt pc (o_ir false) := by
  intro g p l e R s m args below meth c cells slots Q rm P hC ls st H hok
  obtain ⟨hx, hb, hml, hown, hts, hK, hX, hbl, hN, hJ, hR, hret⟩ := hC
  unfold o_ir
  split
  · rename_i x
    exact fun _ => ⟨fun v hv => by cases hv; exact trivial, fun hPr Hh locs lsA hl hP hS => hret.1 pc x H Hh locs lsA .int hrt rfl hd hPr hP hS⟩
  · exact trivial
theorem q_bool {x : Int32} (h : (decide (x = 0) || decide (x = 1)) = true) : narrow .boolean (.int x) = .int x := by
  simp only [Bool.or_eq_true, decide_eq_true_eq] at h
  rcases h with rfl | rfl <;> rfl
theorem s_zr {sx : QX} {own : String} {cc : ByteArray} {nL : Nat} {rt : Option FieldType} {pc : Nat} (hd : decode cc pc = .ok (.ireturn, 1)) (hrt : rt = some .boolean) : q_Snd sx own cc nL rt pc (o_ir true) := by
  intro g p l e R s m args below meth c cells slots Q rm P hC ls st H hok
  obtain ⟨hx, hb, hml, hown, hts, hK, hX, hbl, hN, hJ, hR, hret⟩ := hC
  unfold o_ir
  split
  · rename_i x
    exact fun hg => ⟨fun v hv => by cases hv; exact trivial, fun hPr Hh locs lsA hl hP hS => hret.1 pc x H Hh locs lsA .boolean hrt (q_bool hg) hd hPr hP hS⟩
  · exact trivial
theorem s_vr {sx : QX} {own : String} {cc : ByteArray} {nL : Nat} {rt : Option FieldType} {pc : Nat} (hd : decode cc pc = .ok (.return_, 1)) (hrt : rt = none) : q_Snd sx own cc nL rt pc o_vr := by
  intro g p l e R s m args below meth c cells slots Q rm P hC ls st H hok
  obtain ⟨hx, hb, hml, hown, hts, hK, hX, hbl, hN, hJ, hR, hret⟩ := hC
  unfold o_vr
  split
  · exact fun _ => ⟨(fun v hv => by cases hv), fun hPr Hh locs lsA hl hP hS => hret.2.1 pc H Hh locs lsA hrt hd hPr hP hS⟩
  · exact trivial
theorem s_ar {sx : QX} {own : String} {cc : ByteArray} {nL : Nat} {rt : Option FieldType} {pc : Nat} {C : String} (hd : decode cc pc = .ok (.areturn, 1)) (hrt : rt = some (.object C)) : q_Snd sx own cc nL rt pc o_ar := by
  intro g p l e R s m args below meth c cells slots Q rm P hC ls st H hok
  obtain ⟨hx, hb, hml, hown, hts, hK, hX, hbl, hN, hJ, hR, hret⟩ := hC
  unfold o_ar
  split
  · rename_i k a
    exact fun _ => ⟨fun v hv => by cases hv; exact q_okS_hd hok.2, fun hPr Hh locs lsA hl hP hS => hret.2.2 pc k a H Hh locs lsA C hrt hd (q_okS_hd hok.2) hPr hP hS⟩
  · exact trivial
