def o_k (x : Int32) (nx : Nat) : QO := fun ls st H => some (.inl (true, (nx, (ls, (.inl x :: st, H)))))
def o_kl (x : Int64) (nx : Nat) : QO := fun ls st H => some (.inl (true, (nx, (ls, (.inr (.inl x) :: st, H)))))
def o_null (nx : Nat) : QO := fun ls st H => some (.inl (true, (nx, (ls, (.inr (.inr (0, 0)) :: st, H)))))
theorem s_iconst {sx : QX} {own : String} {cc : ByteArray} {nL : Nat} {rt : Option FieldType} {pc : Nat} {x : Int32} {n : Int} (hd : decode cc pc = .ok (.iconst n, 1)) (hv : Int32.ofInt n = x) : q_Snd sx own cc nL rt pc (o_k x (pc + 1)) := by
  intro g p l e R s m args below meth c cells slots Q rm P hC ls st H hok
  obtain ⟨hx, hb, hml, hown, hts, hK, hX, hbl, hN, hJ, hR, hret⟩ := hC
  exact fun _ => ⟨⟨hok.1, q_okS_cons (q_vI _) hok.2⟩, fun k Hh locs lsA hl hP hS => lv_iconst hx hb hd hv (k Hh locs lsA hl hP hS)⟩
theorem s_bipush {sx : QX} {own : String} {cc : ByteArray} {nL : Nat} {rt : Option FieldType} {pc : Nat} {x : Int32} {n : Int} (hd : decode cc pc = .ok (.bipush n, 2)) (hv : (Int8.ofInt n).toInt32 = x) : q_Snd sx own cc nL rt pc (o_k x (pc + 2)) := by
  intro g p l e R s m args below meth c cells slots Q rm P hC ls st H hok
  obtain ⟨hx, hb, hml, hown, hts, hK, hX, hbl, hN, hJ, hR, hret⟩ := hC
  exact fun _ => ⟨⟨hok.1, q_okS_cons (q_vI _) hok.2⟩, fun k Hh locs lsA hl hP hS => lv_bipush hx hb hd hv (k Hh locs lsA hl hP hS)⟩
theorem s_sipush {sx : QX} {own : String} {cc : ByteArray} {nL : Nat} {rt : Option FieldType} {pc : Nat} {x : Int32} {n : Int} (hd : decode cc pc = .ok (.sipush n, 3)) (hv : (Int16.ofInt n).toInt32 = x) : q_Snd sx own cc nL rt pc (o_k x (pc + 3)) := by
  intro g p l e R s m args below meth c cells slots Q rm P hC ls st H hok
  obtain ⟨hx, hb, hml, hown, hts, hK, hX, hbl, hN, hJ, hR, hret⟩ := hC
  exact fun _ => ⟨⟨hok.1, q_okS_cons (q_vI _) hok.2⟩, fun k Hh locs lsA hl hP hS => lv_sipush hx hb hd hv (k Hh locs lsA hl hP hS)⟩
theorem s_ldc {sx : QX} {own : String} {cc : ByteArray} {nL : Nat} {rt : Option FieldType} {pc : Nat} {x : Int32} {i : Nat} (hd : decode cc pc = .ok (.ldc i, 2)) (hw : Cond.constant own i x ∈ q_tw) : q_Snd sx own cc nL rt pc (o_k x (pc + 2)) := by
  intro g p l e R s m args below meth c cells slots Q rm P hC ls st H hok
  obtain ⟨hx, hb, hml, hown, hts, hK, hX, hbl, hN, hJ, hR, hret⟩ := hC
  exact fun _ => ⟨⟨hok.1, q_okS_cons (q_vI _) hok.2⟩, fun k Hh locs lsA hl hP hS => lv_ldc hx hb hown (hts _ hw) hd (k Hh locs lsA hl hP hS)⟩
theorem s_ldcw {sx : QX} {own : String} {cc : ByteArray} {nL : Nat} {rt : Option FieldType} {pc : Nat} {x : Int32} {i : Nat} (hd : decode cc pc = .ok (.ldc_w i, 3)) (hw : Cond.constant own i x ∈ q_tw) : q_Snd sx own cc nL rt pc (o_k x (pc + 3)) := by
  intro g p l e R s m args below meth c cells slots Q rm P hC ls st H hok
  obtain ⟨hx, hb, hml, hown, hts, hK, hX, hbl, hN, hJ, hR, hret⟩ := hC
  exact fun _ => ⟨⟨hok.1, q_okS_cons (q_vI _) hok.2⟩, fun k Hh locs lsA hl hP hS => lv_ldcw hx hb hown (hts _ hw) hd (k Hh locs lsA hl hP hS)⟩
theorem s_lconst {sx : QX} {own : String} {cc : ByteArray} {nL : Nat} {rt : Option FieldType} {pc : Nat} {x : Int64} {n : Fin 2} (hd : decode cc pc = .ok (.lconst n, 1)) (hv : Int64.ofNat (n : Nat) = x) : q_Snd sx own cc nL rt pc (o_kl x (pc + 1)) := by
  intro g p l e R s m args below meth c cells slots Q rm P hC ls st H hok
  obtain ⟨hx, hb, hml, hown, hts, hK, hX, hbl, hN, hJ, hR, hret⟩ := hC
  exact fun _ => ⟨⟨hok.1, q_okS_cons (q_vJ _) hok.2⟩, fun k Hh locs lsA hl hP hS => lv_lconst hx hb hd hv (k Hh locs lsA hl hP hS)⟩
theorem s_ldc2 {sx : QX} {own : String} {cc : ByteArray} {nL : Nat} {rt : Option FieldType} {pc : Nat} {x : Int64} {i : Nat} (hd : decode cc pc = .ok (.ldc2_w i, 3)) (hw : Cond.constantLong own i x ∈ q_tw) : q_Snd sx own cc nL rt pc (o_kl x (pc + 3)) := by
  intro g p l e R s m args below meth c cells slots Q rm P hC ls st H hok
  obtain ⟨hx, hb, hml, hown, hts, hK, hX, hbl, hN, hJ, hR, hret⟩ := hC
  exact fun _ => ⟨⟨hok.1, q_okS_cons (q_vJ _) hok.2⟩, fun k Hh locs lsA hl hP hS => lv_ldc2 hx hb hown (hts _ hw) hd (k Hh locs lsA hl hP hS)⟩
theorem s_null {sx : QX} {own : String} {cc : ByteArray} {nL : Nat} {rt : Option FieldType} {pc : Nat} (hd : decode cc pc = .ok (.aconst_null, 1)) : q_Snd sx own cc nL rt pc (o_null (pc + 1)) := by
  intro g p l e R s m args below meth c cells slots Q rm P hC ls st H hok
  obtain ⟨hx, hb, hml, hown, hts, hK, hX, hbl, hN, hJ, hR, hret⟩ := hC
  exact fun _ => ⟨⟨hok.1, q_okS_cons (trivial) hok.2⟩, fun k Hh locs lsA hl hP hS => lv_null hx hb hd (k Hh locs lsA hl hP hS)⟩
def o_il (i nx : Nat) : QO := fun ls st H => match q_lk ls i with
  | some (.inl x) => some (.inl (true, (nx, (ls, (.inl x :: st, H)))))
  | _ => none
def o_ll (i nx : Nat) : QO := fun ls st H => match q_lk ls i with
  | some (.inr (.inl x)) => some (.inl (true, (nx, (ls, (.inr (.inl x) :: st, H)))))
  | _ => none
def o_al (i nx : Nat) : QO := fun ls st H => match q_lk ls i with
  | some (.inr (.inr (k, p))) => some (.inl (true, (nx, (ls, (.inr (.inr (k, p)) :: st, H)))))
  | _ => none
theorem s_iload_n {sx : QX} {own : String} {cc : ByteArray} {nL : Nat} {rt : Option FieldType} {pc : Nat} {i : Nat} {k : Fin 4} (hd : decode cc pc = .ok (.iload_n k, 1)) (hi : (k : Nat) = i) : q_Snd sx own cc nL rt pc (o_il i (pc + 1)) := by
  intro g p l e R s m args below meth c cells slots Q rm P hC ls st H hok
  obtain ⟨hx, hb, hml, hown, hts, hK, hX, hbl, hN, hJ, hR, hret⟩ := hC
  unfold o_il
  split
  · rename_i x h
    exact fun _ => ⟨⟨hok.1, q_okS_cons (hok.1 _ (q_lk_mem h)) hok.2⟩, fun k Hh locs lsA hl hP hS => lv_iload_n hx hb hd hi (q_lk_at hl h) (k Hh locs lsA hl hP hS)⟩
  · exact trivial
theorem s_iload {sx : QX} {own : String} {cc : ByteArray} {nL : Nat} {rt : Option FieldType} {pc : Nat} {i : Nat} (hd : decode cc pc = .ok (.iload i, 2)) : q_Snd sx own cc nL rt pc (o_il i (pc + 2)) := by
  intro g p l e R s m args below meth c cells slots Q rm P hC ls st H hok
  obtain ⟨hx, hb, hml, hown, hts, hK, hX, hbl, hN, hJ, hR, hret⟩ := hC
  unfold o_il
  split
  · rename_i x h
    exact fun _ => ⟨⟨hok.1, q_okS_cons (hok.1 _ (q_lk_mem h)) hok.2⟩, fun k Hh locs lsA hl hP hS => lv_iload hx hb hd (q_lk_at hl h) (k Hh locs lsA hl hP hS)⟩
  · exact trivial
theorem s_lload_n {sx : QX} {own : String} {cc : ByteArray} {nL : Nat} {rt : Option FieldType} {pc : Nat} {i : Nat} {k : Fin 4} (hd : decode cc pc = .ok (.lload_n k, 1)) (hi : (k : Nat) = i) : q_Snd sx own cc nL rt pc (o_ll i (pc + 1)) := by
  intro g p l e R s m args below meth c cells slots Q rm P hC ls st H hok
  obtain ⟨hx, hb, hml, hown, hts, hK, hX, hbl, hN, hJ, hR, hret⟩ := hC
  unfold o_ll
  split
  · rename_i x h
    exact fun _ => ⟨⟨hok.1, q_okS_cons (hok.1 _ (q_lk_mem h)) hok.2⟩, fun k Hh locs lsA hl hP hS => lv_lload_n hx hb hd hi (q_lk_at hl h) (k Hh locs lsA hl hP hS)⟩
  · exact trivial
theorem s_lload {sx : QX} {own : String} {cc : ByteArray} {nL : Nat} {rt : Option FieldType} {pc : Nat} {i : Nat} (hd : decode cc pc = .ok (.lload i, 2)) : q_Snd sx own cc nL rt pc (o_ll i (pc + 2)) := by
  intro g p l e R s m args below meth c cells slots Q rm P hC ls st H hok
  obtain ⟨hx, hb, hml, hown, hts, hK, hX, hbl, hN, hJ, hR, hret⟩ := hC
  unfold o_ll
  split
  · rename_i x h
    exact fun _ => ⟨⟨hok.1, q_okS_cons (hok.1 _ (q_lk_mem h)) hok.2⟩, fun k Hh locs lsA hl hP hS => lv_lload hx hb hd (q_lk_at hl h) (k Hh locs lsA hl hP hS)⟩
  · exact trivial
theorem s_aload_n {sx : QX} {own : String} {cc : ByteArray} {nL : Nat} {rt : Option FieldType} {pc : Nat} {i : Nat} {k : Fin 4} (hd : decode cc pc = .ok (.aload_n k, 1)) (hi : (k : Nat) = i) : q_Snd sx own cc nL rt pc (o_al i (pc + 1)) := by
  intro g p l e R s m args below meth c cells slots Q rm P hC ls st H hok
  obtain ⟨hx, hb, hml, hown, hts, hK, hX, hbl, hN, hJ, hR, hret⟩ := hC
  unfold o_al
  split
  · rename_i k p h
    refine fun _ => ⟨⟨hok.1, q_okS_cons (hok.1 _ (q_lk_mem h)) hok.2⟩, fun kk Hh locs lsA hl hP hS => ?_⟩
    cases k with
    | zero => exact lv_aload_nN hx hb hd hi (q_lk_at hl h) (kk Hh locs lsA hl hP hS)
    | succ k => exact lv_aload_n hx hb hd hi (q_lk_at hl h) (kk Hh locs lsA hl hP hS)
  · exact trivial
theorem s_aload {sx : QX} {own : String} {cc : ByteArray} {nL : Nat} {rt : Option FieldType} {pc : Nat} {i : Nat} (hd : decode cc pc = .ok (.aload i, 2)) : q_Snd sx own cc nL rt pc (o_al i (pc + 2)) := by
  intro g p l e R s m args below meth c cells slots Q rm P hC ls st H hok
  obtain ⟨hx, hb, hml, hown, hts, hK, hX, hbl, hN, hJ, hR, hret⟩ := hC
  unfold o_al
  split
  · rename_i k p h
    refine fun _ => ⟨⟨hok.1, q_okS_cons (hok.1 _ (q_lk_mem h)) hok.2⟩, fun kk Hh locs lsA hl hP hS => ?_⟩
    cases k with
    | zero => exact lv_aloadN hx hb hd (q_lk_at hl h) (kk Hh locs lsA hl hP hS)
    | succ k => exact lv_aload hx hb hd (q_lk_at hl h) (kk Hh locs lsA hl hP hS)
  · exact trivial
def o_is (i nx : Nat) : QO := fun ls st H => match st with
  | .inl x :: st => some (.inl (true, (nx, (q_st i (.inl x) ls, (st, H)))))
  | _ => none
def o_as (i nx : Nat) : QO := fun ls st H => match st with
  | .inr (.inr (k, p)) :: st => some (.inl (true, (nx, (q_st i (.inr (.inr (k, p))) ls, (st, H)))))
  | _ => none
def o_ls (i nx : Nat) : QO := fun ls st H => match st with
  | .inr (.inl x) :: st => some (.inl (true, (nx, (q_st2 i (.inr (.inl x)) ls, (st, H)))))
  | _ => none
def o_inc (i : Nat) (n : Int32) (nx : Nat) : QO := fun ls st H => match q_lk ls i with
  | some (.inl x) => some (.inl (true, (nx, (q_st i (.inl (x + n)) ls, (st, H)))))
  | _ => none
theorem s_istore_n {sx : QX} {own : String} {cc : ByteArray} {nL : Nat} {rt : Option FieldType} {pc : Nat} {i : Nat} {k : Fin 4} (hd : decode cc pc = .ok (.istore_n k, 1)) (hi : (k : Nat) = i) (hn : i < nL) : q_Snd sx own cc nL rt pc (o_is i (pc + 1)) := by
  intro g p l e R s m args below meth c cells slots Q rm P hC ls st H hok
  obtain ⟨hx, hb, hml, hown, hts, hK, hX, hbl, hN, hJ, hR, hret⟩ := hC
  unfold o_is
  split
  · rename_i x st
    exact fun _ => ⟨⟨q_okL_in (q_okS_hd hok.2) hok.1, q_okS_tl hok.2⟩, fun k Hh locs lsA hl hP hS => lv_istore_n hx hb hd hi hl hn rfl (fun ls' hl' => k Hh locs ls' (q_st_has hl') hP hS)⟩
  · exact trivial
theorem s_istore {sx : QX} {own : String} {cc : ByteArray} {nL : Nat} {rt : Option FieldType} {pc : Nat} {i : Nat} (hd : decode cc pc = .ok (.istore i, 2)) (hn : i < nL) : q_Snd sx own cc nL rt pc (o_is i (pc + 2)) := by
  intro g p l e R s m args below meth c cells slots Q rm P hC ls st H hok
  obtain ⟨hx, hb, hml, hown, hts, hK, hX, hbl, hN, hJ, hR, hret⟩ := hC
  unfold o_is
  split
  · rename_i x st
    exact fun _ => ⟨⟨q_okL_in (q_okS_hd hok.2) hok.1, q_okS_tl hok.2⟩, fun k Hh locs lsA hl hP hS => lv_istore hx hb hd hl hn rfl (fun ls' hl' => k Hh locs ls' (q_st_has hl') hP hS)⟩
  · exact trivial
theorem s_lstore_n {sx : QX} {own : String} {cc : ByteArray} {nL : Nat} {rt : Option FieldType} {pc : Nat} {i : Nat} {k : Fin 4} (hd : decode cc pc = .ok (.lstore_n k, 1)) (hi : (k : Nat) = i) (hn : i + 1 < nL) : q_Snd sx own cc nL rt pc (o_ls i (pc + 1)) := by
  intro g p l e R s m args below meth c cells slots Q rm P hC ls st H hok
  obtain ⟨hx, hb, hml, hown, hts, hK, hX, hbl, hN, hJ, hR, hret⟩ := hC
  unfold o_ls
  split
  · rename_i x st
    exact fun _ => ⟨⟨q_okL_in2 (q_okS_hd hok.2) hok.1, q_okS_tl hok.2⟩, fun k Hh locs lsA hl hP hS => lv_lstore_n hx hb hd hi hl hn rfl (fun ls' hl' => k Hh locs ls' (q_st2_has hl') hP hS)⟩
  · exact trivial
theorem s_lstore {sx : QX} {own : String} {cc : ByteArray} {nL : Nat} {rt : Option FieldType} {pc : Nat} {i : Nat} (hd : decode cc pc = .ok (.lstore i, 2)) (hn : i + 1 < nL) : q_Snd sx own cc nL rt pc (o_ls i (pc + 2)) := by
  intro g p l e R s m args below meth c cells slots Q rm P hC ls st H hok
  obtain ⟨hx, hb, hml, hown, hts, hK, hX, hbl, hN, hJ, hR, hret⟩ := hC
  unfold o_ls
  split
  · rename_i x st
    exact fun _ => ⟨⟨q_okL_in2 (q_okS_hd hok.2) hok.1, q_okS_tl hok.2⟩, fun k Hh locs lsA hl hP hS => lv_lstore hx hb hd hl hn rfl (fun ls' hl' => k Hh locs ls' (q_st2_has hl') hP hS)⟩
  · exact trivial
theorem s_astore_n {sx : QX} {own : String} {cc : ByteArray} {nL : Nat} {rt : Option FieldType} {pc : Nat} {i : Nat} {k : Fin 4} (hd : decode cc pc = .ok (.astore_n k, 1)) (hi : (k : Nat) = i) (hn : i < nL) : q_Snd sx own cc nL rt pc (o_as i (pc + 1)) := by
  intro g p l e R s m args below meth c cells slots Q rm P hC ls st H hok
  obtain ⟨hx, hb, hml, hown, hts, hK, hX, hbl, hN, hJ, hR, hret⟩ := hC
  unfold o_as
  split
  · rename_i k p st
    refine fun _ => ⟨⟨q_okL_in (q_okS_hd hok.2) hok.1, q_okS_tl hok.2⟩, fun kk Hh locs lsA hl hP hS => ?_⟩
    cases k with
    | zero => exact lv_astore_nN hx hb hd hi hl hn rfl (fun ls' hl' => kk Hh locs ls' (q_st_has (v := .inr (.inr (0, p))) hl') hP hS)
    | succ k => exact lv_astore_n hx hb hd hi hl hn rfl (fun ls' hl' => kk Hh locs ls' (q_st_has (v := .inr (.inr (k + 1, p))) hl') hP hS)
  · exact trivial
theorem s_astore {sx : QX} {own : String} {cc : ByteArray} {nL : Nat} {rt : Option FieldType} {pc : Nat} {i : Nat} (hd : decode cc pc = .ok (.astore i, 2)) (hn : i < nL) : q_Snd sx own cc nL rt pc (o_as i (pc + 2)) := by
  intro g p l e R s m args below meth c cells slots Q rm P hC ls st H hok
  obtain ⟨hx, hb, hml, hown, hts, hK, hX, hbl, hN, hJ, hR, hret⟩ := hC
  unfold o_as
  split
  · rename_i k p st
    refine fun _ => ⟨⟨q_okL_in (q_okS_hd hok.2) hok.1, q_okS_tl hok.2⟩, fun kk Hh locs lsA hl hP hS => ?_⟩
    cases k with
    | zero => exact lv_astoreN hx hb hd hl hn rfl (fun ls' hl' => kk Hh locs ls' (q_st_has (v := .inr (.inr (0, p))) hl') hP hS)
    | succ k => exact lv_astore hx hb hd hl hn rfl (fun ls' hl' => kk Hh locs ls' (q_st_has (v := .inr (.inr (k + 1, p))) hl') hP hS)
  · exact trivial
theorem s_iinc {sx : QX} {own : String} {cc : ByteArray} {nL : Nat} {rt : Option FieldType} {pc : Nat} {i : Nat} {n : Int} {x : Int32} (hd : decode cc pc = .ok (.iinc i n, 3)) (hv : Int32.ofInt n = x) (hn : i < nL) : q_Snd sx own cc nL rt pc (o_inc i x (pc + 3)) := by
  intro g p l e R s m args below meth c cells slots Q rm P hC ls st H hok
  obtain ⟨hx, hb, hml, hown, hts, hK, hX, hbl, hN, hJ, hR, hret⟩ := hC
  subst hv
  unfold o_inc
  split
  · rename_i x h
    refine fun _ => ⟨⟨q_okL_in (q_vI _) hok.1, hok.2⟩, fun kk Hh locs lsA hl hP hS => ?_⟩
    obtain ⟨k, hk⟩ := List.getElem?_of_mem (List.mem_map.mpr ⟨(i, .inl x), q_lk_mem h, rfl⟩ : (i, Value.int x) ∈ ls.map (q_cl g))
    exact lv_iinc hx hb hd hl hk rfl hn rfl (fun ls' hl' => kk Hh locs ls' (q_st_has (v := .inl (x + Int32.ofInt n)) hl') hP hS)
  · exact trivial
def o_b (f : Int32 → Int32 → Int32) (nx : Nat) : QO := fun ls st H => match st with
  | .inl y :: .inl x :: st => some (.inl (true, (nx, (ls, (.inl (f x y) :: st, H)))))
  | _ => none
def o_bz (f : Int32 → Int32 → Int32) (nx : Nat) : QO := fun ls st H => match st with
  | .inl y :: .inl x :: st => some (.inl (!(decide (y = 0)), (nx, (ls, (.inl (f x y) :: st, H)))))
  | _ => none
def o_u (f : Int32 → Int32) (nx : Nat) : QO := fun ls st H => match st with
  | .inl x :: st => some (.inl (true, (nx, (ls, (.inl (f x) :: st, H)))))
  | _ => none
def o_lb (f : Int64 → Int64 → Int64) (nx : Nat) : QO := fun ls st H => match st with
  | .inr (.inl y) :: .inr (.inl x) :: st => some (.inl (true, (nx, (ls, (.inr (.inl (f x y)) :: st, H)))))
  | _ => none
def o_lbz (f : Int64 → Int64 → Int64) (nx : Nat) : QO := fun ls st H => match st with
  | .inr (.inl y) :: .inr (.inl x) :: st => some (.inl (!(decide (y = 0)), (nx, (ls, (.inr (.inl (f x y)) :: st, H)))))
  | _ => none
def o_lcmp (nx : Nat) : QO := fun ls st H => match st with
  | .inr (.inl y) :: .inr (.inl x) :: st => some (.inl (true, (nx, (ls, (.inl (lg_cmp x y) :: st, H)))))
  | _ => none
def o_i2l (nx : Nat) : QO := fun ls st H => match st with
  | .inl x :: st => some (.inl (true, (nx, (ls, (.inr (.inl x.toInt64) :: st, H)))))
  | _ => none
def o_l2i (nx : Nat) : QO := fun ls st H => match st with
  | .inr (.inl x) :: st => some (.inl (true, (nx, (ls, (.inl x.toInt32 :: st, H)))))
  | _ => none
theorem s_iadd {sx : QX} {own : String} {cc : ByteArray} {nL : Nat} {rt : Option FieldType} {pc : Nat} (hd : decode cc pc = .ok (.iadd, 1)) : q_Snd sx own cc nL rt pc (o_b (fun x y => x + y) (pc + 1)) := by
  intro g p l e R s m args below meth c cells slots Q rm P hC ls st H hok
  obtain ⟨hx, hb, hml, hown, hts, hK, hX, hbl, hN, hJ, hR, hret⟩ := hC
  unfold o_b
  split
  · rename_i y x st
    exact fun _ => ⟨⟨hok.1, q_okS_cons (q_vI _) (q_okS_tl (q_okS_tl hok.2))⟩, fun k Hh locs lsA hl hP hS => lv_iadd hx hb hd (k Hh locs lsA hl hP hS)⟩
  · exact trivial
theorem s_isub {sx : QX} {own : String} {cc : ByteArray} {nL : Nat} {rt : Option FieldType} {pc : Nat} (hd : decode cc pc = .ok (.isub, 1)) : q_Snd sx own cc nL rt pc (o_b (fun x y => x - y) (pc + 1)) := by
  intro g p l e R s m args below meth c cells slots Q rm P hC ls st H hok
  obtain ⟨hx, hb, hml, hown, hts, hK, hX, hbl, hN, hJ, hR, hret⟩ := hC
  unfold o_b
  split
  · rename_i y x st
    exact fun _ => ⟨⟨hok.1, q_okS_cons (q_vI _) (q_okS_tl (q_okS_tl hok.2))⟩, fun k Hh locs lsA hl hP hS => lv_isub hx hb hd (k Hh locs lsA hl hP hS)⟩
  · exact trivial
theorem s_imul {sx : QX} {own : String} {cc : ByteArray} {nL : Nat} {rt : Option FieldType} {pc : Nat} (hd : decode cc pc = .ok (.imul, 1)) : q_Snd sx own cc nL rt pc (o_b (fun x y => x * y) (pc + 1)) := by
  intro g p l e R s m args below meth c cells slots Q rm P hC ls st H hok
  obtain ⟨hx, hb, hml, hown, hts, hK, hX, hbl, hN, hJ, hR, hret⟩ := hC
  unfold o_b
  split
  · rename_i y x st
    exact fun _ => ⟨⟨hok.1, q_okS_cons (q_vI _) (q_okS_tl (q_okS_tl hok.2))⟩, fun k Hh locs lsA hl hP hS => lv_imul hx hb hd (k Hh locs lsA hl hP hS)⟩
  · exact trivial
theorem s_iand {sx : QX} {own : String} {cc : ByteArray} {nL : Nat} {rt : Option FieldType} {pc : Nat} (hd : decode cc pc = .ok (.iand, 1)) : q_Snd sx own cc nL rt pc (o_b (fun x y => x &&& y) (pc + 1)) := by
  intro g p l e R s m args below meth c cells slots Q rm P hC ls st H hok
  obtain ⟨hx, hb, hml, hown, hts, hK, hX, hbl, hN, hJ, hR, hret⟩ := hC
  unfold o_b
  split
  · rename_i y x st
    exact fun _ => ⟨⟨hok.1, q_okS_cons (q_vI _) (q_okS_tl (q_okS_tl hok.2))⟩, fun k Hh locs lsA hl hP hS => lv_iand hx hb hd (k Hh locs lsA hl hP hS)⟩
  · exact trivial
theorem s_ior {sx : QX} {own : String} {cc : ByteArray} {nL : Nat} {rt : Option FieldType} {pc : Nat} (hd : decode cc pc = .ok (.ior, 1)) : q_Snd sx own cc nL rt pc (o_b (fun x y => x ||| y) (pc + 1)) := by
  intro g p l e R s m args below meth c cells slots Q rm P hC ls st H hok
  obtain ⟨hx, hb, hml, hown, hts, hK, hX, hbl, hN, hJ, hR, hret⟩ := hC
  unfold o_b
  split
  · rename_i y x st
    exact fun _ => ⟨⟨hok.1, q_okS_cons (q_vI _) (q_okS_tl (q_okS_tl hok.2))⟩, fun k Hh locs lsA hl hP hS => lv_ior hx hb hd (k Hh locs lsA hl hP hS)⟩
  · exact trivial
theorem s_ishl {sx : QX} {own : String} {cc : ByteArray} {nL : Nat} {rt : Option FieldType} {pc : Nat} (hd : decode cc pc = .ok (.ishl, 1)) : q_Snd sx own cc nL rt pc (o_b (fun x y => x <<< (y &&& 31)) (pc + 1)) := by
  intro g p l e R s m args below meth c cells slots Q rm P hC ls st H hok
  obtain ⟨hx, hb, hml, hown, hts, hK, hX, hbl, hN, hJ, hR, hret⟩ := hC
  unfold o_b
  split
  · rename_i y x st
    exact fun _ => ⟨⟨hok.1, q_okS_cons (q_vI _) (q_okS_tl (q_okS_tl hok.2))⟩, fun k Hh locs lsA hl hP hS => lv_ishl hx hb hd (k Hh locs lsA hl hP hS)⟩
  · exact trivial
theorem s_ishr {sx : QX} {own : String} {cc : ByteArray} {nL : Nat} {rt : Option FieldType} {pc : Nat} (hd : decode cc pc = .ok (.ishr, 1)) : q_Snd sx own cc nL rt pc (o_b (fun x y => x >>> (y &&& 31)) (pc + 1)) := by
  intro g p l e R s m args below meth c cells slots Q rm P hC ls st H hok
  obtain ⟨hx, hb, hml, hown, hts, hK, hX, hbl, hN, hJ, hR, hret⟩ := hC
  unfold o_b
  split
  · rename_i y x st
    exact fun _ => ⟨⟨hok.1, q_okS_cons (q_vI _) (q_okS_tl (q_okS_tl hok.2))⟩, fun k Hh locs lsA hl hP hS => lv_ishr hx hb hd (k Hh locs lsA hl hP hS)⟩
  · exact trivial
theorem s_iushr {sx : QX} {own : String} {cc : ByteArray} {nL : Nat} {rt : Option FieldType} {pc : Nat} (hd : decode cc pc = .ok (.iushr, 1)) : q_Snd sx own cc nL rt pc (o_b (fun x y => (x.toUInt32 >>> (y.toUInt32 &&& Int32.toUInt32 31)).toInt32) (pc + 1)) := by
  intro g p l e R s m args below meth c cells slots Q rm P hC ls st H hok
  obtain ⟨hx, hb, hml, hown, hts, hK, hX, hbl, hN, hJ, hR, hret⟩ := hC
  unfold o_b
  split
  · rename_i y x st
    exact fun _ => ⟨⟨hok.1, q_okS_cons (q_vI _) (q_okS_tl (q_okS_tl hok.2))⟩, fun k Hh locs lsA hl hP hS => lv_iushr hx hb hd rfl (k Hh locs lsA hl hP hS)⟩
  · exact trivial
theorem s_idiv {sx : QX} {own : String} {cc : ByteArray} {nL : Nat} {rt : Option FieldType} {pc : Nat} (hd : decode cc pc = .ok (.idiv, 1)) : q_Snd sx own cc nL rt pc (o_bz (fun x y => x / y) (pc + 1)) := by
  intro g p l e R s m args below meth c cells slots Q rm P hC ls st H hok
  obtain ⟨hx, hb, hml, hown, hts, hK, hX, hbl, hN, hJ, hR, hret⟩ := hC
  unfold o_bz
  split
  · rename_i y x st
    exact fun hg => ⟨⟨hok.1, q_okS_cons (q_vI _) (q_okS_tl (q_okS_tl hok.2))⟩, fun k Hh locs lsA hl hP hS => lv_idiv hx hb hd (by simpa using hg) (k Hh locs lsA hl hP hS)⟩
  · exact trivial
theorem s_irem {sx : QX} {own : String} {cc : ByteArray} {nL : Nat} {rt : Option FieldType} {pc : Nat} (hd : decode cc pc = .ok (.irem, 1)) : q_Snd sx own cc nL rt pc (o_bz (fun x y => x - x / y * y) (pc + 1)) := by
  intro g p l e R s m args below meth c cells slots Q rm P hC ls st H hok
  obtain ⟨hx, hb, hml, hown, hts, hK, hX, hbl, hN, hJ, hR, hret⟩ := hC
  unfold o_bz
  split
  · rename_i y x st
    exact fun hg => ⟨⟨hok.1, q_okS_cons (q_vI _) (q_okS_tl (q_okS_tl hok.2))⟩, fun k Hh locs lsA hl hP hS => lv_irem hx hb hd (by simpa using hg) (k Hh locs lsA hl hP hS)⟩
  · exact trivial
theorem s_ladd {sx : QX} {own : String} {cc : ByteArray} {nL : Nat} {rt : Option FieldType} {pc : Nat} (hd : decode cc pc = .ok (.ladd, 1)) : q_Snd sx own cc nL rt pc (o_lb (fun x y => x + y) (pc + 1)) := by
  intro g p l e R s m args below meth c cells slots Q rm P hC ls st H hok
  obtain ⟨hx, hb, hml, hown, hts, hK, hX, hbl, hN, hJ, hR, hret⟩ := hC
  unfold o_lb
  split
  · rename_i y x st
    exact fun _ => ⟨⟨hok.1, q_okS_cons (q_vJ _) (q_okS_tl (q_okS_tl hok.2))⟩, fun k Hh locs lsA hl hP hS => lv_ladd hx hb hd (k Hh locs lsA hl hP hS)⟩
  · exact trivial
theorem s_lsub {sx : QX} {own : String} {cc : ByteArray} {nL : Nat} {rt : Option FieldType} {pc : Nat} (hd : decode cc pc = .ok (.lsub, 1)) : q_Snd sx own cc nL rt pc (o_lb (fun x y => x - y) (pc + 1)) := by
  intro g p l e R s m args below meth c cells slots Q rm P hC ls st H hok
  obtain ⟨hx, hb, hml, hown, hts, hK, hX, hbl, hN, hJ, hR, hret⟩ := hC
  unfold o_lb
  split
  · rename_i y x st
    exact fun _ => ⟨⟨hok.1, q_okS_cons (q_vJ _) (q_okS_tl (q_okS_tl hok.2))⟩, fun k Hh locs lsA hl hP hS => lv_lsub hx hb hd (k Hh locs lsA hl hP hS)⟩
  · exact trivial
theorem s_lmul {sx : QX} {own : String} {cc : ByteArray} {nL : Nat} {rt : Option FieldType} {pc : Nat} (hd : decode cc pc = .ok (.lmul, 1)) : q_Snd sx own cc nL rt pc (o_lb (fun x y => x * y) (pc + 1)) := by
  intro g p l e R s m args below meth c cells slots Q rm P hC ls st H hok
  obtain ⟨hx, hb, hml, hown, hts, hK, hX, hbl, hN, hJ, hR, hret⟩ := hC
  unfold o_lb
  split
  · rename_i y x st
    exact fun _ => ⟨⟨hok.1, q_okS_cons (q_vJ _) (q_okS_tl (q_okS_tl hok.2))⟩, fun k Hh locs lsA hl hP hS => lv_lmul hx hb hd (k Hh locs lsA hl hP hS)⟩
  · exact trivial
theorem s_lrem {sx : QX} {own : String} {cc : ByteArray} {nL : Nat} {rt : Option FieldType} {pc : Nat} (hd : decode cc pc = .ok (.lrem, 1)) : q_Snd sx own cc nL rt pc (o_lbz (fun x y => x - x / y * y) (pc + 1)) := by
  intro g p l e R s m args below meth c cells slots Q rm P hC ls st H hok
  obtain ⟨hx, hb, hml, hown, hts, hK, hX, hbl, hN, hJ, hR, hret⟩ := hC
  unfold o_lbz
  split
  · rename_i y x st
    exact fun hg => ⟨⟨hok.1, q_okS_cons (q_vJ _) (q_okS_tl (q_okS_tl hok.2))⟩, fun k Hh locs lsA hl hP hS => lv_lrem hx hb hd (by simpa using hg) (k Hh locs lsA hl hP hS)⟩
  · exact trivial
theorem s_ineg {sx : QX} {own : String} {cc : ByteArray} {nL : Nat} {rt : Option FieldType} {pc : Nat} (hd : decode cc pc = .ok (.ineg, 1)) : q_Snd sx own cc nL rt pc (o_u (fun x => 0 - x) (pc + 1)) := by
  intro g p l e R s m args below meth c cells slots Q rm P hC ls st H hok
  obtain ⟨hx, hb, hml, hown, hts, hK, hX, hbl, hN, hJ, hR, hret⟩ := hC
  unfold o_u
  split
  · rename_i x st
    exact fun _ => ⟨⟨hok.1, q_okS_cons (q_vI _) (q_okS_tl hok.2)⟩, fun k Hh locs lsA hl hP hS => lv_ineg hx hb hd (k Hh locs lsA hl hP hS)⟩
  · exact trivial
theorem s_lcmp {sx : QX} {own : String} {cc : ByteArray} {nL : Nat} {rt : Option FieldType} {pc : Nat} (hd : decode cc pc = .ok (.lcmp, 1)) : q_Snd sx own cc nL rt pc (o_lcmp (pc + 1)) := by
  intro g p l e R s m args below meth c cells slots Q rm P hC ls st H hok
  obtain ⟨hx, hb, hml, hown, hts, hK, hX, hbl, hN, hJ, hR, hret⟩ := hC
  unfold o_lcmp
  split
  · rename_i y x st
    exact fun _ => ⟨⟨hok.1, q_okS_cons (q_vI _) (q_okS_tl (q_okS_tl hok.2))⟩, fun k Hh locs lsA hl hP hS => W.lcmp hx hb hd (k Hh locs lsA hl hP hS)⟩
  · exact trivial
theorem s_i2l {sx : QX} {own : String} {cc : ByteArray} {nL : Nat} {rt : Option FieldType} {pc : Nat} (hd : decode cc pc = .ok (.i2l, 1)) : q_Snd sx own cc nL rt pc (o_i2l (pc + 1)) := by
  intro g p l e R s m args below meth c cells slots Q rm P hC ls st H hok
  obtain ⟨hx, hb, hml, hown, hts, hK, hX, hbl, hN, hJ, hR, hret⟩ := hC
  unfold o_i2l
  split
  · rename_i x st
    exact fun _ => ⟨⟨hok.1, q_okS_cons (q_vJ _) (q_okS_tl hok.2)⟩, fun k Hh locs lsA hl hP hS => lv_i2l hx hb hd rfl (k Hh locs lsA hl hP hS)⟩
  · exact trivial
theorem s_l2i {sx : QX} {own : String} {cc : ByteArray} {nL : Nat} {rt : Option FieldType} {pc : Nat} (hd : decode cc pc = .ok (.l2i, 1)) : q_Snd sx own cc nL rt pc (o_l2i (pc + 1)) := by
  intro g p l e R s m args below meth c cells slots Q rm P hC ls st H hok
  obtain ⟨hx, hb, hml, hown, hts, hK, hX, hbl, hN, hJ, hR, hret⟩ := hC
  unfold o_l2i
  split
  · rename_i x st
    exact fun _ => ⟨⟨hok.1, q_okS_cons (q_vI _) (q_okS_tl hok.2)⟩, fun k Hh locs lsA hl hP hS => lv_l2i hx hb hd rfl (k Hh locs lsA hl hP hS)⟩
  · exact trivial
def o_dup (nx : Nat) : QO := fun ls st H => match st with
  | v :: st => some (.inl (!(q_big v), (nx, (ls, (v :: v :: st, H)))))
  | _ => none
def o_pop (nx : Nat) : QO := fun ls st H => match st with
  | v :: st => some (.inl (!(q_big v), (nx, (ls, (st, H)))))
  | _ => none
def o_dup2 (nx : Nat) : QO := fun ls st H => match st with
  | v :: w :: st => some (.inl (cond (q_big v) false (!(q_big w)), (nx, (ls, (v :: w :: v :: w :: st, H)))))
  | _ => none
theorem s_dup {sx : QX} {own : String} {cc : ByteArray} {nL : Nat} {rt : Option FieldType} {pc : Nat} (hd : decode cc pc = .ok (.dup, 1)) : q_Snd sx own cc nL rt pc (o_dup (pc + 1)) := by
  intro g p l e R s m args below meth c cells slots Q rm P hC ls st H hok
  obtain ⟨hx, hb, hml, hown, hts, hK, hX, hbl, hN, hJ, hR, hret⟩ := hC
  unfold o_dup
  split
  · rename_i v st
    exact fun hg => ⟨⟨hok.1, q_okS_cons (q_okS_hd hok.2) hok.2⟩, fun k Hh locs lsA hl hP hS => lv_dup hx hb hd (q_cat1 (by simpa using hg)) (k Hh locs lsA hl hP hS)⟩
  · exact trivial
theorem s_pop {sx : QX} {own : String} {cc : ByteArray} {nL : Nat} {rt : Option FieldType} {pc : Nat} (hd : decode cc pc = .ok (.pop, 1)) : q_Snd sx own cc nL rt pc (o_pop (pc + 1)) := by
  intro g p l e R s m args below meth c cells slots Q rm P hC ls st H hok
  obtain ⟨hx, hb, hml, hown, hts, hK, hX, hbl, hN, hJ, hR, hret⟩ := hC
  unfold o_pop
  split
  · rename_i v st
    exact fun hg => ⟨⟨hok.1, q_okS_tl hok.2⟩, fun k Hh locs lsA hl hP hS => lv_pop hx hb hd (q_cat1 (by simpa using hg)) (k Hh locs lsA hl hP hS)⟩
  · exact trivial
theorem s_dup2 {sx : QX} {own : String} {cc : ByteArray} {nL : Nat} {rt : Option FieldType} {pc : Nat} (hd : decode cc pc = .ok (.dup2, 1)) : q_Snd sx own cc nL rt pc (o_dup2 (pc + 1)) := by
  intro g p l e R s m args below meth c cells slots Q rm P hC ls st H hok
  obtain ⟨hx, hb, hml, hown, hts, hK, hX, hbl, hN, hJ, hR, hret⟩ := hC
  unfold o_dup2
  split
  · rename_i v w st
    intro hg
    have h1 : q_big v = false ∧ q_big w = false := by
      cases hv : q_big v <;> cases hw : q_big w <;> simp_all
    exact ⟨⟨hok.1, q_okS_cons (q_okS_hd hok.2) (q_okS_cons (q_okS_hd (q_okS_tl hok.2)) hok.2)⟩, fun k Hh locs lsA hl hP hS => lv_dup2_11 hx hb hd (q_cat1 h1.1) (q_cat1 h1.2) (k Hh locs lsA hl hP hS)⟩
  · exact trivial
def o_if (f : Int32 → Bool) (tg nx : Nat) : QO := fun ls st H => match st with
  | .inl x :: st => some (.inr (.inl (f x, ((tg, (ls, (st, H))), (nx, (ls, (st, H)))))))
  | _ => none
def o_ic (f : Int32 → Int32 → Bool) (tg nx : Nat) : QO := fun ls st H => match st with
  | .inl y :: .inl x :: st => some (.inr (.inl (f x y, ((tg, (ls, (st, H))), (nx, (ls, (st, H)))))))
  | _ => none
def o_goto (tg : Nat) : QO := fun ls st H => some (.inl (true, (tg, (ls, (st, H)))))
def o_ifnull (tg nx : Nat) : QO := fun ls st H => match st with
  | .inr (.inr (0, _)) :: st => some (.inl (true, (tg, (ls, (st, H)))))
  | .inr (.inr (_ + 1, _)) :: st => some (.inl (true, (nx, (ls, (st, H)))))
  | _ => none
theorem s_if_eq {sx : QX} {own : String} {cc : ByteArray} {nL : Nat} {rt : Option FieldType} {pc : Nat} {off : Int} {tg : Nat} (hd : decode cc pc = .ok (.ifCond .eq off, 3)) (ht : (pc : Int) + off = (tg : Int)) : q_Snd sx own cc nL rt pc (o_if (fun x => decide (x = 0)) tg (pc + 3)) := by
  intro g p l e R s m args below meth c cells slots Q rm P hC ls st H hok
  obtain ⟨hx, hb, hml, hown, hts, hK, hX, hbl, hN, hJ, hR, hret⟩ := hC
  unfold o_if
  split
  · rename_i x st
    refine ⟨fun _ => ⟨hok.1, q_okS_tl hok.2⟩, fun _ => ⟨hok.1, q_okS_tl hok.2⟩, fun k1 k2 Hh locs lsA hl hP hS => ?_⟩
    exact lv_if_eq hx hb hd ht (fun hc => k1 (decide_eq_true hc) Hh locs lsA hl hP hS) (fun hc => k2 (decide_eq_false hc) Hh locs lsA hl hP hS)
  · exact trivial
theorem s_ic_eq {sx : QX} {own : String} {cc : ByteArray} {nL : Nat} {rt : Option FieldType} {pc : Nat} {off : Int} {tg : Nat} (hd : decode cc pc = .ok (.if_icmp .eq off, 3)) (ht : (pc : Int) + off = (tg : Int)) : q_Snd sx own cc nL rt pc (o_ic (fun x y => decide (x = y)) tg (pc + 3)) := by
  intro g p l e R s m args below meth c cells slots Q rm P hC ls st H hok
  obtain ⟨hx, hb, hml, hown, hts, hK, hX, hbl, hN, hJ, hR, hret⟩ := hC
  unfold o_ic
  split
  · rename_i y x st
    refine ⟨fun _ => ⟨hok.1, q_okS_tl (q_okS_tl hok.2)⟩, fun _ => ⟨hok.1, q_okS_tl (q_okS_tl hok.2)⟩, fun k1 k2 Hh locs lsA hl hP hS => ?_⟩
    exact lv_icmp_eq hx hb hd ht (fun hc => k1 (decide_eq_true hc) Hh locs lsA hl hP hS) (fun hc => k2 (decide_eq_false hc) Hh locs lsA hl hP hS)
  · exact trivial
theorem s_if_ne {sx : QX} {own : String} {cc : ByteArray} {nL : Nat} {rt : Option FieldType} {pc : Nat} {off : Int} {tg : Nat} (hd : decode cc pc = .ok (.ifCond .ne off, 3)) (ht : (pc : Int) + off = (tg : Int)) : q_Snd sx own cc nL rt pc (o_if (fun x => decide (x ≠ 0)) tg (pc + 3)) := by
  intro g p l e R s m args below meth c cells slots Q rm P hC ls st H hok
  obtain ⟨hx, hb, hml, hown, hts, hK, hX, hbl, hN, hJ, hR, hret⟩ := hC
  unfold o_if
  split
  · rename_i x st
    refine ⟨fun _ => ⟨hok.1, q_okS_tl hok.2⟩, fun _ => ⟨hok.1, q_okS_tl hok.2⟩, fun k1 k2 Hh locs lsA hl hP hS => ?_⟩
    exact lv_if_ne hx hb hd ht (fun hc => k1 (decide_eq_true hc) Hh locs lsA hl hP hS) (fun hc => k2 (decide_eq_false (fun h => h hc)) Hh locs lsA hl hP hS)
  · exact trivial
theorem s_ic_ne {sx : QX} {own : String} {cc : ByteArray} {nL : Nat} {rt : Option FieldType} {pc : Nat} {off : Int} {tg : Nat} (hd : decode cc pc = .ok (.if_icmp .ne off, 3)) (ht : (pc : Int) + off = (tg : Int)) : q_Snd sx own cc nL rt pc (o_ic (fun x y => decide (x ≠ y)) tg (pc + 3)) := by
  intro g p l e R s m args below meth c cells slots Q rm P hC ls st H hok
  obtain ⟨hx, hb, hml, hown, hts, hK, hX, hbl, hN, hJ, hR, hret⟩ := hC
  unfold o_ic
  split
  · rename_i y x st
    refine ⟨fun _ => ⟨hok.1, q_okS_tl (q_okS_tl hok.2)⟩, fun _ => ⟨hok.1, q_okS_tl (q_okS_tl hok.2)⟩, fun k1 k2 Hh locs lsA hl hP hS => ?_⟩
    exact lv_icmp_ne hx hb hd ht (fun hc => k1 (decide_eq_true hc) Hh locs lsA hl hP hS) (fun hc => k2 (decide_eq_false (fun h => h hc)) Hh locs lsA hl hP hS)
  · exact trivial
theorem s_if_lt {sx : QX} {own : String} {cc : ByteArray} {nL : Nat} {rt : Option FieldType} {pc : Nat} {off : Int} {tg : Nat} (hd : decode cc pc = .ok (.ifCond .lt off, 3)) (ht : (pc : Int) + off = (tg : Int)) : q_Snd sx own cc nL rt pc (o_if (fun x => decide (x < 0)) tg (pc + 3)) := by
  intro g p l e R s m args below meth c cells slots Q rm P hC ls st H hok
  obtain ⟨hx, hb, hml, hown, hts, hK, hX, hbl, hN, hJ, hR, hret⟩ := hC
  unfold o_if
  split
  · rename_i x st
    refine ⟨fun _ => ⟨hok.1, q_okS_tl hok.2⟩, fun _ => ⟨hok.1, q_okS_tl hok.2⟩, fun k1 k2 Hh locs lsA hl hP hS => ?_⟩
    exact lv_if_lt hx hb hd ht (fun hc => k1 (decide_eq_true hc) Hh locs lsA hl hP hS) (fun hc => k2 (decide_eq_false hc) Hh locs lsA hl hP hS)
  · exact trivial
theorem s_ic_lt {sx : QX} {own : String} {cc : ByteArray} {nL : Nat} {rt : Option FieldType} {pc : Nat} {off : Int} {tg : Nat} (hd : decode cc pc = .ok (.if_icmp .lt off, 3)) (ht : (pc : Int) + off = (tg : Int)) : q_Snd sx own cc nL rt pc (o_ic (fun x y => decide (x < y)) tg (pc + 3)) := by
  intro g p l e R s m args below meth c cells slots Q rm P hC ls st H hok
  obtain ⟨hx, hb, hml, hown, hts, hK, hX, hbl, hN, hJ, hR, hret⟩ := hC
  unfold o_ic
  split
  · rename_i y x st
    refine ⟨fun _ => ⟨hok.1, q_okS_tl (q_okS_tl hok.2)⟩, fun _ => ⟨hok.1, q_okS_tl (q_okS_tl hok.2)⟩, fun k1 k2 Hh locs lsA hl hP hS => ?_⟩
    exact lv_icmp_lt hx hb hd ht (fun hc => k1 (decide_eq_true hc) Hh locs lsA hl hP hS) (fun hc => k2 (decide_eq_false hc) Hh locs lsA hl hP hS)
  · exact trivial
theorem s_if_ge {sx : QX} {own : String} {cc : ByteArray} {nL : Nat} {rt : Option FieldType} {pc : Nat} {off : Int} {tg : Nat} (hd : decode cc pc = .ok (.ifCond .ge off, 3)) (ht : (pc : Int) + off = (tg : Int)) : q_Snd sx own cc nL rt pc (o_if (fun x => decide (0 ≤ x)) tg (pc + 3)) := by
  intro g p l e R s m args below meth c cells slots Q rm P hC ls st H hok
  obtain ⟨hx, hb, hml, hown, hts, hK, hX, hbl, hN, hJ, hR, hret⟩ := hC
  unfold o_if
  split
  · rename_i x st
    refine ⟨fun _ => ⟨hok.1, q_okS_tl hok.2⟩, fun _ => ⟨hok.1, q_okS_tl hok.2⟩, fun k1 k2 Hh locs lsA hl hP hS => ?_⟩
    exact lv_if_ge hx hb hd ht (fun hc => k1 (decide_eq_true hc) Hh locs lsA hl hP hS) (fun hc => k2 (decide_eq_false hc) Hh locs lsA hl hP hS)
  · exact trivial
theorem s_ic_ge {sx : QX} {own : String} {cc : ByteArray} {nL : Nat} {rt : Option FieldType} {pc : Nat} {off : Int} {tg : Nat} (hd : decode cc pc = .ok (.if_icmp .ge off, 3)) (ht : (pc : Int) + off = (tg : Int)) : q_Snd sx own cc nL rt pc (o_ic (fun x y => decide (y ≤ x)) tg (pc + 3)) := by
  intro g p l e R s m args below meth c cells slots Q rm P hC ls st H hok
  obtain ⟨hx, hb, hml, hown, hts, hK, hX, hbl, hN, hJ, hR, hret⟩ := hC
  unfold o_ic
  split
  · rename_i y x st
    refine ⟨fun _ => ⟨hok.1, q_okS_tl (q_okS_tl hok.2)⟩, fun _ => ⟨hok.1, q_okS_tl (q_okS_tl hok.2)⟩, fun k1 k2 Hh locs lsA hl hP hS => ?_⟩
    exact lv_icmp_ge hx hb hd ht (fun hc => k1 (decide_eq_true hc) Hh locs lsA hl hP hS) (fun hc => k2 (decide_eq_false hc) Hh locs lsA hl hP hS)
  · exact trivial
theorem s_if_gt {sx : QX} {own : String} {cc : ByteArray} {nL : Nat} {rt : Option FieldType} {pc : Nat} {off : Int} {tg : Nat} (hd : decode cc pc = .ok (.ifCond .gt off, 3)) (ht : (pc : Int) + off = (tg : Int)) : q_Snd sx own cc nL rt pc (o_if (fun x => decide (0 < x)) tg (pc + 3)) := by
  intro g p l e R s m args below meth c cells slots Q rm P hC ls st H hok
  obtain ⟨hx, hb, hml, hown, hts, hK, hX, hbl, hN, hJ, hR, hret⟩ := hC
  unfold o_if
  split
  · rename_i x st
    refine ⟨fun _ => ⟨hok.1, q_okS_tl hok.2⟩, fun _ => ⟨hok.1, q_okS_tl hok.2⟩, fun k1 k2 Hh locs lsA hl hP hS => ?_⟩
    exact lv_if_gt hx hb hd ht (fun hc => k1 (decide_eq_true hc) Hh locs lsA hl hP hS) (fun hc => k2 (decide_eq_false hc) Hh locs lsA hl hP hS)
  · exact trivial
theorem s_ic_gt {sx : QX} {own : String} {cc : ByteArray} {nL : Nat} {rt : Option FieldType} {pc : Nat} {off : Int} {tg : Nat} (hd : decode cc pc = .ok (.if_icmp .gt off, 3)) (ht : (pc : Int) + off = (tg : Int)) : q_Snd sx own cc nL rt pc (o_ic (fun x y => decide (y < x)) tg (pc + 3)) := by
  intro g p l e R s m args below meth c cells slots Q rm P hC ls st H hok
  obtain ⟨hx, hb, hml, hown, hts, hK, hX, hbl, hN, hJ, hR, hret⟩ := hC
  unfold o_ic
  split
  · rename_i y x st
    refine ⟨fun _ => ⟨hok.1, q_okS_tl (q_okS_tl hok.2)⟩, fun _ => ⟨hok.1, q_okS_tl (q_okS_tl hok.2)⟩, fun k1 k2 Hh locs lsA hl hP hS => ?_⟩
    exact lv_icmp_gt hx hb hd ht (fun hc => k1 (decide_eq_true hc) Hh locs lsA hl hP hS) (fun hc => k2 (decide_eq_false hc) Hh locs lsA hl hP hS)
  · exact trivial
theorem s_if_le {sx : QX} {own : String} {cc : ByteArray} {nL : Nat} {rt : Option FieldType} {pc : Nat} {off : Int} {tg : Nat} (hd : decode cc pc = .ok (.ifCond .le off, 3)) (ht : (pc : Int) + off = (tg : Int)) : q_Snd sx own cc nL rt pc (o_if (fun x => decide (x ≤ 0)) tg (pc + 3)) := by
  intro g p l e R s m args below meth c cells slots Q rm P hC ls st H hok
  obtain ⟨hx, hb, hml, hown, hts, hK, hX, hbl, hN, hJ, hR, hret⟩ := hC
  unfold o_if
  split
  · rename_i x st
    refine ⟨fun _ => ⟨hok.1, q_okS_tl hok.2⟩, fun _ => ⟨hok.1, q_okS_tl hok.2⟩, fun k1 k2 Hh locs lsA hl hP hS => ?_⟩
    exact lv_if_le hx hb hd ht (fun hc => k1 (decide_eq_true hc) Hh locs lsA hl hP hS) (fun hc => k2 (decide_eq_false hc) Hh locs lsA hl hP hS)
  · exact trivial
theorem s_ic_le {sx : QX} {own : String} {cc : ByteArray} {nL : Nat} {rt : Option FieldType} {pc : Nat} {off : Int} {tg : Nat} (hd : decode cc pc = .ok (.if_icmp .le off, 3)) (ht : (pc : Int) + off = (tg : Int)) : q_Snd sx own cc nL rt pc (o_ic (fun x y => decide (x ≤ y)) tg (pc + 3)) := by
  intro g p l e R s m args below meth c cells slots Q rm P hC ls st H hok
  obtain ⟨hx, hb, hml, hown, hts, hK, hX, hbl, hN, hJ, hR, hret⟩ := hC
  unfold o_ic
  split
  · rename_i y x st
    refine ⟨fun _ => ⟨hok.1, q_okS_tl (q_okS_tl hok.2)⟩, fun _ => ⟨hok.1, q_okS_tl (q_okS_tl hok.2)⟩, fun k1 k2 Hh locs lsA hl hP hS => ?_⟩
    exact lv_icmp_le hx hb hd ht (fun hc => k1 (decide_eq_true hc) Hh locs lsA hl hP hS) (fun hc => k2 (decide_eq_false hc) Hh locs lsA hl hP hS)
  · exact trivial
theorem s_goto {sx : QX} {own : String} {cc : ByteArray} {nL : Nat} {rt : Option FieldType} {pc : Nat} {off : Int} {tg : Nat} (hd : decode cc pc = .ok (.goto off, 3)) (ht : (pc : Int) + off = (tg : Int)) : q_Snd sx own cc nL rt pc (o_goto tg) := by
  intro g p l e R s m args below meth c cells slots Q rm P hC ls st H hok
  obtain ⟨hx, hb, hml, hown, hts, hK, hX, hbl, hN, hJ, hR, hret⟩ := hC
  exact fun _ => ⟨⟨hok.1, hok.2⟩, fun k Hh locs lsA hl hP hS => lv_goto hx hb hd ht (k Hh locs lsA hl hP hS)⟩
theorem s_ifnull {sx : QX} {own : String} {cc : ByteArray} {nL : Nat} {rt : Option FieldType} {pc : Nat} {off : Int} {tg : Nat} (hd : decode cc pc = .ok (.ifnull off, 3)) (ht : (pc : Int) + off = (tg : Int)) : q_Snd sx own cc nL rt pc (o_ifnull tg (pc + 3)) := by
  intro g p l e R s m args below meth c cells slots Q rm P hC ls st H hok
  obtain ⟨hx, hb, hml, hown, hts, hK, hX, hbl, hN, hJ, hR, hret⟩ := hC
  unfold o_ifnull
  split
  · exact fun _ => ⟨⟨hok.1, q_okS_tl hok.2⟩, fun k Hh locs lsA hl hP hS => lv_ifnullN hx hb hd ht (k Hh locs lsA hl hP hS)⟩
  · exact fun _ => ⟨⟨hok.1, q_okS_tl hok.2⟩, fun k Hh locs lsA hl hP hS => lv_ifnull hx hb hd (k Hh locs lsA hl hP hS)⟩
  · exact trivial
theorem s_ifnonnull {sx : QX} {own : String} {cc : ByteArray} {nL : Nat} {rt : Option FieldType} {pc : Nat} {off : Int} {tg : Nat} (hd : decode cc pc = .ok (.ifnonnull off, 3)) (ht : (pc : Int) + off = (tg : Int)) : q_Snd sx own cc nL rt pc (o_ifnull (pc + 3) tg) := by
  intro g p l e R s m args below meth c cells slots Q rm P hC ls st H hok
  obtain ⟨hx, hb, hml, hown, hts, hK, hX, hbl, hN, hJ, hR, hret⟩ := hC
  unfold o_ifnull
  split
  · exact fun _ => ⟨⟨hok.1, q_okS_tl hok.2⟩, fun k Hh locs lsA hl hP hS => lv_ifnonnullN hx hb hd (k Hh locs lsA hl hP hS)⟩
  · exact fun _ => ⟨⟨hok.1, q_okS_tl hok.2⟩, fun k Hh locs lsA hl hP hS => lv_ifnonnull hx hb hd ht (k Hh locs lsA hl hP hS)⟩
  · exact trivial
