/-! CONSTRUCTORS with rows of quarries -/
theorem kc_1_4 : Cond.initialized RX3 ∈ q_tw := q_w1 (i := 4) rfl rfl
theorem kc_1_108 : Cond.instantiable RX3 8 ∈ q_tw := q_w1 (i := 108) rfl rfl
theorem kc_1_110 : Cond.instanceMethod yX3_init ∈ q_tw := q_w1 (i := 110) rfl rfl
theorem kc_1_111 : Cond.code yX3_init cX3_init 2 none ∈ q_tw := q_w1 (i := 111) rfl rfl
theorem kc_1_153 : Cond.methodLink RX2 1 Lib.objectInit ∈ q_tw := q_w1 (i := 153) rfl rfl
theorem kc_1_154 : Cond.classLink RX2 7 RX3 ∈ q_tw := q_w1 (i := 154) rfl rfl
theorem kc_1_156 : Cond.methodLink RX2 15 yX3_init ∈ q_tw := q_w1 (i := 156) rfl rfl
theorem kc_1_157 : Cond.fieldLink RX2 9 RX2 "slots" "[LStoneApologies$Quarry;" ∈ q_tw := q_w1 (i := 157) rfl rfl
theorem kc_1_187 : Cond.methodLink RX1 3 Lib.objectInit ∈ q_tw := q_w1 (i := 187) rfl rfl
theorem kc_1_188 : Cond.classLink RX1 9 RX3 ∈ q_tw := q_w1 (i := 188) rfl rfl
theorem kc_1_189 : Cond.methodLink RX1 24 yX3_init ∈ q_tw := q_w1 (i := 189) rfl rfl
theorem kc_1_190 : Cond.fieldLink RX1 11 RX1 "steps" "[LStoneApologies$Quarry;" ∈ q_tw := q_w1 (i := 190) rfl rfl
theorem kc_1_191 : Cond.fieldLink RX1 17 RX1 "row" "[I" ∈ q_tw := q_w1 (i := 191) rfl rfl
theorem kc_1_192 : Cond.fieldLink RX1 21 RX1 "found" "[I" ∈ q_tw := q_w1 (i := 192) rfl rfl
theorem d_X2_init_0 : decode cX2_init 0 = .ok (.aload_n 0, 1) := by decide +kernel
theorem d_X2_init_1 : decode cX2_init 1 = .ok (.invokespecial 1, 3) := by decide +kernel
theorem d_X2_init_4 : decode cX2_init 4 = .ok (.aload_n 0, 1) := by decide +kernel
theorem d_X2_init_5 : decode cX2_init 5 = .ok (.iload_n 1, 1) := by decide +kernel
theorem d_X2_init_6 : decode cX2_init 6 = .ok (.iconst 1, 1) := by decide +kernel
theorem d_X2_init_7 : decode cX2_init 7 = .ok (.if_icmp .ge 7, 3) := by decide +kernel
theorem d_X2_init_10 : decode cX2_init 10 = .ok (.iconst 1, 1) := by decide +kernel
theorem d_X2_init_11 : decode cX2_init 11 = .ok (.goto 4, 3) := by decide +kernel
theorem d_X2_init_14 : decode cX2_init 14 = .ok (.iload_n 1, 1) := by decide +kernel
theorem d_X2_init_15 : decode cX2_init 15 = .ok (.anewarray 7, 3) := by decide +kernel
theorem d_X2_init_18 : decode cX2_init 18 = .ok (.putfield 9, 3) := by decide +kernel
theorem d_X2_init_21 : decode cX2_init 21 = .ok (.iconst 0, 1) := by decide +kernel
theorem d_X2_init_22 : decode cX2_init 22 = .ok (.istore_n 3, 1) := by decide +kernel
theorem d_X2_init_23 : decode cX2_init 23 = .ok (.iload_n 3, 1) := by decide +kernel
theorem d_X2_init_24 : decode cX2_init 24 = .ok (.aload_n 0, 1) := by decide +kernel
theorem d_X2_init_25 : decode cX2_init 25 = .ok (.getfield 9, 3) := by decide +kernel
theorem d_X2_init_28 : decode cX2_init 28 = .ok (.arraylength, 1) := by decide +kernel
theorem d_X2_init_29 : decode cX2_init 29 = .ok (.if_icmp .ge 23, 3) := by decide +kernel
theorem d_X2_init_32 : decode cX2_init 32 = .ok (.aload_n 0, 1) := by decide +kernel
theorem d_X2_init_33 : decode cX2_init 33 = .ok (.getfield 9, 3) := by decide +kernel
theorem d_X2_init_36 : decode cX2_init 36 = .ok (.iload_n 3, 1) := by decide +kernel
theorem d_X2_init_37 : decode cX2_init 37 = .ok (.new 7, 3) := by decide +kernel
theorem d_X2_init_40 : decode cX2_init 40 = .ok (.dup, 1) := by decide +kernel
theorem d_X2_init_41 : decode cX2_init 41 = .ok (.aload_n 2, 1) := by decide +kernel
theorem d_X2_init_42 : decode cX2_init 42 = .ok (.invokespecial 15, 3) := by decide +kernel
theorem d_X2_init_45 : decode cX2_init 45 = .ok (.aastore, 1) := by decide +kernel
theorem d_X2_init_46 : decode cX2_init 46 = .ok (.iinc 3 1, 3) := by decide +kernel
theorem d_X2_init_49 : decode cX2_init 49 = .ok (.goto (-26), 3) := by decide +kernel
theorem d_X2_init_52 : decode cX2_init 52 = .ok (.return_, 1) := by decide +kernel
theorem d_X1_init_0 : decode cX1_init 0 = .ok (.aload_n 0, 1) := by decide +kernel
theorem d_X1_init_1 : decode cX1_init 1 = .ok (.invokespecial 3, 3) := by decide +kernel
theorem d_X1_init_4 : decode cX1_init 4 = .ok (.aload_n 0, 1) := by decide +kernel
theorem d_X1_init_5 : decode cX1_init 5 = .ok (.bipush 7, 2) := by decide +kernel
theorem d_X1_init_7 : decode cX1_init 7 = .ok (.anewarray 9, 3) := by decide +kernel
theorem d_X1_init_10 : decode cX1_init 10 = .ok (.putfield 11, 3) := by decide +kernel
theorem d_X1_init_13 : decode cX1_init 13 = .ok (.aload_n 0, 1) := by decide +kernel
theorem d_X1_init_14 : decode cX1_init 14 = .ok (.bipush 6, 2) := by decide +kernel
theorem d_X1_init_16 : decode cX1_init 16 = .ok (.newarray .int, 2) := by decide +kernel
theorem d_X1_init_18 : decode cX1_init 18 = .ok (.putfield 17, 3) := by decide +kernel
theorem d_X1_init_21 : decode cX1_init 21 = .ok (.aload_n 0, 1) := by decide +kernel
theorem d_X1_init_22 : decode cX1_init 22 = .ok (.bipush 6, 2) := by decide +kernel
theorem d_X1_init_24 : decode cX1_init 24 = .ok (.newarray .int, 2) := by decide +kernel
theorem d_X1_init_26 : decode cX1_init 26 = .ok (.putfield 21, 3) := by decide +kernel
theorem d_X1_init_29 : decode cX1_init 29 = .ok (.iconst 0, 1) := by decide +kernel
theorem d_X1_init_30 : decode cX1_init 30 = .ok (.istore_n 2, 1) := by decide +kernel
theorem d_X1_init_31 : decode cX1_init 31 = .ok (.iload_n 2, 1) := by decide +kernel
theorem d_X1_init_32 : decode cX1_init 32 = .ok (.aload_n 0, 1) := by decide +kernel
theorem d_X1_init_33 : decode cX1_init 33 = .ok (.getfield 11, 3) := by decide +kernel
theorem d_X1_init_36 : decode cX1_init 36 = .ok (.arraylength, 1) := by decide +kernel
theorem d_X1_init_37 : decode cX1_init 37 = .ok (.if_icmp .ge 23, 3) := by decide +kernel
theorem d_X1_init_40 : decode cX1_init 40 = .ok (.aload_n 0, 1) := by decide +kernel
theorem d_X1_init_41 : decode cX1_init 41 = .ok (.getfield 11, 3) := by decide +kernel
theorem d_X1_init_44 : decode cX1_init 44 = .ok (.iload_n 2, 1) := by decide +kernel
theorem d_X1_init_45 : decode cX1_init 45 = .ok (.new 9, 3) := by decide +kernel
theorem d_X1_init_48 : decode cX1_init 48 = .ok (.dup, 1) := by decide +kernel
theorem d_X1_init_49 : decode cX1_init 49 = .ok (.aload_n 1, 1) := by decide +kernel
theorem d_X1_init_50 : decode cX1_init 50 = .ok (.invokespecial 24, 3) := by decide +kernel
theorem d_X1_init_53 : decode cX1_init 53 = .ok (.aastore, 1) := by decide +kernel
theorem d_X1_init_54 : decode cX1_init 54 = .ok (.iinc 2 1, 3) := by decide +kernel
theorem d_X1_init_57 : decode cX1_init 57 = .ok (.goto (-26), 3) := by decide +kernel
theorem d_X1_init_60 : decode cX1_init 60 = .ok (.return_, 1) := by decide +kernel
def k_qy (cI : ClassId) (bd h : Nat) (u : Nat → Nat) : va_W := [(h, .inr (3, [.ref bd, .int (nI 0), .ref (u 1), .ref (u 2), .ref (u 3), .ref (u 4), .ref (u 5), .ref (u 6)])), (u 1, .inl (cI, (6, .inl (fun _ => nI 0)))), (u 2, .inl (cI, (6, .inl (fun _ => nI 0)))), (u 3, .inl (cI, (6, .inl (fun _ => nI 0)))), (u 4, .inl (cI, (4, .inl (fun _ => nI 0)))), (u 5, .inl (cI, (36, .inl (fun _ => nI 0)))), (u 6, .inl (cI, (24, .inl (fun _ => nI 0))))]
def k_qs (cI : ClassId) (bd : Nat) (F : Nat → Nat → Nat) : Nat → va_W
  | 0 => []
  | n + 1 => k_qs cI bd F n ++ k_qy cI bd (F n 0) (F n)
theorem k_qs_congr {cI : ClassId} {bd : Nat} {F G : Nat → Nat → Nat} : ∀ n, (∀ j, j < n → F j = G j) → k_qs cI bd F n = k_qs cI bd G n := by
  intro n
  induction n with
  | zero => intro _; rfl
  | succ n ih =>
    intro h
    unfold k_qs
    rw [ih (fun j hj => h j (by omega)), h n (by omega)]
def k_ar (cQ : ClassId) (n : Nat) (F : Nat → Nat → Nat) (i : Nat) : va_E := .inl (cQ, (n, .inr (.inr (.inr (.inr (fun j => if j < i then some (F j 0) else none))))))
def k_F (F : Nat → Nat → Nat) (i q : Nat) (u : Nat → Nat) : Nat → Nat → Nat := fun j => if j = i then (fun k => if k = 0 then q else u k) else F j
theorem k_F_qs (cI : ClassId) (bd : Nat) (F : Nat → Nat → Nat) (i q : Nat) (u : Nat → Nat) : k_qs cI bd F i ++ k_qy cI bd q u = k_qs cI bd (k_F F i q u) (i + 1) := by
  show _ = k_qs cI bd (k_F F i q u) i ++ k_qy cI bd (k_F F i q u i 0) (k_F F i q u i)
  rw [k_qs_congr (F := k_F F i q u) (G := F) i (fun j hj => by unfold k_F; rw [if_neg (by omega)])]
  have e : k_F F i q u i = fun k => if k = 0 then q else u k := by unfold k_F; rw [if_pos rfl]
  rw [e]
  rfl
theorem k_F_ar (cQ : ClassId) (n : Nat) (F : Nat → Nat → Nat) (i q : Nat) (u : Nat → Nat) (hi : i < 1000000) : (.inl (cQ, (n, .inr (.inr (.inr (.inr (va_up (fun j => if j < i then some (F j 0) else none) (nI i).toNatClampNeg (some q))))))) : va_E) = k_ar cQ n (k_F F i q u) (i + 1) := by
  unfold k_ar
  have e : va_up (fun j => if j < i then some (F j 0) else none) (nI i).toNatClampNeg (some q) = fun j => if j < i + 1 then some (k_F F i q u j 0) else none := by
    funext j
    rw [nI_clamp (by omega)]
    unfold va_up k_F
    by_cases c : j = i
    · rw [if_pos c, if_pos c, if_pos (by omega), if_pos rfl]
    · rw [if_neg c, if_neg c]
      show (if j < i then some (F j 0) else none) = _
      by_cases c2 : j < i
      · rw [if_pos c2, if_pos (by omega)]
      · rw [if_neg c2, if_neg (by omega)]
  rw [e]
set_option maxHeartbeats 4000000 in
set_option maxRecDepth 100000 in
theorem k_pileL {p : Program} {l : Launch} {e : Env} {R : Room} {s : State} {m : MethodId} {args : Array Value} {below : List Frame} {meth : Method} {c : Code} {Q : State → Prop} {A : Nat → Prop} {D : va_G} {cI cQ : ClassId} {h0 sl bd n c0 s0 : Nat} {fs : List Value} {T : va_W} (hx : p.tables.exec = Jvm.exec) (hb : c.code = cX2_init) (hml : c.maxLocals = 4) (hown : s.vm.findClass RX2 = some m.cls) (hts : ∀ w ∈ q_tw, w.before args s = true) (hK : va_K D vwCl (k_tys cI cQ) s) (hA : ∀ q : Nat, s.heap.size ≤ q → A q) (hn : n < 100) (hfs : fs[0]? = some (.ref sl)) (hR : 6 ≤ R.frames ∧ 300 ≤ R.locals ∧ c0 + 7 * n ≤ R.cells ∧ s0 + 90 * n ≤ R.slots)
    (done : ∀ (F : Nat → Nat → Nat) (H : Heap) (locs : List Loc) (ls : Array Slot), va_P D vwCl (((h0, .inr (2, fs)) :: (sl, k_ar cQ n F n) :: T) ++ k_qs cI bd F n) H → va_D A (((h0, .inr (2, fs)) :: (sl, k_ar cQ n F n) :: T) ++ k_qs cI bd F n) → va_S A s.heap H locs → W p l e R s m args below meth c H locs (c0 + 7 * n) (s0 + 90 * n) Q (F0 m 52 ls [])) :
    ∀ (r i : Nat) (F : Nat → Nat → Nat) (H : Heap) (locs : List Loc) (ls : Array Slot), i + r = n → va_P D vwCl (((h0, .inr (2, fs)) :: (sl, k_ar cQ n F i) :: T) ++ k_qs cI bd F i) H → va_D A (((h0, .inr (2, fs)) :: (sl, k_ar cQ n F i) :: T) ++ k_qs cI bd F i) → va_S A s.heap H locs → lv_has ls 4 [(0, .ref h0), (2, .ref bd), (3, .int (nI i))] → W p l e R s m args below meth c H locs (c0 + 7 * i) (s0 + 90 * i) Q (F0 m 23 ls []) := by
  intro r
  induction r with
  | zero =>
    intro i F H locs ls hi hP hD hS hl
    have hin : i = n := by omega
    subst hin
    refine lv_iload_n hx hb d_X2_init_23 rfl (lv_at hl 2 rfl) ?_
    refine lv_aload_n hx hb d_X2_init_24 rfl (lv_at hl 0 rfl) ?_
    refine va_get (v := .ref sl) hx hb hts in_X2 hown hK hP 0 rfl rfl 0 (by decide) (hts _ kc_1_157) (fun _ h9 => h9) hfs d_X2_init_25 ?_
    refine va_alen (v := nI i) hx hb hK hP 1 1 rfl rfl rfl d_X2_init_28 ?_
    refine lv_icmp_ge (tgt := 52) hx hb d_X2_init_29 (by decide) (fun _ => ?_) (fun k => absurd (Int32.le_refl _) k)
    exact done F H locs ls hP hD hS
  | succ r ih =>
    intro i F H locs ls hi hP hD hS hl
    refine lv_iload_n hx hb d_X2_init_23 rfl (lv_at hl 2 rfl) ?_
    refine lv_aload_n hx hb d_X2_init_24 rfl (lv_at hl 0 rfl) ?_
    refine va_get (v := .ref sl) hx hb hts in_X2 hown hK hP 0 rfl rfl 0 (by decide) (hts _ kc_1_157) (fun _ h9 => h9) hfs d_X2_init_25 ?_
    refine va_alen (v := nI n) hx hb hK hP 1 1 rfl rfl rfl d_X2_init_28 ?_
    refine lv_icmp_ge (tgt := 52) hx hb d_X2_init_29 (by decide) (fun k => absurd k (by rw [nI_leI (by omega) (by omega)]; omega)) (fun _ => ?_)
    refine lv_aload_n hx hb d_X2_init_32 rfl (lv_at hl 0 rfl) ?_
    refine va_get (v := .ref sl) hx hb hts in_X2 hown hK hP 0 rfl rfl 0 (by decide) (hts _ kc_1_157) (fun _ h9 => h9) hfs d_X2_init_33 ?_
    refine lv_iload_n hx hb d_X2_init_36 rfl (lv_at hl 2 rfl) ?_
    refine va_new (ci := 3) (fs := [.null, .int (nI 0), .null, .null, .null, .null, .null, .null]) (C := RX3) (T := TX3) (N := 8) hx hb hts in_X3 tyX3 tyX3_ok hown (hts _ kc_1_154) (hts _ kc_1_108) (hts _ kc_1_4) hK hP hD hS hA rfl (fun j hj => by rcases (show j = 0 ∨ j = 1 ∨ j = 2 ∨ j = 3 ∨ j = 4 ∨ j = 5 ∨ j = 6 ∨ j = 7 by omega) with rfl | rfl | rfl | rfl | rfl | rfl | rfl | rfl <;> rfl) (by omega) (by omega) d_X2_init_37 (fun q H hP hD hS => ?_)
    refine lv_dup hx hb d_X2_init_40 rfl ?_
    refine lv_aload_n hx hb d_X2_init_41 rfl (lv_at hl 1 rfl) ?_
    refine k_initI (n := 1) (mc := 6) (ms := 82) (As := [.ref bd]) (rest := [.ref q, .int (nI i), .ref sl]) (f := fun u => k_qy cI bd q u) hx hb hml hown hts hK (c_Quarry l D cI cQ q H.size bd) k_okT (fun _ _ _ => trivial) kc_1_156 kc_1_110 kc_1_4 kc_1_111 rfl rfl rfl (by decide +kernel) rfl ⟨by have := hR.1; show 4 + 1 ≤ R.frames; omega, by have := hR.2.1; show 8 + (2 + 11) + 200 ≤ R.locals; omega⟩ hl.1 rfl (Nat.le_of_ble_eq_true rfl) d_X2_init_42 ⟨by omega, by omega⟩ hP hD hS hA (fun u H locs hP hD hS => ?_)
    refine va_astq (r := (RX3, TX3, 8)) (n := n) hx hb hK hP hD hS 1 1 _ 3 rfl rfl (k_apr (j := 0) rfl) rfl (vp_in_nI (by omega) (by omega)) d_X2_init_45 (fun H locs hP hD hS => ?_)
    have hP : va_P D vwCl (((h0, .inr (2, fs)) :: (sl, .inl (cQ, (n, .inr (.inr (.inr (.inr (va_up (fun j => if j < i then some (F j 0) else none) (nI i).toNatClampNeg (some q)))))))) :: T) ++ k_qs cI bd F i ++ k_qy cI bd q u) H := hP
    have hD : va_D A (((h0, .inr (2, fs)) :: (sl, .inl (cQ, (n, .inr (.inr (.inr (.inr (va_up (fun j => if j < i then some (F j 0) else none) (nI i).toNatClampNeg (some q)))))))) :: T) ++ k_qs cI bd F i ++ k_qy cI bd q u) := hD
    rw [k_F_ar cQ n F i q u (by omega), List.append_assoc, k_F_qs] at hP hD
    refine lv_iinc (v := nI (i + 1)) (lv' := [(3, .int (nI (i + 1))), (0, .ref h0), (2, .ref bd)]) hx hb d_X2_init_46 hl (k := 2) rfl (nI_add i 1) (by decide) rfl (fun ls hl => ?_)
    refine lv_goto (tgt := 23) hx hb d_X2_init_49 (by decide) ?_
    refine W.widen (k := c0 + 7 * (i + 1)) (n := s0 + 90 * (i + 1)) (by omega) (by omega) ?_
    exact ih (i + 1) (k_F F i q u) H locs ls (by omega) hP hD hS (lv_sub hl [1, 2, 0] rfl)
set_option maxHeartbeats 4000000 in
set_option maxRecDepth 100000 in
theorem k_ordL {p : Program} {l : Launch} {e : Env} {R : Room} {s : State} {m : MethodId} {args : Array Value} {below : List Frame} {meth : Method} {c : Code} {Q : State → Prop} {A : Nat → Prop} {D : va_G} {cI cQ : ClassId} {h0 sl bd n c0 s0 : Nat} {fs : List Value} {T : va_W} (hx : p.tables.exec = Jvm.exec) (hb : c.code = cX1_init) (hml : c.maxLocals = 3) (hown : s.vm.findClass RX1 = some m.cls) (hts : ∀ w ∈ q_tw, w.before args s = true) (hK : va_K D vwCl (k_tys cI cQ) s) (hA : ∀ q : Nat, s.heap.size ≤ q → A q) (hn : n < 100) (hfs : fs[0]? = some (.ref sl)) (hR : 6 ≤ R.frames ∧ 300 ≤ R.locals ∧ c0 + 7 * n ≤ R.cells ∧ s0 + 90 * n ≤ R.slots)
    (done : ∀ (F : Nat → Nat → Nat) (H : Heap) (locs : List Loc) (ls : Array Slot), va_P D vwCl (((h0, .inr (1, fs)) :: (sl, k_ar cQ n F n) :: T) ++ k_qs cI bd F n) H → va_D A (((h0, .inr (1, fs)) :: (sl, k_ar cQ n F n) :: T) ++ k_qs cI bd F n) → va_S A s.heap H locs → W p l e R s m args below meth c H locs (c0 + 7 * n) (s0 + 90 * n) Q (F0 m 60 ls [])) :
    ∀ (r i : Nat) (F : Nat → Nat → Nat) (H : Heap) (locs : List Loc) (ls : Array Slot), i + r = n → va_P D vwCl (((h0, .inr (1, fs)) :: (sl, k_ar cQ n F i) :: T) ++ k_qs cI bd F i) H → va_D A (((h0, .inr (1, fs)) :: (sl, k_ar cQ n F i) :: T) ++ k_qs cI bd F i) → va_S A s.heap H locs → lv_has ls 3 [(0, .ref h0), (1, .ref bd), (2, .int (nI i))] → W p l e R s m args below meth c H locs (c0 + 7 * i) (s0 + 90 * i) Q (F0 m 31 ls []) := by
  intro r
  induction r with
  | zero =>
    intro i F H locs ls hi hP hD hS hl
    have hin : i = n := by omega
    subst hin
    refine lv_iload_n hx hb d_X1_init_31 rfl (lv_at hl 2 rfl) ?_
    refine lv_aload_n hx hb d_X1_init_32 rfl (lv_at hl 0 rfl) ?_
    refine va_get (v := .ref sl) hx hb hts in_X1 hown hK hP 0 rfl rfl 0 (by decide) (hts _ kc_1_190) (fun _ h9 => h9) hfs d_X1_init_33 ?_
    refine va_alen (v := nI i) hx hb hK hP 1 1 rfl rfl rfl d_X1_init_36 ?_
    refine lv_icmp_ge (tgt := 60) hx hb d_X1_init_37 (by decide) (fun _ => ?_) (fun k => absurd (Int32.le_refl _) k)
    exact done F H locs ls hP hD hS
  | succ r ih =>
    intro i F H locs ls hi hP hD hS hl
    refine lv_iload_n hx hb d_X1_init_31 rfl (lv_at hl 2 rfl) ?_
    refine lv_aload_n hx hb d_X1_init_32 rfl (lv_at hl 0 rfl) ?_
    refine va_get (v := .ref sl) hx hb hts in_X1 hown hK hP 0 rfl rfl 0 (by decide) (hts _ kc_1_190) (fun _ h9 => h9) hfs d_X1_init_33 ?_
    refine va_alen (v := nI n) hx hb hK hP 1 1 rfl rfl rfl d_X1_init_36 ?_
    refine lv_icmp_ge (tgt := 60) hx hb d_X1_init_37 (by decide) (fun k => absurd k (by rw [nI_leI (by omega) (by omega)]; omega)) (fun _ => ?_)
    refine lv_aload_n hx hb d_X1_init_40 rfl (lv_at hl 0 rfl) ?_
    refine va_get (v := .ref sl) hx hb hts in_X1 hown hK hP 0 rfl rfl 0 (by decide) (hts _ kc_1_190) (fun _ h9 => h9) hfs d_X1_init_41 ?_
    refine lv_iload_n hx hb d_X1_init_44 rfl (lv_at hl 2 rfl) ?_
    refine va_new (ci := 3) (fs := [.null, .int (nI 0), .null, .null, .null, .null, .null, .null]) (C := RX3) (T := TX3) (N := 8) hx hb hts in_X3 tyX3 tyX3_ok hown (hts _ kc_1_188) (hts _ kc_1_108) (hts _ kc_1_4) hK hP hD hS hA rfl (fun j hj => by rcases (show j = 0 ∨ j = 1 ∨ j = 2 ∨ j = 3 ∨ j = 4 ∨ j = 5 ∨ j = 6 ∨ j = 7 by omega) with rfl | rfl | rfl | rfl | rfl | rfl | rfl | rfl <;> rfl) (by omega) (by omega) d_X1_init_45 (fun q H hP hD hS => ?_)
    refine lv_dup hx hb d_X1_init_48 rfl ?_
    refine lv_aload_n hx hb d_X1_init_49 rfl (lv_at hl 1 rfl) ?_
    refine k_initI (n := 1) (mc := 6) (ms := 82) (As := [.ref bd]) (rest := [.ref q, .int (nI i), .ref sl]) (f := fun u => k_qy cI bd q u) hx hb hml hown hts hK (c_Quarry l D cI cQ q H.size bd) k_okT (fun _ _ _ => trivial) kc_1_189 kc_1_110 kc_1_4 kc_1_111 rfl rfl rfl (by decide +kernel) rfl ⟨by have := hR.1; show 4 + 1 ≤ R.frames; omega, by have := hR.2.1; show 8 + (2 + 11) + 200 ≤ R.locals; omega⟩ hl.1 rfl (Nat.le_of_ble_eq_true rfl) d_X1_init_50 ⟨by omega, by omega⟩ hP hD hS hA (fun u H locs hP hD hS => ?_)
    refine va_astq (r := (RX3, TX3, 8)) (n := n) hx hb hK hP hD hS 1 1 _ 3 rfl rfl (k_apr (j := 0) rfl) rfl (vp_in_nI (by omega) (by omega)) d_X1_init_53 (fun H locs hP hD hS => ?_)
    have hP : va_P D vwCl (((h0, .inr (1, fs)) :: (sl, .inl (cQ, (n, .inr (.inr (.inr (.inr (va_up (fun j => if j < i then some (F j 0) else none) (nI i).toNatClampNeg (some q)))))))) :: T) ++ k_qs cI bd F i ++ k_qy cI bd q u) H := hP
    have hD : va_D A (((h0, .inr (1, fs)) :: (sl, .inl (cQ, (n, .inr (.inr (.inr (.inr (va_up (fun j => if j < i then some (F j 0) else none) (nI i).toNatClampNeg (some q)))))))) :: T) ++ k_qs cI bd F i ++ k_qy cI bd q u) := hD
    rw [k_F_ar cQ n F i q u (by omega), List.append_assoc, k_F_qs] at hP hD
    refine lv_iinc (v := nI (i + 1)) (lv' := [(2, .int (nI (i + 1))), (0, .ref h0), (1, .ref bd)]) hx hb d_X1_init_54 hl (k := 2) rfl (nI_add i 1) (by decide) rfl (fun ls hl => ?_)
    refine lv_goto (tgt := 31) hx hb d_X1_init_57 (by decide) ?_
    refine W.widen (k := c0 + 7 * (i + 1)) (n := s0 + 90 * (i + 1)) (by omega) (by omega) ?_
    exact ih (i + 1) (k_F F i q u) H locs ls (by omega) hP hD hS (lv_sub hl [1, 2, 0] rfl)
set_option maxHeartbeats 4000000 in
set_option maxRecDepth 100000 in
theorem c_Pile (l : Launch) (D : va_G) (cI cQ : ClassId) (h0 sz : Nat) (bd n : Nat) (hn : 1 ≤ n ∧ n < 100) : Met l yX2_init (k_ws yX2_init cX2_init 4 none) ({ frames := 8, cells := 1 + 7 * n, slots := n + 90 * n, locals := 400 }) (k_Pc D (k_tys cI cQ) (va_AO RX3) [.ref h0, .int (nI n), .ref bd] [(h0, .inr (2, [.null, .int (nI 0), .int (nI 0)]))] sz) (k_Qc D (k_tys cI cQ) [(h0, .inr (2, [.null, .int (nI 0), .int (nI 0)]))] sz (fun u : Nat × (Nat → Nat → Nat) => ((h0, .inr (2, [.ref u.1, .int (nI 0), .int (nI 0)])) :: (u.1, k_ar cQ n u.2 n) :: []) ++ k_qs cI bd u.2 n)) (1 + 7 * n) (n + 90 * n) (va_A [(h0, .inr (2, [.null, .int (nI 0), .int (nI 0)]))] sz) := by
  refine Met.ofW (cc := cX2_init) (maxL := 4) (ret := none) (by decide) rfl ?_
  intro p e s m args below meth c s₁ B hml hv
  obtain ⟨rfl, hsz, hP, hK, hD0, hE⟩ := hv
  have hx := B.exec
  have hb := B.bytes
  have hr := B.returns
  have hts0 := atoms_spec (ws := k_ws yX2_init cX2_init 4 none) B.pre
  have hts : ∀ w ∈ q_tw, w.before _ s = true := fun w h => hts0 w (List.mem_cons_of_mem _ h)
  have hown : s.vm.findClass RX2 = some m.cls := findClass_of_methodNamed B.named
  have hin : meth.name = "<init>" := (name_of_methodNamed B.named B.method).1
  subst hsz
  have hD := hD0.self (sz := s.heap.size)
  generalize hAe : va_A [(h0, .inr (2, [.null, .int (nI 0), .int (nI 0)]))] s.heap.size = A at hD ⊢
  have hA : ∀ q : Nat, s.heap.size ≤ q → A q := fun q h => by rw [← hAe]; exact Or.inr h
  have hS : va_S A s.heap s.heap [] := va_S.rf
  have hl := lv_entry ([.ref h0, .int (nI n), .ref bd]) (n := 4) (Nat.le_of_ble_eq_true rfl)
  rw [lg_entry_eq]
  generalize (lg_sl ([.ref h0, .int (nI n), .ref bd]) ++ List.replicate (4 - (lg_sl ([.ref h0, .int (nI n), .ref bd])).length) Slot.unset).toArray = ls at hl ⊢
  have hl : lv_has ls 4 [(0, .ref h0), (1, .int (nI n)), (2, .ref bd)] := hl
  refine lv_aload_n hx hb d_X2_init_0 rfl (lv_at hl 0 rfl) ?_
  refine W.objInit hx hb hown (hts _ kc_1_153) (hts _ kc_1_21) (hts _ kc_1_22) rfl (by rw [hml]; exact hl.1) rfl d_X2_init_1 (Nat.le_of_ble_eq_true rfl) (Nat.le_of_ble_eq_true rfl) ?_
  refine W.eq (g2 := F0 m 4 ls []) rfl ?_
  refine lv_aload_n hx hb d_X2_init_4 rfl (lv_at hl 0 rfl) ?_
  refine lv_iload_n hx hb d_X2_init_5 rfl (lv_at hl 1 rfl) ?_
  refine lv_iconst (v := nI 1) hx hb d_X2_init_6 (by decide) ?_
  refine lv_icmp_ge (tgt := 14) hx hb d_X2_init_7 (by decide) (fun _ => ?_) (fun k => absurd ((nI_leI (by omega) (by omega)).mpr hn.1) k)
  refine lv_iload_n hx hb d_X2_init_14 rfl (lv_at hl 1 rfl) ?_
  refine k_newQ (cI := cI) (cQ := cQ) (N' := n) hx hb hown (hts _ kc_1_154) hE hK hP hD hS hA (nI_pos (by omega)) (nI_clamp (by omega)) (by omega) (by show 0 + 1 ≤ 1 + 7 * n; omega) (by show 0 + n ≤ n + 90 * n; omega) d_X2_init_15 (fun sl H hP hD hS => ?_)
  have hP : va_P D vwCl [(h0, .inr (2, [.null, .int (nI 0), .int (nI 0)])), (sl, k_ar cQ n (fun _ _ => 0) 0)] H := hP
  have hD : va_D A [(h0, .inr (2, [.null, .int (nI 0), .int (nI 0)])), (sl, k_ar cQ n (fun _ _ => 0) 0)] := hD
  refine va_putF (D := D) (ci := 2) (v := .ref sl) (ty := (.array (.object "StoneApologies$Quarry"))) (C := RX2) (T := TX2) (N := 3) hx hb hts in_X2 tyX2 tyX2_ok nmX2 hown hK hP hD hS 0 rfl rfl 0 (by decide) (hts _ kc_1_157) (fun _ h9 => h9) rfl hin rfl (by decide +kernel) rfl rfl (Nat.le_of_ble_eq_true rfl) d_X2_init_18 (fun H locs hP hD hS => ?_)
  refine lv_iconst (v := nI 0) hx hb d_X2_init_21 (by decide) ?_
  refine lv_istore_n (lv' := [(3, .int (nI 0)), (0, .ref h0), (1, .int (nI n)), (2, .ref bd)]) hx hb d_X2_init_22 rfl hl (by decide) rfl (fun ls hl => ?_)
  refine W.widen (k := 1 + 7 * 0) (n := n + 90 * 0) (by omega) (by omega) ?_
  refine k_pileL (A := A) (D := D) (cI := cI) (cQ := cQ) (h0 := h0) (sl := sl) (bd := bd) (n := n) (fs := [.ref sl, .int (nI 0), .int (nI 0)]) (T := []) hx hb hml hown hts hK hA hn.2 rfl ⟨Nat.le_of_ble_eq_true rfl, Nat.le_of_ble_eq_true rfl, Nat.le_refl _, Nat.le_refl _⟩ (fun F H locs ls hP hD hS => ?_) n 0 (fun _ _ => 0) H locs ls (by omega) hP hD hS (lv_sub hl [1, 3, 0] rfl)
  exact W.vret hx hb hr (fun t ht hW => ⟨⟨(sl, F), rfl, trivial, by rw [ht]; exact hP, va_K.moved hW.alike hK, by rw [hAe]; exact hD⟩, by rw [hAe]; exact hS.F ht⟩) hS.2.2 d_X2_init_52
set_option maxHeartbeats 4000000 in
set_option maxRecDepth 100000 in
theorem c_Orders (l : Launch) (D : va_G) (cI cQ : ClassId) (h0 sz : Nat) (bd : Nat) : Met l yX1_init (k_ws yX1_init cX1_init 3 none) ({ frames := 8, cells := 52, slots := 649, locals := 400 }) (k_Pc D (k_tys cI cQ) (va_AO RX3) [.ref h0, .ref bd] [(h0, .inr (1, [.null, .null, .null, .int (nI 0), .int (nI 0)]))] sz) (k_Qc D (k_tys cI cQ) [(h0, .inr (1, [.null, .null, .null, .int (nI 0), .int (nI 0)]))] sz (fun u : (Nat → Nat) × (Nat → Nat → Nat) => ((h0, .inr (1, [.ref (u.1 1), .ref (u.1 2), .ref (u.1 3), .int (nI 0), .int (nI 0)])) :: (u.1 1, k_ar cQ 7 u.2 7) :: []) ++ (k_qs cI bd u.2 7 ++ [(u.1 2, .inl (cI, (6, .inl (fun _ => nI 0)))), (u.1 3, .inl (cI, (6, .inl (fun _ => nI 0))))]))) (52) (649) (va_A [(h0, .inr (1, [.null, .null, .null, .int (nI 0), .int (nI 0)]))] sz) := by
  refine Met.ofW (cc := cX1_init) (maxL := 3) (ret := none) (by decide) rfl ?_
  intro p e s m args below meth c s₁ B hml hv
  obtain ⟨rfl, hsz, hP, hK, hD0, hE⟩ := hv
  have hx := B.exec
  have hb := B.bytes
  have hr := B.returns
  have hts0 := atoms_spec (ws := k_ws yX1_init cX1_init 3 none) B.pre
  have hts : ∀ w ∈ q_tw, w.before _ s = true := fun w h => hts0 w (List.mem_cons_of_mem _ h)
  have hown : s.vm.findClass RX1 = some m.cls := findClass_of_methodNamed B.named
  have hin : meth.name = "<init>" := (name_of_methodNamed B.named B.method).1
  subst hsz
  have hD := hD0.self (sz := s.heap.size)
  generalize hAe : va_A [(h0, .inr (1, [.null, .null, .null, .int (nI 0), .int (nI 0)]))] s.heap.size = A at hD ⊢
  have hA : ∀ q : Nat, s.heap.size ≤ q → A q := fun q h => by rw [← hAe]; exact Or.inr h
  have hS : va_S A s.heap s.heap [] := va_S.rf
  have hl := lv_entry ([.ref h0, .ref bd]) (n := 3) (Nat.le_of_ble_eq_true rfl)
  rw [lg_entry_eq]
  generalize (lg_sl ([.ref h0, .ref bd]) ++ List.replicate (3 - (lg_sl ([.ref h0, .ref bd])).length) Slot.unset).toArray = ls at hl ⊢
  have hl : lv_has ls 3 [(0, .ref h0), (1, .ref bd)] := hl
  refine lv_aload_n hx hb d_X1_init_0 rfl (lv_at hl 0 rfl) ?_
  refine W.objInit hx hb hown (hts _ kc_1_187) (hts _ kc_1_21) (hts _ kc_1_22) rfl (by rw [hml]; exact hl.1) rfl d_X1_init_1 (Nat.le_of_ble_eq_true rfl) (Nat.le_of_ble_eq_true rfl) ?_
  refine W.eq (g2 := F0 m 4 ls []) rfl ?_
  refine lv_aload_n hx hb d_X1_init_4 rfl (lv_at hl 0 rfl) ?_
  refine lv_bipush (v := nI 7) hx hb d_X1_init_5 (by decide) ?_
  refine k_newQ (cI := cI) (cQ := cQ) (N' := 7) hx hb hown (hts _ kc_1_188) hE hK hP hD hS hA (by decide) (by decide) (by decide) (Nat.le_of_ble_eq_true rfl) (Nat.le_of_ble_eq_true rfl) d_X1_init_7 (fun sl H hP hD hS => ?_)
  have hP : va_P D vwCl [(h0, .inr (1, [.null, .null, .null, .int (nI 0), .int (nI 0)])), (sl, k_ar cQ 7 (fun _ _ => 0) 0)] H := hP
  have hD : va_D A [(h0, .inr (1, [.null, .null, .null, .int (nI 0), .int (nI 0)])), (sl, k_ar cQ 7 (fun _ _ => 0) 0)] := hD
  refine va_putF (D := D) (ci := 1) (v := .ref sl) (ty := (.array (.object "StoneApologies$Quarry"))) (C := RX1) (T := TX1) (N := 5) hx hb hts in_X1 tyX1 tyX1_ok nmX1 hown hK hP hD hS 0 rfl rfl 0 (by decide) (hts _ kc_1_190) (fun _ h9 => h9) rfl hin rfl (by decide +kernel) rfl rfl (Nat.le_of_ble_eq_true rfl) d_X1_init_10 (fun H locs hP hD hS => ?_)
  have hP : va_P D vwCl [(h0, .inr (1, [.ref sl, .null, .null, .int (nI 0), .int (nI 0)])), (sl, k_ar cQ 7 (fun _ _ => 0) 0)] H := hP
  have hD : va_D A [(h0, .inr (1, [.ref sl, .null, .null, .int (nI 0), .int (nI 0)])), (sl, k_ar cQ 7 (fun _ _ => 0) 0)] := hD
  refine lv_aload_n hx hb d_X1_init_13 rfl (lv_at hl 0 rfl) ?_
  refine lv_bipush (v := nI 6) hx hb d_X1_init_14 (by decide) ?_
  refine k_newI (cI := cI) (cQ := cQ) (N' := 6) hx hb (hts _ kc_1_43) hK hP hD hS hA (by decide) (by decide) (by decide) (Nat.le_of_ble_eq_true rfl) (Nat.le_of_ble_eq_true rfl) d_X1_init_16 (fun q2 H hP hD hS => ?_)
  have hP : va_P D vwCl [(h0, .inr (1, [.ref sl, .null, .null, .int (nI 0), .int (nI 0)])), (sl, k_ar cQ 7 (fun _ _ => 0) 0), (q2, .inl (cI, (6, .inl (fun _ => nI 0))))] H := hP
  have hD : va_D A [(h0, .inr (1, [.ref sl, .null, .null, .int (nI 0), .int (nI 0)])), (sl, k_ar cQ 7 (fun _ _ => 0) 0), (q2, .inl (cI, (6, .inl (fun _ => nI 0))))] := hD
  refine va_putF (D := D) (ci := 1) (v := .ref q2) (ty := (.array .int)) (C := RX1) (T := TX1) (N := 5) hx hb hts in_X1 tyX1 tyX1_ok nmX1 hown hK hP hD hS 0 rfl rfl 1 (by decide) (hts _ kc_1_191) (fun _ h9 => h9) rfl hin rfl (by decide +kernel) rfl rfl (Nat.le_of_ble_eq_true rfl) d_X1_init_18 (fun H locs hP hD hS => ?_)
  have hP : va_P D vwCl [(h0, .inr (1, [.ref sl, .ref q2, .null, .int (nI 0), .int (nI 0)])), (sl, k_ar cQ 7 (fun _ _ => 0) 0), (q2, .inl (cI, (6, .inl (fun _ => nI 0))))] H := hP
  have hD : va_D A [(h0, .inr (1, [.ref sl, .ref q2, .null, .int (nI 0), .int (nI 0)])), (sl, k_ar cQ 7 (fun _ _ => 0) 0), (q2, .inl (cI, (6, .inl (fun _ => nI 0))))] := hD
  refine lv_aload_n hx hb d_X1_init_21 rfl (lv_at hl 0 rfl) ?_
  refine lv_bipush (v := nI 6) hx hb d_X1_init_22 (by decide) ?_
  refine k_newI (cI := cI) (cQ := cQ) (N' := 6) hx hb (hts _ kc_1_43) hK hP hD hS hA (by decide) (by decide) (by decide) (Nat.le_of_ble_eq_true rfl) (Nat.le_of_ble_eq_true rfl) d_X1_init_24 (fun q3 H hP hD hS => ?_)
  have hP : va_P D vwCl [(h0, .inr (1, [.ref sl, .ref q2, .null, .int (nI 0), .int (nI 0)])), (sl, k_ar cQ 7 (fun _ _ => 0) 0), (q2, .inl (cI, (6, .inl (fun _ => nI 0)))), (q3, .inl (cI, (6, .inl (fun _ => nI 0))))] H := hP
  have hD : va_D A [(h0, .inr (1, [.ref sl, .ref q2, .null, .int (nI 0), .int (nI 0)])), (sl, k_ar cQ 7 (fun _ _ => 0) 0), (q2, .inl (cI, (6, .inl (fun _ => nI 0)))), (q3, .inl (cI, (6, .inl (fun _ => nI 0))))] := hD
  refine va_putF (D := D) (ci := 1) (v := .ref q3) (ty := (.array .int)) (C := RX1) (T := TX1) (N := 5) hx hb hts in_X1 tyX1 tyX1_ok nmX1 hown hK hP hD hS 0 rfl rfl 2 (by decide) (hts _ kc_1_192) (fun _ h9 => h9) rfl hin rfl (by decide +kernel) rfl rfl (Nat.le_of_ble_eq_true rfl) d_X1_init_26 (fun H locs hP hD hS => ?_)
  refine lv_iconst (v := nI 0) hx hb d_X1_init_29 (by decide) ?_
  refine lv_istore_n (lv' := [(2, .int (nI 0)), (0, .ref h0), (1, .ref bd)]) hx hb d_X1_init_30 rfl hl (by decide) rfl (fun ls hl => ?_)
  refine W.widen (k := 3 + 7 * 0) (n := 19 + 90 * 0) (by omega) (by omega) ?_
  refine k_ordL (A := A) (D := D) (cI := cI) (cQ := cQ) (h0 := h0) (sl := sl) (bd := bd) (n := 7) (fs := [.ref sl, .ref q2, .ref q3, .int (nI 0), .int (nI 0)]) (T := [(q2, .inl (cI, (6, .inl (fun _ => nI 0)))), (q3, .inl (cI, (6, .inl (fun _ => nI 0))))]) hx hb hml hown hts hK hA (by decide) rfl ⟨Nat.le_of_ble_eq_true rfl, Nat.le_of_ble_eq_true rfl, Nat.le_of_ble_eq_true rfl, Nat.le_of_ble_eq_true rfl⟩ (fun F H locs ls hP hD hS => ?_) 7 0 (fun _ _ => 0) H locs ls (by omega) hP hD hS (lv_sub hl [1, 2, 0] rfl)
  have hP9 := k_Ps (X := [(h0, .inr (1, [.ref sl, .ref q2, .ref q3, .int (nI 0), .int (nI 0)])), (sl, k_ar cQ 7 F 7)]) (Y := [(q2, .inl (cI, (6, .inl (fun _ => nI 0)))), (q3, .inl (cI, (6, .inl (fun _ => nI 0))))]) (Z := k_qs cI bd F 7) hP
  have hD9 := k_Ds (X := [(h0, .inr (1, [.ref sl, .ref q2, .ref q3, .int (nI 0), .int (nI 0)])), (sl, k_ar cQ 7 F 7)]) (Y := [(q2, .inl (cI, (6, .inl (fun _ => nI 0)))), (q3, .inl (cI, (6, .inl (fun _ => nI 0))))]) (Z := k_qs cI bd F 7) hD
  refine W.widen (k := 52) (n := 649) (by decide) (by decide) ?_
  exact W.vret hx hb hr (fun t ht hW => ⟨⟨((fun j => if j = 1 then sl else if j = 2 then q2 else q3), F), rfl, trivial, by rw [ht]; exact hP9, va_K.moved hW.alike hK, by rw [hAe]; exact hD9⟩, by rw [hAe]; exact hS.F ht⟩) hS.2.2 d_X1_init_60
