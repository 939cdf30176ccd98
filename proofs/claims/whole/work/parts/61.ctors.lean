/-! CONSTRUCTORS that make rows alone -/
theorem kc_1_21 : Cond.instanceMethod Lib.objectInit ∈ q_tw := q_w1 (i := 21) rfl rfl
theorem kc_1_22 : Cond.code Lib.objectInit ⟨#[0xb1]⟩ 1 none ∈ q_tw := q_w1 (i := 22) rfl rfl
theorem kc_1_28 : Cond.methodLink RX5 3 Lib.objectInit ∈ q_tw := q_w1 (i := 28) rfl rfl
theorem kc_1_29 : Cond.fieldLink RX5 9 RX5 "letters" "[I" ∈ q_tw := q_w1 (i := 29) rfl rfl
theorem kc_1_30 : Cond.fieldLink RX5 15 RX5 "numbers" "[I" ∈ q_tw := q_w1 (i := 30) rfl rfl
theorem kc_1_43 : Cond.arrayClass .int ∈ q_tw := q_w1 (i := 43) rfl rfl
theorem kc_1_49 : Cond.methodLink RX0 3 Lib.objectInit ∈ q_tw := q_w1 (i := 49) rfl rfl
theorem kc_1_63 : Cond.fieldLink RX0 9 RX0 "blockKinds" "[I" ∈ q_tw := q_w1 (i := 63) rfl rfl
theorem kc_1_66 : Cond.fieldLink RX0 15 RX0 "needs" "[I" ∈ q_tw := q_w1 (i := 66) rfl rfl
theorem kc_1_69 : Cond.fieldLink RX0 18 RX0 "wordWorths" "[I" ∈ q_tw := q_w1 (i := 69) rfl rfl
theorem kc_1_71 : Cond.fieldLink RX0 21 RX0 "speakerKinds" "[I" ∈ q_tw := q_w1 (i := 71) rfl rfl
theorem kc_1_73 : Cond.fieldLink RX0 24 RX0 "dayHours" "[I" ∈ q_tw := q_w1 (i := 73) rfl rfl
theorem kc_1_76 : Cond.fieldLink RX0 27 RX0 "firstVows" "[I" ∈ q_tw := q_w1 (i := 76) rfl rfl
theorem kc_1_78 : Cond.fieldLink RX0 30 RX0 "plainWorths" "[I" ∈ q_tw := q_w1 (i := 78) rfl rfl
theorem kc_1_80 : Cond.fieldLink RX0 33 RX0 "freshWorths" "[I" ∈ q_tw := q_w1 (i := 80) rfl rfl
theorem kc_1_112 : Cond.methodLink RX3 3 Lib.objectInit ∈ q_tw := q_w1 (i := 112) rfl rfl
theorem kc_1_113 : Cond.fieldLink RX3 30 RX3 "bed" "LStoneApologies$Bed;" ∈ q_tw := q_w1 (i := 113) rfl rfl
theorem kc_1_119 : Cond.fieldLink RX3 9 RX3 "softness" "[I" ∈ q_tw := q_w1 (i := 119) rfl rfl
theorem kc_1_122 : Cond.fieldLink RX3 15 RX3 "places" "[I" ∈ q_tw := q_w1 (i := 122) rfl rfl
theorem kc_1_124 : Cond.fieldLink RX3 18 RX3 "takenFor" "[I" ∈ q_tw := q_w1 (i := 124) rfl rfl
theorem kc_1_126 : Cond.fieldLink RX3 21 RX3 "hours" "[I" ∈ q_tw := q_w1 (i := 126) rfl rfl
theorem kc_1_129 : Cond.fieldLink RX3 24 RX3 "hearings" "[I" ∈ q_tw := q_w1 (i := 129) rfl rfl
theorem kc_1_130 : Cond.fieldLink RX3 27 RX3 "vows" "[I" ∈ q_tw := q_w1 (i := 130) rfl rfl
theorem kc_1_173 : Cond.methodLink RX4 3 Lib.objectInit ∈ q_tw := q_w1 (i := 173) rfl rfl
theorem kc_1_174 : Cond.fieldLink RX4 15 RX4 "trial" "LStoneApologies$Quarry;" ∈ q_tw := q_w1 (i := 174) rfl rfl
theorem kc_1_175 : Cond.fieldLink RX4 9 RX4 "row" "[I" ∈ q_tw := q_w1 (i := 175) rfl rfl
theorem d_X5_init_0 : decode cX5_init 0 = .ok (.aload_n 0, 1) := by decide +kernel
theorem d_X5_init_1 : decode cX5_init 1 = .ok (.invokespecial 3, 3) := by decide +kernel
theorem d_X5_init_4 : decode cX5_init 4 = .ok (.aload_n 0, 1) := by decide +kernel
theorem d_X5_init_5 : decode cX5_init 5 = .ok (.sipush 200, 3) := by decide +kernel
theorem d_X5_init_8 : decode cX5_init 8 = .ok (.newarray .int, 2) := by decide +kernel
theorem d_X5_init_10 : decode cX5_init 10 = .ok (.putfield 9, 3) := by decide +kernel
theorem d_X5_init_13 : decode cX5_init 13 = .ok (.aload_n 0, 1) := by decide +kernel
theorem d_X5_init_14 : decode cX5_init 14 = .ok (.iconst 3, 1) := by decide +kernel
theorem d_X5_init_15 : decode cX5_init 15 = .ok (.newarray .int, 2) := by decide +kernel
theorem d_X5_init_17 : decode cX5_init 17 = .ok (.putfield 15, 3) := by decide +kernel
theorem d_X5_init_20 : decode cX5_init 20 = .ok (.return_, 1) := by decide +kernel
theorem d_X0_init_0 : decode cX0_init 0 = .ok (.aload_n 0, 1) := by decide +kernel
theorem d_X0_init_1 : decode cX0_init 1 = .ok (.invokespecial 3, 3) := by decide +kernel
theorem d_X0_init_4 : decode cX0_init 4 = .ok (.aload_n 0, 1) := by decide +kernel
theorem d_X0_init_5 : decode cX0_init 5 = .ok (.bipush 6, 2) := by decide +kernel
theorem d_X0_init_7 : decode cX0_init 7 = .ok (.newarray .int, 2) := by decide +kernel
theorem d_X0_init_9 : decode cX0_init 9 = .ok (.putfield 9, 3) := by decide +kernel
theorem d_X0_init_12 : decode cX0_init 12 = .ok (.aload_n 0, 1) := by decide +kernel
theorem d_X0_init_13 : decode cX0_init 13 = .ok (.bipush 6, 2) := by decide +kernel
theorem d_X0_init_15 : decode cX0_init 15 = .ok (.newarray .int, 2) := by decide +kernel
theorem d_X0_init_17 : decode cX0_init 17 = .ok (.putfield 15, 3) := by decide +kernel
theorem d_X0_init_20 : decode cX0_init 20 = .ok (.aload_n 0, 1) := by decide +kernel
theorem d_X0_init_21 : decode cX0_init 21 = .ok (.bipush 6, 2) := by decide +kernel
theorem d_X0_init_23 : decode cX0_init 23 = .ok (.newarray .int, 2) := by decide +kernel
theorem d_X0_init_25 : decode cX0_init 25 = .ok (.putfield 18, 3) := by decide +kernel
theorem d_X0_init_28 : decode cX0_init 28 = .ok (.aload_n 0, 1) := by decide +kernel
theorem d_X0_init_29 : decode cX0_init 29 = .ok (.iconst 4, 1) := by decide +kernel
theorem d_X0_init_30 : decode cX0_init 30 = .ok (.newarray .int, 2) := by decide +kernel
theorem d_X0_init_32 : decode cX0_init 32 = .ok (.putfield 21, 3) := by decide +kernel
theorem d_X0_init_35 : decode cX0_init 35 = .ok (.aload_n 0, 1) := by decide +kernel
theorem d_X0_init_36 : decode cX0_init 36 = .ok (.iconst 4, 1) := by decide +kernel
theorem d_X0_init_37 : decode cX0_init 37 = .ok (.newarray .int, 2) := by decide +kernel
theorem d_X0_init_39 : decode cX0_init 39 = .ok (.putfield 24, 3) := by decide +kernel
theorem d_X0_init_42 : decode cX0_init 42 = .ok (.aload_n 0, 1) := by decide +kernel
theorem d_X0_init_43 : decode cX0_init 43 = .ok (.bipush 24, 2) := by decide +kernel
theorem d_X0_init_45 : decode cX0_init 45 = .ok (.newarray .int, 2) := by decide +kernel
theorem d_X0_init_47 : decode cX0_init 47 = .ok (.putfield 27, 3) := by decide +kernel
theorem d_X0_init_50 : decode cX0_init 50 = .ok (.aload_n 0, 1) := by decide +kernel
theorem d_X0_init_51 : decode cX0_init 51 = .ok (.bipush 36, 2) := by decide +kernel
theorem d_X0_init_53 : decode cX0_init 53 = .ok (.newarray .int, 2) := by decide +kernel
theorem d_X0_init_55 : decode cX0_init 55 = .ok (.putfield 30, 3) := by decide +kernel
theorem d_X0_init_58 : decode cX0_init 58 = .ok (.aload_n 0, 1) := by decide +kernel
theorem d_X0_init_59 : decode cX0_init 59 = .ok (.sipush 144, 3) := by decide +kernel
theorem d_X0_init_62 : decode cX0_init 62 = .ok (.newarray .int, 2) := by decide +kernel
theorem d_X0_init_64 : decode cX0_init 64 = .ok (.putfield 33, 3) := by decide +kernel
theorem d_X0_init_67 : decode cX0_init 67 = .ok (.return_, 1) := by decide +kernel
theorem d_X3_init_0 : decode cX3_init 0 = .ok (.aload_n 0, 1) := by decide +kernel
theorem d_X3_init_1 : decode cX3_init 1 = .ok (.invokespecial 3, 3) := by decide +kernel
theorem d_X3_init_4 : decode cX3_init 4 = .ok (.aload_n 0, 1) := by decide +kernel
theorem d_X3_init_5 : decode cX3_init 5 = .ok (.bipush 6, 2) := by decide +kernel
theorem d_X3_init_7 : decode cX3_init 7 = .ok (.newarray .int, 2) := by decide +kernel
theorem d_X3_init_9 : decode cX3_init 9 = .ok (.putfield 9, 3) := by decide +kernel
theorem d_X3_init_12 : decode cX3_init 12 = .ok (.aload_n 0, 1) := by decide +kernel
theorem d_X3_init_13 : decode cX3_init 13 = .ok (.bipush 6, 2) := by decide +kernel
theorem d_X3_init_15 : decode cX3_init 15 = .ok (.newarray .int, 2) := by decide +kernel
theorem d_X3_init_17 : decode cX3_init 17 = .ok (.putfield 15, 3) := by decide +kernel
theorem d_X3_init_20 : decode cX3_init 20 = .ok (.aload_n 0, 1) := by decide +kernel
theorem d_X3_init_21 : decode cX3_init 21 = .ok (.bipush 6, 2) := by decide +kernel
theorem d_X3_init_23 : decode cX3_init 23 = .ok (.newarray .int, 2) := by decide +kernel
theorem d_X3_init_25 : decode cX3_init 25 = .ok (.putfield 18, 3) := by decide +kernel
theorem d_X3_init_28 : decode cX3_init 28 = .ok (.aload_n 0, 1) := by decide +kernel
theorem d_X3_init_29 : decode cX3_init 29 = .ok (.iconst 4, 1) := by decide +kernel
theorem d_X3_init_30 : decode cX3_init 30 = .ok (.newarray .int, 2) := by decide +kernel
theorem d_X3_init_32 : decode cX3_init 32 = .ok (.putfield 21, 3) := by decide +kernel
theorem d_X3_init_35 : decode cX3_init 35 = .ok (.aload_n 0, 1) := by decide +kernel
theorem d_X3_init_36 : decode cX3_init 36 = .ok (.bipush 36, 2) := by decide +kernel
theorem d_X3_init_38 : decode cX3_init 38 = .ok (.newarray .int, 2) := by decide +kernel
theorem d_X3_init_40 : decode cX3_init 40 = .ok (.putfield 24, 3) := by decide +kernel
theorem d_X3_init_43 : decode cX3_init 43 = .ok (.aload_n 0, 1) := by decide +kernel
theorem d_X3_init_44 : decode cX3_init 44 = .ok (.bipush 24, 2) := by decide +kernel
theorem d_X3_init_46 : decode cX3_init 46 = .ok (.newarray .int, 2) := by decide +kernel
theorem d_X3_init_48 : decode cX3_init 48 = .ok (.putfield 27, 3) := by decide +kernel
theorem d_X3_init_51 : decode cX3_init 51 = .ok (.aload_n 0, 1) := by decide +kernel
theorem d_X3_init_52 : decode cX3_init 52 = .ok (.aload_n 1, 1) := by decide +kernel
theorem d_X3_init_53 : decode cX3_init 53 = .ok (.putfield 30, 3) := by decide +kernel
theorem d_X3_init_56 : decode cX3_init 56 = .ok (.return_, 1) := by decide +kernel
theorem d_X4_init_0 : decode cX4_init 0 = .ok (.aload_n 0, 1) := by decide +kernel
theorem d_X4_init_1 : decode cX4_init 1 = .ok (.invokespecial 3, 3) := by decide +kernel
theorem d_X4_init_4 : decode cX4_init 4 = .ok (.aload_n 0, 1) := by decide +kernel
theorem d_X4_init_5 : decode cX4_init 5 = .ok (.iconst 4, 1) := by decide +kernel
theorem d_X4_init_6 : decode cX4_init 6 = .ok (.newarray .int, 2) := by decide +kernel
theorem d_X4_init_8 : decode cX4_init 8 = .ok (.putfield 9, 3) := by decide +kernel
theorem d_X4_init_11 : decode cX4_init 11 = .ok (.aload_n 0, 1) := by decide +kernel
theorem d_X4_init_12 : decode cX4_init 12 = .ok (.aload_n 1, 1) := by decide +kernel
theorem d_X4_init_13 : decode cX4_init 13 = .ok (.putfield 15, 3) := by decide +kernel
theorem d_X4_init_16 : decode cX4_init 16 = .ok (.return_, 1) := by decide +kernel
set_option maxHeartbeats 4000000 in
set_option maxRecDepth 100000 in
theorem c_Text (l : Launch) (D : va_G) (cI cQ : ClassId) (h0 sz : Nat) : Met l yX5_init (k_ws yX5_init cX5_init 1 none) ({ frames := 4, cells := 2, slots := 203, locals := 200 }) (k_Pc D (k_tys cI cQ) (fun _ => True) [.ref h0] [(h0, .inr (5, [.null, .null, .int (nI 0), .int (nI 0)]))] sz) (k_Qc D (k_tys cI cQ) [(h0, .inr (5, [.null, .null, .int (nI 0), .int (nI 0)]))] sz (fun u : Nat → Nat => [(h0, .inr (5, [.ref (u 1), .ref (u 2), .int (nI 0), .int (nI 0)])), (u 1, .inl (cI, (200, .inl (fun _ => nI 0)))), (u 2, .inl (cI, (3, .inl (fun _ => nI 0))))])) (2) (203) (va_A [(h0, .inr (5, [.null, .null, .int (nI 0), .int (nI 0)]))] sz) := by
  refine Met.ofW (cc := cX5_init) (maxL := 1) (ret := none) (by decide) rfl ?_
  intro p e s m args below meth c s₁ B hml hv
  obtain ⟨rfl, hsz, hP, hK, hD0, hE⟩ := hv
  have hx := B.exec
  have hb := B.bytes
  have hr := B.returns
  have hts0 := atoms_spec (ws := k_ws yX5_init cX5_init 1 none) B.pre
  have hts : ∀ w ∈ q_tw, w.before _ s = true := fun w h => hts0 w (List.mem_cons_of_mem _ h)
  have hown : s.vm.findClass RX5 = some m.cls := findClass_of_methodNamed B.named
  have hin : meth.name = "<init>" := (name_of_methodNamed B.named B.method).1
  subst hsz
  have hD := hD0.self (sz := s.heap.size)
  generalize hAe : va_A [(h0, .inr (5, [.null, .null, .int (nI 0), .int (nI 0)]))] s.heap.size = A at hD ⊢
  have hA : ∀ q : Nat, s.heap.size ≤ q → A q := fun q h => by rw [← hAe]; exact Or.inr h
  have hS : va_S A s.heap s.heap [] := va_S.rf
  have hl := lv_entry ([.ref h0]) (n := 1) (Nat.le_of_ble_eq_true rfl)
  rw [lg_entry_eq]
  generalize (lg_sl ([.ref h0]) ++ List.replicate (1 - (lg_sl ([.ref h0])).length) Slot.unset).toArray = ls at hl ⊢
  have hl : lv_has ls 1 [(0, .ref h0)] := hl
  refine lv_aload_n hx hb d_X5_init_0 rfl (lv_at hl 0 rfl) ?_
  refine W.objInit hx hb hown (hts _ kc_1_28) (hts _ kc_1_21) (hts _ kc_1_22) rfl (by rw [hml]; exact hl.1) rfl d_X5_init_1 (Nat.le_of_ble_eq_true rfl) (Nat.le_of_ble_eq_true rfl) ?_
  refine W.eq (g2 := F0 m 4 ls []) rfl ?_
  refine lv_aload_n hx hb d_X5_init_4 rfl (lv_at hl 0 rfl) ?_
  refine lv_sipush (v := nI 200) hx hb d_X5_init_5 (by decide) ?_
  refine k_newI (cI := cI) (cQ := cQ) (N' := 200) hx hb (hts _ kc_1_43) hK hP hD hS hA (by decide) (by decide) (by decide) (Nat.le_of_ble_eq_true rfl) (Nat.le_of_ble_eq_true rfl) d_X5_init_8 (fun q1 H hP hD hS => ?_)
  refine W.widen (k := 1) (n := 200) (Nat.le_refl _) (Nat.le_refl _) ?_
  have hP : va_P D vwCl [(h0, .inr (5, [.null, .null, .int (nI 0), .int (nI 0)])), (q1, .inl (cI, (200, .inl (fun _ => nI 0))))] H := hP
  have hD : va_D A [(h0, .inr (5, [.null, .null, .int (nI 0), .int (nI 0)])), (q1, .inl (cI, (200, .inl (fun _ => nI 0))))] := hD
  refine va_putF (D := D) (ci := 5) (v := .ref q1) (ty := (.array .int)) (C := RX5) (T := TX5) (N := 4) hx hb hts in_X5 tyX5 tyX5_ok nmX5 hown hK hP hD hS 0 rfl rfl 0 (by decide) (hts _ kc_1_29) (fun _ h9 => h9) rfl hin rfl (by decide +kernel) rfl rfl (Nat.le_of_ble_eq_true rfl) d_X5_init_10 (fun H locs hP hD hS => ?_)
  have hP : va_P D vwCl [(h0, .inr (5, [.ref q1, .null, .int (nI 0), .int (nI 0)])), (q1, .inl (cI, (200, .inl (fun _ => nI 0))))] H := hP
  have hD : va_D A [(h0, .inr (5, [.ref q1, .null, .int (nI 0), .int (nI 0)])), (q1, .inl (cI, (200, .inl (fun _ => nI 0))))] := hD
  refine lv_aload_n hx hb d_X5_init_13 rfl (lv_at hl 0 rfl) ?_
  refine lv_iconst (v := nI 3) hx hb d_X5_init_14 (by decide) ?_
  refine k_newI (cI := cI) (cQ := cQ) (N' := 3) hx hb (hts _ kc_1_43) hK hP hD hS hA (by decide) (by decide) (by decide) (Nat.le_of_ble_eq_true rfl) (Nat.le_of_ble_eq_true rfl) d_X5_init_15 (fun q2 H hP hD hS => ?_)
  refine W.widen (k := 2) (n := 203) (Nat.le_refl _) (Nat.le_refl _) ?_
  have hP : va_P D vwCl [(h0, .inr (5, [.ref q1, .null, .int (nI 0), .int (nI 0)])), (q1, .inl (cI, (200, .inl (fun _ => nI 0)))), (q2, .inl (cI, (3, .inl (fun _ => nI 0))))] H := hP
  have hD : va_D A [(h0, .inr (5, [.ref q1, .null, .int (nI 0), .int (nI 0)])), (q1, .inl (cI, (200, .inl (fun _ => nI 0)))), (q2, .inl (cI, (3, .inl (fun _ => nI 0))))] := hD
  refine va_putF (D := D) (ci := 5) (v := .ref q2) (ty := (.array .int)) (C := RX5) (T := TX5) (N := 4) hx hb hts in_X5 tyX5 tyX5_ok nmX5 hown hK hP hD hS 0 rfl rfl 1 (by decide) (hts _ kc_1_30) (fun _ h9 => h9) rfl hin rfl (by decide +kernel) rfl rfl (Nat.le_of_ble_eq_true rfl) d_X5_init_17 (fun H locs hP hD hS => ?_)
  have hP : va_P D vwCl [(h0, .inr (5, [.ref q1, .ref q2, .int (nI 0), .int (nI 0)])), (q1, .inl (cI, (200, .inl (fun _ => nI 0)))), (q2, .inl (cI, (3, .inl (fun _ => nI 0))))] H := hP
  have hD : va_D A [(h0, .inr (5, [.ref q1, .ref q2, .int (nI 0), .int (nI 0)])), (q1, .inl (cI, (200, .inl (fun _ => nI 0)))), (q2, .inl (cI, (3, .inl (fun _ => nI 0))))] := hD
  exact W.vret hx hb hr (fun t ht hW => ⟨⟨(fun j => if j = 1 then q1 else if j = 2 then q2 else 0), rfl, trivial, by rw [ht]; exact hP, va_K.moved hW.alike hK, by rw [hAe]; exact hD⟩, by rw [hAe]; exact hS.F ht⟩) hS.2.2 d_X5_init_20
set_option maxHeartbeats 4000000 in
set_option maxRecDepth 100000 in
theorem c_Bed (l : Launch) (D : va_G) (cI cQ : ClassId) (h0 sz : Nat) : Met l yX0_init (k_ws yX0_init cX0_init 1 none) ({ frames := 4, cells := 8, slots := 230, locals := 200 }) (k_Pc D (k_tys cI cQ) (fun _ => True) [.ref h0] [(h0, .inr (0, [.int (nI 0), .int (nI 0), .int (nI 0), .int (nI 0), .null, .null, .null, .null, .null, .null, .null, .null]))] sz) (k_Qc D (k_tys cI cQ) [(h0, .inr (0, [.int (nI 0), .int (nI 0), .int (nI 0), .int (nI 0), .null, .null, .null, .null, .null, .null, .null, .null]))] sz (fun u : Nat → Nat => [(h0, .inr (0, [.int (nI 0), .int (nI 0), .int (nI 0), .int (nI 0), .ref (u 1), .ref (u 2), .ref (u 3), .ref (u 4), .ref (u 5), .ref (u 6), .ref (u 7), .ref (u 8)])), (u 1, .inl (cI, (6, .inl (fun _ => nI 0)))), (u 2, .inl (cI, (6, .inl (fun _ => nI 0)))), (u 3, .inl (cI, (6, .inl (fun _ => nI 0)))), (u 4, .inl (cI, (4, .inl (fun _ => nI 0)))), (u 5, .inl (cI, (4, .inl (fun _ => nI 0)))), (u 6, .inl (cI, (24, .inl (fun _ => nI 0)))), (u 7, .inl (cI, (36, .inl (fun _ => nI 0)))), (u 8, .inl (cI, (144, .inl (fun _ => nI 0))))])) (8) (230) (va_A [(h0, .inr (0, [.int (nI 0), .int (nI 0), .int (nI 0), .int (nI 0), .null, .null, .null, .null, .null, .null, .null, .null]))] sz) := by
  refine Met.ofW (cc := cX0_init) (maxL := 1) (ret := none) (by decide) rfl ?_
  intro p e s m args below meth c s₁ B hml hv
  obtain ⟨rfl, hsz, hP, hK, hD0, hE⟩ := hv
  have hx := B.exec
  have hb := B.bytes
  have hr := B.returns
  have hts0 := atoms_spec (ws := k_ws yX0_init cX0_init 1 none) B.pre
  have hts : ∀ w ∈ q_tw, w.before _ s = true := fun w h => hts0 w (List.mem_cons_of_mem _ h)
  have hown : s.vm.findClass RX0 = some m.cls := findClass_of_methodNamed B.named
  have hin : meth.name = "<init>" := (name_of_methodNamed B.named B.method).1
  subst hsz
  have hD := hD0.self (sz := s.heap.size)
  generalize hAe : va_A [(h0, .inr (0, [.int (nI 0), .int (nI 0), .int (nI 0), .int (nI 0), .null, .null, .null, .null, .null, .null, .null, .null]))] s.heap.size = A at hD ⊢
  have hA : ∀ q : Nat, s.heap.size ≤ q → A q := fun q h => by rw [← hAe]; exact Or.inr h
  have hS : va_S A s.heap s.heap [] := va_S.rf
  have hl := lv_entry ([.ref h0]) (n := 1) (Nat.le_of_ble_eq_true rfl)
  rw [lg_entry_eq]
  generalize (lg_sl ([.ref h0]) ++ List.replicate (1 - (lg_sl ([.ref h0])).length) Slot.unset).toArray = ls at hl ⊢
  have hl : lv_has ls 1 [(0, .ref h0)] := hl
  refine lv_aload_n hx hb d_X0_init_0 rfl (lv_at hl 0 rfl) ?_
  refine W.objInit hx hb hown (hts _ kc_1_49) (hts _ kc_1_21) (hts _ kc_1_22) rfl (by rw [hml]; exact hl.1) rfl d_X0_init_1 (Nat.le_of_ble_eq_true rfl) (Nat.le_of_ble_eq_true rfl) ?_
  refine W.eq (g2 := F0 m 4 ls []) rfl ?_
  refine lv_aload_n hx hb d_X0_init_4 rfl (lv_at hl 0 rfl) ?_
  refine lv_bipush (v := nI 6) hx hb d_X0_init_5 (by decide) ?_
  refine k_newI (cI := cI) (cQ := cQ) (N' := 6) hx hb (hts _ kc_1_43) hK hP hD hS hA (by decide) (by decide) (by decide) (Nat.le_of_ble_eq_true rfl) (Nat.le_of_ble_eq_true rfl) d_X0_init_7 (fun q1 H hP hD hS => ?_)
  refine W.widen (k := 1) (n := 6) (Nat.le_refl _) (Nat.le_refl _) ?_
  have hP : va_P D vwCl [(h0, .inr (0, [.int (nI 0), .int (nI 0), .int (nI 0), .int (nI 0), .null, .null, .null, .null, .null, .null, .null, .null])), (q1, .inl (cI, (6, .inl (fun _ => nI 0))))] H := hP
  have hD : va_D A [(h0, .inr (0, [.int (nI 0), .int (nI 0), .int (nI 0), .int (nI 0), .null, .null, .null, .null, .null, .null, .null, .null])), (q1, .inl (cI, (6, .inl (fun _ => nI 0))))] := hD
  refine va_putF (D := D) (ci := 0) (v := .ref q1) (ty := (.array .int)) (C := RX0) (T := TX0) (N := 12) hx hb hts in_X0 tyX0 tyX0_ok nmX0 hown hK hP hD hS 0 rfl rfl 4 (by decide) (hts _ kc_1_63) (fun _ h9 => h9) rfl hin rfl (by decide +kernel) rfl rfl (Nat.le_of_ble_eq_true rfl) d_X0_init_9 (fun H locs hP hD hS => ?_)
  have hP : va_P D vwCl [(h0, .inr (0, [.int (nI 0), .int (nI 0), .int (nI 0), .int (nI 0), .ref q1, .null, .null, .null, .null, .null, .null, .null])), (q1, .inl (cI, (6, .inl (fun _ => nI 0))))] H := hP
  have hD : va_D A [(h0, .inr (0, [.int (nI 0), .int (nI 0), .int (nI 0), .int (nI 0), .ref q1, .null, .null, .null, .null, .null, .null, .null])), (q1, .inl (cI, (6, .inl (fun _ => nI 0))))] := hD
  refine lv_aload_n hx hb d_X0_init_12 rfl (lv_at hl 0 rfl) ?_
  refine lv_bipush (v := nI 6) hx hb d_X0_init_13 (by decide) ?_
  refine k_newI (cI := cI) (cQ := cQ) (N' := 6) hx hb (hts _ kc_1_43) hK hP hD hS hA (by decide) (by decide) (by decide) (Nat.le_of_ble_eq_true rfl) (Nat.le_of_ble_eq_true rfl) d_X0_init_15 (fun q2 H hP hD hS => ?_)
  refine W.widen (k := 2) (n := 12) (Nat.le_refl _) (Nat.le_refl _) ?_
  have hP : va_P D vwCl [(h0, .inr (0, [.int (nI 0), .int (nI 0), .int (nI 0), .int (nI 0), .ref q1, .null, .null, .null, .null, .null, .null, .null])), (q1, .inl (cI, (6, .inl (fun _ => nI 0)))), (q2, .inl (cI, (6, .inl (fun _ => nI 0))))] H := hP
  have hD : va_D A [(h0, .inr (0, [.int (nI 0), .int (nI 0), .int (nI 0), .int (nI 0), .ref q1, .null, .null, .null, .null, .null, .null, .null])), (q1, .inl (cI, (6, .inl (fun _ => nI 0)))), (q2, .inl (cI, (6, .inl (fun _ => nI 0))))] := hD
  refine va_putF (D := D) (ci := 0) (v := .ref q2) (ty := (.array .int)) (C := RX0) (T := TX0) (N := 12) hx hb hts in_X0 tyX0 tyX0_ok nmX0 hown hK hP hD hS 0 rfl rfl 5 (by decide) (hts _ kc_1_66) (fun _ h9 => h9) rfl hin rfl (by decide +kernel) rfl rfl (Nat.le_of_ble_eq_true rfl) d_X0_init_17 (fun H locs hP hD hS => ?_)
  have hP : va_P D vwCl [(h0, .inr (0, [.int (nI 0), .int (nI 0), .int (nI 0), .int (nI 0), .ref q1, .ref q2, .null, .null, .null, .null, .null, .null])), (q1, .inl (cI, (6, .inl (fun _ => nI 0)))), (q2, .inl (cI, (6, .inl (fun _ => nI 0))))] H := hP
  have hD : va_D A [(h0, .inr (0, [.int (nI 0), .int (nI 0), .int (nI 0), .int (nI 0), .ref q1, .ref q2, .null, .null, .null, .null, .null, .null])), (q1, .inl (cI, (6, .inl (fun _ => nI 0)))), (q2, .inl (cI, (6, .inl (fun _ => nI 0))))] := hD
  refine lv_aload_n hx hb d_X0_init_20 rfl (lv_at hl 0 rfl) ?_
  refine lv_bipush (v := nI 6) hx hb d_X0_init_21 (by decide) ?_
  refine k_newI (cI := cI) (cQ := cQ) (N' := 6) hx hb (hts _ kc_1_43) hK hP hD hS hA (by decide) (by decide) (by decide) (Nat.le_of_ble_eq_true rfl) (Nat.le_of_ble_eq_true rfl) d_X0_init_23 (fun q3 H hP hD hS => ?_)
  refine W.widen (k := 3) (n := 18) (Nat.le_refl _) (Nat.le_refl _) ?_
  have hP : va_P D vwCl [(h0, .inr (0, [.int (nI 0), .int (nI 0), .int (nI 0), .int (nI 0), .ref q1, .ref q2, .null, .null, .null, .null, .null, .null])), (q1, .inl (cI, (6, .inl (fun _ => nI 0)))), (q2, .inl (cI, (6, .inl (fun _ => nI 0)))), (q3, .inl (cI, (6, .inl (fun _ => nI 0))))] H := hP
  have hD : va_D A [(h0, .inr (0, [.int (nI 0), .int (nI 0), .int (nI 0), .int (nI 0), .ref q1, .ref q2, .null, .null, .null, .null, .null, .null])), (q1, .inl (cI, (6, .inl (fun _ => nI 0)))), (q2, .inl (cI, (6, .inl (fun _ => nI 0)))), (q3, .inl (cI, (6, .inl (fun _ => nI 0))))] := hD
  refine va_putF (D := D) (ci := 0) (v := .ref q3) (ty := (.array .int)) (C := RX0) (T := TX0) (N := 12) hx hb hts in_X0 tyX0 tyX0_ok nmX0 hown hK hP hD hS 0 rfl rfl 6 (by decide) (hts _ kc_1_69) (fun _ h9 => h9) rfl hin rfl (by decide +kernel) rfl rfl (Nat.le_of_ble_eq_true rfl) d_X0_init_25 (fun H locs hP hD hS => ?_)
  have hP : va_P D vwCl [(h0, .inr (0, [.int (nI 0), .int (nI 0), .int (nI 0), .int (nI 0), .ref q1, .ref q2, .ref q3, .null, .null, .null, .null, .null])), (q1, .inl (cI, (6, .inl (fun _ => nI 0)))), (q2, .inl (cI, (6, .inl (fun _ => nI 0)))), (q3, .inl (cI, (6, .inl (fun _ => nI 0))))] H := hP
  have hD : va_D A [(h0, .inr (0, [.int (nI 0), .int (nI 0), .int (nI 0), .int (nI 0), .ref q1, .ref q2, .ref q3, .null, .null, .null, .null, .null])), (q1, .inl (cI, (6, .inl (fun _ => nI 0)))), (q2, .inl (cI, (6, .inl (fun _ => nI 0)))), (q3, .inl (cI, (6, .inl (fun _ => nI 0))))] := hD
  refine lv_aload_n hx hb d_X0_init_28 rfl (lv_at hl 0 rfl) ?_
  refine lv_iconst (v := nI 4) hx hb d_X0_init_29 (by decide) ?_
  refine k_newI (cI := cI) (cQ := cQ) (N' := 4) hx hb (hts _ kc_1_43) hK hP hD hS hA (by decide) (by decide) (by decide) (Nat.le_of_ble_eq_true rfl) (Nat.le_of_ble_eq_true rfl) d_X0_init_30 (fun q4 H hP hD hS => ?_)
  refine W.widen (k := 4) (n := 22) (Nat.le_refl _) (Nat.le_refl _) ?_
  have hP : va_P D vwCl [(h0, .inr (0, [.int (nI 0), .int (nI 0), .int (nI 0), .int (nI 0), .ref q1, .ref q2, .ref q3, .null, .null, .null, .null, .null])), (q1, .inl (cI, (6, .inl (fun _ => nI 0)))), (q2, .inl (cI, (6, .inl (fun _ => nI 0)))), (q3, .inl (cI, (6, .inl (fun _ => nI 0)))), (q4, .inl (cI, (4, .inl (fun _ => nI 0))))] H := hP
  have hD : va_D A [(h0, .inr (0, [.int (nI 0), .int (nI 0), .int (nI 0), .int (nI 0), .ref q1, .ref q2, .ref q3, .null, .null, .null, .null, .null])), (q1, .inl (cI, (6, .inl (fun _ => nI 0)))), (q2, .inl (cI, (6, .inl (fun _ => nI 0)))), (q3, .inl (cI, (6, .inl (fun _ => nI 0)))), (q4, .inl (cI, (4, .inl (fun _ => nI 0))))] := hD
  refine va_putF (D := D) (ci := 0) (v := .ref q4) (ty := (.array .int)) (C := RX0) (T := TX0) (N := 12) hx hb hts in_X0 tyX0 tyX0_ok nmX0 hown hK hP hD hS 0 rfl rfl 7 (by decide) (hts _ kc_1_71) (fun _ h9 => h9) rfl hin rfl (by decide +kernel) rfl rfl (Nat.le_of_ble_eq_true rfl) d_X0_init_32 (fun H locs hP hD hS => ?_)
  have hP : va_P D vwCl [(h0, .inr (0, [.int (nI 0), .int (nI 0), .int (nI 0), .int (nI 0), .ref q1, .ref q2, .ref q3, .ref q4, .null, .null, .null, .null])), (q1, .inl (cI, (6, .inl (fun _ => nI 0)))), (q2, .inl (cI, (6, .inl (fun _ => nI 0)))), (q3, .inl (cI, (6, .inl (fun _ => nI 0)))), (q4, .inl (cI, (4, .inl (fun _ => nI 0))))] H := hP
  have hD : va_D A [(h0, .inr (0, [.int (nI 0), .int (nI 0), .int (nI 0), .int (nI 0), .ref q1, .ref q2, .ref q3, .ref q4, .null, .null, .null, .null])), (q1, .inl (cI, (6, .inl (fun _ => nI 0)))), (q2, .inl (cI, (6, .inl (fun _ => nI 0)))), (q3, .inl (cI, (6, .inl (fun _ => nI 0)))), (q4, .inl (cI, (4, .inl (fun _ => nI 0))))] := hD
  refine lv_aload_n hx hb d_X0_init_35 rfl (lv_at hl 0 rfl) ?_
  refine lv_iconst (v := nI 4) hx hb d_X0_init_36 (by decide) ?_
  refine k_newI (cI := cI) (cQ := cQ) (N' := 4) hx hb (hts _ kc_1_43) hK hP hD hS hA (by decide) (by decide) (by decide) (Nat.le_of_ble_eq_true rfl) (Nat.le_of_ble_eq_true rfl) d_X0_init_37 (fun q5 H hP hD hS => ?_)
  refine W.widen (k := 5) (n := 26) (Nat.le_refl _) (Nat.le_refl _) ?_
  have hP : va_P D vwCl [(h0, .inr (0, [.int (nI 0), .int (nI 0), .int (nI 0), .int (nI 0), .ref q1, .ref q2, .ref q3, .ref q4, .null, .null, .null, .null])), (q1, .inl (cI, (6, .inl (fun _ => nI 0)))), (q2, .inl (cI, (6, .inl (fun _ => nI 0)))), (q3, .inl (cI, (6, .inl (fun _ => nI 0)))), (q4, .inl (cI, (4, .inl (fun _ => nI 0)))), (q5, .inl (cI, (4, .inl (fun _ => nI 0))))] H := hP
  have hD : va_D A [(h0, .inr (0, [.int (nI 0), .int (nI 0), .int (nI 0), .int (nI 0), .ref q1, .ref q2, .ref q3, .ref q4, .null, .null, .null, .null])), (q1, .inl (cI, (6, .inl (fun _ => nI 0)))), (q2, .inl (cI, (6, .inl (fun _ => nI 0)))), (q3, .inl (cI, (6, .inl (fun _ => nI 0)))), (q4, .inl (cI, (4, .inl (fun _ => nI 0)))), (q5, .inl (cI, (4, .inl (fun _ => nI 0))))] := hD
  refine va_putF (D := D) (ci := 0) (v := .ref q5) (ty := (.array .int)) (C := RX0) (T := TX0) (N := 12) hx hb hts in_X0 tyX0 tyX0_ok nmX0 hown hK hP hD hS 0 rfl rfl 8 (by decide) (hts _ kc_1_73) (fun _ h9 => h9) rfl hin rfl (by decide +kernel) rfl rfl (Nat.le_of_ble_eq_true rfl) d_X0_init_39 (fun H locs hP hD hS => ?_)
  have hP : va_P D vwCl [(h0, .inr (0, [.int (nI 0), .int (nI 0), .int (nI 0), .int (nI 0), .ref q1, .ref q2, .ref q3, .ref q4, .ref q5, .null, .null, .null])), (q1, .inl (cI, (6, .inl (fun _ => nI 0)))), (q2, .inl (cI, (6, .inl (fun _ => nI 0)))), (q3, .inl (cI, (6, .inl (fun _ => nI 0)))), (q4, .inl (cI, (4, .inl (fun _ => nI 0)))), (q5, .inl (cI, (4, .inl (fun _ => nI 0))))] H := hP
  have hD : va_D A [(h0, .inr (0, [.int (nI 0), .int (nI 0), .int (nI 0), .int (nI 0), .ref q1, .ref q2, .ref q3, .ref q4, .ref q5, .null, .null, .null])), (q1, .inl (cI, (6, .inl (fun _ => nI 0)))), (q2, .inl (cI, (6, .inl (fun _ => nI 0)))), (q3, .inl (cI, (6, .inl (fun _ => nI 0)))), (q4, .inl (cI, (4, .inl (fun _ => nI 0)))), (q5, .inl (cI, (4, .inl (fun _ => nI 0))))] := hD
  refine lv_aload_n hx hb d_X0_init_42 rfl (lv_at hl 0 rfl) ?_
  refine lv_bipush (v := nI 24) hx hb d_X0_init_43 (by decide) ?_
  refine k_newI (cI := cI) (cQ := cQ) (N' := 24) hx hb (hts _ kc_1_43) hK hP hD hS hA (by decide) (by decide) (by decide) (Nat.le_of_ble_eq_true rfl) (Nat.le_of_ble_eq_true rfl) d_X0_init_45 (fun q6 H hP hD hS => ?_)
  refine W.widen (k := 6) (n := 50) (Nat.le_refl _) (Nat.le_refl _) ?_
  have hP : va_P D vwCl [(h0, .inr (0, [.int (nI 0), .int (nI 0), .int (nI 0), .int (nI 0), .ref q1, .ref q2, .ref q3, .ref q4, .ref q5, .null, .null, .null])), (q1, .inl (cI, (6, .inl (fun _ => nI 0)))), (q2, .inl (cI, (6, .inl (fun _ => nI 0)))), (q3, .inl (cI, (6, .inl (fun _ => nI 0)))), (q4, .inl (cI, (4, .inl (fun _ => nI 0)))), (q5, .inl (cI, (4, .inl (fun _ => nI 0)))), (q6, .inl (cI, (24, .inl (fun _ => nI 0))))] H := hP
  have hD : va_D A [(h0, .inr (0, [.int (nI 0), .int (nI 0), .int (nI 0), .int (nI 0), .ref q1, .ref q2, .ref q3, .ref q4, .ref q5, .null, .null, .null])), (q1, .inl (cI, (6, .inl (fun _ => nI 0)))), (q2, .inl (cI, (6, .inl (fun _ => nI 0)))), (q3, .inl (cI, (6, .inl (fun _ => nI 0)))), (q4, .inl (cI, (4, .inl (fun _ => nI 0)))), (q5, .inl (cI, (4, .inl (fun _ => nI 0)))), (q6, .inl (cI, (24, .inl (fun _ => nI 0))))] := hD
  refine va_putF (D := D) (ci := 0) (v := .ref q6) (ty := (.array .int)) (C := RX0) (T := TX0) (N := 12) hx hb hts in_X0 tyX0 tyX0_ok nmX0 hown hK hP hD hS 0 rfl rfl 9 (by decide) (hts _ kc_1_76) (fun _ h9 => h9) rfl hin rfl (by decide +kernel) rfl rfl (Nat.le_of_ble_eq_true rfl) d_X0_init_47 (fun H locs hP hD hS => ?_)
  have hP : va_P D vwCl [(h0, .inr (0, [.int (nI 0), .int (nI 0), .int (nI 0), .int (nI 0), .ref q1, .ref q2, .ref q3, .ref q4, .ref q5, .ref q6, .null, .null])), (q1, .inl (cI, (6, .inl (fun _ => nI 0)))), (q2, .inl (cI, (6, .inl (fun _ => nI 0)))), (q3, .inl (cI, (6, .inl (fun _ => nI 0)))), (q4, .inl (cI, (4, .inl (fun _ => nI 0)))), (q5, .inl (cI, (4, .inl (fun _ => nI 0)))), (q6, .inl (cI, (24, .inl (fun _ => nI 0))))] H := hP
  have hD : va_D A [(h0, .inr (0, [.int (nI 0), .int (nI 0), .int (nI 0), .int (nI 0), .ref q1, .ref q2, .ref q3, .ref q4, .ref q5, .ref q6, .null, .null])), (q1, .inl (cI, (6, .inl (fun _ => nI 0)))), (q2, .inl (cI, (6, .inl (fun _ => nI 0)))), (q3, .inl (cI, (6, .inl (fun _ => nI 0)))), (q4, .inl (cI, (4, .inl (fun _ => nI 0)))), (q5, .inl (cI, (4, .inl (fun _ => nI 0)))), (q6, .inl (cI, (24, .inl (fun _ => nI 0))))] := hD
  refine lv_aload_n hx hb d_X0_init_50 rfl (lv_at hl 0 rfl) ?_
  refine lv_bipush (v := nI 36) hx hb d_X0_init_51 (by decide) ?_
  refine k_newI (cI := cI) (cQ := cQ) (N' := 36) hx hb (hts _ kc_1_43) hK hP hD hS hA (by decide) (by decide) (by decide) (Nat.le_of_ble_eq_true rfl) (Nat.le_of_ble_eq_true rfl) d_X0_init_53 (fun q7 H hP hD hS => ?_)
  refine W.widen (k := 7) (n := 86) (Nat.le_refl _) (Nat.le_refl _) ?_
  have hP : va_P D vwCl [(h0, .inr (0, [.int (nI 0), .int (nI 0), .int (nI 0), .int (nI 0), .ref q1, .ref q2, .ref q3, .ref q4, .ref q5, .ref q6, .null, .null])), (q1, .inl (cI, (6, .inl (fun _ => nI 0)))), (q2, .inl (cI, (6, .inl (fun _ => nI 0)))), (q3, .inl (cI, (6, .inl (fun _ => nI 0)))), (q4, .inl (cI, (4, .inl (fun _ => nI 0)))), (q5, .inl (cI, (4, .inl (fun _ => nI 0)))), (q6, .inl (cI, (24, .inl (fun _ => nI 0)))), (q7, .inl (cI, (36, .inl (fun _ => nI 0))))] H := hP
  have hD : va_D A [(h0, .inr (0, [.int (nI 0), .int (nI 0), .int (nI 0), .int (nI 0), .ref q1, .ref q2, .ref q3, .ref q4, .ref q5, .ref q6, .null, .null])), (q1, .inl (cI, (6, .inl (fun _ => nI 0)))), (q2, .inl (cI, (6, .inl (fun _ => nI 0)))), (q3, .inl (cI, (6, .inl (fun _ => nI 0)))), (q4, .inl (cI, (4, .inl (fun _ => nI 0)))), (q5, .inl (cI, (4, .inl (fun _ => nI 0)))), (q6, .inl (cI, (24, .inl (fun _ => nI 0)))), (q7, .inl (cI, (36, .inl (fun _ => nI 0))))] := hD
  refine va_putF (D := D) (ci := 0) (v := .ref q7) (ty := (.array .int)) (C := RX0) (T := TX0) (N := 12) hx hb hts in_X0 tyX0 tyX0_ok nmX0 hown hK hP hD hS 0 rfl rfl 10 (by decide) (hts _ kc_1_78) (fun _ h9 => h9) rfl hin rfl (by decide +kernel) rfl rfl (Nat.le_of_ble_eq_true rfl) d_X0_init_55 (fun H locs hP hD hS => ?_)
  have hP : va_P D vwCl [(h0, .inr (0, [.int (nI 0), .int (nI 0), .int (nI 0), .int (nI 0), .ref q1, .ref q2, .ref q3, .ref q4, .ref q5, .ref q6, .ref q7, .null])), (q1, .inl (cI, (6, .inl (fun _ => nI 0)))), (q2, .inl (cI, (6, .inl (fun _ => nI 0)))), (q3, .inl (cI, (6, .inl (fun _ => nI 0)))), (q4, .inl (cI, (4, .inl (fun _ => nI 0)))), (q5, .inl (cI, (4, .inl (fun _ => nI 0)))), (q6, .inl (cI, (24, .inl (fun _ => nI 0)))), (q7, .inl (cI, (36, .inl (fun _ => nI 0))))] H := hP
  have hD : va_D A [(h0, .inr (0, [.int (nI 0), .int (nI 0), .int (nI 0), .int (nI 0), .ref q1, .ref q2, .ref q3, .ref q4, .ref q5, .ref q6, .ref q7, .null])), (q1, .inl (cI, (6, .inl (fun _ => nI 0)))), (q2, .inl (cI, (6, .inl (fun _ => nI 0)))), (q3, .inl (cI, (6, .inl (fun _ => nI 0)))), (q4, .inl (cI, (4, .inl (fun _ => nI 0)))), (q5, .inl (cI, (4, .inl (fun _ => nI 0)))), (q6, .inl (cI, (24, .inl (fun _ => nI 0)))), (q7, .inl (cI, (36, .inl (fun _ => nI 0))))] := hD
  refine lv_aload_n hx hb d_X0_init_58 rfl (lv_at hl 0 rfl) ?_
  refine lv_sipush (v := nI 144) hx hb d_X0_init_59 (by decide) ?_
  refine k_newI (cI := cI) (cQ := cQ) (N' := 144) hx hb (hts _ kc_1_43) hK hP hD hS hA (by decide) (by decide) (by decide) (Nat.le_of_ble_eq_true rfl) (Nat.le_of_ble_eq_true rfl) d_X0_init_62 (fun q8 H hP hD hS => ?_)
  refine W.widen (k := 8) (n := 230) (Nat.le_refl _) (Nat.le_refl _) ?_
  have hP : va_P D vwCl [(h0, .inr (0, [.int (nI 0), .int (nI 0), .int (nI 0), .int (nI 0), .ref q1, .ref q2, .ref q3, .ref q4, .ref q5, .ref q6, .ref q7, .null])), (q1, .inl (cI, (6, .inl (fun _ => nI 0)))), (q2, .inl (cI, (6, .inl (fun _ => nI 0)))), (q3, .inl (cI, (6, .inl (fun _ => nI 0)))), (q4, .inl (cI, (4, .inl (fun _ => nI 0)))), (q5, .inl (cI, (4, .inl (fun _ => nI 0)))), (q6, .inl (cI, (24, .inl (fun _ => nI 0)))), (q7, .inl (cI, (36, .inl (fun _ => nI 0)))), (q8, .inl (cI, (144, .inl (fun _ => nI 0))))] H := hP
  have hD : va_D A [(h0, .inr (0, [.int (nI 0), .int (nI 0), .int (nI 0), .int (nI 0), .ref q1, .ref q2, .ref q3, .ref q4, .ref q5, .ref q6, .ref q7, .null])), (q1, .inl (cI, (6, .inl (fun _ => nI 0)))), (q2, .inl (cI, (6, .inl (fun _ => nI 0)))), (q3, .inl (cI, (6, .inl (fun _ => nI 0)))), (q4, .inl (cI, (4, .inl (fun _ => nI 0)))), (q5, .inl (cI, (4, .inl (fun _ => nI 0)))), (q6, .inl (cI, (24, .inl (fun _ => nI 0)))), (q7, .inl (cI, (36, .inl (fun _ => nI 0)))), (q8, .inl (cI, (144, .inl (fun _ => nI 0))))] := hD
  refine va_putF (D := D) (ci := 0) (v := .ref q8) (ty := (.array .int)) (C := RX0) (T := TX0) (N := 12) hx hb hts in_X0 tyX0 tyX0_ok nmX0 hown hK hP hD hS 0 rfl rfl 11 (by decide) (hts _ kc_1_80) (fun _ h9 => h9) rfl hin rfl (by decide +kernel) rfl rfl (Nat.le_of_ble_eq_true rfl) d_X0_init_64 (fun H locs hP hD hS => ?_)
  have hP : va_P D vwCl [(h0, .inr (0, [.int (nI 0), .int (nI 0), .int (nI 0), .int (nI 0), .ref q1, .ref q2, .ref q3, .ref q4, .ref q5, .ref q6, .ref q7, .ref q8])), (q1, .inl (cI, (6, .inl (fun _ => nI 0)))), (q2, .inl (cI, (6, .inl (fun _ => nI 0)))), (q3, .inl (cI, (6, .inl (fun _ => nI 0)))), (q4, .inl (cI, (4, .inl (fun _ => nI 0)))), (q5, .inl (cI, (4, .inl (fun _ => nI 0)))), (q6, .inl (cI, (24, .inl (fun _ => nI 0)))), (q7, .inl (cI, (36, .inl (fun _ => nI 0)))), (q8, .inl (cI, (144, .inl (fun _ => nI 0))))] H := hP
  have hD : va_D A [(h0, .inr (0, [.int (nI 0), .int (nI 0), .int (nI 0), .int (nI 0), .ref q1, .ref q2, .ref q3, .ref q4, .ref q5, .ref q6, .ref q7, .ref q8])), (q1, .inl (cI, (6, .inl (fun _ => nI 0)))), (q2, .inl (cI, (6, .inl (fun _ => nI 0)))), (q3, .inl (cI, (6, .inl (fun _ => nI 0)))), (q4, .inl (cI, (4, .inl (fun _ => nI 0)))), (q5, .inl (cI, (4, .inl (fun _ => nI 0)))), (q6, .inl (cI, (24, .inl (fun _ => nI 0)))), (q7, .inl (cI, (36, .inl (fun _ => nI 0)))), (q8, .inl (cI, (144, .inl (fun _ => nI 0))))] := hD
  exact W.vret hx hb hr (fun t ht hW => ⟨⟨(fun j => if j = 1 then q1 else if j = 2 then q2 else if j = 3 then q3 else if j = 4 then q4 else if j = 5 then q5 else if j = 6 then q6 else if j = 7 then q7 else if j = 8 then q8 else 0), rfl, trivial, by rw [ht]; exact hP, va_K.moved hW.alike hK, by rw [hAe]; exact hD⟩, by rw [hAe]; exact hS.F ht⟩) hS.2.2 d_X0_init_67
set_option maxHeartbeats 4000000 in
set_option maxRecDepth 100000 in
theorem c_Quarry (l : Launch) (D : va_G) (cI cQ : ClassId) (h0 sz : Nat) (bd : Nat) : Met l yX3_init (k_ws yX3_init cX3_init 2 none) ({ frames := 4, cells := 6, slots := 82, locals := 200 }) (k_Pc D (k_tys cI cQ) (fun _ => True) [.ref h0, .ref bd] [(h0, .inr (3, [.null, .int (nI 0), .null, .null, .null, .null, .null, .null]))] sz) (k_Qc D (k_tys cI cQ) [(h0, .inr (3, [.null, .int (nI 0), .null, .null, .null, .null, .null, .null]))] sz (fun u : Nat → Nat => [(h0, .inr (3, [.ref bd, .int (nI 0), .ref (u 1), .ref (u 2), .ref (u 3), .ref (u 4), .ref (u 5), .ref (u 6)])), (u 1, .inl (cI, (6, .inl (fun _ => nI 0)))), (u 2, .inl (cI, (6, .inl (fun _ => nI 0)))), (u 3, .inl (cI, (6, .inl (fun _ => nI 0)))), (u 4, .inl (cI, (4, .inl (fun _ => nI 0)))), (u 5, .inl (cI, (36, .inl (fun _ => nI 0)))), (u 6, .inl (cI, (24, .inl (fun _ => nI 0))))])) (6) (82) (va_A [(h0, .inr (3, [.null, .int (nI 0), .null, .null, .null, .null, .null, .null]))] sz) := by
  refine Met.ofW (cc := cX3_init) (maxL := 2) (ret := none) (by decide) rfl ?_
  intro p e s m args below meth c s₁ B hml hv
  obtain ⟨rfl, hsz, hP, hK, hD0, hE⟩ := hv
  have hx := B.exec
  have hb := B.bytes
  have hr := B.returns
  have hts0 := atoms_spec (ws := k_ws yX3_init cX3_init 2 none) B.pre
  have hts : ∀ w ∈ q_tw, w.before _ s = true := fun w h => hts0 w (List.mem_cons_of_mem _ h)
  have hown : s.vm.findClass RX3 = some m.cls := findClass_of_methodNamed B.named
  have hin : meth.name = "<init>" := (name_of_methodNamed B.named B.method).1
  subst hsz
  have hD := hD0.self (sz := s.heap.size)
  generalize hAe : va_A [(h0, .inr (3, [.null, .int (nI 0), .null, .null, .null, .null, .null, .null]))] s.heap.size = A at hD ⊢
  have hA : ∀ q : Nat, s.heap.size ≤ q → A q := fun q h => by rw [← hAe]; exact Or.inr h
  have hS : va_S A s.heap s.heap [] := va_S.rf
  have hl := lv_entry ([.ref h0, .ref bd]) (n := 2) (Nat.le_of_ble_eq_true rfl)
  rw [lg_entry_eq]
  generalize (lg_sl ([.ref h0, .ref bd]) ++ List.replicate (2 - (lg_sl ([.ref h0, .ref bd])).length) Slot.unset).toArray = ls at hl ⊢
  have hl : lv_has ls 2 [(0, .ref h0), (1, .ref bd)] := hl
  refine lv_aload_n hx hb d_X3_init_0 rfl (lv_at hl 0 rfl) ?_
  refine W.objInit hx hb hown (hts _ kc_1_112) (hts _ kc_1_21) (hts _ kc_1_22) rfl (by rw [hml]; exact hl.1) rfl d_X3_init_1 (Nat.le_of_ble_eq_true rfl) (Nat.le_of_ble_eq_true rfl) ?_
  refine W.eq (g2 := F0 m 4 ls []) rfl ?_
  refine lv_aload_n hx hb d_X3_init_4 rfl (lv_at hl 0 rfl) ?_
  refine lv_bipush (v := nI 6) hx hb d_X3_init_5 (by decide) ?_
  refine k_newI (cI := cI) (cQ := cQ) (N' := 6) hx hb (hts _ kc_1_43) hK hP hD hS hA (by decide) (by decide) (by decide) (Nat.le_of_ble_eq_true rfl) (Nat.le_of_ble_eq_true rfl) d_X3_init_7 (fun q1 H hP hD hS => ?_)
  refine W.widen (k := 1) (n := 6) (Nat.le_refl _) (Nat.le_refl _) ?_
  have hP : va_P D vwCl [(h0, .inr (3, [.null, .int (nI 0), .null, .null, .null, .null, .null, .null])), (q1, .inl (cI, (6, .inl (fun _ => nI 0))))] H := hP
  have hD : va_D A [(h0, .inr (3, [.null, .int (nI 0), .null, .null, .null, .null, .null, .null])), (q1, .inl (cI, (6, .inl (fun _ => nI 0))))] := hD
  refine va_putF (D := D) (ci := 3) (v := .ref q1) (ty := (.array .int)) (C := RX3) (T := TX3) (N := 8) hx hb hts in_X3 tyX3 tyX3_ok nmX3 hown hK hP hD hS 0 rfl rfl 2 (by decide) (hts _ kc_1_119) (fun _ h9 => h9) rfl hin rfl (by decide +kernel) rfl rfl (Nat.le_of_ble_eq_true rfl) d_X3_init_9 (fun H locs hP hD hS => ?_)
  have hP : va_P D vwCl [(h0, .inr (3, [.null, .int (nI 0), .ref q1, .null, .null, .null, .null, .null])), (q1, .inl (cI, (6, .inl (fun _ => nI 0))))] H := hP
  have hD : va_D A [(h0, .inr (3, [.null, .int (nI 0), .ref q1, .null, .null, .null, .null, .null])), (q1, .inl (cI, (6, .inl (fun _ => nI 0))))] := hD
  refine lv_aload_n hx hb d_X3_init_12 rfl (lv_at hl 0 rfl) ?_
  refine lv_bipush (v := nI 6) hx hb d_X3_init_13 (by decide) ?_
  refine k_newI (cI := cI) (cQ := cQ) (N' := 6) hx hb (hts _ kc_1_43) hK hP hD hS hA (by decide) (by decide) (by decide) (Nat.le_of_ble_eq_true rfl) (Nat.le_of_ble_eq_true rfl) d_X3_init_15 (fun q2 H hP hD hS => ?_)
  refine W.widen (k := 2) (n := 12) (Nat.le_refl _) (Nat.le_refl _) ?_
  have hP : va_P D vwCl [(h0, .inr (3, [.null, .int (nI 0), .ref q1, .null, .null, .null, .null, .null])), (q1, .inl (cI, (6, .inl (fun _ => nI 0)))), (q2, .inl (cI, (6, .inl (fun _ => nI 0))))] H := hP
  have hD : va_D A [(h0, .inr (3, [.null, .int (nI 0), .ref q1, .null, .null, .null, .null, .null])), (q1, .inl (cI, (6, .inl (fun _ => nI 0)))), (q2, .inl (cI, (6, .inl (fun _ => nI 0))))] := hD
  refine va_putF (D := D) (ci := 3) (v := .ref q2) (ty := (.array .int)) (C := RX3) (T := TX3) (N := 8) hx hb hts in_X3 tyX3 tyX3_ok nmX3 hown hK hP hD hS 0 rfl rfl 3 (by decide) (hts _ kc_1_122) (fun _ h9 => h9) rfl hin rfl (by decide +kernel) rfl rfl (Nat.le_of_ble_eq_true rfl) d_X3_init_17 (fun H locs hP hD hS => ?_)
  have hP : va_P D vwCl [(h0, .inr (3, [.null, .int (nI 0), .ref q1, .ref q2, .null, .null, .null, .null])), (q1, .inl (cI, (6, .inl (fun _ => nI 0)))), (q2, .inl (cI, (6, .inl (fun _ => nI 0))))] H := hP
  have hD : va_D A [(h0, .inr (3, [.null, .int (nI 0), .ref q1, .ref q2, .null, .null, .null, .null])), (q1, .inl (cI, (6, .inl (fun _ => nI 0)))), (q2, .inl (cI, (6, .inl (fun _ => nI 0))))] := hD
  refine lv_aload_n hx hb d_X3_init_20 rfl (lv_at hl 0 rfl) ?_
  refine lv_bipush (v := nI 6) hx hb d_X3_init_21 (by decide) ?_
  refine k_newI (cI := cI) (cQ := cQ) (N' := 6) hx hb (hts _ kc_1_43) hK hP hD hS hA (by decide) (by decide) (by decide) (Nat.le_of_ble_eq_true rfl) (Nat.le_of_ble_eq_true rfl) d_X3_init_23 (fun q3 H hP hD hS => ?_)
  refine W.widen (k := 3) (n := 18) (Nat.le_refl _) (Nat.le_refl _) ?_
  have hP : va_P D vwCl [(h0, .inr (3, [.null, .int (nI 0), .ref q1, .ref q2, .null, .null, .null, .null])), (q1, .inl (cI, (6, .inl (fun _ => nI 0)))), (q2, .inl (cI, (6, .inl (fun _ => nI 0)))), (q3, .inl (cI, (6, .inl (fun _ => nI 0))))] H := hP
  have hD : va_D A [(h0, .inr (3, [.null, .int (nI 0), .ref q1, .ref q2, .null, .null, .null, .null])), (q1, .inl (cI, (6, .inl (fun _ => nI 0)))), (q2, .inl (cI, (6, .inl (fun _ => nI 0)))), (q3, .inl (cI, (6, .inl (fun _ => nI 0))))] := hD
  refine va_putF (D := D) (ci := 3) (v := .ref q3) (ty := (.array .int)) (C := RX3) (T := TX3) (N := 8) hx hb hts in_X3 tyX3 tyX3_ok nmX3 hown hK hP hD hS 0 rfl rfl 4 (by decide) (hts _ kc_1_124) (fun _ h9 => h9) rfl hin rfl (by decide +kernel) rfl rfl (Nat.le_of_ble_eq_true rfl) d_X3_init_25 (fun H locs hP hD hS => ?_)
  have hP : va_P D vwCl [(h0, .inr (3, [.null, .int (nI 0), .ref q1, .ref q2, .ref q3, .null, .null, .null])), (q1, .inl (cI, (6, .inl (fun _ => nI 0)))), (q2, .inl (cI, (6, .inl (fun _ => nI 0)))), (q3, .inl (cI, (6, .inl (fun _ => nI 0))))] H := hP
  have hD : va_D A [(h0, .inr (3, [.null, .int (nI 0), .ref q1, .ref q2, .ref q3, .null, .null, .null])), (q1, .inl (cI, (6, .inl (fun _ => nI 0)))), (q2, .inl (cI, (6, .inl (fun _ => nI 0)))), (q3, .inl (cI, (6, .inl (fun _ => nI 0))))] := hD
  refine lv_aload_n hx hb d_X3_init_28 rfl (lv_at hl 0 rfl) ?_
  refine lv_iconst (v := nI 4) hx hb d_X3_init_29 (by decide) ?_
  refine k_newI (cI := cI) (cQ := cQ) (N' := 4) hx hb (hts _ kc_1_43) hK hP hD hS hA (by decide) (by decide) (by decide) (Nat.le_of_ble_eq_true rfl) (Nat.le_of_ble_eq_true rfl) d_X3_init_30 (fun q4 H hP hD hS => ?_)
  refine W.widen (k := 4) (n := 22) (Nat.le_refl _) (Nat.le_refl _) ?_
  have hP : va_P D vwCl [(h0, .inr (3, [.null, .int (nI 0), .ref q1, .ref q2, .ref q3, .null, .null, .null])), (q1, .inl (cI, (6, .inl (fun _ => nI 0)))), (q2, .inl (cI, (6, .inl (fun _ => nI 0)))), (q3, .inl (cI, (6, .inl (fun _ => nI 0)))), (q4, .inl (cI, (4, .inl (fun _ => nI 0))))] H := hP
  have hD : va_D A [(h0, .inr (3, [.null, .int (nI 0), .ref q1, .ref q2, .ref q3, .null, .null, .null])), (q1, .inl (cI, (6, .inl (fun _ => nI 0)))), (q2, .inl (cI, (6, .inl (fun _ => nI 0)))), (q3, .inl (cI, (6, .inl (fun _ => nI 0)))), (q4, .inl (cI, (4, .inl (fun _ => nI 0))))] := hD
  refine va_putF (D := D) (ci := 3) (v := .ref q4) (ty := (.array .int)) (C := RX3) (T := TX3) (N := 8) hx hb hts in_X3 tyX3 tyX3_ok nmX3 hown hK hP hD hS 0 rfl rfl 5 (by decide) (hts _ kc_1_126) (fun _ h9 => h9) rfl hin rfl (by decide +kernel) rfl rfl (Nat.le_of_ble_eq_true rfl) d_X3_init_32 (fun H locs hP hD hS => ?_)
  have hP : va_P D vwCl [(h0, .inr (3, [.null, .int (nI 0), .ref q1, .ref q2, .ref q3, .ref q4, .null, .null])), (q1, .inl (cI, (6, .inl (fun _ => nI 0)))), (q2, .inl (cI, (6, .inl (fun _ => nI 0)))), (q3, .inl (cI, (6, .inl (fun _ => nI 0)))), (q4, .inl (cI, (4, .inl (fun _ => nI 0))))] H := hP
  have hD : va_D A [(h0, .inr (3, [.null, .int (nI 0), .ref q1, .ref q2, .ref q3, .ref q4, .null, .null])), (q1, .inl (cI, (6, .inl (fun _ => nI 0)))), (q2, .inl (cI, (6, .inl (fun _ => nI 0)))), (q3, .inl (cI, (6, .inl (fun _ => nI 0)))), (q4, .inl (cI, (4, .inl (fun _ => nI 0))))] := hD
  refine lv_aload_n hx hb d_X3_init_35 rfl (lv_at hl 0 rfl) ?_
  refine lv_bipush (v := nI 36) hx hb d_X3_init_36 (by decide) ?_
  refine k_newI (cI := cI) (cQ := cQ) (N' := 36) hx hb (hts _ kc_1_43) hK hP hD hS hA (by decide) (by decide) (by decide) (Nat.le_of_ble_eq_true rfl) (Nat.le_of_ble_eq_true rfl) d_X3_init_38 (fun q5 H hP hD hS => ?_)
  refine W.widen (k := 5) (n := 58) (Nat.le_refl _) (Nat.le_refl _) ?_
  have hP : va_P D vwCl [(h0, .inr (3, [.null, .int (nI 0), .ref q1, .ref q2, .ref q3, .ref q4, .null, .null])), (q1, .inl (cI, (6, .inl (fun _ => nI 0)))), (q2, .inl (cI, (6, .inl (fun _ => nI 0)))), (q3, .inl (cI, (6, .inl (fun _ => nI 0)))), (q4, .inl (cI, (4, .inl (fun _ => nI 0)))), (q5, .inl (cI, (36, .inl (fun _ => nI 0))))] H := hP
  have hD : va_D A [(h0, .inr (3, [.null, .int (nI 0), .ref q1, .ref q2, .ref q3, .ref q4, .null, .null])), (q1, .inl (cI, (6, .inl (fun _ => nI 0)))), (q2, .inl (cI, (6, .inl (fun _ => nI 0)))), (q3, .inl (cI, (6, .inl (fun _ => nI 0)))), (q4, .inl (cI, (4, .inl (fun _ => nI 0)))), (q5, .inl (cI, (36, .inl (fun _ => nI 0))))] := hD
  refine va_putF (D := D) (ci := 3) (v := .ref q5) (ty := (.array .int)) (C := RX3) (T := TX3) (N := 8) hx hb hts in_X3 tyX3 tyX3_ok nmX3 hown hK hP hD hS 0 rfl rfl 6 (by decide) (hts _ kc_1_129) (fun _ h9 => h9) rfl hin rfl (by decide +kernel) rfl rfl (Nat.le_of_ble_eq_true rfl) d_X3_init_40 (fun H locs hP hD hS => ?_)
  have hP : va_P D vwCl [(h0, .inr (3, [.null, .int (nI 0), .ref q1, .ref q2, .ref q3, .ref q4, .ref q5, .null])), (q1, .inl (cI, (6, .inl (fun _ => nI 0)))), (q2, .inl (cI, (6, .inl (fun _ => nI 0)))), (q3, .inl (cI, (6, .inl (fun _ => nI 0)))), (q4, .inl (cI, (4, .inl (fun _ => nI 0)))), (q5, .inl (cI, (36, .inl (fun _ => nI 0))))] H := hP
  have hD : va_D A [(h0, .inr (3, [.null, .int (nI 0), .ref q1, .ref q2, .ref q3, .ref q4, .ref q5, .null])), (q1, .inl (cI, (6, .inl (fun _ => nI 0)))), (q2, .inl (cI, (6, .inl (fun _ => nI 0)))), (q3, .inl (cI, (6, .inl (fun _ => nI 0)))), (q4, .inl (cI, (4, .inl (fun _ => nI 0)))), (q5, .inl (cI, (36, .inl (fun _ => nI 0))))] := hD
  refine lv_aload_n hx hb d_X3_init_43 rfl (lv_at hl 0 rfl) ?_
  refine lv_bipush (v := nI 24) hx hb d_X3_init_44 (by decide) ?_
  refine k_newI (cI := cI) (cQ := cQ) (N' := 24) hx hb (hts _ kc_1_43) hK hP hD hS hA (by decide) (by decide) (by decide) (Nat.le_of_ble_eq_true rfl) (Nat.le_of_ble_eq_true rfl) d_X3_init_46 (fun q6 H hP hD hS => ?_)
  refine W.widen (k := 6) (n := 82) (Nat.le_refl _) (Nat.le_refl _) ?_
  have hP : va_P D vwCl [(h0, .inr (3, [.null, .int (nI 0), .ref q1, .ref q2, .ref q3, .ref q4, .ref q5, .null])), (q1, .inl (cI, (6, .inl (fun _ => nI 0)))), (q2, .inl (cI, (6, .inl (fun _ => nI 0)))), (q3, .inl (cI, (6, .inl (fun _ => nI 0)))), (q4, .inl (cI, (4, .inl (fun _ => nI 0)))), (q5, .inl (cI, (36, .inl (fun _ => nI 0)))), (q6, .inl (cI, (24, .inl (fun _ => nI 0))))] H := hP
  have hD : va_D A [(h0, .inr (3, [.null, .int (nI 0), .ref q1, .ref q2, .ref q3, .ref q4, .ref q5, .null])), (q1, .inl (cI, (6, .inl (fun _ => nI 0)))), (q2, .inl (cI, (6, .inl (fun _ => nI 0)))), (q3, .inl (cI, (6, .inl (fun _ => nI 0)))), (q4, .inl (cI, (4, .inl (fun _ => nI 0)))), (q5, .inl (cI, (36, .inl (fun _ => nI 0)))), (q6, .inl (cI, (24, .inl (fun _ => nI 0))))] := hD
  refine va_putF (D := D) (ci := 3) (v := .ref q6) (ty := (.array .int)) (C := RX3) (T := TX3) (N := 8) hx hb hts in_X3 tyX3 tyX3_ok nmX3 hown hK hP hD hS 0 rfl rfl 7 (by decide) (hts _ kc_1_130) (fun _ h9 => h9) rfl hin rfl (by decide +kernel) rfl rfl (Nat.le_of_ble_eq_true rfl) d_X3_init_48 (fun H locs hP hD hS => ?_)
  have hP : va_P D vwCl [(h0, .inr (3, [.null, .int (nI 0), .ref q1, .ref q2, .ref q3, .ref q4, .ref q5, .ref q6])), (q1, .inl (cI, (6, .inl (fun _ => nI 0)))), (q2, .inl (cI, (6, .inl (fun _ => nI 0)))), (q3, .inl (cI, (6, .inl (fun _ => nI 0)))), (q4, .inl (cI, (4, .inl (fun _ => nI 0)))), (q5, .inl (cI, (36, .inl (fun _ => nI 0)))), (q6, .inl (cI, (24, .inl (fun _ => nI 0))))] H := hP
  have hD : va_D A [(h0, .inr (3, [.null, .int (nI 0), .ref q1, .ref q2, .ref q3, .ref q4, .ref q5, .ref q6])), (q1, .inl (cI, (6, .inl (fun _ => nI 0)))), (q2, .inl (cI, (6, .inl (fun _ => nI 0)))), (q3, .inl (cI, (6, .inl (fun _ => nI 0)))), (q4, .inl (cI, (4, .inl (fun _ => nI 0)))), (q5, .inl (cI, (36, .inl (fun _ => nI 0)))), (q6, .inl (cI, (24, .inl (fun _ => nI 0))))] := hD
  refine lv_aload_n hx hb d_X3_init_51 rfl (lv_at hl 0 rfl) ?_
  refine lv_aload_n hx hb d_X3_init_52 rfl (lv_at hl 1 rfl) ?_
  refine va_putF (D := D) (ci := 3) (v := .ref bd) (ty := (.object "StoneApologies$Bed")) (C := RX3) (T := TX3) (N := 8) hx hb hts in_X3 tyX3 tyX3_ok nmX3 hown hK hP hD hS 0 rfl rfl 0 (by decide) (hts _ kc_1_113) (fun _ h9 => h9) rfl hin rfl (by decide +kernel) rfl rfl (Nat.le_of_ble_eq_true rfl) d_X3_init_53 (fun H locs hP hD hS => ?_)
  have hP : va_P D vwCl [(h0, .inr (3, [.ref bd, .int (nI 0), .ref q1, .ref q2, .ref q3, .ref q4, .ref q5, .ref q6])), (q1, .inl (cI, (6, .inl (fun _ => nI 0)))), (q2, .inl (cI, (6, .inl (fun _ => nI 0)))), (q3, .inl (cI, (6, .inl (fun _ => nI 0)))), (q4, .inl (cI, (4, .inl (fun _ => nI 0)))), (q5, .inl (cI, (36, .inl (fun _ => nI 0)))), (q6, .inl (cI, (24, .inl (fun _ => nI 0))))] H := hP
  have hD : va_D A [(h0, .inr (3, [.ref bd, .int (nI 0), .ref q1, .ref q2, .ref q3, .ref q4, .ref q5, .ref q6])), (q1, .inl (cI, (6, .inl (fun _ => nI 0)))), (q2, .inl (cI, (6, .inl (fun _ => nI 0)))), (q3, .inl (cI, (6, .inl (fun _ => nI 0)))), (q4, .inl (cI, (4, .inl (fun _ => nI 0)))), (q5, .inl (cI, (36, .inl (fun _ => nI 0)))), (q6, .inl (cI, (24, .inl (fun _ => nI 0))))] := hD
  exact W.vret hx hb hr (fun t ht hW => ⟨⟨(fun j => if j = 1 then q1 else if j = 2 then q2 else if j = 3 then q3 else if j = 4 then q4 else if j = 5 then q5 else if j = 6 then q6 else 0), rfl, trivial, by rw [ht]; exact hP, va_K.moved hW.alike hK, by rw [hAe]; exact hD⟩, by rw [hAe]; exact hS.F ht⟩) hS.2.2 d_X3_init_56
set_option maxHeartbeats 4000000 in
set_option maxRecDepth 100000 in
theorem c_Rows (l : Launch) (D : va_G) (cI cQ : ClassId) (h0 sz : Nat) (bd : Nat) : Met l yX4_init (k_ws yX4_init cX4_init 2 none) ({ frames := 4, cells := 1, slots := 4, locals := 200 }) (k_Pc D (k_tys cI cQ) (fun _ => True) [.ref h0, .ref bd] [(h0, .inr (4, [.null, .null]))] sz) (k_Qc D (k_tys cI cQ) [(h0, .inr (4, [.null, .null]))] sz (fun u : Nat → Nat => [(h0, .inr (4, [.ref bd, .ref (u 1)])), (u 1, .inl (cI, (4, .inl (fun _ => nI 0))))])) (1) (4) (va_A [(h0, .inr (4, [.null, .null]))] sz) := by
  refine Met.ofW (cc := cX4_init) (maxL := 2) (ret := none) (by decide) rfl ?_
  intro p e s m args below meth c s₁ B hml hv
  obtain ⟨rfl, hsz, hP, hK, hD0, hE⟩ := hv
  have hx := B.exec
  have hb := B.bytes
  have hr := B.returns
  have hts0 := atoms_spec (ws := k_ws yX4_init cX4_init 2 none) B.pre
  have hts : ∀ w ∈ q_tw, w.before _ s = true := fun w h => hts0 w (List.mem_cons_of_mem _ h)
  have hown : s.vm.findClass RX4 = some m.cls := findClass_of_methodNamed B.named
  have hin : meth.name = "<init>" := (name_of_methodNamed B.named B.method).1
  subst hsz
  have hD := hD0.self (sz := s.heap.size)
  generalize hAe : va_A [(h0, .inr (4, [.null, .null]))] s.heap.size = A at hD ⊢
  have hA : ∀ q : Nat, s.heap.size ≤ q → A q := fun q h => by rw [← hAe]; exact Or.inr h
  have hS : va_S A s.heap s.heap [] := va_S.rf
  have hl := lv_entry ([.ref h0, .ref bd]) (n := 2) (Nat.le_of_ble_eq_true rfl)
  rw [lg_entry_eq]
  generalize (lg_sl ([.ref h0, .ref bd]) ++ List.replicate (2 - (lg_sl ([.ref h0, .ref bd])).length) Slot.unset).toArray = ls at hl ⊢
  have hl : lv_has ls 2 [(0, .ref h0), (1, .ref bd)] := hl
  refine lv_aload_n hx hb d_X4_init_0 rfl (lv_at hl 0 rfl) ?_
  refine W.objInit hx hb hown (hts _ kc_1_173) (hts _ kc_1_21) (hts _ kc_1_22) rfl (by rw [hml]; exact hl.1) rfl d_X4_init_1 (Nat.le_of_ble_eq_true rfl) (Nat.le_of_ble_eq_true rfl) ?_
  refine W.eq (g2 := F0 m 4 ls []) rfl ?_
  refine lv_aload_n hx hb d_X4_init_4 rfl (lv_at hl 0 rfl) ?_
  refine lv_iconst (v := nI 4) hx hb d_X4_init_5 (by decide) ?_
  refine k_newI (cI := cI) (cQ := cQ) (N' := 4) hx hb (hts _ kc_1_43) hK hP hD hS hA (by decide) (by decide) (by decide) (Nat.le_of_ble_eq_true rfl) (Nat.le_of_ble_eq_true rfl) d_X4_init_6 (fun q1 H hP hD hS => ?_)
  refine W.widen (k := 1) (n := 4) (Nat.le_refl _) (Nat.le_refl _) ?_
  have hP : va_P D vwCl [(h0, .inr (4, [.null, .null])), (q1, .inl (cI, (4, .inl (fun _ => nI 0))))] H := hP
  have hD : va_D A [(h0, .inr (4, [.null, .null])), (q1, .inl (cI, (4, .inl (fun _ => nI 0))))] := hD
  refine va_putF (D := D) (ci := 4) (v := .ref q1) (ty := (.array .int)) (C := RX4) (T := TX4) (N := 2) hx hb hts in_X4 tyX4 tyX4_ok nmX4 hown hK hP hD hS 0 rfl rfl 1 (by decide) (hts _ kc_1_175) (fun _ h9 => h9) rfl hin rfl (by decide +kernel) rfl rfl (Nat.le_of_ble_eq_true rfl) d_X4_init_8 (fun H locs hP hD hS => ?_)
  have hP : va_P D vwCl [(h0, .inr (4, [.null, .ref q1])), (q1, .inl (cI, (4, .inl (fun _ => nI 0))))] H := hP
  have hD : va_D A [(h0, .inr (4, [.null, .ref q1])), (q1, .inl (cI, (4, .inl (fun _ => nI 0))))] := hD
  refine lv_aload_n hx hb d_X4_init_11 rfl (lv_at hl 0 rfl) ?_
  refine lv_aload_n hx hb d_X4_init_12 rfl (lv_at hl 1 rfl) ?_
  refine va_putF (D := D) (ci := 4) (v := .ref bd) (ty := (.object "StoneApologies$Quarry")) (C := RX4) (T := TX4) (N := 2) hx hb hts in_X4 tyX4 tyX4_ok nmX4 hown hK hP hD hS 0 rfl rfl 0 (by decide) (hts _ kc_1_174) (fun _ h9 => h9) rfl hin rfl (by decide +kernel) rfl rfl (Nat.le_of_ble_eq_true rfl) d_X4_init_13 (fun H locs hP hD hS => ?_)
  have hP : va_P D vwCl [(h0, .inr (4, [.ref bd, .ref q1])), (q1, .inl (cI, (4, .inl (fun _ => nI 0))))] H := hP
  have hD : va_D A [(h0, .inr (4, [.ref bd, .ref q1])), (q1, .inl (cI, (4, .inl (fun _ => nI 0))))] := hD
  exact W.vret hx hb hr (fun t ht hW => ⟨⟨(fun j => if j = 1 then q1 else 0), rfl, trivial, by rw [ht]; exact hP, va_K.moved hW.alike hK, by rw [hAe]; exact hD⟩, by rw [hAe]; exact hS.F ht⟩) hS.2.2 d_X4_init_16
