/-! StoneApologiesModel() -/
theorem kc_4_8 : Cond.methodLink RX7 1 Lib.objectInit ∈ q_tw := q_w4 (i := 8) rfl rfl
theorem kc_4_29 : Cond.fieldLink RX7 7 RX7 "w" "[I" ∈ q_tw := q_w4 (i := 29) rfl rfl
theorem kc_4_33 : Cond.fieldLink RX7 13 RX7 "kind" "[I" ∈ q_tw := q_w4 (i := 33) rfl rfl
theorem kc_4_34 : Cond.fieldLink RX7 16 RX7 "needs" "[I" ∈ q_tw := q_w4 (i := 34) rfl rfl
theorem kc_4_36 : Cond.fieldLink RX7 19 RX7 "told" "[I" ∈ q_tw := q_w4 (i := 36) rfl rfl
theorem kc_4_38 : Cond.fieldLink RX7 22 RX7 "speaks" "[I" ∈ q_tw := q_w4 (i := 38) rfl rfl
theorem kc_4_39 : Cond.fieldLink RX7 25 RX7 "daily" "[I" ∈ q_tw := q_w4 (i := 39) rfl rfl
theorem kc_4_41 : Cond.fieldLink RX7 28 RX7 "text" "[I" ∈ q_tw := q_w4 (i := 41) rfl rfl
theorem kc_4_46 : Cond.fieldLink RX7 31 RX7 "readBlock" "[I" ∈ q_tw := q_w4 (i := 46) rfl rfl
theorem kc_4_48 : Cond.fieldLink RX7 34 RX7 "readWord" "[I" ∈ q_tw := q_w4 (i := 48) rfl rfl
theorem kc_4_50 : Cond.fieldLink RX7 37 RX7 "readSpeaker" "[I" ∈ q_tw := q_w4 (i := 50) rfl rfl
theorem kc_4_52 : Cond.fieldLink RX7 40 RX7 "readPromised" "[I" ∈ q_tw := q_w4 (i := 52) rfl rfl
theorem kc_4_53 : Cond.fieldLink RX7 43 RX7 "tried" "[I" ∈ q_tw := q_w4 (i := 53) rfl rfl
theorem kc_4_54 : Cond.fieldLink RX7 46 RX7 "softBy" "[I" ∈ q_tw := q_w4 (i := 54) rfl rfl
theorem kc_4_55 : Cond.fieldLink RX7 49 RX7 "timesSaid" "[I" ∈ q_tw := q_w4 (i := 55) rfl rfl
theorem kc_4_56 : Cond.fieldLink RX7 52 RX7 "hoursSpoken" "[I" ∈ q_tw := q_w4 (i := 56) rfl rfl
theorem kc_4_57 : Cond.fieldLink RX7 55 RX7 "asked" "[I" ∈ q_tw := q_w4 (i := 57) rfl rfl
theorem kc_4_58 : Cond.fieldLink RX7 58 RX7 "bestAsked" "[I" ∈ q_tw := q_w4 (i := 58) rfl rfl
theorem d_X7_init_0 : decode cX7_init 0 = .ok (.aload_n 0, 1) := by decide +kernel
theorem d_X7_init_1 : decode cX7_init 1 = .ok (.invokespecial 1, 3) := by decide +kernel
theorem d_X7_init_4 : decode cX7_init 4 = .ok (.aload_n 0, 1) := by decide +kernel
theorem d_X7_init_5 : decode cX7_init 5 = .ok (.sipush 1577, 3) := by decide +kernel
theorem d_X7_init_8 : decode cX7_init 8 = .ok (.newarray .int, 2) := by decide +kernel
theorem d_X7_init_10 : decode cX7_init 10 = .ok (.putfield 7, 3) := by decide +kernel
theorem d_X7_init_13 : decode cX7_init 13 = .ok (.aload_n 0, 1) := by decide +kernel
theorem d_X7_init_14 : decode cX7_init 14 = .ok (.bipush 6, 2) := by decide +kernel
theorem d_X7_init_16 : decode cX7_init 16 = .ok (.newarray .int, 2) := by decide +kernel
theorem d_X7_init_18 : decode cX7_init 18 = .ok (.putfield 13, 3) := by decide +kernel
theorem d_X7_init_21 : decode cX7_init 21 = .ok (.aload_n 0, 1) := by decide +kernel
theorem d_X7_init_22 : decode cX7_init 22 = .ok (.bipush 6, 2) := by decide +kernel
theorem d_X7_init_24 : decode cX7_init 24 = .ok (.newarray .int, 2) := by decide +kernel
theorem d_X7_init_26 : decode cX7_init 26 = .ok (.putfield 16, 3) := by decide +kernel
theorem d_X7_init_29 : decode cX7_init 29 = .ok (.aload_n 0, 1) := by decide +kernel
theorem d_X7_init_30 : decode cX7_init 30 = .ok (.bipush 6, 2) := by decide +kernel
theorem d_X7_init_32 : decode cX7_init 32 = .ok (.newarray .int, 2) := by decide +kernel
theorem d_X7_init_34 : decode cX7_init 34 = .ok (.putfield 19, 3) := by decide +kernel
theorem d_X7_init_37 : decode cX7_init 37 = .ok (.aload_n 0, 1) := by decide +kernel
theorem d_X7_init_38 : decode cX7_init 38 = .ok (.iconst 4, 1) := by decide +kernel
theorem d_X7_init_39 : decode cX7_init 39 = .ok (.newarray .int, 2) := by decide +kernel
theorem d_X7_init_41 : decode cX7_init 41 = .ok (.putfield 22, 3) := by decide +kernel
theorem d_X7_init_44 : decode cX7_init 44 = .ok (.aload_n 0, 1) := by decide +kernel
theorem d_X7_init_45 : decode cX7_init 45 = .ok (.iconst 4, 1) := by decide +kernel
theorem d_X7_init_46 : decode cX7_init 46 = .ok (.newarray .int, 2) := by decide +kernel
theorem d_X7_init_48 : decode cX7_init 48 = .ok (.putfield 25, 3) := by decide +kernel
theorem d_X7_init_51 : decode cX7_init 51 = .ok (.aload_n 0, 1) := by decide +kernel
theorem d_X7_init_52 : decode cX7_init 52 = .ok (.sipush 200, 3) := by decide +kernel
theorem d_X7_init_55 : decode cX7_init 55 = .ok (.newarray .int, 2) := by decide +kernel
theorem d_X7_init_57 : decode cX7_init 57 = .ok (.putfield 28, 3) := by decide +kernel
theorem d_X7_init_60 : decode cX7_init 60 = .ok (.aload_n 0, 1) := by decide +kernel
theorem d_X7_init_61 : decode cX7_init 61 = .ok (.bipush 12, 2) := by decide +kernel
theorem d_X7_init_63 : decode cX7_init 63 = .ok (.newarray .int, 2) := by decide +kernel
theorem d_X7_init_65 : decode cX7_init 65 = .ok (.putfield 31, 3) := by decide +kernel
theorem d_X7_init_68 : decode cX7_init 68 = .ok (.aload_n 0, 1) := by decide +kernel
theorem d_X7_init_69 : decode cX7_init 69 = .ok (.bipush 6, 2) := by decide +kernel
theorem d_X7_init_71 : decode cX7_init 71 = .ok (.newarray .int, 2) := by decide +kernel
theorem d_X7_init_73 : decode cX7_init 73 = .ok (.putfield 34, 3) := by decide +kernel
theorem d_X7_init_76 : decode cX7_init 76 = .ok (.aload_n 0, 1) := by decide +kernel
theorem d_X7_init_77 : decode cX7_init 77 = .ok (.bipush 8, 2) := by decide +kernel
theorem d_X7_init_79 : decode cX7_init 79 = .ok (.newarray .int, 2) := by decide +kernel
theorem d_X7_init_81 : decode cX7_init 81 = .ok (.putfield 37, 3) := by decide +kernel
theorem d_X7_init_84 : decode cX7_init 84 = .ok (.aload_n 0, 1) := by decide +kernel
theorem d_X7_init_85 : decode cX7_init 85 = .ok (.bipush 24, 2) := by decide +kernel
theorem d_X7_init_87 : decode cX7_init 87 = .ok (.newarray .int, 2) := by decide +kernel
theorem d_X7_init_89 : decode cX7_init 89 = .ok (.putfield 40, 3) := by decide +kernel
theorem d_X7_init_92 : decode cX7_init 92 = .ok (.aload_n 0, 1) := by decide +kernel
theorem d_X7_init_93 : decode cX7_init 93 = .ok (.iconst 5, 1) := by decide +kernel
theorem d_X7_init_94 : decode cX7_init 94 = .ok (.newarray .int, 2) := by decide +kernel
theorem d_X7_init_96 : decode cX7_init 96 = .ok (.putfield 43, 3) := by decide +kernel
theorem d_X7_init_99 : decode cX7_init 99 = .ok (.aload_n 0, 1) := by decide +kernel
theorem d_X7_init_100 : decode cX7_init 100 = .ok (.iconst 5, 1) := by decide +kernel
theorem d_X7_init_101 : decode cX7_init 101 = .ok (.newarray .int, 2) := by decide +kernel
theorem d_X7_init_103 : decode cX7_init 103 = .ok (.putfield 46, 3) := by decide +kernel
theorem d_X7_init_106 : decode cX7_init 106 = .ok (.aload_n 0, 1) := by decide +kernel
theorem d_X7_init_107 : decode cX7_init 107 = .ok (.bipush 6, 2) := by decide +kernel
theorem d_X7_init_109 : decode cX7_init 109 = .ok (.newarray .int, 2) := by decide +kernel
theorem d_X7_init_111 : decode cX7_init 111 = .ok (.putfield 49, 3) := by decide +kernel
theorem d_X7_init_114 : decode cX7_init 114 = .ok (.aload_n 0, 1) := by decide +kernel
theorem d_X7_init_115 : decode cX7_init 115 = .ok (.iconst 4, 1) := by decide +kernel
theorem d_X7_init_116 : decode cX7_init 116 = .ok (.newarray .int, 2) := by decide +kernel
theorem d_X7_init_118 : decode cX7_init 118 = .ok (.putfield 52, 3) := by decide +kernel
theorem d_X7_init_121 : decode cX7_init 121 = .ok (.aload_n 0, 1) := by decide +kernel
theorem d_X7_init_122 : decode cX7_init 122 = .ok (.bipush 7, 2) := by decide +kernel
theorem d_X7_init_124 : decode cX7_init 124 = .ok (.newarray .int, 2) := by decide +kernel
theorem d_X7_init_126 : decode cX7_init 126 = .ok (.putfield 55, 3) := by decide +kernel
theorem d_X7_init_129 : decode cX7_init 129 = .ok (.aload_n 0, 1) := by decide +kernel
theorem d_X7_init_130 : decode cX7_init 130 = .ok (.bipush 6, 2) := by decide +kernel
theorem d_X7_init_132 : decode cX7_init 132 = .ok (.newarray .int, 2) := by decide +kernel
theorem d_X7_init_134 : decode cX7_init 134 = .ok (.putfield 58, 3) := by decide +kernel
def k_PM (D : va_G) (cI cQ : ClassId) (sx : QX) (b : Nat) (w : va_W) (h0 sz : Nat) : Array Value → State → Prop := va_Pc [.ref h0] (fun U => U.heap.size = sz ∧ va_P D vwCl w U.heap ∧ va_K D vwCl (k_tys cI cQ) U ∧ va_D (fun _ => True) w ∧ (∀ w ∈ q_nests, va_Nw w U) ∧ va_X b sx.1 sx.2 U U.heap)
theorem k_PM_blind (D : va_G) (cI cQ : ClassId) (sx : QX) (b : Nat) (w : va_W) (h0 sz : Nat) : FrameBlind (k_PM D cI cQ sx b w h0 sz) := fun a U gf mk q => by
  obtain ⟨h1, h2, h3, h4, h5, h6, h7⟩ := q
  exact ⟨h1, h2, h3, va_K.moved (u := U) (U := U.calling gf mk a) (Vm.Alike.refl U.vm) h4, h5, fun w hw => va_Nw.same (u := U) (U := U.calling gf mk a) (q_nests_on w hw) rfl (h6 w hw), va_X.moved (u := U) (U := U.calling gf mk a) (Vm.Alike.refl U.vm) h7⟩
theorem k_mTail {sx : QX} {g : QG} {p : Program} {l : Launch} {e : Env} {R : Room} {s : State} {m : MethodId} {args : Array Value} {below : List Frame} {meth : Method} {c : Code} {cells slots : Nat} {Q : State → Prop} (Hc : QH) (hnp : q_np g = 183) (hC : q_Cx sx g p l e R s m args below meth c cells slots Q RX7 cX7_init 1 none (q_room 20) (fun r => ∃ H', r = (none, H') ∧ q_RM q_A0 H' ∧ ∀ a, a < 165 → H' a = Hc a)) : q_W g p l e R s m args below meth c cells slots Q 1 (137, ([(0, vr 9 165)], ([], k_H1 Hc))) := by
  obtain ⟨H', hev, hRM, ho⟩ := m_tail sx (k_H1 Hc) rfl
  refine k_tail (tl_M_ok sx) (d := 19) hC ⟨H', rfl, hRM, fun a ha => (ho a ha).trans (by unfold k_H1; rw [if_pos ha])⟩ 78 _ hev ⟨fun q hq => ?_, q_okS_nil⟩
  rcases List.mem_cons.mp hq with h | h
  · subst h
    exact Or.inr ⟨by omega, rfl⟩
  · cases h
set_option maxHeartbeats 4000000 in
set_option maxRecDepth 100000 in
theorem c_M (l : Launch) (D : va_G) (cI cQ : ClassId) (h0 sz : Nat) (sx : QX) (b : Nat) (g0 : QG) (Hc : QH) (hnp : q_np g0 = 165) (hc : g0.2.2 = (cI, cQ)) (hb9 : q_ad g0 183 = b) (hbw : ∀ (k : Nat) (q : Nat × va_E), ((h0, .inr (7, [.null, .int (nI 0), .int (nI 0), .int (nI 0), .null, .null, .int (nI 0), .null, .int (nI 0), .null, .null, .int (nI 0), .null, .int (nI 0), .int (nI 0), .int (nI 0), .int (nI 0), .null, .int (nI 0), .null, .int (nI 0), .null, .int (nI 0), .null, .null, .null, .null, .null, .null, .null])) :: q_wd g0 Hc)[k]? = some q → q.1 ≠ b) : Met l yX7_init (k_ws yX7_init cX7_init 1 none) ({ frames := 60, cells := 17, slots := 1886, locals := 4000 }) (k_PM D cI cQ sx b ((h0, .inr (7, [.null, .int (nI 0), .int (nI 0), .int (nI 0), .null, .null, .int (nI 0), .null, .int (nI 0), .null, .null, .int (nI 0), .null, .int (nI 0), .int (nI 0), .int (nI 0), .int (nI 0), .null, .int (nI 0), .null, .int (nI 0), .null, .int (nI 0), .null, .null, .null, .null, .null, .null, .null])) :: q_wd g0 Hc) h0 sz) (va_Qv (S := QG × QH) (fun u => u.1.1 = D ∧ u.1.2.2 = (cI, cQ) ∧ q_np u.1 = 183 ∧ q_inj u.1 ∧ q_ad u.1 183 = b ∧ q_ad u.1 185 = sz ∧ (∀ p, p < 165 → q_ad u.1 p = q_ad g0 p) ∧ q_ad u.1 165 = h0 ∧ (∀ a, a < 165 → u.2 a = Hc a) ∧ q_RM q_A0 u.2) (fun u t => va_P D vwCl (q_wd u.1 u.2) t.heap ∧ va_D (va_A ((h0, .inr (7, [.null, .int (nI 0), .int (nI 0), .int (nI 0), .null, .null, .int (nI 0), .null, .int (nI 0), .null, .null, .int (nI 0), .null, .int (nI 0), .int (nI 0), .int (nI 0), .int (nI 0), .null, .int (nI 0), .null, .int (nI 0), .null, .int (nI 0), .null, .null, .null, .null, .null, .null, .null])) :: q_wd g0 Hc) sz) (q_wd u.1 u.2)) (va_A ((h0, .inr (7, [.null, .int (nI 0), .int (nI 0), .int (nI 0), .null, .null, .int (nI 0), .null, .int (nI 0), .null, .null, .int (nI 0), .null, .int (nI 0), .int (nI 0), .int (nI 0), .int (nI 0), .null, .int (nI 0), .null, .int (nI 0), .null, .int (nI 0), .null, .null, .null, .null, .null, .null, .null])) :: q_wd g0 Hc) sz)) (17) (1886) (va_A ((h0, .inr (7, [.null, .int (nI 0), .int (nI 0), .int (nI 0), .null, .null, .int (nI 0), .null, .int (nI 0), .null, .null, .int (nI 0), .null, .int (nI 0), .int (nI 0), .int (nI 0), .int (nI 0), .null, .int (nI 0), .null, .int (nI 0), .null, .int (nI 0), .null, .null, .null, .null, .null, .null, .null])) :: q_wd g0 Hc) sz) := by
  refine Met.ofW (cc := cX7_init) (maxL := 1) (ret := none) (by decide) rfl ?_
  intro p e s m args below meth c s₁ B hml hv
  obtain ⟨rfl, hsz, hP, hK, hD0, hN, hX⟩ := hv
  have hx := B.exec
  have hb := B.bytes
  have hr := B.returns
  have hts0 := atoms_spec (ws := k_ws yX7_init cX7_init 1 none) B.pre
  have hts : ∀ w ∈ q_tw, w.before _ s = true := fun w h => hts0 w (List.mem_cons_of_mem _ h)
  have hown : s.vm.findClass RX7 = some m.cls := findClass_of_methodNamed B.named
  have hin : meth.name = "<init>" := (name_of_methodNamed B.named B.method).1
  subst hsz
  have hD := hD0.self (sz := s.heap.size)
  generalize hAe : va_A ((h0, .inr (7, [.null, .int (nI 0), .int (nI 0), .int (nI 0), .null, .null, .int (nI 0), .null, .int (nI 0), .null, .null, .int (nI 0), .null, .int (nI 0), .int (nI 0), .int (nI 0), .int (nI 0), .null, .int (nI 0), .null, .int (nI 0), .null, .int (nI 0), .null, .null, .null, .null, .null, .null, .null])) :: q_wd g0 Hc) s.heap.size = A at hD ⊢
  have hA : ∀ q : Nat, s.heap.size ≤ q → A q := fun q h => by rw [← hAe]; exact Or.inr h
  have hS : va_S A s.heap s.heap [] := va_S.rf
  have hl := lv_entry ([.ref h0]) (n := 1) (Nat.le_of_ble_eq_true rfl)
  rw [lg_entry_eq]
  generalize (lg_sl ([.ref h0]) ++ List.replicate (1 - (lg_sl ([.ref h0])).length) Slot.unset).toArray = ls at hl ⊢
  have hl : lv_has ls 1 [(0, .ref h0)] := hl
  refine lv_aload_n hx hb d_X7_init_0 rfl (lv_at hl 0 rfl) ?_
  refine W.objInit hx hb hown (hts _ kc_4_8) (hts _ kc_1_21) (hts _ kc_1_22) rfl (by rw [hml]; exact hl.1) rfl d_X7_init_1 (Nat.le_of_ble_eq_true rfl) (Nat.le_of_ble_eq_true rfl) ?_
  refine W.eq (g2 := F0 m 4 ls []) rfl ?_
  refine lv_aload_n hx hb d_X7_init_4 rfl (lv_at hl 0 rfl) ?_
  refine lv_sipush (v := nI 1577) hx hb d_X7_init_5 (by decide) ?_
  refine k_newI (cI := cI) (cQ := cQ) (N' := 1577) hx hb (hts _ kc_1_43) hK hP hD hS hA (by decide) (by decide) (by decide) (Nat.le_of_ble_eq_true rfl) (Nat.le_of_ble_eq_true rfl) d_X7_init_8 (fun a1 H hP hD hS => ?_)
  refine W.widen (k := 1) (n := 1577) (Nat.le_refl _) (Nat.le_refl _) ?_
  refine va_putF (D := D) (ci := 7) (v := .ref a1) (ty := (.array .int)) (C := RX7) (T := TX7) (N := 30) hx hb hts in_X7 tyX7 tyX7_ok nmX7 hown hK hP hD hS 0 rfl rfl 0 (by decide) (hts _ kc_4_29) (fun _ h9 => h9) rfl hin rfl (by decide +kernel) rfl rfl (Nat.le_of_ble_eq_true rfl) d_X7_init_10 (fun H locs hP hD hS => ?_)
  have hP : va_P D vwCl ((h0, .inr (7, [.ref a1, .int (nI 0), .int (nI 0), .int (nI 0), .null, .null, .int (nI 0), .null, .int (nI 0), .null, .null, .int (nI 0), .null, .int (nI 0), .int (nI 0), .int (nI 0), .int (nI 0), .null, .int (nI 0), .null, .int (nI 0), .null, .int (nI 0), .null, .null, .null, .null, .null, .null, .null])) :: (q_wd g0 Hc ++ [(a1, .inl (cI, (1577, .inl (fun _ => nI 0))))])) H := hP
  have hD : va_D A ((h0, .inr (7, [.ref a1, .int (nI 0), .int (nI 0), .int (nI 0), .null, .null, .int (nI 0), .null, .int (nI 0), .null, .null, .int (nI 0), .null, .int (nI 0), .int (nI 0), .int (nI 0), .int (nI 0), .null, .int (nI 0), .null, .int (nI 0), .null, .int (nI 0), .null, .null, .null, .null, .null, .null, .null])) :: (q_wd g0 Hc ++ [(a1, .inl (cI, (1577, .inl (fun _ => nI 0))))])) := hD
  refine lv_aload_n hx hb d_X7_init_13 rfl (lv_at hl 0 rfl) ?_
  refine lv_bipush (v := nI 6) hx hb d_X7_init_14 (by decide) ?_
  refine k_newI (cI := cI) (cQ := cQ) (N' := 6) hx hb (hts _ kc_1_43) hK hP hD hS hA (by decide) (by decide) (by decide) (Nat.le_of_ble_eq_true rfl) (Nat.le_of_ble_eq_true rfl) d_X7_init_16 (fun a2 H hP hD hS => ?_)
  refine W.widen (k := 2) (n := 1583) (Nat.le_refl _) (Nat.le_refl _) ?_
  refine va_putF (D := D) (ci := 7) (v := .ref a2) (ty := (.array .int)) (C := RX7) (T := TX7) (N := 30) hx hb hts in_X7 tyX7 tyX7_ok nmX7 hown hK hP hD hS 0 rfl rfl 4 (by decide) (hts _ kc_4_33) (fun _ h9 => h9) rfl hin rfl (by decide +kernel) rfl rfl (Nat.le_of_ble_eq_true rfl) d_X7_init_18 (fun H locs hP hD hS => ?_)
  have hP : va_P D vwCl ((h0, .inr (7, [.ref a1, .int (nI 0), .int (nI 0), .int (nI 0), .ref a2, .null, .int (nI 0), .null, .int (nI 0), .null, .null, .int (nI 0), .null, .int (nI 0), .int (nI 0), .int (nI 0), .int (nI 0), .null, .int (nI 0), .null, .int (nI 0), .null, .int (nI 0), .null, .null, .null, .null, .null, .null, .null])) :: ((q_wd g0 Hc ++ [(a1, .inl (cI, (1577, .inl (fun _ => nI 0))))]) ++ [(a2, .inl (cI, (6, .inl (fun _ => nI 0))))])) H := hP
  have hD : va_D A ((h0, .inr (7, [.ref a1, .int (nI 0), .int (nI 0), .int (nI 0), .ref a2, .null, .int (nI 0), .null, .int (nI 0), .null, .null, .int (nI 0), .null, .int (nI 0), .int (nI 0), .int (nI 0), .int (nI 0), .null, .int (nI 0), .null, .int (nI 0), .null, .int (nI 0), .null, .null, .null, .null, .null, .null, .null])) :: ((q_wd g0 Hc ++ [(a1, .inl (cI, (1577, .inl (fun _ => nI 0))))]) ++ [(a2, .inl (cI, (6, .inl (fun _ => nI 0))))])) := hD
  refine lv_aload_n hx hb d_X7_init_21 rfl (lv_at hl 0 rfl) ?_
  refine lv_bipush (v := nI 6) hx hb d_X7_init_22 (by decide) ?_
  refine k_newI (cI := cI) (cQ := cQ) (N' := 6) hx hb (hts _ kc_1_43) hK hP hD hS hA (by decide) (by decide) (by decide) (Nat.le_of_ble_eq_true rfl) (Nat.le_of_ble_eq_true rfl) d_X7_init_24 (fun a3 H hP hD hS => ?_)
  refine W.widen (k := 3) (n := 1589) (Nat.le_refl _) (Nat.le_refl _) ?_
  refine va_putF (D := D) (ci := 7) (v := .ref a3) (ty := (.array .int)) (C := RX7) (T := TX7) (N := 30) hx hb hts in_X7 tyX7 tyX7_ok nmX7 hown hK hP hD hS 0 rfl rfl 5 (by decide) (hts _ kc_4_34) (fun _ h9 => h9) rfl hin rfl (by decide +kernel) rfl rfl (Nat.le_of_ble_eq_true rfl) d_X7_init_26 (fun H locs hP hD hS => ?_)
  have hP : va_P D vwCl ((h0, .inr (7, [.ref a1, .int (nI 0), .int (nI 0), .int (nI 0), .ref a2, .ref a3, .int (nI 0), .null, .int (nI 0), .null, .null, .int (nI 0), .null, .int (nI 0), .int (nI 0), .int (nI 0), .int (nI 0), .null, .int (nI 0), .null, .int (nI 0), .null, .int (nI 0), .null, .null, .null, .null, .null, .null, .null])) :: (((q_wd g0 Hc ++ [(a1, .inl (cI, (1577, .inl (fun _ => nI 0))))]) ++ [(a2, .inl (cI, (6, .inl (fun _ => nI 0))))]) ++ [(a3, .inl (cI, (6, .inl (fun _ => nI 0))))])) H := hP
  have hD : va_D A ((h0, .inr (7, [.ref a1, .int (nI 0), .int (nI 0), .int (nI 0), .ref a2, .ref a3, .int (nI 0), .null, .int (nI 0), .null, .null, .int (nI 0), .null, .int (nI 0), .int (nI 0), .int (nI 0), .int (nI 0), .null, .int (nI 0), .null, .int (nI 0), .null, .int (nI 0), .null, .null, .null, .null, .null, .null, .null])) :: (((q_wd g0 Hc ++ [(a1, .inl (cI, (1577, .inl (fun _ => nI 0))))]) ++ [(a2, .inl (cI, (6, .inl (fun _ => nI 0))))]) ++ [(a3, .inl (cI, (6, .inl (fun _ => nI 0))))])) := hD
  refine lv_aload_n hx hb d_X7_init_29 rfl (lv_at hl 0 rfl) ?_
  refine lv_bipush (v := nI 6) hx hb d_X7_init_30 (by decide) ?_
  refine k_newI (cI := cI) (cQ := cQ) (N' := 6) hx hb (hts _ kc_1_43) hK hP hD hS hA (by decide) (by decide) (by decide) (Nat.le_of_ble_eq_true rfl) (Nat.le_of_ble_eq_true rfl) d_X7_init_32 (fun a4 H hP hD hS => ?_)
  refine W.widen (k := 4) (n := 1595) (Nat.le_refl _) (Nat.le_refl _) ?_
  refine va_putF (D := D) (ci := 7) (v := .ref a4) (ty := (.array .int)) (C := RX7) (T := TX7) (N := 30) hx hb hts in_X7 tyX7 tyX7_ok nmX7 hown hK hP hD hS 0 rfl rfl 7 (by decide) (hts _ kc_4_36) (fun _ h9 => h9) rfl hin rfl (by decide +kernel) rfl rfl (Nat.le_of_ble_eq_true rfl) d_X7_init_34 (fun H locs hP hD hS => ?_)
  have hP : va_P D vwCl ((h0, .inr (7, [.ref a1, .int (nI 0), .int (nI 0), .int (nI 0), .ref a2, .ref a3, .int (nI 0), .ref a4, .int (nI 0), .null, .null, .int (nI 0), .null, .int (nI 0), .int (nI 0), .int (nI 0), .int (nI 0), .null, .int (nI 0), .null, .int (nI 0), .null, .int (nI 0), .null, .null, .null, .null, .null, .null, .null])) :: ((((q_wd g0 Hc ++ [(a1, .inl (cI, (1577, .inl (fun _ => nI 0))))]) ++ [(a2, .inl (cI, (6, .inl (fun _ => nI 0))))]) ++ [(a3, .inl (cI, (6, .inl (fun _ => nI 0))))]) ++ [(a4, .inl (cI, (6, .inl (fun _ => nI 0))))])) H := hP
  have hD : va_D A ((h0, .inr (7, [.ref a1, .int (nI 0), .int (nI 0), .int (nI 0), .ref a2, .ref a3, .int (nI 0), .ref a4, .int (nI 0), .null, .null, .int (nI 0), .null, .int (nI 0), .int (nI 0), .int (nI 0), .int (nI 0), .null, .int (nI 0), .null, .int (nI 0), .null, .int (nI 0), .null, .null, .null, .null, .null, .null, .null])) :: ((((q_wd g0 Hc ++ [(a1, .inl (cI, (1577, .inl (fun _ => nI 0))))]) ++ [(a2, .inl (cI, (6, .inl (fun _ => nI 0))))]) ++ [(a3, .inl (cI, (6, .inl (fun _ => nI 0))))]) ++ [(a4, .inl (cI, (6, .inl (fun _ => nI 0))))])) := hD
  refine lv_aload_n hx hb d_X7_init_37 rfl (lv_at hl 0 rfl) ?_
  refine lv_iconst (v := nI 4) hx hb d_X7_init_38 (by decide) ?_
  refine k_newI (cI := cI) (cQ := cQ) (N' := 4) hx hb (hts _ kc_1_43) hK hP hD hS hA (by decide) (by decide) (by decide) (Nat.le_of_ble_eq_true rfl) (Nat.le_of_ble_eq_true rfl) d_X7_init_39 (fun a5 H hP hD hS => ?_)
  refine W.widen (k := 5) (n := 1599) (Nat.le_refl _) (Nat.le_refl _) ?_
  refine va_putF (D := D) (ci := 7) (v := .ref a5) (ty := (.array .int)) (C := RX7) (T := TX7) (N := 30) hx hb hts in_X7 tyX7 tyX7_ok nmX7 hown hK hP hD hS 0 rfl rfl 9 (by decide) (hts _ kc_4_38) (fun _ h9 => h9) rfl hin rfl (by decide +kernel) rfl rfl (Nat.le_of_ble_eq_true rfl) d_X7_init_41 (fun H locs hP hD hS => ?_)
  have hP : va_P D vwCl ((h0, .inr (7, [.ref a1, .int (nI 0), .int (nI 0), .int (nI 0), .ref a2, .ref a3, .int (nI 0), .ref a4, .int (nI 0), .ref a5, .null, .int (nI 0), .null, .int (nI 0), .int (nI 0), .int (nI 0), .int (nI 0), .null, .int (nI 0), .null, .int (nI 0), .null, .int (nI 0), .null, .null, .null, .null, .null, .null, .null])) :: (((((q_wd g0 Hc ++ [(a1, .inl (cI, (1577, .inl (fun _ => nI 0))))]) ++ [(a2, .inl (cI, (6, .inl (fun _ => nI 0))))]) ++ [(a3, .inl (cI, (6, .inl (fun _ => nI 0))))]) ++ [(a4, .inl (cI, (6, .inl (fun _ => nI 0))))]) ++ [(a5, .inl (cI, (4, .inl (fun _ => nI 0))))])) H := hP
  have hD : va_D A ((h0, .inr (7, [.ref a1, .int (nI 0), .int (nI 0), .int (nI 0), .ref a2, .ref a3, .int (nI 0), .ref a4, .int (nI 0), .ref a5, .null, .int (nI 0), .null, .int (nI 0), .int (nI 0), .int (nI 0), .int (nI 0), .null, .int (nI 0), .null, .int (nI 0), .null, .int (nI 0), .null, .null, .null, .null, .null, .null, .null])) :: (((((q_wd g0 Hc ++ [(a1, .inl (cI, (1577, .inl (fun _ => nI 0))))]) ++ [(a2, .inl (cI, (6, .inl (fun _ => nI 0))))]) ++ [(a3, .inl (cI, (6, .inl (fun _ => nI 0))))]) ++ [(a4, .inl (cI, (6, .inl (fun _ => nI 0))))]) ++ [(a5, .inl (cI, (4, .inl (fun _ => nI 0))))])) := hD
  refine lv_aload_n hx hb d_X7_init_44 rfl (lv_at hl 0 rfl) ?_
  refine lv_iconst (v := nI 4) hx hb d_X7_init_45 (by decide) ?_
  refine k_newI (cI := cI) (cQ := cQ) (N' := 4) hx hb (hts _ kc_1_43) hK hP hD hS hA (by decide) (by decide) (by decide) (Nat.le_of_ble_eq_true rfl) (Nat.le_of_ble_eq_true rfl) d_X7_init_46 (fun a6 H hP hD hS => ?_)
  refine W.widen (k := 6) (n := 1603) (Nat.le_refl _) (Nat.le_refl _) ?_
  refine va_putF (D := D) (ci := 7) (v := .ref a6) (ty := (.array .int)) (C := RX7) (T := TX7) (N := 30) hx hb hts in_X7 tyX7 tyX7_ok nmX7 hown hK hP hD hS 0 rfl rfl 10 (by decide) (hts _ kc_4_39) (fun _ h9 => h9) rfl hin rfl (by decide +kernel) rfl rfl (Nat.le_of_ble_eq_true rfl) d_X7_init_48 (fun H locs hP hD hS => ?_)
  have hP : va_P D vwCl ((h0, .inr (7, [.ref a1, .int (nI 0), .int (nI 0), .int (nI 0), .ref a2, .ref a3, .int (nI 0), .ref a4, .int (nI 0), .ref a5, .ref a6, .int (nI 0), .null, .int (nI 0), .int (nI 0), .int (nI 0), .int (nI 0), .null, .int (nI 0), .null, .int (nI 0), .null, .int (nI 0), .null, .null, .null, .null, .null, .null, .null])) :: ((((((q_wd g0 Hc ++ [(a1, .inl (cI, (1577, .inl (fun _ => nI 0))))]) ++ [(a2, .inl (cI, (6, .inl (fun _ => nI 0))))]) ++ [(a3, .inl (cI, (6, .inl (fun _ => nI 0))))]) ++ [(a4, .inl (cI, (6, .inl (fun _ => nI 0))))]) ++ [(a5, .inl (cI, (4, .inl (fun _ => nI 0))))]) ++ [(a6, .inl (cI, (4, .inl (fun _ => nI 0))))])) H := hP
  have hD : va_D A ((h0, .inr (7, [.ref a1, .int (nI 0), .int (nI 0), .int (nI 0), .ref a2, .ref a3, .int (nI 0), .ref a4, .int (nI 0), .ref a5, .ref a6, .int (nI 0), .null, .int (nI 0), .int (nI 0), .int (nI 0), .int (nI 0), .null, .int (nI 0), .null, .int (nI 0), .null, .int (nI 0), .null, .null, .null, .null, .null, .null, .null])) :: ((((((q_wd g0 Hc ++ [(a1, .inl (cI, (1577, .inl (fun _ => nI 0))))]) ++ [(a2, .inl (cI, (6, .inl (fun _ => nI 0))))]) ++ [(a3, .inl (cI, (6, .inl (fun _ => nI 0))))]) ++ [(a4, .inl (cI, (6, .inl (fun _ => nI 0))))]) ++ [(a5, .inl (cI, (4, .inl (fun _ => nI 0))))]) ++ [(a6, .inl (cI, (4, .inl (fun _ => nI 0))))])) := hD
  refine lv_aload_n hx hb d_X7_init_51 rfl (lv_at hl 0 rfl) ?_
  refine lv_sipush (v := nI 200) hx hb d_X7_init_52 (by decide) ?_
  refine k_newI (cI := cI) (cQ := cQ) (N' := 200) hx hb (hts _ kc_1_43) hK hP hD hS hA (by decide) (by decide) (by decide) (Nat.le_of_ble_eq_true rfl) (Nat.le_of_ble_eq_true rfl) d_X7_init_55 (fun a7 H hP hD hS => ?_)
  refine W.widen (k := 7) (n := 1803) (Nat.le_refl _) (Nat.le_refl _) ?_
  refine va_putF (D := D) (ci := 7) (v := .ref a7) (ty := (.array .int)) (C := RX7) (T := TX7) (N := 30) hx hb hts in_X7 tyX7 tyX7_ok nmX7 hown hK hP hD hS 0 rfl rfl 12 (by decide) (hts _ kc_4_41) (fun _ h9 => h9) rfl hin rfl (by decide +kernel) rfl rfl (Nat.le_of_ble_eq_true rfl) d_X7_init_57 (fun H locs hP hD hS => ?_)
  have hP : va_P D vwCl ((h0, .inr (7, [.ref a1, .int (nI 0), .int (nI 0), .int (nI 0), .ref a2, .ref a3, .int (nI 0), .ref a4, .int (nI 0), .ref a5, .ref a6, .int (nI 0), .ref a7, .int (nI 0), .int (nI 0), .int (nI 0), .int (nI 0), .null, .int (nI 0), .null, .int (nI 0), .null, .int (nI 0), .null, .null, .null, .null, .null, .null, .null])) :: (((((((q_wd g0 Hc ++ [(a1, .inl (cI, (1577, .inl (fun _ => nI 0))))]) ++ [(a2, .inl (cI, (6, .inl (fun _ => nI 0))))]) ++ [(a3, .inl (cI, (6, .inl (fun _ => nI 0))))]) ++ [(a4, .inl (cI, (6, .inl (fun _ => nI 0))))]) ++ [(a5, .inl (cI, (4, .inl (fun _ => nI 0))))]) ++ [(a6, .inl (cI, (4, .inl (fun _ => nI 0))))]) ++ [(a7, .inl (cI, (200, .inl (fun _ => nI 0))))])) H := hP
  have hD : va_D A ((h0, .inr (7, [.ref a1, .int (nI 0), .int (nI 0), .int (nI 0), .ref a2, .ref a3, .int (nI 0), .ref a4, .int (nI 0), .ref a5, .ref a6, .int (nI 0), .ref a7, .int (nI 0), .int (nI 0), .int (nI 0), .int (nI 0), .null, .int (nI 0), .null, .int (nI 0), .null, .int (nI 0), .null, .null, .null, .null, .null, .null, .null])) :: (((((((q_wd g0 Hc ++ [(a1, .inl (cI, (1577, .inl (fun _ => nI 0))))]) ++ [(a2, .inl (cI, (6, .inl (fun _ => nI 0))))]) ++ [(a3, .inl (cI, (6, .inl (fun _ => nI 0))))]) ++ [(a4, .inl (cI, (6, .inl (fun _ => nI 0))))]) ++ [(a5, .inl (cI, (4, .inl (fun _ => nI 0))))]) ++ [(a6, .inl (cI, (4, .inl (fun _ => nI 0))))]) ++ [(a7, .inl (cI, (200, .inl (fun _ => nI 0))))])) := hD
  refine lv_aload_n hx hb d_X7_init_60 rfl (lv_at hl 0 rfl) ?_
  refine lv_bipush (v := nI 12) hx hb d_X7_init_61 (by decide) ?_
  refine k_newI (cI := cI) (cQ := cQ) (N' := 12) hx hb (hts _ kc_1_43) hK hP hD hS hA (by decide) (by decide) (by decide) (Nat.le_of_ble_eq_true rfl) (Nat.le_of_ble_eq_true rfl) d_X7_init_63 (fun a8 H hP hD hS => ?_)
  refine W.widen (k := 8) (n := 1815) (Nat.le_refl _) (Nat.le_refl _) ?_
  refine va_putF (D := D) (ci := 7) (v := .ref a8) (ty := (.array .int)) (C := RX7) (T := TX7) (N := 30) hx hb hts in_X7 tyX7 tyX7_ok nmX7 hown hK hP hD hS 0 rfl rfl 17 (by decide) (hts _ kc_4_46) (fun _ h9 => h9) rfl hin rfl (by decide +kernel) rfl rfl (Nat.le_of_ble_eq_true rfl) d_X7_init_65 (fun H locs hP hD hS => ?_)
  have hP : va_P D vwCl ((h0, .inr (7, [.ref a1, .int (nI 0), .int (nI 0), .int (nI 0), .ref a2, .ref a3, .int (nI 0), .ref a4, .int (nI 0), .ref a5, .ref a6, .int (nI 0), .ref a7, .int (nI 0), .int (nI 0), .int (nI 0), .int (nI 0), .ref a8, .int (nI 0), .null, .int (nI 0), .null, .int (nI 0), .null, .null, .null, .null, .null, .null, .null])) :: ((((((((q_wd g0 Hc ++ [(a1, .inl (cI, (1577, .inl (fun _ => nI 0))))]) ++ [(a2, .inl (cI, (6, .inl (fun _ => nI 0))))]) ++ [(a3, .inl (cI, (6, .inl (fun _ => nI 0))))]) ++ [(a4, .inl (cI, (6, .inl (fun _ => nI 0))))]) ++ [(a5, .inl (cI, (4, .inl (fun _ => nI 0))))]) ++ [(a6, .inl (cI, (4, .inl (fun _ => nI 0))))]) ++ [(a7, .inl (cI, (200, .inl (fun _ => nI 0))))]) ++ [(a8, .inl (cI, (12, .inl (fun _ => nI 0))))])) H := hP
  have hD : va_D A ((h0, .inr (7, [.ref a1, .int (nI 0), .int (nI 0), .int (nI 0), .ref a2, .ref a3, .int (nI 0), .ref a4, .int (nI 0), .ref a5, .ref a6, .int (nI 0), .ref a7, .int (nI 0), .int (nI 0), .int (nI 0), .int (nI 0), .ref a8, .int (nI 0), .null, .int (nI 0), .null, .int (nI 0), .null, .null, .null, .null, .null, .null, .null])) :: ((((((((q_wd g0 Hc ++ [(a1, .inl (cI, (1577, .inl (fun _ => nI 0))))]) ++ [(a2, .inl (cI, (6, .inl (fun _ => nI 0))))]) ++ [(a3, .inl (cI, (6, .inl (fun _ => nI 0))))]) ++ [(a4, .inl (cI, (6, .inl (fun _ => nI 0))))]) ++ [(a5, .inl (cI, (4, .inl (fun _ => nI 0))))]) ++ [(a6, .inl (cI, (4, .inl (fun _ => nI 0))))]) ++ [(a7, .inl (cI, (200, .inl (fun _ => nI 0))))]) ++ [(a8, .inl (cI, (12, .inl (fun _ => nI 0))))])) := hD
  refine lv_aload_n hx hb d_X7_init_68 rfl (lv_at hl 0 rfl) ?_
  refine lv_bipush (v := nI 6) hx hb d_X7_init_69 (by decide) ?_
  refine k_newI (cI := cI) (cQ := cQ) (N' := 6) hx hb (hts _ kc_1_43) hK hP hD hS hA (by decide) (by decide) (by decide) (Nat.le_of_ble_eq_true rfl) (Nat.le_of_ble_eq_true rfl) d_X7_init_71 (fun a9 H hP hD hS => ?_)
  refine W.widen (k := 9) (n := 1821) (Nat.le_refl _) (Nat.le_refl _) ?_
  refine va_putF (D := D) (ci := 7) (v := .ref a9) (ty := (.array .int)) (C := RX7) (T := TX7) (N := 30) hx hb hts in_X7 tyX7 tyX7_ok nmX7 hown hK hP hD hS 0 rfl rfl 19 (by decide) (hts _ kc_4_48) (fun _ h9 => h9) rfl hin rfl (by decide +kernel) rfl rfl (Nat.le_of_ble_eq_true rfl) d_X7_init_73 (fun H locs hP hD hS => ?_)
  have hP : va_P D vwCl ((h0, .inr (7, [.ref a1, .int (nI 0), .int (nI 0), .int (nI 0), .ref a2, .ref a3, .int (nI 0), .ref a4, .int (nI 0), .ref a5, .ref a6, .int (nI 0), .ref a7, .int (nI 0), .int (nI 0), .int (nI 0), .int (nI 0), .ref a8, .int (nI 0), .ref a9, .int (nI 0), .null, .int (nI 0), .null, .null, .null, .null, .null, .null, .null])) :: (((((((((q_wd g0 Hc ++ [(a1, .inl (cI, (1577, .inl (fun _ => nI 0))))]) ++ [(a2, .inl (cI, (6, .inl (fun _ => nI 0))))]) ++ [(a3, .inl (cI, (6, .inl (fun _ => nI 0))))]) ++ [(a4, .inl (cI, (6, .inl (fun _ => nI 0))))]) ++ [(a5, .inl (cI, (4, .inl (fun _ => nI 0))))]) ++ [(a6, .inl (cI, (4, .inl (fun _ => nI 0))))]) ++ [(a7, .inl (cI, (200, .inl (fun _ => nI 0))))]) ++ [(a8, .inl (cI, (12, .inl (fun _ => nI 0))))]) ++ [(a9, .inl (cI, (6, .inl (fun _ => nI 0))))])) H := hP
  have hD : va_D A ((h0, .inr (7, [.ref a1, .int (nI 0), .int (nI 0), .int (nI 0), .ref a2, .ref a3, .int (nI 0), .ref a4, .int (nI 0), .ref a5, .ref a6, .int (nI 0), .ref a7, .int (nI 0), .int (nI 0), .int (nI 0), .int (nI 0), .ref a8, .int (nI 0), .ref a9, .int (nI 0), .null, .int (nI 0), .null, .null, .null, .null, .null, .null, .null])) :: (((((((((q_wd g0 Hc ++ [(a1, .inl (cI, (1577, .inl (fun _ => nI 0))))]) ++ [(a2, .inl (cI, (6, .inl (fun _ => nI 0))))]) ++ [(a3, .inl (cI, (6, .inl (fun _ => nI 0))))]) ++ [(a4, .inl (cI, (6, .inl (fun _ => nI 0))))]) ++ [(a5, .inl (cI, (4, .inl (fun _ => nI 0))))]) ++ [(a6, .inl (cI, (4, .inl (fun _ => nI 0))))]) ++ [(a7, .inl (cI, (200, .inl (fun _ => nI 0))))]) ++ [(a8, .inl (cI, (12, .inl (fun _ => nI 0))))]) ++ [(a9, .inl (cI, (6, .inl (fun _ => nI 0))))])) := hD
  refine lv_aload_n hx hb d_X7_init_76 rfl (lv_at hl 0 rfl) ?_
  refine lv_bipush (v := nI 8) hx hb d_X7_init_77 (by decide) ?_
  refine k_newI (cI := cI) (cQ := cQ) (N' := 8) hx hb (hts _ kc_1_43) hK hP hD hS hA (by decide) (by decide) (by decide) (Nat.le_of_ble_eq_true rfl) (Nat.le_of_ble_eq_true rfl) d_X7_init_79 (fun a10 H hP hD hS => ?_)
  refine W.widen (k := 10) (n := 1829) (Nat.le_refl _) (Nat.le_refl _) ?_
  refine va_putF (D := D) (ci := 7) (v := .ref a10) (ty := (.array .int)) (C := RX7) (T := TX7) (N := 30) hx hb hts in_X7 tyX7 tyX7_ok nmX7 hown hK hP hD hS 0 rfl rfl 21 (by decide) (hts _ kc_4_50) (fun _ h9 => h9) rfl hin rfl (by decide +kernel) rfl rfl (Nat.le_of_ble_eq_true rfl) d_X7_init_81 (fun H locs hP hD hS => ?_)
  have hP : va_P D vwCl ((h0, .inr (7, [.ref a1, .int (nI 0), .int (nI 0), .int (nI 0), .ref a2, .ref a3, .int (nI 0), .ref a4, .int (nI 0), .ref a5, .ref a6, .int (nI 0), .ref a7, .int (nI 0), .int (nI 0), .int (nI 0), .int (nI 0), .ref a8, .int (nI 0), .ref a9, .int (nI 0), .ref a10, .int (nI 0), .null, .null, .null, .null, .null, .null, .null])) :: ((((((((((q_wd g0 Hc ++ [(a1, .inl (cI, (1577, .inl (fun _ => nI 0))))]) ++ [(a2, .inl (cI, (6, .inl (fun _ => nI 0))))]) ++ [(a3, .inl (cI, (6, .inl (fun _ => nI 0))))]) ++ [(a4, .inl (cI, (6, .inl (fun _ => nI 0))))]) ++ [(a5, .inl (cI, (4, .inl (fun _ => nI 0))))]) ++ [(a6, .inl (cI, (4, .inl (fun _ => nI 0))))]) ++ [(a7, .inl (cI, (200, .inl (fun _ => nI 0))))]) ++ [(a8, .inl (cI, (12, .inl (fun _ => nI 0))))]) ++ [(a9, .inl (cI, (6, .inl (fun _ => nI 0))))]) ++ [(a10, .inl (cI, (8, .inl (fun _ => nI 0))))])) H := hP
  have hD : va_D A ((h0, .inr (7, [.ref a1, .int (nI 0), .int (nI 0), .int (nI 0), .ref a2, .ref a3, .int (nI 0), .ref a4, .int (nI 0), .ref a5, .ref a6, .int (nI 0), .ref a7, .int (nI 0), .int (nI 0), .int (nI 0), .int (nI 0), .ref a8, .int (nI 0), .ref a9, .int (nI 0), .ref a10, .int (nI 0), .null, .null, .null, .null, .null, .null, .null])) :: ((((((((((q_wd g0 Hc ++ [(a1, .inl (cI, (1577, .inl (fun _ => nI 0))))]) ++ [(a2, .inl (cI, (6, .inl (fun _ => nI 0))))]) ++ [(a3, .inl (cI, (6, .inl (fun _ => nI 0))))]) ++ [(a4, .inl (cI, (6, .inl (fun _ => nI 0))))]) ++ [(a5, .inl (cI, (4, .inl (fun _ => nI 0))))]) ++ [(a6, .inl (cI, (4, .inl (fun _ => nI 0))))]) ++ [(a7, .inl (cI, (200, .inl (fun _ => nI 0))))]) ++ [(a8, .inl (cI, (12, .inl (fun _ => nI 0))))]) ++ [(a9, .inl (cI, (6, .inl (fun _ => nI 0))))]) ++ [(a10, .inl (cI, (8, .inl (fun _ => nI 0))))])) := hD
  refine lv_aload_n hx hb d_X7_init_84 rfl (lv_at hl 0 rfl) ?_
  refine lv_bipush (v := nI 24) hx hb d_X7_init_85 (by decide) ?_
  refine k_newI (cI := cI) (cQ := cQ) (N' := 24) hx hb (hts _ kc_1_43) hK hP hD hS hA (by decide) (by decide) (by decide) (Nat.le_of_ble_eq_true rfl) (Nat.le_of_ble_eq_true rfl) d_X7_init_87 (fun a11 H hP hD hS => ?_)
  refine W.widen (k := 11) (n := 1853) (Nat.le_refl _) (Nat.le_refl _) ?_
  refine va_putF (D := D) (ci := 7) (v := .ref a11) (ty := (.array .int)) (C := RX7) (T := TX7) (N := 30) hx hb hts in_X7 tyX7 tyX7_ok nmX7 hown hK hP hD hS 0 rfl rfl 23 (by decide) (hts _ kc_4_52) (fun _ h9 => h9) rfl hin rfl (by decide +kernel) rfl rfl (Nat.le_of_ble_eq_true rfl) d_X7_init_89 (fun H locs hP hD hS => ?_)
  have hP : va_P D vwCl ((h0, .inr (7, [.ref a1, .int (nI 0), .int (nI 0), .int (nI 0), .ref a2, .ref a3, .int (nI 0), .ref a4, .int (nI 0), .ref a5, .ref a6, .int (nI 0), .ref a7, .int (nI 0), .int (nI 0), .int (nI 0), .int (nI 0), .ref a8, .int (nI 0), .ref a9, .int (nI 0), .ref a10, .int (nI 0), .ref a11, .null, .null, .null, .null, .null, .null])) :: (((((((((((q_wd g0 Hc ++ [(a1, .inl (cI, (1577, .inl (fun _ => nI 0))))]) ++ [(a2, .inl (cI, (6, .inl (fun _ => nI 0))))]) ++ [(a3, .inl (cI, (6, .inl (fun _ => nI 0))))]) ++ [(a4, .inl (cI, (6, .inl (fun _ => nI 0))))]) ++ [(a5, .inl (cI, (4, .inl (fun _ => nI 0))))]) ++ [(a6, .inl (cI, (4, .inl (fun _ => nI 0))))]) ++ [(a7, .inl (cI, (200, .inl (fun _ => nI 0))))]) ++ [(a8, .inl (cI, (12, .inl (fun _ => nI 0))))]) ++ [(a9, .inl (cI, (6, .inl (fun _ => nI 0))))]) ++ [(a10, .inl (cI, (8, .inl (fun _ => nI 0))))]) ++ [(a11, .inl (cI, (24, .inl (fun _ => nI 0))))])) H := hP
  have hD : va_D A ((h0, .inr (7, [.ref a1, .int (nI 0), .int (nI 0), .int (nI 0), .ref a2, .ref a3, .int (nI 0), .ref a4, .int (nI 0), .ref a5, .ref a6, .int (nI 0), .ref a7, .int (nI 0), .int (nI 0), .int (nI 0), .int (nI 0), .ref a8, .int (nI 0), .ref a9, .int (nI 0), .ref a10, .int (nI 0), .ref a11, .null, .null, .null, .null, .null, .null])) :: (((((((((((q_wd g0 Hc ++ [(a1, .inl (cI, (1577, .inl (fun _ => nI 0))))]) ++ [(a2, .inl (cI, (6, .inl (fun _ => nI 0))))]) ++ [(a3, .inl (cI, (6, .inl (fun _ => nI 0))))]) ++ [(a4, .inl (cI, (6, .inl (fun _ => nI 0))))]) ++ [(a5, .inl (cI, (4, .inl (fun _ => nI 0))))]) ++ [(a6, .inl (cI, (4, .inl (fun _ => nI 0))))]) ++ [(a7, .inl (cI, (200, .inl (fun _ => nI 0))))]) ++ [(a8, .inl (cI, (12, .inl (fun _ => nI 0))))]) ++ [(a9, .inl (cI, (6, .inl (fun _ => nI 0))))]) ++ [(a10, .inl (cI, (8, .inl (fun _ => nI 0))))]) ++ [(a11, .inl (cI, (24, .inl (fun _ => nI 0))))])) := hD
  refine lv_aload_n hx hb d_X7_init_92 rfl (lv_at hl 0 rfl) ?_
  refine lv_iconst (v := nI 5) hx hb d_X7_init_93 (by decide) ?_
  refine k_newI (cI := cI) (cQ := cQ) (N' := 5) hx hb (hts _ kc_1_43) hK hP hD hS hA (by decide) (by decide) (by decide) (Nat.le_of_ble_eq_true rfl) (Nat.le_of_ble_eq_true rfl) d_X7_init_94 (fun a12 H hP hD hS => ?_)
  refine W.widen (k := 12) (n := 1858) (Nat.le_refl _) (Nat.le_refl _) ?_
  refine va_putF (D := D) (ci := 7) (v := .ref a12) (ty := (.array .int)) (C := RX7) (T := TX7) (N := 30) hx hb hts in_X7 tyX7 tyX7_ok nmX7 hown hK hP hD hS 0 rfl rfl 24 (by decide) (hts _ kc_4_53) (fun _ h9 => h9) rfl hin rfl (by decide +kernel) rfl rfl (Nat.le_of_ble_eq_true rfl) d_X7_init_96 (fun H locs hP hD hS => ?_)
  have hP : va_P D vwCl ((h0, .inr (7, [.ref a1, .int (nI 0), .int (nI 0), .int (nI 0), .ref a2, .ref a3, .int (nI 0), .ref a4, .int (nI 0), .ref a5, .ref a6, .int (nI 0), .ref a7, .int (nI 0), .int (nI 0), .int (nI 0), .int (nI 0), .ref a8, .int (nI 0), .ref a9, .int (nI 0), .ref a10, .int (nI 0), .ref a11, .ref a12, .null, .null, .null, .null, .null])) :: ((((((((((((q_wd g0 Hc ++ [(a1, .inl (cI, (1577, .inl (fun _ => nI 0))))]) ++ [(a2, .inl (cI, (6, .inl (fun _ => nI 0))))]) ++ [(a3, .inl (cI, (6, .inl (fun _ => nI 0))))]) ++ [(a4, .inl (cI, (6, .inl (fun _ => nI 0))))]) ++ [(a5, .inl (cI, (4, .inl (fun _ => nI 0))))]) ++ [(a6, .inl (cI, (4, .inl (fun _ => nI 0))))]) ++ [(a7, .inl (cI, (200, .inl (fun _ => nI 0))))]) ++ [(a8, .inl (cI, (12, .inl (fun _ => nI 0))))]) ++ [(a9, .inl (cI, (6, .inl (fun _ => nI 0))))]) ++ [(a10, .inl (cI, (8, .inl (fun _ => nI 0))))]) ++ [(a11, .inl (cI, (24, .inl (fun _ => nI 0))))]) ++ [(a12, .inl (cI, (5, .inl (fun _ => nI 0))))])) H := hP
  have hD : va_D A ((h0, .inr (7, [.ref a1, .int (nI 0), .int (nI 0), .int (nI 0), .ref a2, .ref a3, .int (nI 0), .ref a4, .int (nI 0), .ref a5, .ref a6, .int (nI 0), .ref a7, .int (nI 0), .int (nI 0), .int (nI 0), .int (nI 0), .ref a8, .int (nI 0), .ref a9, .int (nI 0), .ref a10, .int (nI 0), .ref a11, .ref a12, .null, .null, .null, .null, .null])) :: ((((((((((((q_wd g0 Hc ++ [(a1, .inl (cI, (1577, .inl (fun _ => nI 0))))]) ++ [(a2, .inl (cI, (6, .inl (fun _ => nI 0))))]) ++ [(a3, .inl (cI, (6, .inl (fun _ => nI 0))))]) ++ [(a4, .inl (cI, (6, .inl (fun _ => nI 0))))]) ++ [(a5, .inl (cI, (4, .inl (fun _ => nI 0))))]) ++ [(a6, .inl (cI, (4, .inl (fun _ => nI 0))))]) ++ [(a7, .inl (cI, (200, .inl (fun _ => nI 0))))]) ++ [(a8, .inl (cI, (12, .inl (fun _ => nI 0))))]) ++ [(a9, .inl (cI, (6, .inl (fun _ => nI 0))))]) ++ [(a10, .inl (cI, (8, .inl (fun _ => nI 0))))]) ++ [(a11, .inl (cI, (24, .inl (fun _ => nI 0))))]) ++ [(a12, .inl (cI, (5, .inl (fun _ => nI 0))))])) := hD
  refine lv_aload_n hx hb d_X7_init_99 rfl (lv_at hl 0 rfl) ?_
  refine lv_iconst (v := nI 5) hx hb d_X7_init_100 (by decide) ?_
  refine k_newI (cI := cI) (cQ := cQ) (N' := 5) hx hb (hts _ kc_1_43) hK hP hD hS hA (by decide) (by decide) (by decide) (Nat.le_of_ble_eq_true rfl) (Nat.le_of_ble_eq_true rfl) d_X7_init_101 (fun a13 H hP hD hS => ?_)
  refine W.widen (k := 13) (n := 1863) (Nat.le_refl _) (Nat.le_refl _) ?_
  refine va_putF (D := D) (ci := 7) (v := .ref a13) (ty := (.array .int)) (C := RX7) (T := TX7) (N := 30) hx hb hts in_X7 tyX7 tyX7_ok nmX7 hown hK hP hD hS 0 rfl rfl 25 (by decide) (hts _ kc_4_54) (fun _ h9 => h9) rfl hin rfl (by decide +kernel) rfl rfl (Nat.le_of_ble_eq_true rfl) d_X7_init_103 (fun H locs hP hD hS => ?_)
  have hP : va_P D vwCl ((h0, .inr (7, [.ref a1, .int (nI 0), .int (nI 0), .int (nI 0), .ref a2, .ref a3, .int (nI 0), .ref a4, .int (nI 0), .ref a5, .ref a6, .int (nI 0), .ref a7, .int (nI 0), .int (nI 0), .int (nI 0), .int (nI 0), .ref a8, .int (nI 0), .ref a9, .int (nI 0), .ref a10, .int (nI 0), .ref a11, .ref a12, .ref a13, .null, .null, .null, .null])) :: (((((((((((((q_wd g0 Hc ++ [(a1, .inl (cI, (1577, .inl (fun _ => nI 0))))]) ++ [(a2, .inl (cI, (6, .inl (fun _ => nI 0))))]) ++ [(a3, .inl (cI, (6, .inl (fun _ => nI 0))))]) ++ [(a4, .inl (cI, (6, .inl (fun _ => nI 0))))]) ++ [(a5, .inl (cI, (4, .inl (fun _ => nI 0))))]) ++ [(a6, .inl (cI, (4, .inl (fun _ => nI 0))))]) ++ [(a7, .inl (cI, (200, .inl (fun _ => nI 0))))]) ++ [(a8, .inl (cI, (12, .inl (fun _ => nI 0))))]) ++ [(a9, .inl (cI, (6, .inl (fun _ => nI 0))))]) ++ [(a10, .inl (cI, (8, .inl (fun _ => nI 0))))]) ++ [(a11, .inl (cI, (24, .inl (fun _ => nI 0))))]) ++ [(a12, .inl (cI, (5, .inl (fun _ => nI 0))))]) ++ [(a13, .inl (cI, (5, .inl (fun _ => nI 0))))])) H := hP
  have hD : va_D A ((h0, .inr (7, [.ref a1, .int (nI 0), .int (nI 0), .int (nI 0), .ref a2, .ref a3, .int (nI 0), .ref a4, .int (nI 0), .ref a5, .ref a6, .int (nI 0), .ref a7, .int (nI 0), .int (nI 0), .int (nI 0), .int (nI 0), .ref a8, .int (nI 0), .ref a9, .int (nI 0), .ref a10, .int (nI 0), .ref a11, .ref a12, .ref a13, .null, .null, .null, .null])) :: (((((((((((((q_wd g0 Hc ++ [(a1, .inl (cI, (1577, .inl (fun _ => nI 0))))]) ++ [(a2, .inl (cI, (6, .inl (fun _ => nI 0))))]) ++ [(a3, .inl (cI, (6, .inl (fun _ => nI 0))))]) ++ [(a4, .inl (cI, (6, .inl (fun _ => nI 0))))]) ++ [(a5, .inl (cI, (4, .inl (fun _ => nI 0))))]) ++ [(a6, .inl (cI, (4, .inl (fun _ => nI 0))))]) ++ [(a7, .inl (cI, (200, .inl (fun _ => nI 0))))]) ++ [(a8, .inl (cI, (12, .inl (fun _ => nI 0))))]) ++ [(a9, .inl (cI, (6, .inl (fun _ => nI 0))))]) ++ [(a10, .inl (cI, (8, .inl (fun _ => nI 0))))]) ++ [(a11, .inl (cI, (24, .inl (fun _ => nI 0))))]) ++ [(a12, .inl (cI, (5, .inl (fun _ => nI 0))))]) ++ [(a13, .inl (cI, (5, .inl (fun _ => nI 0))))])) := hD
  refine lv_aload_n hx hb d_X7_init_106 rfl (lv_at hl 0 rfl) ?_
  refine lv_bipush (v := nI 6) hx hb d_X7_init_107 (by decide) ?_
  refine k_newI (cI := cI) (cQ := cQ) (N' := 6) hx hb (hts _ kc_1_43) hK hP hD hS hA (by decide) (by decide) (by decide) (Nat.le_of_ble_eq_true rfl) (Nat.le_of_ble_eq_true rfl) d_X7_init_109 (fun a14 H hP hD hS => ?_)
  refine W.widen (k := 14) (n := 1869) (Nat.le_refl _) (Nat.le_refl _) ?_
  refine va_putF (D := D) (ci := 7) (v := .ref a14) (ty := (.array .int)) (C := RX7) (T := TX7) (N := 30) hx hb hts in_X7 tyX7 tyX7_ok nmX7 hown hK hP hD hS 0 rfl rfl 26 (by decide) (hts _ kc_4_55) (fun _ h9 => h9) rfl hin rfl (by decide +kernel) rfl rfl (Nat.le_of_ble_eq_true rfl) d_X7_init_111 (fun H locs hP hD hS => ?_)
  have hP : va_P D vwCl ((h0, .inr (7, [.ref a1, .int (nI 0), .int (nI 0), .int (nI 0), .ref a2, .ref a3, .int (nI 0), .ref a4, .int (nI 0), .ref a5, .ref a6, .int (nI 0), .ref a7, .int (nI 0), .int (nI 0), .int (nI 0), .int (nI 0), .ref a8, .int (nI 0), .ref a9, .int (nI 0), .ref a10, .int (nI 0), .ref a11, .ref a12, .ref a13, .ref a14, .null, .null, .null])) :: ((((((((((((((q_wd g0 Hc ++ [(a1, .inl (cI, (1577, .inl (fun _ => nI 0))))]) ++ [(a2, .inl (cI, (6, .inl (fun _ => nI 0))))]) ++ [(a3, .inl (cI, (6, .inl (fun _ => nI 0))))]) ++ [(a4, .inl (cI, (6, .inl (fun _ => nI 0))))]) ++ [(a5, .inl (cI, (4, .inl (fun _ => nI 0))))]) ++ [(a6, .inl (cI, (4, .inl (fun _ => nI 0))))]) ++ [(a7, .inl (cI, (200, .inl (fun _ => nI 0))))]) ++ [(a8, .inl (cI, (12, .inl (fun _ => nI 0))))]) ++ [(a9, .inl (cI, (6, .inl (fun _ => nI 0))))]) ++ [(a10, .inl (cI, (8, .inl (fun _ => nI 0))))]) ++ [(a11, .inl (cI, (24, .inl (fun _ => nI 0))))]) ++ [(a12, .inl (cI, (5, .inl (fun _ => nI 0))))]) ++ [(a13, .inl (cI, (5, .inl (fun _ => nI 0))))]) ++ [(a14, .inl (cI, (6, .inl (fun _ => nI 0))))])) H := hP
  have hD : va_D A ((h0, .inr (7, [.ref a1, .int (nI 0), .int (nI 0), .int (nI 0), .ref a2, .ref a3, .int (nI 0), .ref a4, .int (nI 0), .ref a5, .ref a6, .int (nI 0), .ref a7, .int (nI 0), .int (nI 0), .int (nI 0), .int (nI 0), .ref a8, .int (nI 0), .ref a9, .int (nI 0), .ref a10, .int (nI 0), .ref a11, .ref a12, .ref a13, .ref a14, .null, .null, .null])) :: ((((((((((((((q_wd g0 Hc ++ [(a1, .inl (cI, (1577, .inl (fun _ => nI 0))))]) ++ [(a2, .inl (cI, (6, .inl (fun _ => nI 0))))]) ++ [(a3, .inl (cI, (6, .inl (fun _ => nI 0))))]) ++ [(a4, .inl (cI, (6, .inl (fun _ => nI 0))))]) ++ [(a5, .inl (cI, (4, .inl (fun _ => nI 0))))]) ++ [(a6, .inl (cI, (4, .inl (fun _ => nI 0))))]) ++ [(a7, .inl (cI, (200, .inl (fun _ => nI 0))))]) ++ [(a8, .inl (cI, (12, .inl (fun _ => nI 0))))]) ++ [(a9, .inl (cI, (6, .inl (fun _ => nI 0))))]) ++ [(a10, .inl (cI, (8, .inl (fun _ => nI 0))))]) ++ [(a11, .inl (cI, (24, .inl (fun _ => nI 0))))]) ++ [(a12, .inl (cI, (5, .inl (fun _ => nI 0))))]) ++ [(a13, .inl (cI, (5, .inl (fun _ => nI 0))))]) ++ [(a14, .inl (cI, (6, .inl (fun _ => nI 0))))])) := hD
  refine lv_aload_n hx hb d_X7_init_114 rfl (lv_at hl 0 rfl) ?_
  refine lv_iconst (v := nI 4) hx hb d_X7_init_115 (by decide) ?_
  refine k_newI (cI := cI) (cQ := cQ) (N' := 4) hx hb (hts _ kc_1_43) hK hP hD hS hA (by decide) (by decide) (by decide) (Nat.le_of_ble_eq_true rfl) (Nat.le_of_ble_eq_true rfl) d_X7_init_116 (fun a15 H hP hD hS => ?_)
  refine W.widen (k := 15) (n := 1873) (Nat.le_refl _) (Nat.le_refl _) ?_
  refine va_putF (D := D) (ci := 7) (v := .ref a15) (ty := (.array .int)) (C := RX7) (T := TX7) (N := 30) hx hb hts in_X7 tyX7 tyX7_ok nmX7 hown hK hP hD hS 0 rfl rfl 27 (by decide) (hts _ kc_4_56) (fun _ h9 => h9) rfl hin rfl (by decide +kernel) rfl rfl (Nat.le_of_ble_eq_true rfl) d_X7_init_118 (fun H locs hP hD hS => ?_)
  have hP : va_P D vwCl ((h0, .inr (7, [.ref a1, .int (nI 0), .int (nI 0), .int (nI 0), .ref a2, .ref a3, .int (nI 0), .ref a4, .int (nI 0), .ref a5, .ref a6, .int (nI 0), .ref a7, .int (nI 0), .int (nI 0), .int (nI 0), .int (nI 0), .ref a8, .int (nI 0), .ref a9, .int (nI 0), .ref a10, .int (nI 0), .ref a11, .ref a12, .ref a13, .ref a14, .ref a15, .null, .null])) :: (((((((((((((((q_wd g0 Hc ++ [(a1, .inl (cI, (1577, .inl (fun _ => nI 0))))]) ++ [(a2, .inl (cI, (6, .inl (fun _ => nI 0))))]) ++ [(a3, .inl (cI, (6, .inl (fun _ => nI 0))))]) ++ [(a4, .inl (cI, (6, .inl (fun _ => nI 0))))]) ++ [(a5, .inl (cI, (4, .inl (fun _ => nI 0))))]) ++ [(a6, .inl (cI, (4, .inl (fun _ => nI 0))))]) ++ [(a7, .inl (cI, (200, .inl (fun _ => nI 0))))]) ++ [(a8, .inl (cI, (12, .inl (fun _ => nI 0))))]) ++ [(a9, .inl (cI, (6, .inl (fun _ => nI 0))))]) ++ [(a10, .inl (cI, (8, .inl (fun _ => nI 0))))]) ++ [(a11, .inl (cI, (24, .inl (fun _ => nI 0))))]) ++ [(a12, .inl (cI, (5, .inl (fun _ => nI 0))))]) ++ [(a13, .inl (cI, (5, .inl (fun _ => nI 0))))]) ++ [(a14, .inl (cI, (6, .inl (fun _ => nI 0))))]) ++ [(a15, .inl (cI, (4, .inl (fun _ => nI 0))))])) H := hP
  have hD : va_D A ((h0, .inr (7, [.ref a1, .int (nI 0), .int (nI 0), .int (nI 0), .ref a2, .ref a3, .int (nI 0), .ref a4, .int (nI 0), .ref a5, .ref a6, .int (nI 0), .ref a7, .int (nI 0), .int (nI 0), .int (nI 0), .int (nI 0), .ref a8, .int (nI 0), .ref a9, .int (nI 0), .ref a10, .int (nI 0), .ref a11, .ref a12, .ref a13, .ref a14, .ref a15, .null, .null])) :: (((((((((((((((q_wd g0 Hc ++ [(a1, .inl (cI, (1577, .inl (fun _ => nI 0))))]) ++ [(a2, .inl (cI, (6, .inl (fun _ => nI 0))))]) ++ [(a3, .inl (cI, (6, .inl (fun _ => nI 0))))]) ++ [(a4, .inl (cI, (6, .inl (fun _ => nI 0))))]) ++ [(a5, .inl (cI, (4, .inl (fun _ => nI 0))))]) ++ [(a6, .inl (cI, (4, .inl (fun _ => nI 0))))]) ++ [(a7, .inl (cI, (200, .inl (fun _ => nI 0))))]) ++ [(a8, .inl (cI, (12, .inl (fun _ => nI 0))))]) ++ [(a9, .inl (cI, (6, .inl (fun _ => nI 0))))]) ++ [(a10, .inl (cI, (8, .inl (fun _ => nI 0))))]) ++ [(a11, .inl (cI, (24, .inl (fun _ => nI 0))))]) ++ [(a12, .inl (cI, (5, .inl (fun _ => nI 0))))]) ++ [(a13, .inl (cI, (5, .inl (fun _ => nI 0))))]) ++ [(a14, .inl (cI, (6, .inl (fun _ => nI 0))))]) ++ [(a15, .inl (cI, (4, .inl (fun _ => nI 0))))])) := hD
  refine lv_aload_n hx hb d_X7_init_121 rfl (lv_at hl 0 rfl) ?_
  refine lv_bipush (v := nI 7) hx hb d_X7_init_122 (by decide) ?_
  refine k_newI (cI := cI) (cQ := cQ) (N' := 7) hx hb (hts _ kc_1_43) hK hP hD hS hA (by decide) (by decide) (by decide) (Nat.le_of_ble_eq_true rfl) (Nat.le_of_ble_eq_true rfl) d_X7_init_124 (fun a16 H hP hD hS => ?_)
  refine W.widen (k := 16) (n := 1880) (Nat.le_refl _) (Nat.le_refl _) ?_
  refine va_putF (D := D) (ci := 7) (v := .ref a16) (ty := (.array .int)) (C := RX7) (T := TX7) (N := 30) hx hb hts in_X7 tyX7 tyX7_ok nmX7 hown hK hP hD hS 0 rfl rfl 28 (by decide) (hts _ kc_4_57) (fun _ h9 => h9) rfl hin rfl (by decide +kernel) rfl rfl (Nat.le_of_ble_eq_true rfl) d_X7_init_126 (fun H locs hP hD hS => ?_)
  have hP : va_P D vwCl ((h0, .inr (7, [.ref a1, .int (nI 0), .int (nI 0), .int (nI 0), .ref a2, .ref a3, .int (nI 0), .ref a4, .int (nI 0), .ref a5, .ref a6, .int (nI 0), .ref a7, .int (nI 0), .int (nI 0), .int (nI 0), .int (nI 0), .ref a8, .int (nI 0), .ref a9, .int (nI 0), .ref a10, .int (nI 0), .ref a11, .ref a12, .ref a13, .ref a14, .ref a15, .ref a16, .null])) :: ((((((((((((((((q_wd g0 Hc ++ [(a1, .inl (cI, (1577, .inl (fun _ => nI 0))))]) ++ [(a2, .inl (cI, (6, .inl (fun _ => nI 0))))]) ++ [(a3, .inl (cI, (6, .inl (fun _ => nI 0))))]) ++ [(a4, .inl (cI, (6, .inl (fun _ => nI 0))))]) ++ [(a5, .inl (cI, (4, .inl (fun _ => nI 0))))]) ++ [(a6, .inl (cI, (4, .inl (fun _ => nI 0))))]) ++ [(a7, .inl (cI, (200, .inl (fun _ => nI 0))))]) ++ [(a8, .inl (cI, (12, .inl (fun _ => nI 0))))]) ++ [(a9, .inl (cI, (6, .inl (fun _ => nI 0))))]) ++ [(a10, .inl (cI, (8, .inl (fun _ => nI 0))))]) ++ [(a11, .inl (cI, (24, .inl (fun _ => nI 0))))]) ++ [(a12, .inl (cI, (5, .inl (fun _ => nI 0))))]) ++ [(a13, .inl (cI, (5, .inl (fun _ => nI 0))))]) ++ [(a14, .inl (cI, (6, .inl (fun _ => nI 0))))]) ++ [(a15, .inl (cI, (4, .inl (fun _ => nI 0))))]) ++ [(a16, .inl (cI, (7, .inl (fun _ => nI 0))))])) H := hP
  have hD : va_D A ((h0, .inr (7, [.ref a1, .int (nI 0), .int (nI 0), .int (nI 0), .ref a2, .ref a3, .int (nI 0), .ref a4, .int (nI 0), .ref a5, .ref a6, .int (nI 0), .ref a7, .int (nI 0), .int (nI 0), .int (nI 0), .int (nI 0), .ref a8, .int (nI 0), .ref a9, .int (nI 0), .ref a10, .int (nI 0), .ref a11, .ref a12, .ref a13, .ref a14, .ref a15, .ref a16, .null])) :: ((((((((((((((((q_wd g0 Hc ++ [(a1, .inl (cI, (1577, .inl (fun _ => nI 0))))]) ++ [(a2, .inl (cI, (6, .inl (fun _ => nI 0))))]) ++ [(a3, .inl (cI, (6, .inl (fun _ => nI 0))))]) ++ [(a4, .inl (cI, (6, .inl (fun _ => nI 0))))]) ++ [(a5, .inl (cI, (4, .inl (fun _ => nI 0))))]) ++ [(a6, .inl (cI, (4, .inl (fun _ => nI 0))))]) ++ [(a7, .inl (cI, (200, .inl (fun _ => nI 0))))]) ++ [(a8, .inl (cI, (12, .inl (fun _ => nI 0))))]) ++ [(a9, .inl (cI, (6, .inl (fun _ => nI 0))))]) ++ [(a10, .inl (cI, (8, .inl (fun _ => nI 0))))]) ++ [(a11, .inl (cI, (24, .inl (fun _ => nI 0))))]) ++ [(a12, .inl (cI, (5, .inl (fun _ => nI 0))))]) ++ [(a13, .inl (cI, (5, .inl (fun _ => nI 0))))]) ++ [(a14, .inl (cI, (6, .inl (fun _ => nI 0))))]) ++ [(a15, .inl (cI, (4, .inl (fun _ => nI 0))))]) ++ [(a16, .inl (cI, (7, .inl (fun _ => nI 0))))])) := hD
  refine lv_aload_n hx hb d_X7_init_129 rfl (lv_at hl 0 rfl) ?_
  refine lv_bipush (v := nI 6) hx hb d_X7_init_130 (by decide) ?_
  refine k_newI (cI := cI) (cQ := cQ) (N' := 6) hx hb (hts _ kc_1_43) hK hP hD hS hA (by decide) (by decide) (by decide) (Nat.le_of_ble_eq_true rfl) (Nat.le_of_ble_eq_true rfl) d_X7_init_132 (fun a17 H hP hD hS => ?_)
  refine W.widen (k := 17) (n := 1886) (Nat.le_refl _) (Nat.le_refl _) ?_
  refine va_putF (D := D) (ci := 7) (v := .ref a17) (ty := (.array .int)) (C := RX7) (T := TX7) (N := 30) hx hb hts in_X7 tyX7 tyX7_ok nmX7 hown hK hP hD hS 0 rfl rfl 29 (by decide) (hts _ kc_4_58) (fun _ h9 => h9) rfl hin rfl (by decide +kernel) rfl rfl (Nat.le_of_ble_eq_true rfl) d_X7_init_134 (fun H locs hP hD hS => ?_)
  have hP : va_P D vwCl ((h0, .inr (7, [.ref a1, .int (nI 0), .int (nI 0), .int (nI 0), .ref a2, .ref a3, .int (nI 0), .ref a4, .int (nI 0), .ref a5, .ref a6, .int (nI 0), .ref a7, .int (nI 0), .int (nI 0), .int (nI 0), .int (nI 0), .ref a8, .int (nI 0), .ref a9, .int (nI 0), .ref a10, .int (nI 0), .ref a11, .ref a12, .ref a13, .ref a14, .ref a15, .ref a16, .ref a17])) :: (((((((((((((((((q_wd g0 Hc ++ [(a1, .inl (cI, (1577, .inl (fun _ => nI 0))))]) ++ [(a2, .inl (cI, (6, .inl (fun _ => nI 0))))]) ++ [(a3, .inl (cI, (6, .inl (fun _ => nI 0))))]) ++ [(a4, .inl (cI, (6, .inl (fun _ => nI 0))))]) ++ [(a5, .inl (cI, (4, .inl (fun _ => nI 0))))]) ++ [(a6, .inl (cI, (4, .inl (fun _ => nI 0))))]) ++ [(a7, .inl (cI, (200, .inl (fun _ => nI 0))))]) ++ [(a8, .inl (cI, (12, .inl (fun _ => nI 0))))]) ++ [(a9, .inl (cI, (6, .inl (fun _ => nI 0))))]) ++ [(a10, .inl (cI, (8, .inl (fun _ => nI 0))))]) ++ [(a11, .inl (cI, (24, .inl (fun _ => nI 0))))]) ++ [(a12, .inl (cI, (5, .inl (fun _ => nI 0))))]) ++ [(a13, .inl (cI, (5, .inl (fun _ => nI 0))))]) ++ [(a14, .inl (cI, (6, .inl (fun _ => nI 0))))]) ++ [(a15, .inl (cI, (4, .inl (fun _ => nI 0))))]) ++ [(a16, .inl (cI, (7, .inl (fun _ => nI 0))))]) ++ [(a17, .inl (cI, (6, .inl (fun _ => nI 0))))])) H := hP
  have hD : va_D A ((h0, .inr (7, [.ref a1, .int (nI 0), .int (nI 0), .int (nI 0), .ref a2, .ref a3, .int (nI 0), .ref a4, .int (nI 0), .ref a5, .ref a6, .int (nI 0), .ref a7, .int (nI 0), .int (nI 0), .int (nI 0), .int (nI 0), .ref a8, .int (nI 0), .ref a9, .int (nI 0), .ref a10, .int (nI 0), .ref a11, .ref a12, .ref a13, .ref a14, .ref a15, .ref a16, .ref a17])) :: (((((((((((((((((q_wd g0 Hc ++ [(a1, .inl (cI, (1577, .inl (fun _ => nI 0))))]) ++ [(a2, .inl (cI, (6, .inl (fun _ => nI 0))))]) ++ [(a3, .inl (cI, (6, .inl (fun _ => nI 0))))]) ++ [(a4, .inl (cI, (6, .inl (fun _ => nI 0))))]) ++ [(a5, .inl (cI, (4, .inl (fun _ => nI 0))))]) ++ [(a6, .inl (cI, (4, .inl (fun _ => nI 0))))]) ++ [(a7, .inl (cI, (200, .inl (fun _ => nI 0))))]) ++ [(a8, .inl (cI, (12, .inl (fun _ => nI 0))))]) ++ [(a9, .inl (cI, (6, .inl (fun _ => nI 0))))]) ++ [(a10, .inl (cI, (8, .inl (fun _ => nI 0))))]) ++ [(a11, .inl (cI, (24, .inl (fun _ => nI 0))))]) ++ [(a12, .inl (cI, (5, .inl (fun _ => nI 0))))]) ++ [(a13, .inl (cI, (5, .inl (fun _ => nI 0))))]) ++ [(a14, .inl (cI, (6, .inl (fun _ => nI 0))))]) ++ [(a15, .inl (cI, (4, .inl (fun _ => nI 0))))]) ++ [(a16, .inl (cI, (7, .inl (fun _ => nI 0))))]) ++ [(a17, .inl (cI, (6, .inl (fun _ => nI 0))))])) := hD
  have hP : va_P D vwCl (k_mobj h0 (fun j => [0, a1, a2, a3, a4, a5, a6, a7, a8, a9, a10, a11, a12, a13, a14, a15, a16, a17].getD j 0) :: (q_wd g0 Hc ++ k_mrows cI (fun j => [0, a1, a2, a3, a4, a5, a6, a7, a8, a9, a10, a11, a12, a13, a14, a15, a16, a17].getD j 0))) H := by
    simp only [List.append_assoc, List.cons_append, List.nil_append] at hP
    exact hP
  have hD : va_D A (k_mobj h0 (fun j => [0, a1, a2, a3, a4, a5, a6, a7, a8, a9, a10, a11, a12, a13, a14, a15, a16, a17].getD j 0) :: (q_wd g0 Hc ++ k_mrows cI (fun j => [0, a1, a2, a3, a4, a5, a6, a7, a8, a9, a10, a11, a12, a13, a14, a15, a16, a17].getD j 0))) := by
    simp only [List.append_assoc, List.cons_append, List.nil_append] at hD
    exact hD
  obtain ⟨hP', hD'⟩ := k_m_P (D := D) (cI := cI) (cQ := cQ) (b := b) (sz := s.heap.size) hnp hc hb9 hP hD
  have hnp1 : q_np (k_g D cI cQ (k_ad1 (q_ad g0) h0 (fun j => [0, a1, a2, a3, a4, a5, a6, a7, a8, a9, a10, a11, a12, a13, a14, a15, a16, a17].getD j 0) b s.heap.size)) = 183 := rfl
  have hbl : b < s.heap.size := by
    obtain ⟨scr, hscr, -⟩ := hX
    exact (Array.getElem?_eq_some_iff.mp hscr).1
  have hAb : ¬ A b := by
    rw [← hAe]
    rintro (⟨k, e9, hk⟩ | h)
    · exact hbw k _ hk rfl
    · omega
  have hJ : q_inj (k_g D cI cQ (k_ad1 (q_ad g0) h0 (fun j => [0, a1, a2, a3, a4, a5, a6, a7, a8, a9, a10, a11, a12, a13, a14, a15, a16, a17].getD j 0) b s.heap.size)) := by
    refine ⟨fun i j hi hj e9 => ?_, fun _ => hbl⟩
    have nb : ∀ p, p < 183 → q_ad (k_g D cI cQ (k_ad1 (q_ad g0) h0 (fun j => [0, a1, a2, a3, a4, a5, a6, a7, a8, a9, a10, a11, a12, a13, a14, a15, a16, a17].getD j 0) b s.heap.size)) p ≠ b := fun p hp e => hAb (e ▸ hD'.2 p _ (q_wd_get _ _ (by rw [hnp1]; exact hp)))
    by_cases ci : i < 183
    · by_cases cj : j < 183
      · exact hD'.1 i j _ _ (q_wd_get _ _ (by rw [hnp1]; exact ci)) (q_wd_get _ _ (by rw [hnp1]; exact cj)) e9
      · have ej : j = 183 := by omega
        subst ej
        exact absurd e9 (nb i ci)
    · have ei : i = 183 := by omega
      subst ei
      by_cases cj : j < 183
      · exact absurd e9.symm (nb j cj)
      · omega
  have hAq : ∀ q, A q → q_A (k_g D cI cQ (k_ad1 (q_ad g0) h0 (fun j => [0, a1, a2, a3, a4, a5, a6, a7, a8, a9, a10, a11, a12, a13, a14, a15, a16, a17].getD j 0) b s.heap.size)) q := fun q hq => by
    rw [← hAe] at hq
    rcases hq with ⟨k, e9, hk⟩ | h
    · cases k with
      | zero =>
        cases hk
        exact Or.inl ⟨165, by rw [hnp1]; decide, rfl⟩
      | succ k =>
        obtain ⟨h1, h2⟩ := q_wd_in (g := g0) (H := Hc) hk
        refine Or.inl ⟨k, by rw [hnp1]; omega, ?_⟩
        cases h2
        exact (k_ad1_lt _ _ _ _ _ _ _ _ (by omega)).symm
    · exact Or.inr ⟨by show 1 ≤ s.heap.size; omega, h⟩
  have hqA : ∀ q, q_A (k_g D cI cQ (k_ad1 (q_ad g0) h0 (fun j => [0, a1, a2, a3, a4, a5, a6, a7, a8, a9, a10, a11, a12, a13, a14, a15, a16, a17].getD j 0) b s.heap.size)) q → A q := fun q hq => by
    rcases hq with ⟨p, hp, rfl⟩ | ⟨-, h⟩
    · exact hD'.2 p _ (q_wd_get _ _ hp)
    · exact hA q h
  refine k_mTail (sx := sx) (g := (k_g D cI cQ (k_ad1 (q_ad g0) h0 (fun j => [0, a1, a2, a3, a4, a5, a6, a7, a8, a9, a10, a11, a12, a13, a14, a15, a16, a17].getD j 0) b s.heap.size))) Hc hnp1 ⟨hx, hb, hml, hown, hts, hK, hX, hbl, hN, hJ, ⟨rfl, rfl, Nat.le_of_ble_eq_true rfl, Nat.le_of_ble_eq_true rfl, Nat.le_of_ble_eq_true rfl, Nat.le_of_ble_eq_true rfl⟩, ⟨fun pc x H Hh locs lsA ty hrt => (by cases hrt), fun pc H9 Hh locs lsA _ hd9 hPr hPh hS => ?_, fun pc k q H Hh locs lsA C hrt => (by cases hrt)⟩⟩ H locs ls hl hP' (k_Smono hS hAq)
  obtain ⟨H', e9, hRM, ho⟩ := hPr
  cases e9
  exact W.vret hx hb hr (fun t ht hW => ⟨⟨((k_g D cI cQ (k_ad1 (q_ad g0) h0 (fun j => [0, a1, a2, a3, a4, a5, a6, a7, a8, a9, a10, a11, a12, a13, a14, a15, a16, a17].getD j 0) b s.heap.size)), H9), rfl, ⟨rfl, rfl, hnp1, hJ, rfl, rfl, (fun p hp => k_ad1_lt _ _ _ _ _ _ _ _ hp), rfl, ho, hRM⟩, by rw [ht]; exact hPh, (q_wd_D hJ H9).weaken (fun _ _ _ h => hqA _ h)⟩, (k_Smono hS hqA).F ht⟩) (fun q hq => hqA _ (hS.2.2 q hq)) hd9
