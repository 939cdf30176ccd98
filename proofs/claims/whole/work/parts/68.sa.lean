/-! StoneApologies() -/
theorem kc_1_2 : Cond.initialized RX5 ∈ q_tw := q_w1 (i := 2) rfl rfl
theorem kc_1_3 : Cond.initialized RX0 ∈ q_tw := q_w1 (i := 3) rfl rfl
theorem kc_1_5 : Cond.initialized RX2 ∈ q_tw := q_w1 (i := 5) rfl rfl
theorem kc_1_6 : Cond.initialized RX4 ∈ q_tw := q_w1 (i := 6) rfl rfl
theorem kc_1_7 : Cond.initialized RX1 ∈ q_tw := q_w1 (i := 7) rfl rfl
theorem kc_1_20 : Cond.methodLink RX6 1 Lib.objectInit ∈ q_tw := q_w1 (i := 20) rfl rfl
theorem kc_1_23 : Cond.classLink RX6 7 RX5 ∈ q_tw := q_w1 (i := 23) rfl rfl
theorem kc_1_24 : Cond.instantiable RX5 4 ∈ q_tw := q_w1 (i := 24) rfl rfl
theorem kc_1_26 : Cond.instanceMethod yX5_init ∈ q_tw := q_w1 (i := 26) rfl rfl
theorem kc_1_27 : Cond.code yX5_init cX5_init 1 none ∈ q_tw := q_w1 (i := 27) rfl rfl
theorem kc_1_44 : Cond.classLink RX6 16 RX0 ∈ q_tw := q_w1 (i := 44) rfl rfl
theorem kc_1_45 : Cond.instantiable RX0 12 ∈ q_tw := q_w1 (i := 45) rfl rfl
theorem kc_1_47 : Cond.instanceMethod yX0_init ∈ q_tw := q_w1 (i := 47) rfl rfl
theorem kc_1_48 : Cond.code yX0_init cX0_init 1 none ∈ q_tw := q_w1 (i := 48) rfl rfl
theorem kc_1_107 : Cond.classLink RX6 26 RX3 ∈ q_tw := q_w1 (i := 107) rfl rfl
theorem kc_1_109 : Cond.methodLink RX6 28 yX3_init ∈ q_tw := q_w1 (i := 109) rfl rfl
theorem kc_1_148 : Cond.classLink RX6 38 RX2 ∈ q_tw := q_w1 (i := 148) rfl rfl
theorem kc_1_149 : Cond.instantiable RX2 3 ∈ q_tw := q_w1 (i := 149) rfl rfl
theorem kc_1_150 : Cond.methodLink RX6 40 yX2_init ∈ q_tw := q_w1 (i := 150) rfl rfl
theorem kc_1_151 : Cond.instanceMethod yX2_init ∈ q_tw := q_w1 (i := 151) rfl rfl
theorem kc_1_152 : Cond.code yX2_init cX2_init 4 none ∈ q_tw := q_w1 (i := 152) rfl rfl
theorem kc_1_168 : Cond.classLink RX6 50 RX4 ∈ q_tw := q_w1 (i := 168) rfl rfl
theorem kc_1_169 : Cond.instantiable RX4 2 ∈ q_tw := q_w1 (i := 169) rfl rfl
theorem kc_1_170 : Cond.methodLink RX6 52 yX4_init ∈ q_tw := q_w1 (i := 170) rfl rfl
theorem kc_1_171 : Cond.instanceMethod yX4_init ∈ q_tw := q_w1 (i := 171) rfl rfl
theorem kc_1_172 : Cond.code yX4_init cX4_init 2 none ∈ q_tw := q_w1 (i := 172) rfl rfl
theorem kc_1_182 : Cond.classLink RX6 59 RX1 ∈ q_tw := q_w1 (i := 182) rfl rfl
theorem kc_1_183 : Cond.instantiable RX1 5 ∈ q_tw := q_w1 (i := 183) rfl rfl
theorem kc_1_184 : Cond.methodLink RX6 61 yX1_init ∈ q_tw := q_w1 (i := 184) rfl rfl
theorem kc_1_185 : Cond.instanceMethod yX1_init ∈ q_tw := q_w1 (i := 185) rfl rfl
theorem kc_1_186 : Cond.code yX1_init cX1_init 3 none ∈ q_tw := q_w1 (i := 186) rfl rfl
theorem kc_2_118 : Cond.fieldLink RX6 19 RX6 "bed" "LStoneApologies$Bed;" ∈ q_tw := q_w2 (i := 118) rfl rfl
theorem kc_2_119 : Cond.fieldLink RX6 23 RX6 "draft" "LStoneApologies$Bed;" ∈ q_tw := q_w2 (i := 119) rfl rfl
theorem kc_2_120 : Cond.fieldLink RX6 31 RX6 "now" "LStoneApologies$Quarry;" ∈ q_tw := q_w2 (i := 120) rfl rfl
theorem kc_2_121 : Cond.fieldLink RX6 35 RX6 "trial" "LStoneApologies$Quarry;" ∈ q_tw := q_w2 (i := 121) rfl rfl
theorem kc_2_122 : Cond.fieldLink RX6 43 RX6 "past" "LStoneApologies$Pile;" ∈ q_tw := q_w2 (i := 122) rfl rfl
theorem kc_2_123 : Cond.fieldLink RX6 47 RX6 "kept" "LStoneApologies$Pile;" ∈ q_tw := q_w2 (i := 123) rfl rfl
theorem kc_2_124 : Cond.fieldLink RX6 55 RX6 "rows" "LStoneApologies$Rows;" ∈ q_tw := q_w2 (i := 124) rfl rfl
theorem kc_2_125 : Cond.fieldLink RX6 62 RX6 "orders" "LStoneApologies$Orders;" ∈ q_tw := q_w2 (i := 125) rfl rfl
theorem k_all_P {h0 t0 : Nat} {uT : Nat → Nat} {b1 : Nat} {uB : Nat → Nat} {b2 : Nat} {uC : Nat → Nat} {n0 : Nat} {uN : Nat → Nat} {r0 : Nat} {uR : Nat → Nat} {p8 : Nat} {P8 : Nat × (Nat → Nat → Nat)} {p2 : Nat} {P2 : Nat × (Nat → Nat → Nat)} {w0 : Nat} {uW : Nat → Nat} {o0 : Nat} {uO : (Nat → Nat) × (Nat → Nat → Nat)} {D : va_G} {cI cQ : ClassId} {b sz hs : Nat} {A : Nat → Prop} {H : Heap} (h : va_P D vwCl (k_all cI cQ h0 t0 uT b1 uB b2 uC n0 uN r0 uR p8 P8 p2 P2 w0 uW o0 uO) H) (hD : va_D A (k_all cI cQ h0 t0 uT b1 uB b2 uC n0 uN r0 uR p8 P8 p2 P2 w0 uW o0 uO)) : va_P D vwCl (q_wd (k_g D cI cQ (k_ad h0 t0 uT b1 uB b2 uC n0 uN r0 uR p8 P8 p2 P2 w0 uW o0 uO b sz hs)) (fun _ _ => nI 0)) H ∧ va_D A (q_wd (k_g D cI cQ (k_ad h0 t0 uT b1 uB b2 uC n0 uN r0 uR p8 P8 p2 P2 w0 uW o0 uO b sz hs)) (fun _ _ => nI 0)) := by
  rw [k_all_eq]
  have h37 : va_at D vwCl (P8.1, k_rf cQ 8 (fun j => k_ad h0 t0 uT b1 uB b2 uC n0 uN r0 uR p8 P8 p2 P2 w0 uW o0 uO b sz hs (37 + 1 + 7 * j))) H := k_rf_at (F := P8.2) (h 37 _ rfl) (fun j hj => k_ad_8 j hj)
  have h95 : va_at D vwCl (P2.1, k_rf cQ 2 (fun j => k_ad h0 t0 uT b1 uB b2 uC n0 uN r0 uR p8 P8 p2 P2 w0 uW o0 uO b sz hs (95 + 1 + 7 * j))) H := k_rf_at (F := P2.2) (h 95 _ rfl) (fun j hj => k_ad_2 j hj)
  have h113 : va_at D vwCl (uO.1 1, k_rf cQ 7 (fun j => k_ad h0 t0 uT b1 uB b2 uC n0 uN r0 uR p8 P8 p2 P2 w0 uW o0 uO b sz hs (113 + 1 + 7 * j))) H := k_rf_at (F := uO.2) (h 113 _ rfl) (fun j hj => k_ad_7 j hj)
  have e37 : (k_all cI cQ h0 t0 uT b1 uB b2 uC n0 uN r0 uR p8 P8 p2 P2 w0 uW o0 uO)[37]? = some (P8.1, k_ar cQ 8 P8.2 8) := rfl
  have e95 : (k_all cI cQ h0 t0 uT b1 uB b2 uC n0 uN r0 uR p8 P8 p2 P2 w0 uW o0 uO)[95]? = some (P2.1, k_ar cQ 2 P2.2 2) := rfl
  have e113 : (k_all cI cQ h0 t0 uT b1 uB b2 uC n0 uN r0 uR p8 P8 p2 P2 w0 uW o0 uO)[113]? = some (uO.1 1, k_ar cQ 7 uO.2 7) := rfl
  have s1 := h.set hD e37 h37 (fun _ _ => rfl)
  have t1 := hD.set (e := k_rf cQ 8 (fun j => k_ad h0 t0 uT b1 uB b2 uC n0 uN r0 uR p8 P8 p2 P2 w0 uW o0 uO b sz hs (37 + 1 + 7 * j))) e37
  have e95' := (List.getElem?_set_ne (l := k_all cI cQ h0 t0 uT b1 uB b2 uC n0 uN r0 uR p8 P8 p2 P2 w0 uW o0 uO) (a := (P8.1, k_rf cQ 8 (fun j => k_ad h0 t0 uT b1 uB b2 uC n0 uN r0 uR p8 P8 p2 P2 w0 uW o0 uO b sz hs (37 + 1 + 7 * j)))) (show 37 ≠ 95 by decide)).trans e95
  have s2 := s1.set t1 e95' h95 (fun _ _ => rfl)
  have t2 := t1.set (e := k_rf cQ 2 (fun j => k_ad h0 t0 uT b1 uB b2 uC n0 uN r0 uR p8 P8 p2 P2 w0 uW o0 uO b sz hs (95 + 1 + 7 * j))) e95'
  have e113' := (List.getElem?_set_ne (l := (k_all cI cQ h0 t0 uT b1 uB b2 uC n0 uN r0 uR p8 P8 p2 P2 w0 uW o0 uO).set 37 (P8.1, k_rf cQ 8 (fun j => k_ad h0 t0 uT b1 uB b2 uC n0 uN r0 uR p8 P8 p2 P2 w0 uW o0 uO b sz hs (37 + 1 + 7 * j)))) (a := (P2.1, k_rf cQ 2 (fun j => k_ad h0 t0 uT b1 uB b2 uC n0 uN r0 uR p8 P8 p2 P2 w0 uW o0 uO b sz hs (95 + 1 + 7 * j)))) (show 95 ≠ 113 by decide)).trans ((List.getElem?_set_ne (l := k_all cI cQ h0 t0 uT b1 uB b2 uC n0 uN r0 uR p8 P8 p2 P2 w0 uW o0 uO) (a := (P8.1, k_rf cQ 8 (fun j => k_ad h0 t0 uT b1 uB b2 uC n0 uN r0 uR p8 P8 p2 P2 w0 uW o0 uO b sz hs (37 + 1 + 7 * j)))) (show 37 ≠ 113 by decide)).trans e113)
  exact ⟨s2.set t2 e113' h113 (fun _ _ => rfl), t2.set e113'⟩
theorem k_inj {g : QG} {D : va_G} {A : Nat → Prop} {H0 : QH} {H : Heap} {hs : Nat} (hnp : q_np g = 165) (hP : va_P D vwCl (q_wd g H0) H) (hD : va_D A (q_wd g H0)) (hb : ¬ A (q_ad g 183)) (hsz : H.size ≤ hs) (hbl : q_ad g 183 < hs) (h3 : ∀ p, 165 ≤ p → p < 183 → q_ad g p = hs + p) (h5 : 1 ≤ q_ad g 185 → q_ad g 183 < q_ad g 185) : q_inj g := by
  have lt : ∀ p, p < 165 → q_ad g p < hs := fun p hp => Nat.lt_of_lt_of_le ((hP p _ (q_wd_get g H0 (by omega))).lt) hsz
  have nb : ∀ p, p < 165 → q_ad g p ≠ q_ad g 183 := fun p hp e => hb (e ▸ hD.2 p _ (q_wd_get g H0 (by omega)))
  refine ⟨fun i j hi hj e => ?_, h5⟩
  by_cases ci : i < 165
  · by_cases cj : j < 165
    · exact hD.1 i j _ _ (q_wd_get g H0 (by omega)) (q_wd_get g H0 (by omega)) e
    · by_cases c2 : j < 183
      · have := lt i ci
        rw [e, h3 j (by omega) c2] at this
        omega
      · have : j = 183 := by omega
        subst this
        exact absurd e (nb i ci)
  · by_cases cj : j < 165
    · by_cases c2 : i < 183
      · have := lt j cj
        rw [← e, h3 i (by omega) c2] at this
        omega
      · have : i = 183 := by omega
        subst this
        exact absurd e.symm (nb j cj)
    · by_cases c2 : i < 183
      · rw [h3 i (by omega) c2] at e
        by_cases c3 : j < 183
        · rw [h3 j (by omega) c3] at e
          omega
        · have : j = 183 := by omega
          subst this
          omega
      · have ei : i = 183 := by omega
        subst ei
        by_cases c3 : j < 183
        · rw [h3 j (by omega) c3] at e
          omega
        · omega
theorem k_Smono {A B : Nat → Prop} {H0 H : Heap} {locs : List Loc} (h : va_S A H0 H locs) (hAB : ∀ q, A q → B q) : va_S B H0 H locs := ⟨h.1, fun q h1 h2 => h.2.1 q h1 (fun k => h2 (hAB q k)), fun l hl => hAB _ (h.2.2 l hl)⟩
theorem k_saTail {sx : QX} {g : QG} {p : Program} {l : Launch} {e : Env} {R : Room} {s : State} {m : MethodId} {args : Array Value} {below : List Frame} {meth : Method} {c : Code} {cells slots : Nat} {Q : State → Prop} {tx : String} (hC : q_Cx sx g p l e R s m args below meth c cells slots Q RX6 cX6_init 2 none (q_room 20) (fun r => ∃ H', r = (none, H') ∧ q_RC q_A0 H')) (hR2 : 10 ≤ R.frames ∧ 1000 ≤ R.locals) {adK adV : Nat → Nat} (hE : k_EA (q_A g) adK adV s) (hZ : vk_R RX6 66 tx (adK 0) s) : q_W g p l e R s m args below meth c cells slots Q 2 (132, ([(0, vr 8 0), (1, vn 0)], ([], fun _ _ => nI 0))) := by
  refine k_textL hC hR2 hE hZ (fun H h1 h2 h3 => ?_) 93 0 (fun _ _ => nI 0) rfl rfl (fun j hj => absurd hj (Nat.not_lt_zero _)) (fun a _ _ => rfl)
  obtain ⟨H', hev, hRC⟩ := sa_lay sx H h1 h2 h3
  refine k_tail (tl_S_ok sx) (d := 19) hC ⟨H', rfl, hRC⟩ 8 _ hev ⟨fun q hq => ?_, q_okS_nil⟩
  rcases List.mem_cons.mp hq with h | h
  · subst h
    exact Or.inr ⟨by rcases q_np_or g with h | h <;> omega, rfl⟩
  · cases h
def k_PS (D : va_G) (cI cQ : ClassId) (sx : QX) (b : Nat) (adK adV : Nat → Nat) (tx : String) (h0 sz : Nat) : Array Value → State → Prop := va_Pc [.ref h0] (fun U => U.heap.size = sz ∧ va_P D vwCl [(h0, .inr (6, [.null, .null, .null, .null, .null, .null, .null, .null, .null]))] U.heap ∧ va_K D vwCl (k_tys cI cQ) U ∧ va_D (fun _ => True) [(h0, .inr (6, [.null, .null, .null, .null, .null, .null, .null, .null, .null]))] ∧ va_AO RX3 U ∧ (∀ w ∈ q_nests, va_Nw w U) ∧ va_X b sx.1 sx.2 U U.heap ∧ b ≠ h0 ∧ vk_R RX6 66 tx (adK 0) U ∧ k_EA (va_A [(h0, .inr (6, [.null, .null, .null, .null, .null, .null, .null, .null, .null]))] sz) adK adV U)
theorem k_PS_blind (D : va_G) (cI cQ : ClassId) (sx : QX) (b : Nat) (adK adV : Nat → Nat) (tx : String) (h0 sz : Nat) : FrameBlind (k_PS D cI cQ sx b adK adV tx h0 sz) := fun a U gf mk q => by
  obtain ⟨h1, h2, h3, h4, h5, h6, h7, h8, h9, h10, h11⟩ := q
  exact ⟨h1, h2, h3, va_K.moved (u := U) (U := U.calling gf mk a) (Vm.Alike.refl U.vm) h4, h5, va_AO.moved (u := U) (U := U.calling gf mk a) (Vm.Alike.refl U.vm) h6, fun w hw => va_Nw.same (u := U) (U := U.calling gf mk a) (q_nests_on w hw) rfl (h7 w hw), va_X.moved (u := U) (U := U.calling gf mk a) (Vm.Alike.refl U.vm) h8, h9, vk_R.same (u := U) (U := U.calling gf mk a) rfl h10, k_EA.call h11⟩
theorem k_df_RX5 : ∀ j, j < 4 → defaultValue (tyX5 j) = vp_V [.null, .null, .int (nI 0), .int (nI 0)] j := fun j hj => by
  rcases (show j = 0 ∨ j = 1 ∨ j = 2 ∨ j = 3 by omega) with rfl | rfl | rfl | rfl <;> rfl
theorem k_df_RX0 : ∀ j, j < 12 → defaultValue (tyX0 j) = vp_V [.int (nI 0), .int (nI 0), .int (nI 0), .int (nI 0), .null, .null, .null, .null, .null, .null, .null, .null] j := fun j hj => by
  rcases (show j = 0 ∨ j = 1 ∨ j = 2 ∨ j = 3 ∨ j = 4 ∨ j = 5 ∨ j = 6 ∨ j = 7 ∨ j = 8 ∨ j = 9 ∨ j = 10 ∨ j = 11 by omega) with rfl | rfl | rfl | rfl | rfl | rfl | rfl | rfl | rfl | rfl | rfl | rfl <;> rfl
theorem k_df_RX3 : ∀ j, j < 8 → defaultValue (tyX3 j) = vp_V [.null, .int (nI 0), .null, .null, .null, .null, .null, .null] j := fun j hj => by
  rcases (show j = 0 ∨ j = 1 ∨ j = 2 ∨ j = 3 ∨ j = 4 ∨ j = 5 ∨ j = 6 ∨ j = 7 by omega) with rfl | rfl | rfl | rfl | rfl | rfl | rfl | rfl <;> rfl
theorem k_df_RX2 : ∀ j, j < 3 → defaultValue (tyX2 j) = vp_V [.null, .int (nI 0), .int (nI 0)] j := fun j hj => by
  rcases (show j = 0 ∨ j = 1 ∨ j = 2 by omega) with rfl | rfl | rfl <;> rfl
theorem k_df_RX4 : ∀ j, j < 2 → defaultValue (tyX4 j) = vp_V [.null, .null] j := fun j hj => by
  rcases (show j = 0 ∨ j = 1 by omega) with rfl | rfl <;> rfl
theorem k_df_RX1 : ∀ j, j < 5 → defaultValue (tyX1 j) = vp_V [.null, .null, .null, .int (nI 0), .int (nI 0)] j := fun j hj => by
  rcases (show j = 0 ∨ j = 1 ∨ j = 2 ∨ j = 3 ∨ j = 4 by omega) with rfl | rfl | rfl | rfl | rfl <;> rfl
set_option maxHeartbeats 4000000 in
set_option maxRecDepth 100000 in
theorem c_SA (l : Launch) (D : va_G) (cI cQ : ClassId) (h0 sz : Nat) (sx : QX) (b : Nat) (adK adV : Nat → Nat) (tx : String) : Met l yX6_init (k_ws yX6_init cX6_init 2 none) ({ frames := 60, cells := 164, slots := 2447, locals := 4000 }) (k_PS D cI cQ sx b adK adV tx h0 sz) (va_Qv (S := QG × QH) (fun u => u.1.1 = D ∧ u.1.2.2 = (cI, cQ) ∧ q_np u.1 = 165 ∧ q_ad u.1 0 = h0 ∧ q_ad u.1 183 = b ∧ q_RC q_A0 u.2) (fun u t => va_P D vwCl (q_wd u.1 u.2) t.heap ∧ va_D (va_A [(h0, .inr (6, [.null, .null, .null, .null, .null, .null, .null, .null, .null]))] sz) (q_wd u.1 u.2)) (va_A [(h0, .inr (6, [.null, .null, .null, .null, .null, .null, .null, .null, .null]))] sz)) (164) (2447) (va_A [(h0, .inr (6, [.null, .null, .null, .null, .null, .null, .null, .null, .null]))] sz) := by
  refine Met.ofW (cc := cX6_init) (maxL := 2) (ret := none) (by decide) rfl ?_
  intro p e s m args below meth c s₁ B hml hv
  obtain ⟨rfl, hsz, hP, hK, hD0, hAO, hN, hX, hbh, hZ, hE⟩ := hv
  have hx := B.exec
  have hb := B.bytes
  have hr := B.returns
  have hts0 := atoms_spec (ws := k_ws yX6_init cX6_init 2 none) B.pre
  have hts : ∀ w ∈ q_tw, w.before _ s = true := fun w h => hts0 w (List.mem_cons_of_mem _ h)
  have hown : s.vm.findClass RX6 = some m.cls := findClass_of_methodNamed B.named
  have hin : meth.name = "<init>" := (name_of_methodNamed B.named B.method).1
  subst hsz
  have hD := hD0.self (sz := s.heap.size)
  generalize hAe : va_A [(h0, .inr (6, [.null, .null, .null, .null, .null, .null, .null, .null, .null]))] s.heap.size = A at hD hE ⊢
  have hA : ∀ q : Nat, s.heap.size ≤ q → A q := fun q h => by rw [← hAe]; exact Or.inr h
  have hS : va_S A s.heap s.heap [] := va_S.rf
  have hl := lv_entry ([.ref h0]) (n := 2) (Nat.le_of_ble_eq_true rfl)
  rw [lg_entry_eq]
  generalize (lg_sl ([.ref h0]) ++ List.replicate (2 - (lg_sl ([.ref h0])).length) Slot.unset).toArray = ls at hl ⊢
  have hl : lv_has ls 2 [(0, .ref h0)] := hl
  refine lv_aload_n hx hb d_X6_init_0 rfl (lv_at hl 0 rfl) ?_
  refine W.objInit hx hb hown (hts _ kc_1_20) (hts _ kc_1_21) (hts _ kc_1_22) rfl (by rw [hml]; exact hl.1) rfl d_X6_init_1 (Nat.le_of_ble_eq_true rfl) (Nat.le_of_ble_eq_true rfl) ?_
  refine W.eq (g2 := F0 m 4 ls []) rfl ?_
  refine lv_aload_n hx hb d_X6_init_4 rfl (lv_at hl 0 rfl) ?_
  refine va_new (ci := 5) (fs := [.null, .null, .int (nI 0), .int (nI 0)]) (C := RX5) (T := TX5) (N := 4) hx hb hts in_X5 tyX5 tyX5_ok hown (hts _ kc_1_23) (hts _ kc_1_24) (hts _ kc_1_2) hK hP hD hS hA rfl k_df_RX5 (Nat.le_of_ble_eq_true rfl) (Nat.le_of_ble_eq_true rfl) d_X6_init_5 (fun t0 H hP hD hS => ?_)
  refine W.widen (k := 1) (n := 4) (Nat.le_refl _) (Nat.le_refl _) ?_
  refine lv_dup hx hb d_X6_init_8 rfl ?_
  refine k_initN (host := "StoneApologies") (n := 0) (mc := 2) (ms := 203) (X := ((h0, .inr (6, [.null, .null, .null, .null, .null, .null, .null, .null, .null])) :: ([] : va_W))) (wc := [(t0, .inr (5, [.null, .null, .int (nI 0), .int (nI 0)]))]) (As := []) (rest := [.ref t0, .ref h0]) (f := fun u => k_text cI t0 u) hx hb hml hown hts hK (c_Text l D cI cQ t0 H.size) k_okT (fun _ _ _ => trivial) (hN _ (List.mem_of_getElem? (i := 0) rfl)) kc_1_26 kc_1_2 kc_1_27 rfl rfl rfl (by decide +kernel) rfl ⟨Nat.le_of_ble_eq_true rfl, Nat.le_of_ble_eq_true rfl⟩ hl.1 rfl (Nat.le_of_ble_eq_true rfl) d_X6_init_9 ⟨Nat.le_of_ble_eq_true rfl, Nat.le_of_ble_eq_true rfl⟩ hP hD hS hA (fun uT H locs hP hD hS => ?_)
  refine W.widen (k := 3) (n := 207) (Nat.le_refl _) (Nat.le_refl _) ?_
  refine va_putF (D := D) (ci := 6) (v := .ref t0) (ty := (.object "StoneApologies$Text")) (C := RX6) (T := TX6) (N := 9) hx hb hts in_X6 tyX6 tyX6_ok nmX6 hown hK hP hD hS 0 rfl rfl 0 (by decide) (hts _ kc_2_117) (fun _ h9 => h9) rfl hin rfl (by decide +kernel) rfl rfl (Nat.le_of_ble_eq_true rfl) d_X6_init_12 (fun H locs hP hD hS => ?_)
  have hP : va_P D vwCl ((h0, .inr (6, [.ref t0, .null, .null, .null, .null, .null, .null, .null, .null])) :: (([] : va_W) ++ k_text cI t0 uT)) H := hP
  have hD : va_D A ((h0, .inr (6, [.ref t0, .null, .null, .null, .null, .null, .null, .null, .null])) :: (([] : va_W) ++ k_text cI t0 uT)) := hD
  refine lv_aload_n hx hb d_X6_init_15 rfl (lv_at hl 0 rfl) ?_
  refine va_new (ci := 0) (fs := [.int (nI 0), .int (nI 0), .int (nI 0), .int (nI 0), .null, .null, .null, .null, .null, .null, .null, .null]) (C := RX0) (T := TX0) (N := 12) hx hb hts in_X0 tyX0 tyX0_ok hown (hts _ kc_1_44) (hts _ kc_1_45) (hts _ kc_1_3) hK hP hD hS hA rfl k_df_RX0 (Nat.le_of_ble_eq_true rfl) (Nat.le_of_ble_eq_true rfl) d_X6_init_16 (fun b1 H hP hD hS => ?_)
  refine W.widen (k := 4) (n := 219) (Nat.le_refl _) (Nat.le_refl _) ?_
  refine lv_dup hx hb d_X6_init_19 rfl ?_
  refine k_initN (host := "StoneApologies") (n := 0) (mc := 8) (ms := 230) (X := ((h0, .inr (6, [.ref t0, .null, .null, .null, .null, .null, .null, .null, .null])) :: (([] : va_W) ++ k_text cI t0 uT))) (wc := [(b1, .inr (0, [.int (nI 0), .int (nI 0), .int (nI 0), .int (nI 0), .null, .null, .null, .null, .null, .null, .null, .null]))]) (As := []) (rest := [.ref b1, .ref h0]) (f := fun u => k_bed cI b1 u) hx hb hml hown hts hK (c_Bed l D cI cQ b1 H.size) k_okT (fun _ _ _ => trivial) (hN _ (List.mem_of_getElem? (i := 1) rfl)) kc_1_47 kc_1_3 kc_1_48 rfl rfl rfl (by decide +kernel) rfl ⟨Nat.le_of_ble_eq_true rfl, Nat.le_of_ble_eq_true rfl⟩ hl.1 rfl (Nat.le_of_ble_eq_true rfl) d_X6_init_20 ⟨Nat.le_of_ble_eq_true rfl, Nat.le_of_ble_eq_true rfl⟩ hP hD hS hA (fun uB H locs hP hD hS => ?_)
  refine W.widen (k := 12) (n := 449) (Nat.le_refl _) (Nat.le_refl _) ?_
  refine va_putF (D := D) (ci := 6) (v := .ref b1) (ty := (.object "StoneApologies$Bed")) (C := RX6) (T := TX6) (N := 9) hx hb hts in_X6 tyX6 tyX6_ok nmX6 hown hK hP hD hS 0 rfl rfl 1 (by decide) (hts _ kc_2_118) (fun _ h9 => h9) rfl hin rfl (by decide +kernel) rfl rfl (Nat.le_of_ble_eq_true rfl) d_X6_init_23 (fun H locs hP hD hS => ?_)
  have hP : va_P D vwCl ((h0, .inr (6, [.ref t0, .ref b1, .null, .null, .null, .null, .null, .null, .null])) :: ((([] : va_W) ++ k_text cI t0 uT) ++ k_bed cI b1 uB)) H := hP
  have hD : va_D A ((h0, .inr (6, [.ref t0, .ref b1, .null, .null, .null, .null, .null, .null, .null])) :: ((([] : va_W) ++ k_text cI t0 uT) ++ k_bed cI b1 uB)) := hD
  refine lv_aload_n hx hb d_X6_init_26 rfl (lv_at hl 0 rfl) ?_
  refine va_new (ci := 0) (fs := [.int (nI 0), .int (nI 0), .int (nI 0), .int (nI 0), .null, .null, .null, .null, .null, .null, .null, .null]) (C := RX0) (T := TX0) (N := 12) hx hb hts in_X0 tyX0 tyX0_ok hown (hts _ kc_1_44) (hts _ kc_1_45) (hts _ kc_1_3) hK hP hD hS hA rfl k_df_RX0 (Nat.le_of_ble_eq_true rfl) (Nat.le_of_ble_eq_true rfl) d_X6_init_27 (fun b2 H hP hD hS => ?_)
  refine W.widen (k := 13) (n := 461) (Nat.le_refl _) (Nat.le_refl _) ?_
  refine lv_dup hx hb d_X6_init_30 rfl ?_
  refine k_initN (host := "StoneApologies") (n := 0) (mc := 8) (ms := 230) (X := ((h0, .inr (6, [.ref t0, .ref b1, .null, .null, .null, .null, .null, .null, .null])) :: ((([] : va_W) ++ k_text cI t0 uT) ++ k_bed cI b1 uB))) (wc := [(b2, .inr (0, [.int (nI 0), .int (nI 0), .int (nI 0), .int (nI 0), .null, .null, .null, .null, .null, .null, .null, .null]))]) (As := []) (rest := [.ref b2, .ref h0]) (f := fun u => k_bed cI b2 u) hx hb hml hown hts hK (c_Bed l D cI cQ b2 H.size) k_okT (fun _ _ _ => trivial) (hN _ (List.mem_of_getElem? (i := 1) rfl)) kc_1_47 kc_1_3 kc_1_48 rfl rfl rfl (by decide +kernel) rfl ⟨Nat.le_of_ble_eq_true rfl, Nat.le_of_ble_eq_true rfl⟩ hl.1 rfl (Nat.le_of_ble_eq_true rfl) d_X6_init_31 ⟨Nat.le_of_ble_eq_true rfl, Nat.le_of_ble_eq_true rfl⟩ hP hD hS hA (fun uC H locs hP hD hS => ?_)
  refine W.widen (k := 21) (n := 691) (Nat.le_refl _) (Nat.le_refl _) ?_
  refine va_putF (D := D) (ci := 6) (v := .ref b2) (ty := (.object "StoneApologies$Bed")) (C := RX6) (T := TX6) (N := 9) hx hb hts in_X6 tyX6 tyX6_ok nmX6 hown hK hP hD hS 0 rfl rfl 2 (by decide) (hts _ kc_2_119) (fun _ h9 => h9) rfl hin rfl (by decide +kernel) rfl rfl (Nat.le_of_ble_eq_true rfl) d_X6_init_34 (fun H locs hP hD hS => ?_)
  have hP : va_P D vwCl ((h0, .inr (6, [.ref t0, .ref b1, .ref b2, .null, .null, .null, .null, .null, .null])) :: (((([] : va_W) ++ k_text cI t0 uT) ++ k_bed cI b1 uB) ++ k_bed cI b2 uC)) H := hP
  have hD : va_D A ((h0, .inr (6, [.ref t0, .ref b1, .ref b2, .null, .null, .null, .null, .null, .null])) :: (((([] : va_W) ++ k_text cI t0 uT) ++ k_bed cI b1 uB) ++ k_bed cI b2 uC)) := hD
  refine lv_aload_n hx hb d_X6_init_37 rfl (lv_at hl 0 rfl) ?_
  refine va_new (ci := 3) (fs := [.null, .int (nI 0), .null, .null, .null, .null, .null, .null]) (C := RX3) (T := TX3) (N := 8) hx hb hts in_X3 tyX3 tyX3_ok hown (hts _ kc_1_107) (hts _ kc_1_108) (hts _ kc_1_4) hK hP hD hS hA rfl k_df_RX3 (Nat.le_of_ble_eq_true rfl) (Nat.le_of_ble_eq_true rfl) d_X6_init_38 (fun n0 H hP hD hS => ?_)
  refine W.widen (k := 22) (n := 699) (Nat.le_refl _) (Nat.le_refl _) ?_
  refine lv_dup hx hb d_X6_init_41 rfl ?_
  refine lv_aload_n hx hb d_X6_init_42 rfl (lv_at hl 0 rfl) ?_
  refine va_get (v := .ref b1) hx hb hts in_X6 hown hK hP 0 rfl rfl 1 (by decide) (hts _ kc_2_118) (fun _ h9 => h9) rfl d_X6_init_43 ?_
  refine k_initI (n := 1) (mc := 6) (ms := 82) (X := ((h0, .inr (6, [.ref t0, .ref b1, .ref b2, .null, .null, .null, .null, .null, .null])) :: (((([] : va_W) ++ k_text cI t0 uT) ++ k_bed cI b1 uB) ++ k_bed cI b2 uC))) (wc := [(n0, .inr (3, [.null, .int (nI 0), .null, .null, .null, .null, .null, .null]))]) (As := [.ref b1]) (rest := [.ref n0, .ref h0]) (f := fun u => k_qy cI b1 n0 u) hx hb hml hown hts hK (c_Quarry l D cI cQ n0 H.size b1) k_okT (fun _ _ _ => trivial) kc_1_109 kc_1_110 kc_1_4 kc_1_111 rfl rfl rfl (by decide +kernel) rfl ⟨Nat.le_of_ble_eq_true rfl, Nat.le_of_ble_eq_true rfl⟩ hl.1 rfl (Nat.le_of_ble_eq_true rfl) d_X6_init_46 ⟨Nat.le_of_ble_eq_true rfl, Nat.le_of_ble_eq_true rfl⟩ hP hD hS hA (fun uN H locs hP hD hS => ?_)
  refine W.widen (k := 28) (n := 781) (Nat.le_refl _) (Nat.le_refl _) ?_
  refine va_putF (D := D) (ci := 6) (v := .ref n0) (ty := (.object "StoneApologies$Quarry")) (C := RX6) (T := TX6) (N := 9) hx hb hts in_X6 tyX6 tyX6_ok nmX6 hown hK hP hD hS 0 rfl rfl 3 (by decide) (hts _ kc_2_120) (fun _ h9 => h9) rfl hin rfl (by decide +kernel) rfl rfl (Nat.le_of_ble_eq_true rfl) d_X6_init_49 (fun H locs hP hD hS => ?_)
  have hP : va_P D vwCl ((h0, .inr (6, [.ref t0, .ref b1, .ref b2, .ref n0, .null, .null, .null, .null, .null])) :: ((((([] : va_W) ++ k_text cI t0 uT) ++ k_bed cI b1 uB) ++ k_bed cI b2 uC) ++ k_qy cI b1 n0 uN)) H := hP
  have hD : va_D A ((h0, .inr (6, [.ref t0, .ref b1, .ref b2, .ref n0, .null, .null, .null, .null, .null])) :: ((((([] : va_W) ++ k_text cI t0 uT) ++ k_bed cI b1 uB) ++ k_bed cI b2 uC) ++ k_qy cI b1 n0 uN)) := hD
  refine lv_aload_n hx hb d_X6_init_52 rfl (lv_at hl 0 rfl) ?_
  refine va_new (ci := 3) (fs := [.null, .int (nI 0), .null, .null, .null, .null, .null, .null]) (C := RX3) (T := TX3) (N := 8) hx hb hts in_X3 tyX3 tyX3_ok hown (hts _ kc_1_107) (hts _ kc_1_108) (hts _ kc_1_4) hK hP hD hS hA rfl k_df_RX3 (Nat.le_of_ble_eq_true rfl) (Nat.le_of_ble_eq_true rfl) d_X6_init_53 (fun r0 H hP hD hS => ?_)
  refine W.widen (k := 29) (n := 789) (Nat.le_refl _) (Nat.le_refl _) ?_
  refine lv_dup hx hb d_X6_init_56 rfl ?_
  refine lv_aload_n hx hb d_X6_init_57 rfl (lv_at hl 0 rfl) ?_
  refine va_get (v := .ref b1) hx hb hts in_X6 hown hK hP 0 rfl rfl 1 (by decide) (hts _ kc_2_118) (fun _ h9 => h9) rfl d_X6_init_58 ?_
  refine k_initI (n := 1) (mc := 6) (ms := 82) (X := ((h0, .inr (6, [.ref t0, .ref b1, .ref b2, .ref n0, .null, .null, .null, .null, .null])) :: ((((([] : va_W) ++ k_text cI t0 uT) ++ k_bed cI b1 uB) ++ k_bed cI b2 uC) ++ k_qy cI b1 n0 uN))) (wc := [(r0, .inr (3, [.null, .int (nI 0), .null, .null, .null, .null, .null, .null]))]) (As := [.ref b1]) (rest := [.ref r0, .ref h0]) (f := fun u => k_qy cI b1 r0 u) hx hb hml hown hts hK (c_Quarry l D cI cQ r0 H.size b1) k_okT (fun _ _ _ => trivial) kc_1_109 kc_1_110 kc_1_4 kc_1_111 rfl rfl rfl (by decide +kernel) rfl ⟨Nat.le_of_ble_eq_true rfl, Nat.le_of_ble_eq_true rfl⟩ hl.1 rfl (Nat.le_of_ble_eq_true rfl) d_X6_init_61 ⟨Nat.le_of_ble_eq_true rfl, Nat.le_of_ble_eq_true rfl⟩ hP hD hS hA (fun uR H locs hP hD hS => ?_)
  refine W.widen (k := 35) (n := 871) (Nat.le_refl _) (Nat.le_refl _) ?_
  refine va_putF (D := D) (ci := 6) (v := .ref r0) (ty := (.object "StoneApologies$Quarry")) (C := RX6) (T := TX6) (N := 9) hx hb hts in_X6 tyX6 tyX6_ok nmX6 hown hK hP hD hS 0 rfl rfl 4 (by decide) (hts _ kc_2_121) (fun _ h9 => h9) rfl hin rfl (by decide +kernel) rfl rfl (Nat.le_of_ble_eq_true rfl) d_X6_init_64 (fun H locs hP hD hS => ?_)
  have hP : va_P D vwCl ((h0, .inr (6, [.ref t0, .ref b1, .ref b2, .ref n0, .ref r0, .null, .null, .null, .null])) :: (((((([] : va_W) ++ k_text cI t0 uT) ++ k_bed cI b1 uB) ++ k_bed cI b2 uC) ++ k_qy cI b1 n0 uN) ++ k_qy cI b1 r0 uR)) H := hP
  have hD : va_D A ((h0, .inr (6, [.ref t0, .ref b1, .ref b2, .ref n0, .ref r0, .null, .null, .null, .null])) :: (((((([] : va_W) ++ k_text cI t0 uT) ++ k_bed cI b1 uB) ++ k_bed cI b2 uC) ++ k_qy cI b1 n0 uN) ++ k_qy cI b1 r0 uR)) := hD
  refine lv_aload_n hx hb d_X6_init_67 rfl (lv_at hl 0 rfl) ?_
  refine va_new (ci := 2) (fs := [.null, .int (nI 0), .int (nI 0)]) (C := RX2) (T := TX2) (N := 3) hx hb hts in_X2 tyX2 tyX2_ok hown (hts _ kc_1_148) (hts _ kc_1_149) (hts _ kc_1_5) hK hP hD hS hA rfl k_df_RX2 (Nat.le_of_ble_eq_true rfl) (Nat.le_of_ble_eq_true rfl) d_X6_init_68 (fun p8 H hP hD hS => ?_)
  refine W.widen (k := 36) (n := 874) (Nat.le_refl _) (Nat.le_refl _) ?_
  refine lv_dup hx hb d_X6_init_71 rfl ?_
  refine lv_bipush (v := nI 8) hx hb d_X6_init_72 (by decide) ?_
  refine lv_aload_n hx hb d_X6_init_74 rfl (lv_at hl 0 rfl) ?_
  refine va_get (v := .ref b1) hx hb hts in_X6 hown hK hP 0 rfl rfl 1 (by decide) (hts _ kc_2_118) (fun _ h9 => h9) rfl d_X6_init_75 ?_
  refine k_initI (n := 2) (mc := 57) (ms := 728) (X := ((h0, .inr (6, [.ref t0, .ref b1, .ref b2, .ref n0, .ref r0, .null, .null, .null, .null])) :: (((((([] : va_W) ++ k_text cI t0 uT) ++ k_bed cI b1 uB) ++ k_bed cI b2 uC) ++ k_qy cI b1 n0 uN) ++ k_qy cI b1 r0 uR))) (wc := [(p8, .inr (2, [.null, .int (nI 0), .int (nI 0)]))]) (As := [.int (nI 8), .ref b1]) (rest := [.ref p8, .ref h0]) (f := fun u => k_pile cI cQ b1 8 p8 u) hx hb hml hown hts hK (c_Pile l D cI cQ p8 H.size b1 8 ⟨by decide, by decide⟩) k_okA (fun U _ hW => va_AO.moved hW.alike hAO) kc_1_150 kc_1_151 kc_1_5 kc_1_152 rfl rfl rfl (by decide +kernel) rfl ⟨Nat.le_of_ble_eq_true rfl, Nat.le_of_ble_eq_true rfl⟩ hl.1 rfl (Nat.le_of_ble_eq_true rfl) d_X6_init_78 ⟨Nat.le_of_ble_eq_true rfl, Nat.le_of_ble_eq_true rfl⟩ hP hD hS hA (fun P8 H locs hP hD hS => ?_)
  refine W.widen (k := 93) (n := 1602) (Nat.le_refl _) (Nat.le_refl _) ?_
  refine va_putF (D := D) (ci := 6) (v := .ref p8) (ty := (.object "StoneApologies$Pile")) (C := RX6) (T := TX6) (N := 9) hx hb hts in_X6 tyX6 tyX6_ok nmX6 hown hK hP hD hS 0 rfl rfl 5 (by decide) (hts _ kc_2_122) (fun _ h9 => h9) rfl hin rfl (by decide +kernel) rfl rfl (Nat.le_of_ble_eq_true rfl) d_X6_init_81 (fun H locs hP hD hS => ?_)
  have hP : va_P D vwCl ((h0, .inr (6, [.ref t0, .ref b1, .ref b2, .ref n0, .ref r0, .ref p8, .null, .null, .null])) :: ((((((([] : va_W) ++ k_text cI t0 uT) ++ k_bed cI b1 uB) ++ k_bed cI b2 uC) ++ k_qy cI b1 n0 uN) ++ k_qy cI b1 r0 uR) ++ k_pile cI cQ b1 8 p8 P8)) H := hP
  have hD : va_D A ((h0, .inr (6, [.ref t0, .ref b1, .ref b2, .ref n0, .ref r0, .ref p8, .null, .null, .null])) :: ((((((([] : va_W) ++ k_text cI t0 uT) ++ k_bed cI b1 uB) ++ k_bed cI b2 uC) ++ k_qy cI b1 n0 uN) ++ k_qy cI b1 r0 uR) ++ k_pile cI cQ b1 8 p8 P8)) := hD
  refine lv_aload_n hx hb d_X6_init_84 rfl (lv_at hl 0 rfl) ?_
  refine va_new (ci := 2) (fs := [.null, .int (nI 0), .int (nI 0)]) (C := RX2) (T := TX2) (N := 3) hx hb hts in_X2 tyX2 tyX2_ok hown (hts _ kc_1_148) (hts _ kc_1_149) (hts _ kc_1_5) hK hP hD hS hA rfl k_df_RX2 (Nat.le_of_ble_eq_true rfl) (Nat.le_of_ble_eq_true rfl) d_X6_init_85 (fun p2 H hP hD hS => ?_)
  refine W.widen (k := 94) (n := 1605) (Nat.le_refl _) (Nat.le_refl _) ?_
  refine lv_dup hx hb d_X6_init_88 rfl ?_
  refine lv_iconst (v := nI 2) hx hb d_X6_init_89 (by decide) ?_
  refine lv_aload_n hx hb d_X6_init_90 rfl (lv_at hl 0 rfl) ?_
  refine va_get (v := .ref b1) hx hb hts in_X6 hown hK hP 0 rfl rfl 1 (by decide) (hts _ kc_2_118) (fun _ h9 => h9) rfl d_X6_init_91 ?_
  refine k_initI (n := 2) (mc := 15) (ms := 182) (X := ((h0, .inr (6, [.ref t0, .ref b1, .ref b2, .ref n0, .ref r0, .ref p8, .null, .null, .null])) :: ((((((([] : va_W) ++ k_text cI t0 uT) ++ k_bed cI b1 uB) ++ k_bed cI b2 uC) ++ k_qy cI b1 n0 uN) ++ k_qy cI b1 r0 uR) ++ k_pile cI cQ b1 8 p8 P8))) (wc := [(p2, .inr (2, [.null, .int (nI 0), .int (nI 0)]))]) (As := [.int (nI 2), .ref b1]) (rest := [.ref p2, .ref h0]) (f := fun u => k_pile cI cQ b1 2 p2 u) hx hb hml hown hts hK (c_Pile l D cI cQ p2 H.size b1 2 ⟨by decide, by decide⟩) k_okA (fun U _ hW => va_AO.moved hW.alike hAO) kc_1_150 kc_1_151 kc_1_5 kc_1_152 rfl rfl rfl (by decide +kernel) rfl ⟨Nat.le_of_ble_eq_true rfl, Nat.le_of_ble_eq_true rfl⟩ hl.1 rfl (Nat.le_of_ble_eq_true rfl) d_X6_init_94 ⟨Nat.le_of_ble_eq_true rfl, Nat.le_of_ble_eq_true rfl⟩ hP hD hS hA (fun P2 H locs hP hD hS => ?_)
  refine W.widen (k := 109) (n := 1787) (Nat.le_refl _) (Nat.le_refl _) ?_
  refine va_putF (D := D) (ci := 6) (v := .ref p2) (ty := (.object "StoneApologies$Pile")) (C := RX6) (T := TX6) (N := 9) hx hb hts in_X6 tyX6 tyX6_ok nmX6 hown hK hP hD hS 0 rfl rfl 6 (by decide) (hts _ kc_2_123) (fun _ h9 => h9) rfl hin rfl (by decide +kernel) rfl rfl (Nat.le_of_ble_eq_true rfl) d_X6_init_97 (fun H locs hP hD hS => ?_)
  have hP : va_P D vwCl ((h0, .inr (6, [.ref t0, .ref b1, .ref b2, .ref n0, .ref r0, .ref p8, .ref p2, .null, .null])) :: (((((((([] : va_W) ++ k_text cI t0 uT) ++ k_bed cI b1 uB) ++ k_bed cI b2 uC) ++ k_qy cI b1 n0 uN) ++ k_qy cI b1 r0 uR) ++ k_pile cI cQ b1 8 p8 P8) ++ k_pile cI cQ b1 2 p2 P2)) H := hP
  have hD : va_D A ((h0, .inr (6, [.ref t0, .ref b1, .ref b2, .ref n0, .ref r0, .ref p8, .ref p2, .null, .null])) :: (((((((([] : va_W) ++ k_text cI t0 uT) ++ k_bed cI b1 uB) ++ k_bed cI b2 uC) ++ k_qy cI b1 n0 uN) ++ k_qy cI b1 r0 uR) ++ k_pile cI cQ b1 8 p8 P8) ++ k_pile cI cQ b1 2 p2 P2)) := hD
  refine lv_aload_n hx hb d_X6_init_100 rfl (lv_at hl 0 rfl) ?_
  refine va_new (ci := 4) (fs := [.null, .null]) (C := RX4) (T := TX4) (N := 2) hx hb hts in_X4 tyX4 tyX4_ok hown (hts _ kc_1_168) (hts _ kc_1_169) (hts _ kc_1_6) hK hP hD hS hA rfl k_df_RX4 (Nat.le_of_ble_eq_true rfl) (Nat.le_of_ble_eq_true rfl) d_X6_init_101 (fun w0 H hP hD hS => ?_)
  refine W.widen (k := 110) (n := 1789) (Nat.le_refl _) (Nat.le_refl _) ?_
  refine lv_dup hx hb d_X6_init_104 rfl ?_
  refine lv_aload_n hx hb d_X6_init_105 rfl (lv_at hl 0 rfl) ?_
  refine va_get (v := .ref r0) hx hb hts in_X6 hown hK hP 0 rfl rfl 4 (by decide) (hts _ kc_2_121) (fun _ h9 => h9) rfl d_X6_init_106 ?_
  refine k_initI (n := 1) (mc := 1) (ms := 4) (X := ((h0, .inr (6, [.ref t0, .ref b1, .ref b2, .ref n0, .ref r0, .ref p8, .ref p2, .null, .null])) :: (((((((([] : va_W) ++ k_text cI t0 uT) ++ k_bed cI b1 uB) ++ k_bed cI b2 uC) ++ k_qy cI b1 n0 uN) ++ k_qy cI b1 r0 uR) ++ k_pile cI cQ b1 8 p8 P8) ++ k_pile cI cQ b1 2 p2 P2))) (wc := [(w0, .inr (4, [.null, .null]))]) (As := [.ref r0]) (rest := [.ref w0, .ref h0]) (f := fun u => k_rows cI r0 w0 u) hx hb hml hown hts hK (c_Rows l D cI cQ w0 H.size r0) k_okT (fun _ _ _ => trivial) kc_1_170 kc_1_171 kc_1_6 kc_1_172 rfl rfl rfl (by decide +kernel) rfl ⟨Nat.le_of_ble_eq_true rfl, Nat.le_of_ble_eq_true rfl⟩ hl.1 rfl (Nat.le_of_ble_eq_true rfl) d_X6_init_109 ⟨Nat.le_of_ble_eq_true rfl, Nat.le_of_ble_eq_true rfl⟩ hP hD hS hA (fun uW H locs hP hD hS => ?_)
  refine W.widen (k := 111) (n := 1793) (Nat.le_refl _) (Nat.le_refl _) ?_
  refine va_putF (D := D) (ci := 6) (v := .ref w0) (ty := (.object "StoneApologies$Rows")) (C := RX6) (T := TX6) (N := 9) hx hb hts in_X6 tyX6 tyX6_ok nmX6 hown hK hP hD hS 0 rfl rfl 7 (by decide) (hts _ kc_2_124) (fun _ h9 => h9) rfl hin rfl (by decide +kernel) rfl rfl (Nat.le_of_ble_eq_true rfl) d_X6_init_112 (fun H locs hP hD hS => ?_)
  have hP : va_P D vwCl ((h0, .inr (6, [.ref t0, .ref b1, .ref b2, .ref n0, .ref r0, .ref p8, .ref p2, .ref w0, .null])) :: ((((((((([] : va_W) ++ k_text cI t0 uT) ++ k_bed cI b1 uB) ++ k_bed cI b2 uC) ++ k_qy cI b1 n0 uN) ++ k_qy cI b1 r0 uR) ++ k_pile cI cQ b1 8 p8 P8) ++ k_pile cI cQ b1 2 p2 P2) ++ k_rows cI r0 w0 uW)) H := hP
  have hD : va_D A ((h0, .inr (6, [.ref t0, .ref b1, .ref b2, .ref n0, .ref r0, .ref p8, .ref p2, .ref w0, .null])) :: ((((((((([] : va_W) ++ k_text cI t0 uT) ++ k_bed cI b1 uB) ++ k_bed cI b2 uC) ++ k_qy cI b1 n0 uN) ++ k_qy cI b1 r0 uR) ++ k_pile cI cQ b1 8 p8 P8) ++ k_pile cI cQ b1 2 p2 P2) ++ k_rows cI r0 w0 uW)) := hD
  refine lv_aload_n hx hb d_X6_init_115 rfl (lv_at hl 0 rfl) ?_
  refine va_new (ci := 1) (fs := [.null, .null, .null, .int (nI 0), .int (nI 0)]) (C := RX1) (T := TX1) (N := 5) hx hb hts in_X1 tyX1 tyX1_ok hown (hts _ kc_1_182) (hts _ kc_1_183) (hts _ kc_1_7) hK hP hD hS hA rfl k_df_RX1 (Nat.le_of_ble_eq_true rfl) (Nat.le_of_ble_eq_true rfl) d_X6_init_116 (fun o0 H hP hD hS => ?_)
  refine W.widen (k := 112) (n := 1798) (Nat.le_refl _) (Nat.le_refl _) ?_
  refine lv_dup hx hb d_X6_init_119 rfl ?_
  refine lv_aload_n hx hb d_X6_init_120 rfl (lv_at hl 0 rfl) ?_
  refine va_get (v := .ref b1) hx hb hts in_X6 hown hK hP 0 rfl rfl 1 (by decide) (hts _ kc_2_118) (fun _ h9 => h9) rfl d_X6_init_121 ?_
  refine k_initI (n := 1) (mc := 52) (ms := 649) (X := ((h0, .inr (6, [.ref t0, .ref b1, .ref b2, .ref n0, .ref r0, .ref p8, .ref p2, .ref w0, .null])) :: ((((((((([] : va_W) ++ k_text cI t0 uT) ++ k_bed cI b1 uB) ++ k_bed cI b2 uC) ++ k_qy cI b1 n0 uN) ++ k_qy cI b1 r0 uR) ++ k_pile cI cQ b1 8 p8 P8) ++ k_pile cI cQ b1 2 p2 P2) ++ k_rows cI r0 w0 uW))) (wc := [(o0, .inr (1, [.null, .null, .null, .int (nI 0), .int (nI 0)]))]) (As := [.ref b1]) (rest := [.ref o0, .ref h0]) (f := fun u => k_ord cI cQ b1 o0 u) hx hb hml hown hts hK (c_Orders l D cI cQ o0 H.size b1) k_okA (fun U _ hW => va_AO.moved hW.alike hAO) kc_1_184 kc_1_185 kc_1_7 kc_1_186 rfl rfl rfl (by decide +kernel) rfl ⟨Nat.le_of_ble_eq_true rfl, Nat.le_of_ble_eq_true rfl⟩ hl.1 rfl (Nat.le_of_ble_eq_true rfl) d_X6_init_124 ⟨Nat.le_of_ble_eq_true rfl, Nat.le_of_ble_eq_true rfl⟩ hP hD hS hA (fun uO H locs hP hD hS => ?_)
  refine W.widen (k := 164) (n := 2447) (Nat.le_refl _) (Nat.le_refl _) ?_
  refine va_putF (D := D) (ci := 6) (v := .ref o0) (ty := (.object "StoneApologies$Orders")) (C := RX6) (T := TX6) (N := 9) hx hb hts in_X6 tyX6 tyX6_ok nmX6 hown hK hP hD hS 0 rfl rfl 8 (by decide) (hts _ kc_2_125) (fun _ h9 => h9) rfl hin rfl (by decide +kernel) rfl rfl (Nat.le_of_ble_eq_true rfl) d_X6_init_127 (fun H locs hP hD hS => ?_)
  have hP : va_P D vwCl ((h0, .inr (6, [.ref t0, .ref b1, .ref b2, .ref n0, .ref r0, .ref p8, .ref p2, .ref w0, .ref o0])) :: (((((((((([] : va_W) ++ k_text cI t0 uT) ++ k_bed cI b1 uB) ++ k_bed cI b2 uC) ++ k_qy cI b1 n0 uN) ++ k_qy cI b1 r0 uR) ++ k_pile cI cQ b1 8 p8 P8) ++ k_pile cI cQ b1 2 p2 P2) ++ k_rows cI r0 w0 uW) ++ k_ord cI cQ b1 o0 uO)) H := hP
  have hD : va_D A ((h0, .inr (6, [.ref t0, .ref b1, .ref b2, .ref n0, .ref r0, .ref p8, .ref p2, .ref w0, .ref o0])) :: (((((((((([] : va_W) ++ k_text cI t0 uT) ++ k_bed cI b1 uB) ++ k_bed cI b2 uC) ++ k_qy cI b1 n0 uN) ++ k_qy cI b1 r0 uR) ++ k_pile cI cQ b1 8 p8 P8) ++ k_pile cI cQ b1 2 p2 P2) ++ k_rows cI r0 w0 uW) ++ k_ord cI cQ b1 o0 uO)) := hD
  refine lv_iconst (v := nI 0) hx hb d_X6_init_130 (by decide) ?_
  refine lv_istore_n (lv' := [(1, .int (nI 0)), (0, .ref h0)]) hx hb d_X6_init_131 rfl hl (by decide) rfl (fun ls hl => ?_)
  obtain ⟨hP', hD'⟩ := k_all_P (b := b) (sz := s.heap.size) (hs := H.size) hP hD
  have hnp : q_np (k_g D cI cQ (k_ad h0 t0 uT b1 uB b2 uC n0 uN r0 uR p8 P8 p2 P2 w0 uW o0 uO b s.heap.size H.size)) = 165 := rfl
  have hbl : b < s.heap.size := by
    obtain ⟨scr, hscr, -⟩ := hX
    exact (Array.getElem?_eq_some_iff.mp hscr).1
  have hAb : ¬ A b := by
    rw [← hAe]
    rintro (⟨k, e9, hk⟩ | h)
    · cases k with
      | zero =>
        cases hk
        exact hbh rfl
      | succ k => simp at hk
    · omega
  have hJ : q_inj (k_g D cI cQ (k_ad h0 t0 uT b1 uB b2 uC n0 uN r0 uR p8 P8 p2 P2 w0 uW o0 uO b s.heap.size H.size)) := k_inj (hs := H.size) hnp hP' hD' hAb (Nat.le_refl _) (Nat.lt_of_lt_of_le hbl hS.1) (fun p h1 h2 => by
    show k_ad h0 t0 uT b1 uB b2 uC n0 uN r0 uR p8 P8 p2 P2 w0 uW o0 uO b s.heap.size H.size p = _
    unfold k_ad
    rw [if_neg (by omega), if_neg (by omega), if_neg (by omega), if_neg (by omega), if_neg (by omega), if_neg (by omega), if_neg (by omega), if_neg (by omega), if_neg (by omega), if_neg (by omega), if_neg (by omega), if_neg (by omega), if_neg (by omega), if_neg (by omega), if_neg (by omega), if_neg (by omega), if_neg (by omega)]) (fun _ => hbl)
  have hAq : ∀ q, A q → q_A (k_g D cI cQ (k_ad h0 t0 uT b1 uB b2 uC n0 uN r0 uR p8 P8 p2 P2 w0 uW o0 uO b s.heap.size H.size)) q := fun q hq => by
    rw [← hAe] at hq
    rcases hq with ⟨k, e9, hk⟩ | h
    · cases k with
      | zero =>
        cases hk
        exact Or.inl ⟨0, by rw [hnp]; decide, rfl⟩
      | succ k => simp at hk
    · exact Or.inr ⟨by show 1 ≤ s.heap.size; omega, h⟩
  have hqA : ∀ q, q_A (k_g D cI cQ (k_ad h0 t0 uT b1 uB b2 uC n0 uN r0 uR p8 P8 p2 P2 w0 uW o0 uO b s.heap.size H.size)) q → A q := fun q hq => by
    rcases hq with ⟨p, hp, rfl⟩ | ⟨-, h⟩
    · exact hD'.2 p _ (q_wd_get _ _ hp)
    · exact hA q h
  refine k_saTail (sx := sx) (g := (k_g D cI cQ (k_ad h0 t0 uT b1 uB b2 uC n0 uN r0 uR p8 P8 p2 P2 w0 uW o0 uO b s.heap.size H.size))) (tx := tx) ⟨hx, hb, hml, hown, hts, hK, hX, hbl, hN, hJ, ⟨rfl, rfl, Nat.le_of_ble_eq_true rfl, Nat.le_of_ble_eq_true rfl, Nat.le_of_ble_eq_true rfl, Nat.le_of_ble_eq_true rfl⟩, ⟨fun pc x H Hh locs lsA ty hrt => (by cases hrt), fun pc H9 Hh locs lsA _ hd9 hPr hPh hS => ?_, fun pc k q H Hh locs lsA C hrt => (by cases hrt)⟩⟩ ⟨Nat.le_of_ble_eq_true rfl, Nat.le_of_ble_eq_true rfl⟩ (hE.narrow hqA) hZ H locs ls (lv_sub hl [1, 0] rfl) hP' (k_Smono hS hAq)
  obtain ⟨H', e9, hRC⟩ := hPr
  cases e9
  exact W.vret hx hb hr (fun t ht hW => ⟨⟨((k_g D cI cQ (k_ad h0 t0 uT b1 uB b2 uC n0 uN r0 uR p8 P8 p2 P2 w0 uW o0 uO b s.heap.size H.size)), H9), rfl, ⟨rfl, rfl, hnp, rfl, rfl, hRC⟩, by rw [ht]; exact hPh, (q_wd_D hJ H9).weaken (fun _ _ _ h => hqA _ h)⟩, (k_Smono hS hqA).F ht⟩) (fun q hq => hqA _ (hS.2.2 q hq)) hd9
