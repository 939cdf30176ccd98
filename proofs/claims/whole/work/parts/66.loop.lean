/-! THE LETTERS of the first text, one by one -/
theorem kc_1_210 : Cond.methodLink RX6 68 yJ0_length_8abf5 ∈ q_tw := q_w1 (i := 210) rfl rfl
theorem kc_1_211 : Cond.instanceMethod yJ0_length_8abf5 ∈ q_tw := q_w1 (i := 211) rfl rfl
theorem kc_1_212 : Cond.selects RJ0 yJ0_length_8abf5 yJ0_length_8abf5 ∈ q_tw := q_w1 (i := 212) rfl rfl
theorem kc_1_213 : Cond.code yJ0_length_8abf5 cJ0_length_8abf5 1 (some .int) ∈ q_tw := q_w1 (i := 213) rfl rfl
theorem kc_1_220 : Cond.methodLink RX6 74 yJ0_charAt_5068e ∈ q_tw := q_w1 (i := 220) rfl rfl
theorem kc_1_221 : Cond.instanceMethod yJ0_charAt_5068e ∈ q_tw := q_w1 (i := 221) rfl rfl
theorem kc_1_222 : Cond.selects RJ0 yJ0_charAt_5068e yJ0_charAt_5068e ∈ q_tw := q_w1 (i := 222) rfl rfl
theorem kc_1_223 : Cond.code yJ0_charAt_5068e cJ0_charAt_5068e 2 (some .char) ∈ q_tw := q_w1 (i := 223) rfl rfl
theorem kc_2_117 : Cond.fieldLink RX6 10 RX6 "text" "LStoneApologies$Text;" ∈ q_tw := q_w2 (i := 117) rfl rfl
theorem d_X6_init_0 : decode cX6_init 0 = .ok (.aload_n 0, 1) := by decide +kernel
theorem d_X6_init_1 : decode cX6_init 1 = .ok (.invokespecial 1, 3) := by decide +kernel
theorem d_X6_init_4 : decode cX6_init 4 = .ok (.aload_n 0, 1) := by decide +kernel
theorem d_X6_init_5 : decode cX6_init 5 = .ok (.new 7, 3) := by decide +kernel
theorem d_X6_init_8 : decode cX6_init 8 = .ok (.dup, 1) := by decide +kernel
theorem d_X6_init_9 : decode cX6_init 9 = .ok (.invokespecial 9, 3) := by decide +kernel
theorem d_X6_init_12 : decode cX6_init 12 = .ok (.putfield 10, 3) := by decide +kernel
theorem d_X6_init_15 : decode cX6_init 15 = .ok (.aload_n 0, 1) := by decide +kernel
theorem d_X6_init_16 : decode cX6_init 16 = .ok (.new 16, 3) := by decide +kernel
theorem d_X6_init_19 : decode cX6_init 19 = .ok (.dup, 1) := by decide +kernel
theorem d_X6_init_20 : decode cX6_init 20 = .ok (.invokespecial 18, 3) := by decide +kernel
theorem d_X6_init_23 : decode cX6_init 23 = .ok (.putfield 19, 3) := by decide +kernel
theorem d_X6_init_26 : decode cX6_init 26 = .ok (.aload_n 0, 1) := by decide +kernel
theorem d_X6_init_27 : decode cX6_init 27 = .ok (.new 16, 3) := by decide +kernel
theorem d_X6_init_30 : decode cX6_init 30 = .ok (.dup, 1) := by decide +kernel
theorem d_X6_init_31 : decode cX6_init 31 = .ok (.invokespecial 18, 3) := by decide +kernel
theorem d_X6_init_34 : decode cX6_init 34 = .ok (.putfield 23, 3) := by decide +kernel
theorem d_X6_init_37 : decode cX6_init 37 = .ok (.aload_n 0, 1) := by decide +kernel
theorem d_X6_init_38 : decode cX6_init 38 = .ok (.new 26, 3) := by decide +kernel
theorem d_X6_init_41 : decode cX6_init 41 = .ok (.dup, 1) := by decide +kernel
theorem d_X6_init_42 : decode cX6_init 42 = .ok (.aload_n 0, 1) := by decide +kernel
theorem d_X6_init_43 : decode cX6_init 43 = .ok (.getfield 19, 3) := by decide +kernel
theorem d_X6_init_46 : decode cX6_init 46 = .ok (.invokespecial 28, 3) := by decide +kernel
theorem d_X6_init_49 : decode cX6_init 49 = .ok (.putfield 31, 3) := by decide +kernel
theorem d_X6_init_52 : decode cX6_init 52 = .ok (.aload_n 0, 1) := by decide +kernel
theorem d_X6_init_53 : decode cX6_init 53 = .ok (.new 26, 3) := by decide +kernel
theorem d_X6_init_56 : decode cX6_init 56 = .ok (.dup, 1) := by decide +kernel
theorem d_X6_init_57 : decode cX6_init 57 = .ok (.aload_n 0, 1) := by decide +kernel
theorem d_X6_init_58 : decode cX6_init 58 = .ok (.getfield 19, 3) := by decide +kernel
theorem d_X6_init_61 : decode cX6_init 61 = .ok (.invokespecial 28, 3) := by decide +kernel
theorem d_X6_init_64 : decode cX6_init 64 = .ok (.putfield 35, 3) := by decide +kernel
theorem d_X6_init_67 : decode cX6_init 67 = .ok (.aload_n 0, 1) := by decide +kernel
theorem d_X6_init_68 : decode cX6_init 68 = .ok (.new 38, 3) := by decide +kernel
theorem d_X6_init_71 : decode cX6_init 71 = .ok (.dup, 1) := by decide +kernel
theorem d_X6_init_72 : decode cX6_init 72 = .ok (.bipush 8, 2) := by decide +kernel
theorem d_X6_init_74 : decode cX6_init 74 = .ok (.aload_n 0, 1) := by decide +kernel
theorem d_X6_init_75 : decode cX6_init 75 = .ok (.getfield 19, 3) := by decide +kernel
theorem d_X6_init_78 : decode cX6_init 78 = .ok (.invokespecial 40, 3) := by decide +kernel
theorem d_X6_init_81 : decode cX6_init 81 = .ok (.putfield 43, 3) := by decide +kernel
theorem d_X6_init_84 : decode cX6_init 84 = .ok (.aload_n 0, 1) := by decide +kernel
theorem d_X6_init_85 : decode cX6_init 85 = .ok (.new 38, 3) := by decide +kernel
theorem d_X6_init_88 : decode cX6_init 88 = .ok (.dup, 1) := by decide +kernel
theorem d_X6_init_89 : decode cX6_init 89 = .ok (.iconst 2, 1) := by decide +kernel
theorem d_X6_init_90 : decode cX6_init 90 = .ok (.aload_n 0, 1) := by decide +kernel
theorem d_X6_init_91 : decode cX6_init 91 = .ok (.getfield 19, 3) := by decide +kernel
theorem d_X6_init_94 : decode cX6_init 94 = .ok (.invokespecial 40, 3) := by decide +kernel
theorem d_X6_init_97 : decode cX6_init 97 = .ok (.putfield 47, 3) := by decide +kernel
theorem d_X6_init_100 : decode cX6_init 100 = .ok (.aload_n 0, 1) := by decide +kernel
theorem d_X6_init_101 : decode cX6_init 101 = .ok (.new 50, 3) := by decide +kernel
theorem d_X6_init_104 : decode cX6_init 104 = .ok (.dup, 1) := by decide +kernel
theorem d_X6_init_105 : decode cX6_init 105 = .ok (.aload_n 0, 1) := by decide +kernel
theorem d_X6_init_106 : decode cX6_init 106 = .ok (.getfield 35, 3) := by decide +kernel
theorem d_X6_init_109 : decode cX6_init 109 = .ok (.invokespecial 52, 3) := by decide +kernel
theorem d_X6_init_112 : decode cX6_init 112 = .ok (.putfield 55, 3) := by decide +kernel
theorem d_X6_init_115 : decode cX6_init 115 = .ok (.aload_n 0, 1) := by decide +kernel
theorem d_X6_init_116 : decode cX6_init 116 = .ok (.new 59, 3) := by decide +kernel
theorem d_X6_init_119 : decode cX6_init 119 = .ok (.dup, 1) := by decide +kernel
theorem d_X6_init_120 : decode cX6_init 120 = .ok (.aload_n 0, 1) := by decide +kernel
theorem d_X6_init_121 : decode cX6_init 121 = .ok (.getfield 19, 3) := by decide +kernel
theorem d_X6_init_124 : decode cX6_init 124 = .ok (.invokespecial 61, 3) := by decide +kernel
theorem d_X6_init_127 : decode cX6_init 127 = .ok (.putfield 62, 3) := by decide +kernel
theorem d_X6_init_130 : decode cX6_init 130 = .ok (.iconst 0, 1) := by decide +kernel
theorem d_X6_init_131 : decode cX6_init 131 = .ok (.istore_n 1, 1) := by decide +kernel
theorem d_X6_init_132 : decode cX6_init 132 = .ok (.iload_n 1, 1) := by decide +kernel
theorem d_X6_init_133 : decode cX6_init 133 = .ok (.ldc 66, 2) := by decide +kernel
theorem d_X6_init_135 : decode cX6_init 135 = .ok (.invokevirtual 68, 3) := by decide +kernel
theorem d_X6_init_138 : decode cX6_init 138 = .ok (.if_icmp .ge 22, 3) := by decide +kernel
theorem d_X6_init_141 : decode cX6_init 141 = .ok (.aload_n 0, 1) := by decide +kernel
theorem d_X6_init_142 : decode cX6_init 142 = .ok (.getfield 10, 3) := by decide +kernel
theorem d_X6_init_145 : decode cX6_init 145 = .ok (.ldc 66, 2) := by decide +kernel
theorem d_X6_init_147 : decode cX6_init 147 = .ok (.iload_n 1, 1) := by decide +kernel
theorem d_X6_init_148 : decode cX6_init 148 = .ok (.invokevirtual 74, 3) := by decide +kernel
theorem d_X6_init_154 : decode cX6_init 154 = .ok (.iinc 1 1, 3) := by decide +kernel
theorem d_X6_init_157 : decode cX6_init 157 = .ok (.goto (-25), 3) := by decide +kernel
set_option maxHeartbeats 4000000 in
set_option maxRecDepth 100000 in
theorem k_textL {sx : QX} {g : QG} {p : Program} {l : Launch} {e : Env} {R : Room} {s : State} {m : MethodId} {args : Array Value} {below : List Frame} {meth : Method} {c : Code} {cells slots : Nat} {Q : State → Prop} {P : QR → Prop} {tx : String} (hC : q_Cx sx g p l e R s m args below meth c cells slots Q RX6 cX6_init 2 none (q_room 20) P) (hR2 : 10 ≤ R.frames ∧ 1000 ≤ R.locals) {adK adV : Nat → Nat} (hE : k_EA (q_A g) adK adV s) (hZ : vk_R RX6 66 tx (adK 0) s)
    (done : ∀ H : QH, H 1 2 = nI 93 → (∀ j, j < 93 → H 2 j = q_T j) → (∀ a, a ≠ 1 → a ≠ 2 → H a = fun _ => nI 0) → q_W g p l e R s m args below meth c cells slots Q 2 (160, ([(0, vr 8 0)], ([], H)))) :
    ∀ (r k : Nat) (H : QH), k + r = 93 → H 1 2 = nI k → (∀ j, j < k → H 2 j = q_T j) → (∀ a, a ≠ 1 → a ≠ 2 → H a = fun _ => nI 0) → q_W g p l e R s m args below meth c cells slots Q 2 (132, ([(0, vr 8 0), (1, vn k)], ([], H))) := by
  have hC' := hC
  obtain ⟨hx, hb, hml, hown, hts, hK, hX, hbl, hN, hJ, ⟨-, -, hr3, hr4, hcs⟩, -⟩ := hC'
  have hnp : 1 < q_np g := by rcases q_np_or g with h | h <;> omega
  intro r
  induction r with
  | zero =>
    intro k H hk h1 h2 h3
    · have hk93 : k = 93 := by omega
      subst hk93
      intro Hh locs lsA hl hP hS
      have hl : lv_has lsA 2 [(0, .ref (q_ad g 0)), (1, .int (nI 93))] := hl
      show W p l e R s m args below meth c Hh locs cells slots Q (F0 m 132 lsA [])
      refine lv_iload_n hx hb d_X6_init_132 rfl (lv_at hl 1 rfl) ?_
      refine va_ldcS hx hb hown hZ d_X6_init_133 ?_
      refine va_calli (va_runV (C := RJ0) (b := adK 0) (As := []) (rest := [.int (nI 93)]) (n := 0) ⟨hx, hb, hml, hown, hts⟩ (c_length l adK adV) ⟨callB_of 0 hts (k_good kc_1_213) rfl rfl rfl (hts _ kc_1_8) (hts _ kc_1_210) (by decide +kernel) ⟨Nat.le_trans (Nat.le_of_ble_eq_true rfl) hR2.1, Nat.le_trans (Nat.le_of_ble_eq_true rfl) hR2.2⟩, hts _ kc_1_211, hts _ kc_1_212⟩ ⟨k_Ebl adK adV _, vk_recv hE.1 (by decide) hS, fun U hU hW => ⟨rfl, (hE.at hS hU hW.alike).narrow (fun _ h => h.elim)⟩⟩ rfl rfl hl.1 rfl (lv_room (Nat.le_of_ble_eq_true rfl)) d_X6_init_135 ⟨hcs.1, hcs.2⟩) hS (fun _ _ h => h.elim) (fun _ h => h.elim) (fun r9 u9 t9 H9 locs ht hvm hw hB hz1 hk1 hS => ?_)
      subst hw
      have hP := hP.kept (H1 := H9) (fun k q hk => hk1 _ (hP k q hk).lt (fun h => h))
      refine lv_icmp_ge (tgt := 160) hx hb d_X6_init_138 (by decide) (fun _ => ?_) (fun q => absurd (Int32.le_refl _) q)
      exact done H h1 h2 h3 H9 locs lsA (lv_sub hl [0] rfl) hP hS
  | succ r ih =>
    intro k H hk h1 h2 h3
    · have hk93 : k < 93 := by omega
      intro Hh locs lsA hl hP hS
      have hl : lv_has lsA 2 [(0, .ref (q_ad g 0)), (1, .int (nI k))] := hl
      show W p l e R s m args below meth c Hh locs cells slots Q (F0 m 132 lsA [])
      refine lv_iload_n hx hb d_X6_init_132 rfl (lv_at hl 1 rfl) ?_
      refine va_ldcS hx hb hown hZ d_X6_init_133 ?_
      refine va_calli (va_runV (C := RJ0) (b := adK 0) (As := []) (rest := [.int (nI k)]) (n := 0) ⟨hx, hb, hml, hown, hts⟩ (c_length l adK adV) ⟨callB_of 0 hts (k_good kc_1_213) rfl rfl rfl (hts _ kc_1_8) (hts _ kc_1_210) (by decide +kernel) ⟨Nat.le_trans (Nat.le_of_ble_eq_true rfl) hR2.1, Nat.le_trans (Nat.le_of_ble_eq_true rfl) hR2.2⟩, hts _ kc_1_211, hts _ kc_1_212⟩ ⟨k_Ebl adK adV _, vk_recv hE.1 (by decide) hS, fun U hU hW => ⟨rfl, (hE.at hS hU hW.alike).narrow (fun _ h => h.elim)⟩⟩ rfl rfl hl.1 rfl (lv_room (Nat.le_of_ble_eq_true rfl)) d_X6_init_135 ⟨hcs.1, hcs.2⟩) hS (fun _ _ h => h.elim) (fun _ h => h.elim) (fun r9 u9 t9 H9 locs ht hvm hw hB hz1 hk1 hS => ?_)
      subst hw
      have hP := hP.kept (H1 := H9) (fun k q hk => hk1 _ (hP k q hk).lt (fun h => h))
      refine lv_icmp_ge (tgt := 160) hx hb d_X6_init_138 (by decide) (fun q => absurd q (by rw [nI_leI (by omega) (by omega)]; omega)) (fun _ => ?_)
      refine lv_aload_n hx hb d_X6_init_141 rfl (lv_at hl 0 rfl) ?_
      refine va_get (v := .ref (q_ad g 1)) hx hb hts in_X6 hown hK hP 0 ((q_wd_get g H (p := 0) (by omega)).trans (by rw [q_en_obj (k := 8) rfl (by decide)])) rfl 0 (by decide) (hts _ kc_2_117) (fun _ h9 => h9) ((q_fs_get (k := 8) (by decide)).trans rfl) d_X6_init_142 ?_
      refine va_ldcS hx hb hown hZ d_X6_init_145 ?_
      refine lv_iload_n hx hb d_X6_init_147 rfl (lv_at hl 1 rfl) ?_
      refine va_calli (va_runV (C := RJ0) (b := adK 0) (As := [.int (nI k)]) (rest := [.ref (q_ad g 1)]) (n := 1) ⟨hx, hb, hml, hown, hts⟩ (c_charAt l adK adV k hk93) ⟨callB_of 1 hts (k_good kc_1_223) rfl rfl rfl (hts _ kc_1_8) (hts _ kc_1_220) (by decide +kernel) ⟨Nat.le_trans (Nat.le_of_ble_eq_true rfl) hR2.1, Nat.le_trans (Nat.le_of_ble_eq_true rfl) hR2.2⟩, hts _ kc_1_221, hts _ kc_1_222⟩ ⟨k_Ebl adK adV _, vk_recv hE.1 (by decide) hS, fun U hU hW => ⟨rfl, (hE.at hS hU hW.alike).narrow (fun _ h => h.elim)⟩⟩ rfl rfl hl.1 rfl (lv_room (Nat.le_of_ble_eq_true rfl)) d_X6_init_148 ⟨hcs.1, hcs.2⟩) hS (fun _ _ h => h.elim) (fun _ h => h.elim) (fun r9 u9 t9 H9 locs ht hvm hw hB hz1 hk1 hS => ?_)
      subst hw
      have hP := hP.kept (H1 := H9) (fun k q hk => hk1 _ (hP k q hk).lt (fun h => h))
      rw [show q_chr k = q_T k from q_chr_eq k hk93]
      have hok : q_ok g (151, ([(0, vr 8 0), (1, vn k)], ([vi (q_T k), vr 7 1], H))) := by
        refine ⟨fun q hq => ?_, fun v hv => ?_⟩
        · rcases List.mem_cons.mp hq with h | h
          · subst h
            exact Or.inr ⟨by omega, rfl⟩
          · rcases List.mem_cons.mp h with h | h
            · subst h
              exact trivial
            · cases h
        · rcases List.mem_cons.mp hv with h | h
          · subst h
            exact trivial
          · rcases List.mem_cons.mp h with h | h
            · subst h
              exact Or.inr ⟨hnp, rfl⟩
            · cases h
      have ha := s_append sx g p l e R s m args below meth c cells slots Q (q_room 20) P hC [(0, vr 8 0), (1, vn k)] [vi (q_T k), vr 7 1] H hok
      obtain ⟨hokE, hgo⟩ := ha rfl
      refine (hgo (q_hs (q_hs H 2 k (q_T k)) 1 2 (nI (k + 1)))).2 (k_met sx hJ l (q_append sx 18 k (q_T k) H h1 (by omega)) hokE) ?_ H9 locs lsA hl hP hS
      intro Hh locs lsA hl hP hS
      have hl : lv_has lsA 2 [(0, .ref (q_ad g 0)), (1, .int (nI k))] := hl
      show W p l e R s m args below meth c Hh locs cells slots Q (F0 m 154 lsA [])
      refine lv_iinc (v := nI (k + 1)) (lv' := [(1, .int (nI (k + 1))), (0, .ref (q_ad g 0))]) hx hb d_X6_init_154 hl (k := 1) rfl (nI_add k 1) (by decide) rfl (fun ls hl => ?_)
      refine lv_goto (tgt := 132) hx hb d_X6_init_157 (by decide) ?_
      refine ih (k + 1) (q_hs (q_hs H 2 k (q_T k)) 1 2 (nI (k + 1))) (by omega) q_hs_at (fun j hj => ?_) (fun a k1 k2 => by rw [q_hs_ne k1, q_hs_ne k2]; exact h3 a k1 k2) Hh locs ls (lv_sub hl [1, 0] rfl) hP hS
      rw [q_hs_ne (by omega)]
      by_cases ej : j = k
      · subst ej
        exact q_hs_at
      · rw [q_hs_ix ej]
        exact h2 j (by omega)
