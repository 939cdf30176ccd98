theorem d_X0_clear_0 : decode cX0_clear 0 = .ok (.aload_n 0, 1) := by decide +kernel
theorem d_X0_clear_1 : decode cX0_clear 1 = .ok (.iconst 0, 1) := by decide +kernel
theorem d_X0_clear_2 : decode cX0_clear 2 = .ok (.putfield 36, 3) := by decide +kernel
theorem d_X0_clear_5 : decode cX0_clear 5 = .ok (.aload_n 0, 1) := by decide +kernel
theorem d_X0_clear_6 : decode cX0_clear 6 = .ok (.iconst 0, 1) := by decide +kernel
theorem d_X0_clear_7 : decode cX0_clear 7 = .ok (.putfield 40, 3) := by decide +kernel
theorem d_X0_clear_10 : decode cX0_clear 10 = .ok (.aload_n 0, 1) := by decide +kernel
theorem d_X0_clear_11 : decode cX0_clear 11 = .ok (.iconst 0, 1) := by decide +kernel
theorem d_X0_clear_12 : decode cX0_clear 12 = .ok (.putfield 43, 3) := by decide +kernel
theorem d_X0_clear_15 : decode cX0_clear 15 = .ok (.aload_n 0, 1) := by decide +kernel
theorem d_X0_clear_16 : decode cX0_clear 16 = .ok (.iconst 1, 1) := by decide +kernel
theorem d_X0_clear_17 : decode cX0_clear 17 = .ok (.putfield 46, 3) := by decide +kernel
theorem d_X0_clear_20 : decode cX0_clear 20 = .ok (.aload_n 0, 1) := by decide +kernel
theorem d_X0_clear_21 : decode cX0_clear 21 = .ok (.getfield 27, 3) := by decide +kernel
theorem d_X0_clear_24 : decode cX0_clear 24 = .ok (.bipush (-4), 2) := by decide +kernel
theorem d_X0_clear_26 : decode cX0_clear 26 = .ok (.invokestatic 49, 3) := by decide +kernel
theorem d_X0_clear_29 : decode cX0_clear 29 = .ok (.return_, 1) := by decide +kernel
def t_X0_clear_0 : List (Nat × QO) := [(0, o_al 0 1), (1, o_k 0 2), (2, o_pf 0 0 5), (5, o_al 0 6), (6, o_k 0 7), (7, o_pf 0 1 10), (10, o_al 0 11), (11, o_k 0 12), (12, o_pf 0 2 15), (15, o_al 0 16), (16, o_k 1 17), (17, o_pf 0 3 20)]
theorem ts_X0_clear_0 (sx : QX) : ∀ q ∈ t_X0_clear_0, q_Snd sx RX0 cX0_clear 1 none q.1 q.2 := List.forall_mem_cons.mpr ⟨s_aload_n d_X0_clear_0 rfl, List.forall_mem_cons.mpr ⟨s_iconst d_X0_clear_1 rfl, List.forall_mem_cons.mpr ⟨s_pf tyX0 d_X0_clear_2 rfl (by decide) n_X0 in_X0 rfl k_1_50 tyX0_ok nmX0 rfl rfl, List.forall_mem_cons.mpr ⟨s_aload_n d_X0_clear_5 rfl, List.forall_mem_cons.mpr ⟨s_iconst d_X0_clear_6 rfl, List.forall_mem_cons.mpr ⟨s_pf tyX0 d_X0_clear_7 rfl (by decide) n_X0 in_X0 rfl k_1_54 tyX0_ok nmX0 rfl rfl, List.forall_mem_cons.mpr ⟨s_aload_n d_X0_clear_10 rfl, List.forall_mem_cons.mpr ⟨s_iconst d_X0_clear_11 rfl, List.forall_mem_cons.mpr ⟨s_pf tyX0 d_X0_clear_12 rfl (by decide) n_X0 in_X0 rfl k_1_58 tyX0_ok nmX0 rfl rfl, List.forall_mem_cons.mpr ⟨s_aload_n d_X0_clear_15 rfl, List.forall_mem_cons.mpr ⟨s_iconst d_X0_clear_16 rfl, List.forall_mem_cons.mpr ⟨s_pf tyX0 d_X0_clear_17 rfl (by decide) n_X0 in_X0 rfl k_1_62 tyX0_ok nmX0 rfl rfl, fun _ h => absurd h List.not_mem_nil⟩⟩⟩⟩⟩⟩⟩⟩⟩⟩⟩⟩
def t_X0_clear_1 : List (Nat × QO) := [(20, o_al 0 21), (21, o_gf 0 9 24), (24, o_k (-4) 26), (26, o_cS 0 99 3 2 29), (29, o_vr)]
theorem ts_X0_clear_1 (sx : QX) : ∀ q ∈ t_X0_clear_1, q_Snd sx RX0 cX0_clear 1 none q.1 q.2 := List.forall_mem_cons.mpr ⟨s_aload_n d_X0_clear_20 rfl, List.forall_mem_cons.mpr ⟨s_gf d_X0_clear_21 rfl (by decide) n_X0 in_X0 rfl k_1_76, List.forall_mem_cons.mpr ⟨s_bipush d_X0_clear_24 rfl, List.forall_mem_cons.mpr ⟨s_cN (host := "StoneApologies") rfl d_X0_clear_26 (List.mem_of_getElem? (i := 3) rfl) k_2_38 k_1_1 k_2_39 ⟨by decide, by decide⟩ (by decide +kernel) (by decide), List.forall_mem_cons.mpr ⟨s_vr d_X0_clear_29 rfl, fun _ h => absurd h List.not_mem_nil⟩⟩⟩⟩⟩
def t_X0_clear (pc : Nat) : Option QO := cond (Nat.ble pc 17) (q_look (t_X0_clear_0) pc) (q_look (t_X0_clear_1) pc)
theorem ts_X0_clear (sx : QX) (pc : Nat) : ∀ o, t_X0_clear pc = some o → q_Snd sx RX0 cX0_clear 1 none pc o := by
  unfold t_X0_clear
  exact q_cb (q_look_all (ts_X0_clear_0 sx)) (q_look_all (ts_X0_clear_1 sx))
theorem d_X0_isWhole_0 : decode cX0_isWhole 0 = .ok (.aload_n 0, 1) := by decide +kernel
theorem d_X0_isWhole_1 : decode cX0_isWhole 1 = .ok (.getfield 36, 3) := by decide +kernel
theorem d_X0_isWhole_4 : decode cX0_isWhole 4 = .ok (.ifCond .le 21, 3) := by decide +kernel
theorem d_X0_isWhole_7 : decode cX0_isWhole 7 = .ok (.aload_n 0, 1) := by decide +kernel
theorem d_X0_isWhole_8 : decode cX0_isWhole 8 = .ok (.getfield 40, 3) := by decide +kernel
theorem d_X0_isWhole_11 : decode cX0_isWhole 11 = .ok (.ifCond .le 14, 3) := by decide +kernel
theorem d_X0_isWhole_14 : decode cX0_isWhole 14 = .ok (.aload_n 0, 1) := by decide +kernel
theorem d_X0_isWhole_15 : decode cX0_isWhole 15 = .ok (.getfield 43, 3) := by decide +kernel
theorem d_X0_isWhole_18 : decode cX0_isWhole 18 = .ok (.ifCond .le 7, 3) := by decide +kernel
theorem d_X0_isWhole_21 : decode cX0_isWhole 21 = .ok (.iconst 1, 1) := by decide +kernel
theorem d_X0_isWhole_22 : decode cX0_isWhole 22 = .ok (.goto 4, 3) := by decide +kernel
theorem d_X0_isWhole_25 : decode cX0_isWhole 25 = .ok (.iconst 0, 1) := by decide +kernel
theorem d_X0_isWhole_26 : decode cX0_isWhole 26 = .ok (.ireturn, 1) := by decide +kernel
def t_X0_isWhole_0 : List (Nat × QO) := [(0, o_al 0 1), (1, o_gf 0 0 4), (4, o_if (fun x => decide (x ≤ 0)) 25 7), (7, o_al 0 8), (8, o_gf 0 1 11), (11, o_if (fun x => decide (x ≤ 0)) 25 14), (14, o_al 0 15), (15, o_gf 0 2 18), (18, o_if (fun x => decide (x ≤ 0)) 25 21), (21, o_k 1 22), (22, o_goto 26), (25, o_k 0 26)]
theorem ts_X0_isWhole_0 (sx : QX) : ∀ q ∈ t_X0_isWhole_0, q_Snd sx RX0 cX0_isWhole 1 (some .boolean) q.1 q.2 := List.forall_mem_cons.mpr ⟨s_aload_n d_X0_isWhole_0 rfl, List.forall_mem_cons.mpr ⟨s_gf d_X0_isWhole_1 rfl (by decide) n_X0 in_X0 rfl k_1_50, List.forall_mem_cons.mpr ⟨s_if_le d_X0_isWhole_4 (by decide), List.forall_mem_cons.mpr ⟨s_aload_n d_X0_isWhole_7 rfl, List.forall_mem_cons.mpr ⟨s_gf d_X0_isWhole_8 rfl (by decide) n_X0 in_X0 rfl k_1_54, List.forall_mem_cons.mpr ⟨s_if_le d_X0_isWhole_11 (by decide), List.forall_mem_cons.mpr ⟨s_aload_n d_X0_isWhole_14 rfl, List.forall_mem_cons.mpr ⟨s_gf d_X0_isWhole_15 rfl (by decide) n_X0 in_X0 rfl k_1_58, List.forall_mem_cons.mpr ⟨s_if_le d_X0_isWhole_18 (by decide), List.forall_mem_cons.mpr ⟨s_iconst d_X0_isWhole_21 rfl, List.forall_mem_cons.mpr ⟨s_goto d_X0_isWhole_22 (by decide), List.forall_mem_cons.mpr ⟨s_iconst d_X0_isWhole_25 rfl, fun _ h => absurd h List.not_mem_nil⟩⟩⟩⟩⟩⟩⟩⟩⟩⟩⟩⟩
def t_X0_isWhole_1 : List (Nat × QO) := [(26, o_ir true)]
theorem ts_X0_isWhole_1 (sx : QX) : ∀ q ∈ t_X0_isWhole_1, q_Snd sx RX0 cX0_isWhole 1 (some .boolean) q.1 q.2 := List.forall_mem_cons.mpr ⟨s_zr d_X0_isWhole_26 rfl, fun _ h => absurd h List.not_mem_nil⟩
def t_X0_isWhole (pc : Nat) : Option QO := cond (Nat.ble pc 25) (q_look (t_X0_isWhole_0) pc) (q_look (t_X0_isWhole_1) pc)
theorem ts_X0_isWhole (sx : QX) (pc : Nat) : ∀ o, t_X0_isWhole pc = some o → q_Snd sx RX0 cX0_isWhole 1 (some .boolean) pc o := by
  unfold t_X0_isWhole
  exact q_cb (q_look_all (ts_X0_isWhole_0 sx)) (q_look_all (ts_X0_isWhole_1 sx))
theorem d_X0_addBlock_0 : decode cX0_addBlock 0 = .ok (.aload_n 0, 1) := by decide +kernel
theorem d_X0_addBlock_1 : decode cX0_addBlock 1 = .ok (.getfield 36, 3) := by decide +kernel
theorem d_X0_addBlock_4 : decode cX0_addBlock 4 = .ok (.bipush 6, 2) := by decide +kernel
theorem d_X0_addBlock_6 : decode cX0_addBlock 6 = .ok (.if_icmp .ge 19, 3) := by decide +kernel
theorem d_X0_addBlock_9 : decode cX0_addBlock 9 = .ok (.iload_n 1, 1) := by decide +kernel
theorem d_X0_addBlock_10 : decode cX0_addBlock 10 = .ok (.iconst 4, 1) := by decide +kernel
theorem d_X0_addBlock_11 : decode cX0_addBlock 11 = .ok (.if_icmp .ge 14, 3) := by decide +kernel
theorem d_X0_addBlock_14 : decode cX0_addBlock 14 = .ok (.iload_n 2, 1) := by decide +kernel
theorem d_X0_addBlock_15 : decode cX0_addBlock 15 = .ok (.iconst 1, 1) := by decide +kernel
theorem d_X0_addBlock_16 : decode cX0_addBlock 16 = .ok (.if_icmp .lt 9, 3) := by decide +kernel
theorem d_X0_addBlock_19 : decode cX0_addBlock 19 = .ok (.iload_n 2, 1) := by decide +kernel
theorem d_X0_addBlock_20 : decode cX0_addBlock 20 = .ok (.bipush 60, 2) := by decide +kernel
theorem d_X0_addBlock_22 : decode cX0_addBlock 22 = .ok (.if_icmp .le 5, 3) := by decide +kernel
theorem d_X0_addBlock_25 : decode cX0_addBlock 25 = .ok (.iconst 0, 1) := by decide +kernel
theorem d_X0_addBlock_26 : decode cX0_addBlock 26 = .ok (.ireturn, 1) := by decide +kernel
theorem d_X0_addBlock_27 : decode cX0_addBlock 27 = .ok (.aload_n 0, 1) := by decide +kernel
theorem d_X0_addBlock_28 : decode cX0_addBlock 28 = .ok (.getfield 9, 3) := by decide +kernel
theorem d_X0_addBlock_31 : decode cX0_addBlock 31 = .ok (.aload_n 0, 1) := by decide +kernel
theorem d_X0_addBlock_32 : decode cX0_addBlock 32 = .ok (.getfield 36, 3) := by decide +kernel
theorem d_X0_addBlock_35 : decode cX0_addBlock 35 = .ok (.iload_n 1, 1) := by decide +kernel
theorem d_X0_addBlock_36 : decode cX0_addBlock 36 = .ok (.invokestatic 53, 3) := by decide +kernel
theorem d_X0_addBlock_39 : decode cX0_addBlock 39 = .ok (.aload_n 0, 1) := by decide +kernel
theorem d_X0_addBlock_40 : decode cX0_addBlock 40 = .ok (.getfield 15, 3) := by decide +kernel
theorem d_X0_addBlock_43 : decode cX0_addBlock 43 = .ok (.aload_n 0, 1) := by decide +kernel
theorem d_X0_addBlock_44 : decode cX0_addBlock 44 = .ok (.getfield 36, 3) := by decide +kernel
theorem d_X0_addBlock_47 : decode cX0_addBlock 47 = .ok (.iload_n 2, 1) := by decide +kernel
theorem d_X0_addBlock_48 : decode cX0_addBlock 48 = .ok (.invokestatic 53, 3) := by decide +kernel
theorem d_X0_addBlock_51 : decode cX0_addBlock 51 = .ok (.aload_n 0, 1) := by decide +kernel
theorem d_X0_addBlock_52 : decode cX0_addBlock 52 = .ok (.dup, 1) := by decide +kernel
theorem d_X0_addBlock_53 : decode cX0_addBlock 53 = .ok (.getfield 36, 3) := by decide +kernel
theorem d_X0_addBlock_56 : decode cX0_addBlock 56 = .ok (.iconst 1, 1) := by decide +kernel
theorem d_X0_addBlock_57 : decode cX0_addBlock 57 = .ok (.iadd, 1) := by decide +kernel
theorem d_X0_addBlock_58 : decode cX0_addBlock 58 = .ok (.putfield 36, 3) := by decide +kernel
theorem d_X0_addBlock_61 : decode cX0_addBlock 61 = .ok (.iconst 1, 1) := by decide +kernel
theorem d_X0_addBlock_62 : decode cX0_addBlock 62 = .ok (.ireturn, 1) := by decide +kernel
def t_X0_addBlock_0 : List (Nat × QO) := [(0, o_al 0 1), (1, o_gf 0 0 4), (4, o_k 6 6), (6, o_ic (fun x y => decide (y ≤ x)) 25 9), (9, o_il 1 10), (10, o_k 4 11), (11, o_ic (fun x y => decide (y ≤ x)) 25 14), (14, o_il 2 15), (15, o_k 1 16), (16, o_ic (fun x y => decide (x < y)) 25 19), (19, o_il 2 20), (20, o_k 60 22)]
theorem ts_X0_addBlock_0 (sx : QX) : ∀ q ∈ t_X0_addBlock_0, q_Snd sx RX0 cX0_addBlock 3 (some .boolean) q.1 q.2 := List.forall_mem_cons.mpr ⟨s_aload_n d_X0_addBlock_0 rfl, List.forall_mem_cons.mpr ⟨s_gf d_X0_addBlock_1 rfl (by decide) n_X0 in_X0 rfl k_1_50, List.forall_mem_cons.mpr ⟨s_bipush d_X0_addBlock_4 rfl, List.forall_mem_cons.mpr ⟨s_ic_ge d_X0_addBlock_6 (by decide), List.forall_mem_cons.mpr ⟨s_iload_n d_X0_addBlock_9 rfl, List.forall_mem_cons.mpr ⟨s_iconst d_X0_addBlock_10 rfl, List.forall_mem_cons.mpr ⟨s_ic_ge d_X0_addBlock_11 (by decide), List.forall_mem_cons.mpr ⟨s_iload_n d_X0_addBlock_14 rfl, List.forall_mem_cons.mpr ⟨s_iconst d_X0_addBlock_15 rfl, List.forall_mem_cons.mpr ⟨s_ic_lt d_X0_addBlock_16 (by decide), List.forall_mem_cons.mpr ⟨s_iload_n d_X0_addBlock_19 rfl, List.forall_mem_cons.mpr ⟨s_bipush d_X0_addBlock_20 rfl, fun _ h => absurd h List.not_mem_nil⟩⟩⟩⟩⟩⟩⟩⟩⟩⟩⟩⟩
def t_X0_addBlock_1 : List (Nat × QO) := [(22, o_ic (fun x y => decide (x ≤ y)) 27 25), (25, o_k 0 26), (26, o_ir true), (27, o_al 0 28), (28, o_gf 0 4 31), (31, o_al 0 32), (32, o_gf 0 0 35), (35, o_il 1 36), (36, o_cS 0 98 3 3 39), (39, o_al 0 40), (40, o_gf 0 5 43), (43, o_al 0 44)]
theorem ts_X0_addBlock_1 (sx : QX) : ∀ q ∈ t_X0_addBlock_1, q_Snd sx RX0 cX0_addBlock 3 (some .boolean) q.1 q.2 := List.forall_mem_cons.mpr ⟨s_ic_le d_X0_addBlock_22 (by decide), List.forall_mem_cons.mpr ⟨s_iconst d_X0_addBlock_25 rfl, List.forall_mem_cons.mpr ⟨s_zr d_X0_addBlock_26 rfl, List.forall_mem_cons.mpr ⟨s_aload_n d_X0_addBlock_27 rfl, List.forall_mem_cons.mpr ⟨s_gf d_X0_addBlock_28 rfl (by decide) n_X0 in_X0 rfl k_1_63, List.forall_mem_cons.mpr ⟨s_aload_n d_X0_addBlock_31 rfl, List.forall_mem_cons.mpr ⟨s_gf d_X0_addBlock_32 rfl (by decide) n_X0 in_X0 rfl k_1_50, List.forall_mem_cons.mpr ⟨s_iload_n d_X0_addBlock_35 rfl, List.forall_mem_cons.mpr ⟨s_cN (host := "StoneApologies") rfl d_X0_addBlock_36 (List.mem_of_getElem? (i := 5) rfl) k_2_23 k_1_1 k_2_24 ⟨by decide, by decide⟩ (by decide +kernel) (by decide), List.forall_mem_cons.mpr ⟨s_aload_n d_X0_addBlock_39 rfl, List.forall_mem_cons.mpr ⟨s_gf d_X0_addBlock_40 rfl (by decide) n_X0 in_X0 rfl k_1_66, List.forall_mem_cons.mpr ⟨s_aload_n d_X0_addBlock_43 rfl, fun _ h => absurd h List.not_mem_nil⟩⟩⟩⟩⟩⟩⟩⟩⟩⟩⟩⟩
def t_X0_addBlock_2 : List (Nat × QO) := [(44, o_gf 0 0 47), (47, o_il 2 48), (48, o_cS 0 98 3 3 51), (51, o_al 0 52), (52, o_dup 53), (53, o_gf 0 0 56), (56, o_k 1 57), (57, o_b (fun x y => x + y) 58), (58, o_pf 0 0 61), (61, o_k 1 62), (62, o_ir true)]
theorem ts_X0_addBlock_2 (sx : QX) : ∀ q ∈ t_X0_addBlock_2, q_Snd sx RX0 cX0_addBlock 3 (some .boolean) q.1 q.2 := List.forall_mem_cons.mpr ⟨s_gf d_X0_addBlock_44 rfl (by decide) n_X0 in_X0 rfl k_1_50, List.forall_mem_cons.mpr ⟨s_iload_n d_X0_addBlock_47 rfl, List.forall_mem_cons.mpr ⟨s_cN (host := "StoneApologies") rfl d_X0_addBlock_48 (List.mem_of_getElem? (i := 5) rfl) k_2_23 k_1_1 k_2_24 ⟨by decide, by decide⟩ (by decide +kernel) (by decide), List.forall_mem_cons.mpr ⟨s_aload_n d_X0_addBlock_51 rfl, List.forall_mem_cons.mpr ⟨s_dup d_X0_addBlock_52, List.forall_mem_cons.mpr ⟨s_gf d_X0_addBlock_53 rfl (by decide) n_X0 in_X0 rfl k_1_50, List.forall_mem_cons.mpr ⟨s_iconst d_X0_addBlock_56 rfl, List.forall_mem_cons.mpr ⟨s_iadd d_X0_addBlock_57, List.forall_mem_cons.mpr ⟨s_pf tyX0 d_X0_addBlock_58 rfl (by decide) n_X0 in_X0 rfl k_1_50 tyX0_ok nmX0 rfl rfl, List.forall_mem_cons.mpr ⟨s_iconst d_X0_addBlock_61 rfl, List.forall_mem_cons.mpr ⟨s_zr d_X0_addBlock_62 rfl, fun _ h => absurd h List.not_mem_nil⟩⟩⟩⟩⟩⟩⟩⟩⟩⟩⟩
def t_X0_addBlock (pc : Nat) : Option QO := cond (Nat.ble pc 20) (q_look (t_X0_addBlock_0) pc) (cond (Nat.ble pc 43) (q_look (t_X0_addBlock_1) pc) (q_look (t_X0_addBlock_2) pc))
theorem ts_X0_addBlock (sx : QX) (pc : Nat) : ∀ o, t_X0_addBlock pc = some o → q_Snd sx RX0 cX0_addBlock 3 (some .boolean) pc o := by
  unfold t_X0_addBlock
  exact q_cb (q_look_all (ts_X0_addBlock_0 sx)) (q_cb (q_look_all (ts_X0_addBlock_1 sx)) (q_look_all (ts_X0_addBlock_2 sx)))
theorem d_X0_addWord_0 : decode cX0_addWord 0 = .ok (.aload_n 0, 1) := by decide +kernel
theorem d_X0_addWord_1 : decode cX0_addWord 1 = .ok (.getfield 40, 3) := by decide +kernel
theorem d_X0_addWord_4 : decode cX0_addWord 4 = .ok (.bipush 6, 2) := by decide +kernel
theorem d_X0_addWord_6 : decode cX0_addWord 6 = .ok (.if_icmp .ge 14, 3) := by decide +kernel
theorem d_X0_addWord_9 : decode cX0_addWord 9 = .ok (.iload_n 1, 1) := by decide +kernel
theorem d_X0_addWord_10 : decode cX0_addWord 10 = .ok (.iconst 1, 1) := by decide +kernel
theorem d_X0_addWord_11 : decode cX0_addWord 11 = .ok (.if_icmp .lt 9, 3) := by decide +kernel
theorem d_X0_addWord_14 : decode cX0_addWord 14 = .ok (.iload_n 1, 1) := by decide +kernel
theorem d_X0_addWord_15 : decode cX0_addWord 15 = .ok (.bipush 20, 2) := by decide +kernel
theorem d_X0_addWord_17 : decode cX0_addWord 17 = .ok (.if_icmp .le 5, 3) := by decide +kernel
theorem d_X0_addWord_20 : decode cX0_addWord 20 = .ok (.iconst 0, 1) := by decide +kernel
theorem d_X0_addWord_21 : decode cX0_addWord 21 = .ok (.ireturn, 1) := by decide +kernel
theorem d_X0_addWord_22 : decode cX0_addWord 22 = .ok (.aload_n 0, 1) := by decide +kernel
theorem d_X0_addWord_23 : decode cX0_addWord 23 = .ok (.getfield 18, 3) := by decide +kernel
theorem d_X0_addWord_26 : decode cX0_addWord 26 = .ok (.aload_n 0, 1) := by decide +kernel
theorem d_X0_addWord_27 : decode cX0_addWord 27 = .ok (.getfield 40, 3) := by decide +kernel
theorem d_X0_addWord_30 : decode cX0_addWord 30 = .ok (.iload_n 1, 1) := by decide +kernel
theorem d_X0_addWord_31 : decode cX0_addWord 31 = .ok (.invokestatic 53, 3) := by decide +kernel
theorem d_X0_addWord_34 : decode cX0_addWord 34 = .ok (.aload_n 0, 1) := by decide +kernel
theorem d_X0_addWord_35 : decode cX0_addWord 35 = .ok (.dup, 1) := by decide +kernel
theorem d_X0_addWord_36 : decode cX0_addWord 36 = .ok (.getfield 40, 3) := by decide +kernel
theorem d_X0_addWord_39 : decode cX0_addWord 39 = .ok (.iconst 1, 1) := by decide +kernel
theorem d_X0_addWord_40 : decode cX0_addWord 40 = .ok (.iadd, 1) := by decide +kernel
theorem d_X0_addWord_41 : decode cX0_addWord 41 = .ok (.putfield 40, 3) := by decide +kernel
theorem d_X0_addWord_44 : decode cX0_addWord 44 = .ok (.iconst 1, 1) := by decide +kernel
theorem d_X0_addWord_45 : decode cX0_addWord 45 = .ok (.ireturn, 1) := by decide +kernel
def t_X0_addWord_0 : List (Nat × QO) := [(0, o_al 0 1), (1, o_gf 0 1 4), (4, o_k 6 6), (6, o_ic (fun x y => decide (y ≤ x)) 20 9), (9, o_il 1 10), (10, o_k 1 11), (11, o_ic (fun x y => decide (x < y)) 20 14), (14, o_il 1 15), (15, o_k 20 17), (17, o_ic (fun x y => decide (x ≤ y)) 22 20), (20, o_k 0 21), (21, o_ir true)]
theorem ts_X0_addWord_0 (sx : QX) : ∀ q ∈ t_X0_addWord_0, q_Snd sx RX0 cX0_addWord 2 (some .boolean) q.1 q.2 := List.forall_mem_cons.mpr ⟨s_aload_n d_X0_addWord_0 rfl, List.forall_mem_cons.mpr ⟨s_gf d_X0_addWord_1 rfl (by decide) n_X0 in_X0 rfl k_1_54, List.forall_mem_cons.mpr ⟨s_bipush d_X0_addWord_4 rfl, List.forall_mem_cons.mpr ⟨s_ic_ge d_X0_addWord_6 (by decide), List.forall_mem_cons.mpr ⟨s_iload_n d_X0_addWord_9 rfl, List.forall_mem_cons.mpr ⟨s_iconst d_X0_addWord_10 rfl, List.forall_mem_cons.mpr ⟨s_ic_lt d_X0_addWord_11 (by decide), List.forall_mem_cons.mpr ⟨s_iload_n d_X0_addWord_14 rfl, List.forall_mem_cons.mpr ⟨s_bipush d_X0_addWord_15 rfl, List.forall_mem_cons.mpr ⟨s_ic_le d_X0_addWord_17 (by decide), List.forall_mem_cons.mpr ⟨s_iconst d_X0_addWord_20 rfl, List.forall_mem_cons.mpr ⟨s_zr d_X0_addWord_21 rfl, fun _ h => absurd h List.not_mem_nil⟩⟩⟩⟩⟩⟩⟩⟩⟩⟩⟩⟩
def t_X0_addWord_1 : List (Nat × QO) := [(22, o_al 0 23), (23, o_gf 0 6 26), (26, o_al 0 27), (27, o_gf 0 1 30), (30, o_il 1 31), (31, o_cS 0 98 3 3 34), (34, o_al 0 35), (35, o_dup 36), (36, o_gf 0 1 39), (39, o_k 1 40), (40, o_b (fun x y => x + y) 41), (41, o_pf 0 1 44)]
theorem ts_X0_addWord_1 (sx : QX) : ∀ q ∈ t_X0_addWord_1, q_Snd sx RX0 cX0_addWord 2 (some .boolean) q.1 q.2 := List.forall_mem_cons.mpr ⟨s_aload_n d_X0_addWord_22 rfl, List.forall_mem_cons.mpr ⟨s_gf d_X0_addWord_23 rfl (by decide) n_X0 in_X0 rfl k_1_69, List.forall_mem_cons.mpr ⟨s_aload_n d_X0_addWord_26 rfl, List.forall_mem_cons.mpr ⟨s_gf d_X0_addWord_27 rfl (by decide) n_X0 in_X0 rfl k_1_54, List.forall_mem_cons.mpr ⟨s_iload_n d_X0_addWord_30 rfl, List.forall_mem_cons.mpr ⟨s_cN (host := "StoneApologies") rfl d_X0_addWord_31 (List.mem_of_getElem? (i := 5) rfl) k_2_23 k_1_1 k_2_24 ⟨by decide, by decide⟩ (by decide +kernel) (by decide), List.forall_mem_cons.mpr ⟨s_aload_n d_X0_addWord_34 rfl, List.forall_mem_cons.mpr ⟨s_dup d_X0_addWord_35, List.forall_mem_cons.mpr ⟨s_gf d_X0_addWord_36 rfl (by decide) n_X0 in_X0 rfl k_1_54, List.forall_mem_cons.mpr ⟨s_iconst d_X0_addWord_39 rfl, List.forall_mem_cons.mpr ⟨s_iadd d_X0_addWord_40, List.forall_mem_cons.mpr ⟨s_pf tyX0 d_X0_addWord_41 rfl (by decide) n_X0 in_X0 rfl k_1_54 tyX0_ok nmX0 rfl rfl, fun _ h => absurd h List.not_mem_nil⟩⟩⟩⟩⟩⟩⟩⟩⟩⟩⟩⟩
def t_X0_addWord_2 : List (Nat × QO) := [(44, o_k 1 45), (45, o_ir true)]
theorem ts_X0_addWord_2 (sx : QX) : ∀ q ∈ t_X0_addWord_2, q_Snd sx RX0 cX0_addWord 2 (some .boolean) q.1 q.2 := List.forall_mem_cons.mpr ⟨s_iconst d_X0_addWord_44 rfl, List.forall_mem_cons.mpr ⟨s_zr d_X0_addWord_45 rfl, fun _ h => absurd h List.not_mem_nil⟩⟩
def t_X0_addWord (pc : Nat) : Option QO := cond (Nat.ble pc 21) (q_look (t_X0_addWord_0) pc) (cond (Nat.ble pc 41) (q_look (t_X0_addWord_1) pc) (q_look (t_X0_addWord_2) pc))
theorem ts_X0_addWord (sx : QX) (pc : Nat) : ∀ o, t_X0_addWord pc = some o → q_Snd sx RX0 cX0_addWord 2 (some .boolean) pc o := by
  unfold t_X0_addWord
  exact q_cb (q_look_all (ts_X0_addWord_0 sx)) (q_cb (q_look_all (ts_X0_addWord_1 sx)) (q_look_all (ts_X0_addWord_2 sx)))
theorem d_X0_addSpeaker_0 : decode cX0_addSpeaker 0 = .ok (.aload_n 0, 1) := by decide +kernel
theorem d_X0_addSpeaker_1 : decode cX0_addSpeaker 1 = .ok (.getfield 43, 3) := by decide +kernel
theorem d_X0_addSpeaker_4 : decode cX0_addSpeaker 4 = .ok (.iconst 4, 1) := by decide +kernel
theorem d_X0_addSpeaker_5 : decode cX0_addSpeaker 5 = .ok (.if_icmp .ge 19, 3) := by decide +kernel
theorem d_X0_addSpeaker_8 : decode cX0_addSpeaker 8 = .ok (.iload_n 1, 1) := by decide +kernel
theorem d_X0_addSpeaker_9 : decode cX0_addSpeaker 9 = .ok (.iconst 4, 1) := by decide +kernel
theorem d_X0_addSpeaker_10 : decode cX0_addSpeaker 10 = .ok (.if_icmp .ge 14, 3) := by decide +kernel
theorem d_X0_addSpeaker_13 : decode cX0_addSpeaker 13 = .ok (.iload_n 2, 1) := by decide +kernel
theorem d_X0_addSpeaker_14 : decode cX0_addSpeaker 14 = .ok (.iconst 1, 1) := by decide +kernel
theorem d_X0_addSpeaker_15 : decode cX0_addSpeaker 15 = .ok (.if_icmp .lt 9, 3) := by decide +kernel
theorem d_X0_addSpeaker_18 : decode cX0_addSpeaker 18 = .ok (.iload_n 2, 1) := by decide +kernel
theorem d_X0_addSpeaker_19 : decode cX0_addSpeaker 19 = .ok (.bipush 9, 2) := by decide +kernel
theorem d_X0_addSpeaker_21 : decode cX0_addSpeaker 21 = .ok (.if_icmp .le 5, 3) := by decide +kernel
theorem d_X0_addSpeaker_24 : decode cX0_addSpeaker 24 = .ok (.iconst 0, 1) := by decide +kernel
theorem d_X0_addSpeaker_25 : decode cX0_addSpeaker 25 = .ok (.ireturn, 1) := by decide +kernel
theorem d_X0_addSpeaker_26 : decode cX0_addSpeaker 26 = .ok (.aload_n 0, 1) := by decide +kernel
theorem d_X0_addSpeaker_27 : decode cX0_addSpeaker 27 = .ok (.getfield 21, 3) := by decide +kernel
theorem d_X0_addSpeaker_30 : decode cX0_addSpeaker 30 = .ok (.aload_n 0, 1) := by decide +kernel
theorem d_X0_addSpeaker_31 : decode cX0_addSpeaker 31 = .ok (.getfield 43, 3) := by decide +kernel
theorem d_X0_addSpeaker_34 : decode cX0_addSpeaker 34 = .ok (.iload_n 1, 1) := by decide +kernel
theorem d_X0_addSpeaker_35 : decode cX0_addSpeaker 35 = .ok (.invokestatic 53, 3) := by decide +kernel
theorem d_X0_addSpeaker_38 : decode cX0_addSpeaker 38 = .ok (.aload_n 0, 1) := by decide +kernel
theorem d_X0_addSpeaker_39 : decode cX0_addSpeaker 39 = .ok (.getfield 24, 3) := by decide +kernel
theorem d_X0_addSpeaker_42 : decode cX0_addSpeaker 42 = .ok (.aload_n 0, 1) := by decide +kernel
theorem d_X0_addSpeaker_43 : decode cX0_addSpeaker 43 = .ok (.getfield 43, 3) := by decide +kernel
theorem d_X0_addSpeaker_46 : decode cX0_addSpeaker 46 = .ok (.iload_n 2, 1) := by decide +kernel
theorem d_X0_addSpeaker_47 : decode cX0_addSpeaker 47 = .ok (.invokestatic 53, 3) := by decide +kernel
theorem d_X0_addSpeaker_50 : decode cX0_addSpeaker 50 = .ok (.aload_n 0, 1) := by decide +kernel
theorem d_X0_addSpeaker_51 : decode cX0_addSpeaker 51 = .ok (.dup, 1) := by decide +kernel
theorem d_X0_addSpeaker_52 : decode cX0_addSpeaker 52 = .ok (.getfield 43, 3) := by decide +kernel
theorem d_X0_addSpeaker_55 : decode cX0_addSpeaker 55 = .ok (.iconst 1, 1) := by decide +kernel
theorem d_X0_addSpeaker_56 : decode cX0_addSpeaker 56 = .ok (.iadd, 1) := by decide +kernel
theorem d_X0_addSpeaker_57 : decode cX0_addSpeaker 57 = .ok (.putfield 43, 3) := by decide +kernel
theorem d_X0_addSpeaker_60 : decode cX0_addSpeaker 60 = .ok (.iconst 1, 1) := by decide +kernel
theorem d_X0_addSpeaker_61 : decode cX0_addSpeaker 61 = .ok (.ireturn, 1) := by decide +kernel
def t_X0_addSpeaker_0 : List (Nat × QO) := [(0, o_al 0 1), (1, o_gf 0 2 4), (4, o_k 4 5), (5, o_ic (fun x y => decide (y ≤ x)) 24 8), (8, o_il 1 9), (9, o_k 4 10), (10, o_ic (fun x y => decide (y ≤ x)) 24 13), (13, o_il 2 14), (14, o_k 1 15), (15, o_ic (fun x y => decide (x < y)) 24 18), (18, o_il 2 19), (19, o_k 9 21)]
theorem ts_X0_addSpeaker_0 (sx : QX) : ∀ q ∈ t_X0_addSpeaker_0, q_Snd sx RX0 cX0_addSpeaker 3 (some .boolean) q.1 q.2 := List.forall_mem_cons.mpr ⟨s_aload_n d_X0_addSpeaker_0 rfl, List.forall_mem_cons.mpr ⟨s_gf d_X0_addSpeaker_1 rfl (by decide) n_X0 in_X0 rfl k_1_58, List.forall_mem_cons.mpr ⟨s_iconst d_X0_addSpeaker_4 rfl, List.forall_mem_cons.mpr ⟨s_ic_ge d_X0_addSpeaker_5 (by decide), List.forall_mem_cons.mpr ⟨s_iload_n d_X0_addSpeaker_8 rfl, List.forall_mem_cons.mpr ⟨s_iconst d_X0_addSpeaker_9 rfl, List.forall_mem_cons.mpr ⟨s_ic_ge d_X0_addSpeaker_10 (by decide), List.forall_mem_cons.mpr ⟨s_iload_n d_X0_addSpeaker_13 rfl, List.forall_mem_cons.mpr ⟨s_iconst d_X0_addSpeaker_14 rfl, List.forall_mem_cons.mpr ⟨s_ic_lt d_X0_addSpeaker_15 (by decide), List.forall_mem_cons.mpr ⟨s_iload_n d_X0_addSpeaker_18 rfl, List.forall_mem_cons.mpr ⟨s_bipush d_X0_addSpeaker_19 rfl, fun _ h => absurd h List.not_mem_nil⟩⟩⟩⟩⟩⟩⟩⟩⟩⟩⟩⟩
def t_X0_addSpeaker_1 : List (Nat × QO) := [(21, o_ic (fun x y => decide (x ≤ y)) 26 24), (24, o_k 0 25), (25, o_ir true), (26, o_al 0 27), (27, o_gf 0 7 30), (30, o_al 0 31), (31, o_gf 0 2 34), (34, o_il 1 35), (35, o_cS 0 98 3 3 38), (38, o_al 0 39), (39, o_gf 0 8 42), (42, o_al 0 43)]
theorem ts_X0_addSpeaker_1 (sx : QX) : ∀ q ∈ t_X0_addSpeaker_1, q_Snd sx RX0 cX0_addSpeaker 3 (some .boolean) q.1 q.2 := List.forall_mem_cons.mpr ⟨s_ic_le d_X0_addSpeaker_21 (by decide), List.forall_mem_cons.mpr ⟨s_iconst d_X0_addSpeaker_24 rfl, List.forall_mem_cons.mpr ⟨s_zr d_X0_addSpeaker_25 rfl, List.forall_mem_cons.mpr ⟨s_aload_n d_X0_addSpeaker_26 rfl, List.forall_mem_cons.mpr ⟨s_gf d_X0_addSpeaker_27 rfl (by decide) n_X0 in_X0 rfl k_1_71, List.forall_mem_cons.mpr ⟨s_aload_n d_X0_addSpeaker_30 rfl, List.forall_mem_cons.mpr ⟨s_gf d_X0_addSpeaker_31 rfl (by decide) n_X0 in_X0 rfl k_1_58, List.forall_mem_cons.mpr ⟨s_iload_n d_X0_addSpeaker_34 rfl, List.forall_mem_cons.mpr ⟨s_cN (host := "StoneApologies") rfl d_X0_addSpeaker_35 (List.mem_of_getElem? (i := 5) rfl) k_2_23 k_1_1 k_2_24 ⟨by decide, by decide⟩ (by decide +kernel) (by decide), List.forall_mem_cons.mpr ⟨s_aload_n d_X0_addSpeaker_38 rfl, List.forall_mem_cons.mpr ⟨s_gf d_X0_addSpeaker_39 rfl (by decide) n_X0 in_X0 rfl k_1_73, List.forall_mem_cons.mpr ⟨s_aload_n d_X0_addSpeaker_42 rfl, fun _ h => absurd h List.not_mem_nil⟩⟩⟩⟩⟩⟩⟩⟩⟩⟩⟩⟩
def t_X0_addSpeaker_2 : List (Nat × QO) := [(43, o_gf 0 2 46), (46, o_il 2 47), (47, o_cS 0 98 3 3 50), (50, o_al 0 51), (51, o_dup 52), (52, o_gf 0 2 55), (55, o_k 1 56), (56, o_b (fun x y => x + y) 57), (57, o_pf 0 2 60), (60, o_k 1 61), (61, o_ir true)]
theorem ts_X0_addSpeaker_2 (sx : QX) : ∀ q ∈ t_X0_addSpeaker_2, q_Snd sx RX0 cX0_addSpeaker 3 (some .boolean) q.1 q.2 := List.forall_mem_cons.mpr ⟨s_gf d_X0_addSpeaker_43 rfl (by decide) n_X0 in_X0 rfl k_1_58, List.forall_mem_cons.mpr ⟨s_iload_n d_X0_addSpeaker_46 rfl, List.forall_mem_cons.mpr ⟨s_cN (host := "StoneApologies") rfl d_X0_addSpeaker_47 (List.mem_of_getElem? (i := 5) rfl) k_2_23 k_1_1 k_2_24 ⟨by decide, by decide⟩ (by decide +kernel) (by decide), List.forall_mem_cons.mpr ⟨s_aload_n d_X0_addSpeaker_50 rfl, List.forall_mem_cons.mpr ⟨s_dup d_X0_addSpeaker_51, List.forall_mem_cons.mpr ⟨s_gf d_X0_addSpeaker_52 rfl (by decide) n_X0 in_X0 rfl k_1_58, List.forall_mem_cons.mpr ⟨s_iconst d_X0_addSpeaker_55 rfl, List.forall_mem_cons.mpr ⟨s_iadd d_X0_addSpeaker_56, List.forall_mem_cons.mpr ⟨s_pf tyX0 d_X0_addSpeaker_57 rfl (by decide) n_X0 in_X0 rfl k_1_58 tyX0_ok nmX0 rfl rfl, List.forall_mem_cons.mpr ⟨s_iconst d_X0_addSpeaker_60 rfl, List.forall_mem_cons.mpr ⟨s_zr d_X0_addSpeaker_61 rfl, fun _ h => absurd h List.not_mem_nil⟩⟩⟩⟩⟩⟩⟩⟩⟩⟩⟩
def t_X0_addSpeaker (pc : Nat) : Option QO := cond (Nat.ble pc 19) (q_look (t_X0_addSpeaker_0) pc) (cond (Nat.ble pc 42) (q_look (t_X0_addSpeaker_1) pc) (q_look (t_X0_addSpeaker_2) pc))
theorem ts_X0_addSpeaker (sx : QX) (pc : Nat) : ∀ o, t_X0_addSpeaker pc = some o → q_Snd sx RX0 cX0_addSpeaker 3 (some .boolean) pc o := by
  unfold t_X0_addSpeaker
  exact q_cb (q_look_all (ts_X0_addSpeaker_0 sx)) (q_cb (q_look_all (ts_X0_addSpeaker_1 sx)) (q_look_all (ts_X0_addSpeaker_2 sx)))
theorem d_X0_setFrost_0 : decode cX0_setFrost 0 = .ok (.iload_n 1, 1) := by decide +kernel
theorem d_X0_setFrost_1 : decode cX0_setFrost 1 = .ok (.bipush 9, 2) := by decide +kernel
theorem d_X0_setFrost_3 : decode cX0_setFrost 3 = .ok (.if_icmp .le 5, 3) := by decide +kernel
theorem d_X0_setFrost_6 : decode cX0_setFrost 6 = .ok (.iconst 0, 1) := by decide +kernel
theorem d_X0_setFrost_7 : decode cX0_setFrost 7 = .ok (.ireturn, 1) := by decide +kernel
theorem d_X0_setFrost_8 : decode cX0_setFrost 8 = .ok (.aload_n 0, 1) := by decide +kernel
theorem d_X0_setFrost_9 : decode cX0_setFrost 9 = .ok (.iload_n 1, 1) := by decide +kernel
theorem d_X0_setFrost_10 : decode cX0_setFrost 10 = .ok (.putfield 46, 3) := by decide +kernel
theorem d_X0_setFrost_13 : decode cX0_setFrost 13 = .ok (.iconst 1, 1) := by decide +kernel
theorem d_X0_setFrost_14 : decode cX0_setFrost 14 = .ok (.ireturn, 1) := by decide +kernel
def t_X0_setFrost_0 : List (Nat × QO) := [(0, o_il 1 1), (1, o_k 9 3), (3, o_ic (fun x y => decide (x ≤ y)) 8 6), (6, o_k 0 7), (7, o_ir true), (8, o_al 0 9), (9, o_il 1 10), (10, o_pf 0 3 13), (13, o_k 1 14), (14, o_ir true)]
theorem ts_X0_setFrost_0 (sx : QX) : ∀ q ∈ t_X0_setFrost_0, q_Snd sx RX0 cX0_setFrost 2 (some .boolean) q.1 q.2 := List.forall_mem_cons.mpr ⟨s_iload_n d_X0_setFrost_0 rfl, List.forall_mem_cons.mpr ⟨s_bipush d_X0_setFrost_1 rfl, List.forall_mem_cons.mpr ⟨s_ic_le d_X0_setFrost_3 (by decide), List.forall_mem_cons.mpr ⟨s_iconst d_X0_setFrost_6 rfl, List.forall_mem_cons.mpr ⟨s_zr d_X0_setFrost_7 rfl, List.forall_mem_cons.mpr ⟨s_aload_n d_X0_setFrost_8 rfl, List.forall_mem_cons.mpr ⟨s_iload_n d_X0_setFrost_9 rfl, List.forall_mem_cons.mpr ⟨s_pf tyX0 d_X0_setFrost_10 rfl (by decide) n_X0 in_X0 rfl k_1_62 tyX0_ok nmX0 rfl rfl, List.forall_mem_cons.mpr ⟨s_iconst d_X0_setFrost_13 rfl, List.forall_mem_cons.mpr ⟨s_zr d_X0_setFrost_14 rfl, fun _ h => absurd h List.not_mem_nil⟩⟩⟩⟩⟩⟩⟩⟩⟩⟩
def t_X0_setFrost (pc : Nat) : Option QO := q_look (t_X0_setFrost_0) pc
theorem ts_X0_setFrost (sx : QX) (pc : Nat) : ∀ o, t_X0_setFrost pc = some o → q_Snd sx RX0 cX0_setFrost 2 (some .boolean) pc o := by
  unfold t_X0_setFrost
  exact q_look_all (ts_X0_setFrost_0 sx)
theorem d_X0_addVow_0 : decode cX0_addVow 0 = .ok (.iload_n 1, 1) := by decide +kernel
theorem d_X0_addVow_1 : decode cX0_addVow 1 = .ok (.aload_n 0, 1) := by decide +kernel
theorem d_X0_addVow_2 : decode cX0_addVow 2 = .ok (.getfield 43, 3) := by decide +kernel
theorem d_X0_addVow_5 : decode cX0_addVow 5 = .ok (.if_icmp .ge 18, 3) := by decide +kernel
theorem d_X0_addVow_8 : decode cX0_addVow 8 = .ok (.iload_n 2, 1) := by decide +kernel
theorem d_X0_addVow_9 : decode cX0_addVow 9 = .ok (.aload_n 0, 1) := by decide +kernel
theorem d_X0_addVow_10 : decode cX0_addVow 10 = .ok (.getfield 36, 3) := by decide +kernel
theorem d_X0_addVow_13 : decode cX0_addVow 13 = .ok (.if_icmp .ge 10, 3) := by decide +kernel
theorem d_X0_addVow_16 : decode cX0_addVow 16 = .ok (.iload_n 3, 1) := by decide +kernel
theorem d_X0_addVow_17 : decode cX0_addVow 17 = .ok (.invokestatic 57, 3) := by decide +kernel
theorem d_X0_addVow_20 : decode cX0_addVow 20 = .ok (.ifCond .ne 5, 3) := by decide +kernel
theorem d_X0_addVow_23 : decode cX0_addVow 23 = .ok (.iconst 0, 1) := by decide +kernel
theorem d_X0_addVow_24 : decode cX0_addVow 24 = .ok (.ireturn, 1) := by decide +kernel
theorem d_X0_addVow_25 : decode cX0_addVow 25 = .ok (.aload_n 0, 1) := by decide +kernel
theorem d_X0_addVow_26 : decode cX0_addVow 26 = .ok (.getfield 27, 3) := by decide +kernel
theorem d_X0_addVow_29 : decode cX0_addVow 29 = .ok (.iload_n 1, 1) := by decide +kernel
theorem d_X0_addVow_30 : decode cX0_addVow 30 = .ok (.iload_n 2, 1) := by decide +kernel
theorem d_X0_addVow_31 : decode cX0_addVow 31 = .ok (.invokestatic 61, 3) := by decide +kernel
theorem d_X0_addVow_34 : decode cX0_addVow 34 = .ok (.iload_n 3, 1) := by decide +kernel
theorem d_X0_addVow_35 : decode cX0_addVow 35 = .ok (.invokestatic 53, 3) := by decide +kernel
theorem d_X0_addVow_38 : decode cX0_addVow 38 = .ok (.iconst 1, 1) := by decide +kernel
theorem d_X0_addVow_39 : decode cX0_addVow 39 = .ok (.ireturn, 1) := by decide +kernel
def t_X0_addVow_0 : List (Nat × QO) := [(0, o_il 1 1), (1, o_al 0 2), (2, o_gf 0 2 5), (5, o_ic (fun x y => decide (y ≤ x)) 23 8), (8, o_il 2 9), (9, o_al 0 10), (10, o_gf 0 0 13), (13, o_ic (fun x y => decide (y ≤ x)) 23 16), (16, o_il 3 17), (17, o_cS 1 90 1 1 20), (20, o_if (fun x => decide (x ≠ 0)) 25 23), (23, o_k 0 24)]
theorem ts_X0_addVow_0 (sx : QX) : ∀ q ∈ t_X0_addVow_0, q_Snd sx RX0 cX0_addVow 4 (some .boolean) q.1 q.2 := List.forall_mem_cons.mpr ⟨s_iload_n d_X0_addVow_0 rfl, List.forall_mem_cons.mpr ⟨s_aload_n d_X0_addVow_1 rfl, List.forall_mem_cons.mpr ⟨s_gf d_X0_addVow_2 rfl (by decide) n_X0 in_X0 rfl k_1_58, List.forall_mem_cons.mpr ⟨s_ic_ge d_X0_addVow_5 (by decide), List.forall_mem_cons.mpr ⟨s_iload_n d_X0_addVow_8 rfl, List.forall_mem_cons.mpr ⟨s_aload_n d_X0_addVow_9 rfl, List.forall_mem_cons.mpr ⟨s_gf d_X0_addVow_10 rfl (by decide) n_X0 in_X0 rfl k_1_50, List.forall_mem_cons.mpr ⟨s_ic_ge d_X0_addVow_13 (by decide), List.forall_mem_cons.mpr ⟨s_iload_n d_X0_addVow_16 rfl, List.forall_mem_cons.mpr ⟨s_cN (host := "StoneApologies") rfl d_X0_addVow_17 (List.mem_of_getElem? (i := 6) rfl) k_2_81 k_1_1 k_2_82 ⟨by decide, by decide⟩ (by decide +kernel) (by decide), List.forall_mem_cons.mpr ⟨s_if_ne d_X0_addVow_20 (by decide), List.forall_mem_cons.mpr ⟨s_iconst d_X0_addVow_23 rfl, fun _ h => absurd h List.not_mem_nil⟩⟩⟩⟩⟩⟩⟩⟩⟩⟩⟩⟩
def t_X0_addVow_1 : List (Nat × QO) := [(24, o_ir true), (25, o_al 0 26), (26, o_gf 0 9 29), (29, o_il 1 30), (30, o_il 2 31), (31, o_cS 1 11 2 2 34), (34, o_il 3 35), (35, o_cS 0 98 3 3 38), (38, o_k 1 39), (39, o_ir true)]
theorem ts_X0_addVow_1 (sx : QX) : ∀ q ∈ t_X0_addVow_1, q_Snd sx RX0 cX0_addVow 4 (some .boolean) q.1 q.2 := List.forall_mem_cons.mpr ⟨s_zr d_X0_addVow_24 rfl, List.forall_mem_cons.mpr ⟨s_aload_n d_X0_addVow_25 rfl, List.forall_mem_cons.mpr ⟨s_gf d_X0_addVow_26 rfl (by decide) n_X0 in_X0 rfl k_1_76, List.forall_mem_cons.mpr ⟨s_iload_n d_X0_addVow_29 rfl, List.forall_mem_cons.mpr ⟨s_iload_n d_X0_addVow_30 rfl, List.forall_mem_cons.mpr ⟨s_cS rfl d_X0_addVow_31 k_2_83 k_2_84 k_1_3 k_2_85 ⟨by decide, by decide⟩ (by decide +kernel) (by decide), List.forall_mem_cons.mpr ⟨s_iload_n d_X0_addVow_34 rfl, List.forall_mem_cons.mpr ⟨s_cN (host := "StoneApologies") rfl d_X0_addVow_35 (List.mem_of_getElem? (i := 5) rfl) k_2_23 k_1_1 k_2_24 ⟨by decide, by decide⟩ (by decide +kernel) (by decide), List.forall_mem_cons.mpr ⟨s_iconst d_X0_addVow_38 rfl, List.forall_mem_cons.mpr ⟨s_zr d_X0_addVow_39 rfl, fun _ h => absurd h List.not_mem_nil⟩⟩⟩⟩⟩⟩⟩⟩⟩⟩
def t_X0_addVow (pc : Nat) : Option QO := cond (Nat.ble pc 23) (q_look (t_X0_addVow_0) pc) (q_look (t_X0_addVow_1) pc)
theorem ts_X0_addVow (sx : QX) (pc : Nat) : ∀ o, t_X0_addVow pc = some o → q_Snd sx RX0 cX0_addVow 4 (some .boolean) pc o := by
  unfold t_X0_addVow
  exact q_cb (q_look_all (ts_X0_addVow_0 sx)) (q_look_all (ts_X0_addVow_1 sx))
theorem d_X0_reckon_0 : decode cX0_reckon 0 = .ok (.iconst 0, 1) := by decide +kernel
theorem d_X0_reckon_1 : decode cX0_reckon 1 = .ok (.istore_n 1, 1) := by decide +kernel
theorem d_X0_reckon_2 : decode cX0_reckon 2 = .ok (.iload_n 1, 1) := by decide +kernel
theorem d_X0_reckon_3 : decode cX0_reckon 3 = .ok (.aload_n 0, 1) := by decide +kernel
theorem d_X0_reckon_4 : decode cX0_reckon 4 = .ok (.getfield 36, 3) := by decide +kernel
theorem d_X0_reckon_7 : decode cX0_reckon 7 = .ok (.if_icmp .ge 93, 3) := by decide +kernel
theorem d_X0_reckon_10 : decode cX0_reckon 10 = .ok (.iconst 0, 1) := by decide +kernel
theorem d_X0_reckon_11 : decode cX0_reckon 11 = .ok (.istore_n 2, 1) := by decide +kernel
theorem d_X0_reckon_12 : decode cX0_reckon 12 = .ok (.iload_n 2, 1) := by decide +kernel
theorem d_X0_reckon_13 : decode cX0_reckon 13 = .ok (.aload_n 0, 1) := by decide +kernel
theorem d_X0_reckon_14 : decode cX0_reckon 14 = .ok (.getfield 40, 3) := by decide +kernel
theorem d_X0_reckon_17 : decode cX0_reckon 17 = .ok (.if_icmp .ge 77, 3) := by decide +kernel
theorem d_X0_reckon_20 : decode cX0_reckon 20 = .ok (.aload_n 0, 1) := by decide +kernel
theorem d_X0_reckon_21 : decode cX0_reckon 21 = .ok (.aload_n 0, 1) := by decide +kernel
theorem d_X0_reckon_22 : decode cX0_reckon 22 = .ok (.getfield 9, 3) := by decide +kernel
theorem d_X0_reckon_25 : decode cX0_reckon 25 = .ok (.iload_n 1, 1) := by decide +kernel
theorem d_X0_reckon_26 : decode cX0_reckon 26 = .ok (.invokestatic 65, 3) := by decide +kernel
theorem d_X0_reckon_29 : decode cX0_reckon 29 = .ok (.iload_n 2, 1) := by decide +kernel
theorem d_X0_reckon_30 : decode cX0_reckon 30 = .ok (.invokevirtual 69, 3) := by decide +kernel
theorem d_X0_reckon_33 : decode cX0_reckon 33 = .ok (.istore_n 3, 1) := by decide +kernel
theorem d_X0_reckon_34 : decode cX0_reckon 34 = .ok (.aload_n 0, 1) := by decide +kernel
theorem d_X0_reckon_35 : decode cX0_reckon 35 = .ok (.getfield 30, 3) := by decide +kernel
theorem d_X0_reckon_38 : decode cX0_reckon 38 = .ok (.iload_n 1, 1) := by decide +kernel
theorem d_X0_reckon_39 : decode cX0_reckon 39 = .ok (.iload_n 2, 1) := by decide +kernel
theorem d_X0_reckon_40 : decode cX0_reckon 40 = .ok (.invokestatic 72, 3) := by decide +kernel
theorem d_X0_reckon_43 : decode cX0_reckon 43 = .ok (.iload_n 3, 1) := by decide +kernel
theorem d_X0_reckon_44 : decode cX0_reckon 44 = .ok (.invokestatic 53, 3) := by decide +kernel
theorem d_X0_reckon_47 : decode cX0_reckon 47 = .ok (.iconst 0, 1) := by decide +kernel
theorem d_X0_reckon_48 : decode cX0_reckon 48 = .ok (.istore 4, 2) := by decide +kernel
theorem d_X0_reckon_50 : decode cX0_reckon 50 = .ok (.iload 4, 2) := by decide +kernel
theorem d_X0_reckon_52 : decode cX0_reckon 52 = .ok (.aload_n 0, 1) := by decide +kernel
theorem d_X0_reckon_53 : decode cX0_reckon 53 = .ok (.getfield 43, 3) := by decide +kernel
theorem d_X0_reckon_56 : decode cX0_reckon 56 = .ok (.if_icmp .ge 32, 3) := by decide +kernel
theorem d_X0_reckon_59 : decode cX0_reckon 59 = .ok (.aload_n 0, 1) := by decide +kernel
theorem d_X0_reckon_60 : decode cX0_reckon 60 = .ok (.getfield 33, 3) := by decide +kernel
theorem d_X0_reckon_63 : decode cX0_reckon 63 = .ok (.iload 4, 2) := by decide +kernel
theorem d_X0_reckon_65 : decode cX0_reckon 65 = .ok (.iload_n 1, 1) := by decide +kernel
theorem d_X0_reckon_66 : decode cX0_reckon 66 = .ok (.iload_n 2, 1) := by decide +kernel
theorem d_X0_reckon_67 : decode cX0_reckon 67 = .ok (.invokestatic 75, 3) := by decide +kernel
theorem d_X0_reckon_70 : decode cX0_reckon 70 = .ok (.aload_n 0, 1) := by decide +kernel
theorem d_X0_reckon_71 : decode cX0_reckon 71 = .ok (.iload 4, 2) := by decide +kernel
theorem d_X0_reckon_73 : decode cX0_reckon 73 = .ok (.iload_n 1, 1) := by decide +kernel
theorem d_X0_reckon_74 : decode cX0_reckon 74 = .ok (.iload_n 2, 1) := by decide +kernel
theorem d_X0_reckon_75 : decode cX0_reckon 75 = .ok (.iload_n 3, 1) := by decide +kernel
theorem d_X0_reckon_76 : decode cX0_reckon 76 = .ok (.invokevirtual 79, 3) := by decide +kernel
theorem d_X0_reckon_79 : decode cX0_reckon 79 = .ok (.invokestatic 53, 3) := by decide +kernel
theorem d_X0_reckon_82 : decode cX0_reckon 82 = .ok (.iinc 4 1, 3) := by decide +kernel
theorem d_X0_reckon_85 : decode cX0_reckon 85 = .ok (.goto (-35), 3) := by decide +kernel
theorem d_X0_reckon_88 : decode cX0_reckon 88 = .ok (.iinc 2 1, 3) := by decide +kernel
theorem d_X0_reckon_91 : decode cX0_reckon 91 = .ok (.goto (-79), 3) := by decide +kernel
theorem d_X0_reckon_94 : decode cX0_reckon 94 = .ok (.iinc 1 1, 3) := by decide +kernel
theorem d_X0_reckon_97 : decode cX0_reckon 97 = .ok (.goto (-95), 3) := by decide +kernel
theorem d_X0_reckon_100 : decode cX0_reckon 100 = .ok (.return_, 1) := by decide +kernel
def t_X0_reckon_0 : List (Nat × QO) := [(0, o_k 0 1), (1, o_is 1 2), (2, o_il 1 3), (3, o_al 0 4), (4, o_gf 0 0 7), (7, o_ic (fun x y => decide (y ≤ x)) 100 10), (10, o_k 0 11), (11, o_is 2 12), (12, o_il 2 13), (13, o_al 0 14), (14, o_gf 0 1 17), (17, o_ic (fun x y => decide (y ≤ x)) 94 20)]
theorem ts_X0_reckon_0 (sx : QX) : ∀ q ∈ t_X0_reckon_0, q_Snd sx RX0 cX0_reckon 5 none q.1 q.2 := List.forall_mem_cons.mpr ⟨s_iconst d_X0_reckon_0 rfl, List.forall_mem_cons.mpr ⟨s_istore_n d_X0_reckon_1 rfl (by decide), List.forall_mem_cons.mpr ⟨s_iload_n d_X0_reckon_2 rfl, List.forall_mem_cons.mpr ⟨s_aload_n d_X0_reckon_3 rfl, List.forall_mem_cons.mpr ⟨s_gf d_X0_reckon_4 rfl (by decide) n_X0 in_X0 rfl k_1_50, List.forall_mem_cons.mpr ⟨s_ic_ge d_X0_reckon_7 (by decide), List.forall_mem_cons.mpr ⟨s_iconst d_X0_reckon_10 rfl, List.forall_mem_cons.mpr ⟨s_istore_n d_X0_reckon_11 rfl (by decide), List.forall_mem_cons.mpr ⟨s_iload_n d_X0_reckon_12 rfl, List.forall_mem_cons.mpr ⟨s_aload_n d_X0_reckon_13 rfl, List.forall_mem_cons.mpr ⟨s_gf d_X0_reckon_14 rfl (by decide) n_X0 in_X0 rfl k_1_54, List.forall_mem_cons.mpr ⟨s_ic_ge d_X0_reckon_17 (by decide), fun _ h => absurd h List.not_mem_nil⟩⟩⟩⟩⟩⟩⟩⟩⟩⟩⟩⟩
def t_X0_reckon_1 : List (Nat × QO) := [(20, o_al 0 21), (21, o_al 0 22), (22, o_gf 0 4 25), (25, o_il 1 26), (26, o_cS 1 97 2 2 29), (29, o_il 2 30), (30, o_cV 1 0 8 4 3 33), (33, o_is 3 34), (34, o_al 0 35), (35, o_gf 0 10 38), (38, o_il 1 39), (39, o_il 2 40)]
theorem ts_X0_reckon_1 (sx : QX) : ∀ q ∈ t_X0_reckon_1, q_Snd sx RX0 cX0_reckon 5 none q.1 q.2 := List.forall_mem_cons.mpr ⟨s_aload_n d_X0_reckon_20 rfl, List.forall_mem_cons.mpr ⟨s_aload_n d_X0_reckon_21 rfl, List.forall_mem_cons.mpr ⟨s_gf d_X0_reckon_22 rfl (by decide) n_X0 in_X0 rfl k_1_63, List.forall_mem_cons.mpr ⟨s_iload_n d_X0_reckon_25 rfl, List.forall_mem_cons.mpr ⟨s_cN (host := "StoneApologies") rfl d_X0_reckon_26 (List.mem_of_getElem? (i := 7) rfl) k_2_57 k_1_1 k_2_58 ⟨by decide, by decide⟩ (by decide +kernel) (by decide), List.forall_mem_cons.mpr ⟨s_iload_n d_X0_reckon_29 rfl, List.forall_mem_cons.mpr ⟨s_cV (T := TX0) (N := 12) rfl d_X0_reckon_30 rfl k_2_91 k_2_93 k_0_5 k_1_3 k_2_94 ⟨by decide, by decide⟩ (by decide +kernel) (by decide), List.forall_mem_cons.mpr ⟨s_istore_n d_X0_reckon_33 rfl (by decide), List.forall_mem_cons.mpr ⟨s_aload_n d_X0_reckon_34 rfl, List.forall_mem_cons.mpr ⟨s_gf d_X0_reckon_35 rfl (by decide) n_X0 in_X0 rfl k_1_78, List.forall_mem_cons.mpr ⟨s_iload_n d_X0_reckon_38 rfl, List.forall_mem_cons.mpr ⟨s_iload_n d_X0_reckon_39 rfl, fun _ h => absurd h List.not_mem_nil⟩⟩⟩⟩⟩⟩⟩⟩⟩⟩⟩⟩
def t_X0_reckon_2 : List (Nat × QO) := [(40, o_cS 1 12 2 2 43), (43, o_il 3 44), (44, o_cS 0 98 3 3 47), (47, o_k 0 48), (48, o_is 4 50), (50, o_il 4 52), (52, o_al 0 53), (53, o_gf 0 2 56), (56, o_ic (fun x y => decide (y ≤ x)) 88 59), (59, o_al 0 60), (60, o_gf 0 11 63), (63, o_il 4 65)]
theorem ts_X0_reckon_2 (sx : QX) : ∀ q ∈ t_X0_reckon_2, q_Snd sx RX0 cX0_reckon 5 none q.1 q.2 := List.forall_mem_cons.mpr ⟨s_cS rfl d_X0_reckon_40 k_2_95 k_2_96 k_1_3 k_2_97 ⟨by decide, by decide⟩ (by decide +kernel) (by decide), List.forall_mem_cons.mpr ⟨s_iload_n d_X0_reckon_43 rfl, List.forall_mem_cons.mpr ⟨s_cN (host := "StoneApologies") rfl d_X0_reckon_44 (List.mem_of_getElem? (i := 5) rfl) k_2_23 k_1_1 k_2_24 ⟨by decide, by decide⟩ (by decide +kernel) (by decide), List.forall_mem_cons.mpr ⟨s_iconst d_X0_reckon_47 rfl, List.forall_mem_cons.mpr ⟨s_istore d_X0_reckon_48 (by decide), List.forall_mem_cons.mpr ⟨s_iload d_X0_reckon_50, List.forall_mem_cons.mpr ⟨s_aload_n d_X0_reckon_52 rfl, List.forall_mem_cons.mpr ⟨s_gf d_X0_reckon_53 rfl (by decide) n_X0 in_X0 rfl k_1_58, List.forall_mem_cons.mpr ⟨s_ic_ge d_X0_reckon_56 (by decide), List.forall_mem_cons.mpr ⟨s_aload_n d_X0_reckon_59 rfl, List.forall_mem_cons.mpr ⟨s_gf d_X0_reckon_60 rfl (by decide) n_X0 in_X0 rfl k_1_80, List.forall_mem_cons.mpr ⟨s_iload d_X0_reckon_63, fun _ h => absurd h List.not_mem_nil⟩⟩⟩⟩⟩⟩⟩⟩⟩⟩⟩⟩
def t_X0_reckon_3 : List (Nat × QO) := [(65, o_il 1 66), (66, o_il 2 67), (67, o_cS 1 13 3 3 70), (70, o_al 0 71), (71, o_il 4 73), (73, o_il 1 74), (74, o_il 2 75), (75, o_il 3 76), (76, o_cV 1 0 9 5 5 79), (79, o_cS 0 98 3 3 82), (82, o_inc 4 1 85), (85, o_goto 50)]
theorem ts_X0_reckon_3 (sx : QX) : ∀ q ∈ t_X0_reckon_3, q_Snd sx RX0 cX0_reckon 5 none q.1 q.2 := List.forall_mem_cons.mpr ⟨s_iload_n d_X0_reckon_65 rfl, List.forall_mem_cons.mpr ⟨s_iload_n d_X0_reckon_66 rfl, List.forall_mem_cons.mpr ⟨s_cS rfl d_X0_reckon_67 k_2_98 k_2_99 k_1_3 k_2_100 ⟨by decide, by decide⟩ (by decide +kernel) (by decide), List.forall_mem_cons.mpr ⟨s_aload_n d_X0_reckon_70 rfl, List.forall_mem_cons.mpr ⟨s_iload d_X0_reckon_71, List.forall_mem_cons.mpr ⟨s_iload_n d_X0_reckon_73 rfl, List.forall_mem_cons.mpr ⟨s_iload_n d_X0_reckon_74 rfl, List.forall_mem_cons.mpr ⟨s_iload_n d_X0_reckon_75 rfl, List.forall_mem_cons.mpr ⟨s_cV (T := TX0) (N := 12) rfl d_X0_reckon_76 rfl k_2_101 k_2_103 k_0_6 k_1_3 k_2_104 ⟨by decide, by decide⟩ (by decide +kernel) (by decide), List.forall_mem_cons.mpr ⟨s_cN (host := "StoneApologies") rfl d_X0_reckon_79 (List.mem_of_getElem? (i := 5) rfl) k_2_23 k_1_1 k_2_24 ⟨by decide, by decide⟩ (by decide +kernel) (by decide), List.forall_mem_cons.mpr ⟨s_iinc d_X0_reckon_82 rfl (by decide), List.forall_mem_cons.mpr ⟨s_goto d_X0_reckon_85 (by decide), fun _ h => absurd h List.not_mem_nil⟩⟩⟩⟩⟩⟩⟩⟩⟩⟩⟩⟩
def t_X0_reckon_4 : List (Nat × QO) := [(88, o_inc 2 1 91), (91, o_goto 12), (94, o_inc 1 1 97), (97, o_goto 2), (100, o_vr)]
theorem ts_X0_reckon_4 (sx : QX) : ∀ q ∈ t_X0_reckon_4, q_Snd sx RX0 cX0_reckon 5 none q.1 q.2 := List.forall_mem_cons.mpr ⟨s_iinc d_X0_reckon_88 rfl (by decide), List.forall_mem_cons.mpr ⟨s_goto d_X0_reckon_91 (by decide), List.forall_mem_cons.mpr ⟨s_iinc d_X0_reckon_94 rfl (by decide), List.forall_mem_cons.mpr ⟨s_goto d_X0_reckon_97 (by decide), List.forall_mem_cons.mpr ⟨s_vr d_X0_reckon_100 rfl, fun _ h => absurd h List.not_mem_nil⟩⟩⟩⟩⟩
def t_X0_reckon (pc : Nat) : Option QO := cond (Nat.ble pc 39) (cond (Nat.ble pc 17) (q_look (t_X0_reckon_0) pc) (q_look (t_X0_reckon_1) pc)) (cond (Nat.ble pc 63) (q_look (t_X0_reckon_2) pc) (cond (Nat.ble pc 85) (q_look (t_X0_reckon_3) pc) (q_look (t_X0_reckon_4) pc)))
theorem ts_X0_reckon (sx : QX) (pc : Nat) : ∀ o, t_X0_reckon pc = some o → q_Snd sx RX0 cX0_reckon 5 none pc o := by
  unfold t_X0_reckon
  exact q_cb (q_cb (q_look_all (ts_X0_reckon_0 sx)) (q_look_all (ts_X0_reckon_1 sx))) (q_cb (q_look_all (ts_X0_reckon_2 sx)) (q_cb (q_look_all (ts_X0_reckon_3 sx)) (q_look_all (ts_X0_reckon_4 sx))))
theorem d_X0_plainWorth_0 : decode cX0_plainWorth 0 = .ok (.aload_n 0, 1) := by decide +kernel
theorem d_X0_plainWorth_1 : decode cX0_plainWorth 1 = .ok (.getfield 18, 3) := by decide +kernel
theorem d_X0_plainWorth_4 : decode cX0_plainWorth 4 = .ok (.iload_n 2, 1) := by decide +kernel
theorem d_X0_plainWorth_5 : decode cX0_plainWorth 5 = .ok (.invokestatic 65, 3) := by decide +kernel
theorem d_X0_plainWorth_8 : decode cX0_plainWorth 8 = .ok (.istore_n 3, 1) := by decide +kernel
theorem d_X0_plainWorth_9 : decode cX0_plainWorth 9 = .ok (.iload_n 1, 1) := by decide +kernel
theorem d_X0_plainWorth_10 : decode cX0_plainWorth 10 = .ok (.tableswitch 64 1 3 #[26, 40, 53], 26) := by decide +kernel
theorem d_X0_plainWorth_36 : decode cX0_plainWorth 36 = .ok (.iload_n 2, 1) := by decide +kernel
theorem d_X0_plainWorth_37 : decode cX0_plainWorth 37 = .ok (.ifCond .ne 9, 3) := by decide +kernel
theorem d_X0_plainWorth_40 : decode cX0_plainWorth 40 = .ok (.iconst 2, 1) := by decide +kernel
theorem d_X0_plainWorth_41 : decode cX0_plainWorth 41 = .ok (.iload_n 3, 1) := by decide +kernel
theorem d_X0_plainWorth_42 : decode cX0_plainWorth 42 = .ok (.imul, 1) := by decide +kernel
theorem d_X0_plainWorth_43 : decode cX0_plainWorth 43 = .ok (.goto 6, 3) := by decide +kernel
theorem d_X0_plainWorth_46 : decode cX0_plainWorth 46 = .ok (.iload_n 3, 1) := by decide +kernel
theorem d_X0_plainWorth_47 : decode cX0_plainWorth 47 = .ok (.iconst 2, 1) := by decide +kernel
theorem d_X0_plainWorth_48 : decode cX0_plainWorth 48 = .ok (.idiv, 1) := by decide +kernel
theorem d_X0_plainWorth_49 : decode cX0_plainWorth 49 = .ok (.ireturn, 1) := by decide +kernel
theorem d_X0_plainWorth_50 : decode cX0_plainWorth 50 = .ok (.iload_n 2, 1) := by decide +kernel
theorem d_X0_plainWorth_51 : decode cX0_plainWorth 51 = .ok (.iconst 1, 1) := by decide +kernel
theorem d_X0_plainWorth_52 : decode cX0_plainWorth 52 = .ok (.if_icmp .ne 9, 3) := by decide +kernel
theorem d_X0_plainWorth_55 : decode cX0_plainWorth 55 = .ok (.iconst 3, 1) := by decide +kernel
theorem d_X0_plainWorth_56 : decode cX0_plainWorth 56 = .ok (.iload_n 3, 1) := by decide +kernel
theorem d_X0_plainWorth_57 : decode cX0_plainWorth 57 = .ok (.imul, 1) := by decide +kernel
theorem d_X0_plainWorth_58 : decode cX0_plainWorth 58 = .ok (.goto 4, 3) := by decide +kernel
theorem d_X0_plainWorth_61 : decode cX0_plainWorth 61 = .ok (.iload_n 3, 1) := by decide +kernel
theorem d_X0_plainWorth_62 : decode cX0_plainWorth 62 = .ok (.ireturn, 1) := by decide +kernel
theorem d_X0_plainWorth_63 : decode cX0_plainWorth 63 = .ok (.iload_n 2, 1) := by decide +kernel
theorem d_X0_plainWorth_64 : decode cX0_plainWorth 64 = .ok (.iconst 2, 1) := by decide +kernel
theorem d_X0_plainWorth_65 : decode cX0_plainWorth 65 = .ok (.if_icmp .ne 7, 3) := by decide +kernel
theorem d_X0_plainWorth_68 : decode cX0_plainWorth 68 = .ok (.iconst 0, 1) := by decide +kernel
theorem d_X0_plainWorth_69 : decode cX0_plainWorth 69 = .ok (.goto 4, 3) := by decide +kernel
theorem d_X0_plainWorth_72 : decode cX0_plainWorth 72 = .ok (.iload_n 3, 1) := by decide +kernel
theorem d_X0_plainWorth_73 : decode cX0_plainWorth 73 = .ok (.ireturn, 1) := by decide +kernel
theorem d_X0_plainWorth_74 : decode cX0_plainWorth 74 = .ok (.iload_n 3, 1) := by decide +kernel
theorem d_X0_plainWorth_75 : decode cX0_plainWorth 75 = .ok (.ireturn, 1) := by decide +kernel
def t_X0_plainWorth_0 : List (Nat × QO) := [(0, o_al 0 1), (1, o_gf 0 6 4), (4, o_il 2 5), (5, o_cS 1 97 2 2 8), (8, o_is 3 9), (9, o_il 1 10), (10, o_sw [(1, 36), (2, 50), (3, 63)] 74), (36, o_il 2 37), (37, o_if (fun x => decide (x ≠ 0)) 46 40), (40, o_k 2 41), (41, o_il 3 42), (42, o_b (fun x y => x * y) 43)]
theorem ts_X0_plainWorth_0 (sx : QX) : ∀ q ∈ t_X0_plainWorth_0, q_Snd sx RX0 cX0_plainWorth 4 (some .int) q.1 q.2 := List.forall_mem_cons.mpr ⟨s_aload_n d_X0_plainWorth_0 rfl, List.forall_mem_cons.mpr ⟨s_gf d_X0_plainWorth_1 rfl (by decide) n_X0 in_X0 rfl k_1_69, List.forall_mem_cons.mpr ⟨s_iload_n d_X0_plainWorth_4 rfl, List.forall_mem_cons.mpr ⟨s_cN (host := "StoneApologies") rfl d_X0_plainWorth_5 (List.mem_of_getElem? (i := 7) rfl) k_2_57 k_1_1 k_2_58 ⟨by decide, by decide⟩ (by decide +kernel) (by decide), List.forall_mem_cons.mpr ⟨s_istore_n d_X0_plainWorth_8 rfl (by decide), List.forall_mem_cons.mpr ⟨s_iload_n d_X0_plainWorth_9 rfl, List.forall_mem_cons.mpr ⟨s_tsw d_X0_plainWorth_10 (by decide +kernel) (by decide) (by decide), List.forall_mem_cons.mpr ⟨s_iload_n d_X0_plainWorth_36 rfl, List.forall_mem_cons.mpr ⟨s_if_ne d_X0_plainWorth_37 (by decide), List.forall_mem_cons.mpr ⟨s_iconst d_X0_plainWorth_40 rfl, List.forall_mem_cons.mpr ⟨s_iload_n d_X0_plainWorth_41 rfl, List.forall_mem_cons.mpr ⟨s_imul d_X0_plainWorth_42, fun _ h => absurd h List.not_mem_nil⟩⟩⟩⟩⟩⟩⟩⟩⟩⟩⟩⟩
def t_X0_plainWorth_1 : List (Nat × QO) := [(43, o_goto 49), (46, o_il 3 47), (47, o_k 2 48), (48, o_bz (fun x y => x / y) 49), (49, o_ir false), (50, o_il 2 51), (51, o_k 1 52), (52, o_ic (fun x y => decide (x ≠ y)) 61 55), (55, o_k 3 56), (56, o_il 3 57), (57, o_b (fun x y => x * y) 58), (58, o_goto 62)]
theorem ts_X0_plainWorth_1 (sx : QX) : ∀ q ∈ t_X0_plainWorth_1, q_Snd sx RX0 cX0_plainWorth 4 (some .int) q.1 q.2 := List.forall_mem_cons.mpr ⟨s_goto d_X0_plainWorth_43 (by decide), List.forall_mem_cons.mpr ⟨s_iload_n d_X0_plainWorth_46 rfl, List.forall_mem_cons.mpr ⟨s_iconst d_X0_plainWorth_47 rfl, List.forall_mem_cons.mpr ⟨s_idiv d_X0_plainWorth_48, List.forall_mem_cons.mpr ⟨s_ir d_X0_plainWorth_49 rfl, List.forall_mem_cons.mpr ⟨s_iload_n d_X0_plainWorth_50 rfl, List.forall_mem_cons.mpr ⟨s_iconst d_X0_plainWorth_51 rfl, List.forall_mem_cons.mpr ⟨s_ic_ne d_X0_plainWorth_52 (by decide), List.forall_mem_cons.mpr ⟨s_iconst d_X0_plainWorth_55 rfl, List.forall_mem_cons.mpr ⟨s_iload_n d_X0_plainWorth_56 rfl, List.forall_mem_cons.mpr ⟨s_imul d_X0_plainWorth_57, List.forall_mem_cons.mpr ⟨s_goto d_X0_plainWorth_58 (by decide), fun _ h => absurd h List.not_mem_nil⟩⟩⟩⟩⟩⟩⟩⟩⟩⟩⟩⟩
def t_X0_plainWorth_2 : List (Nat × QO) := [(61, o_il 3 62), (62, o_ir false), (63, o_il 2 64), (64, o_k 2 65), (65, o_ic (fun x y => decide (x ≠ y)) 72 68), (68, o_k 0 69), (69, o_goto 73), (72, o_il 3 73), (73, o_ir false), (74, o_il 3 75), (75, o_ir false)]
theorem ts_X0_plainWorth_2 (sx : QX) : ∀ q ∈ t_X0_plainWorth_2, q_Snd sx RX0 cX0_plainWorth 4 (some .int) q.1 q.2 := List.forall_mem_cons.mpr ⟨s_iload_n d_X0_plainWorth_61 rfl, List.forall_mem_cons.mpr ⟨s_ir d_X0_plainWorth_62 rfl, List.forall_mem_cons.mpr ⟨s_iload_n d_X0_plainWorth_63 rfl, List.forall_mem_cons.mpr ⟨s_iconst d_X0_plainWorth_64 rfl, List.forall_mem_cons.mpr ⟨s_ic_ne d_X0_plainWorth_65 (by decide), List.forall_mem_cons.mpr ⟨s_iconst d_X0_plainWorth_68 rfl, List.forall_mem_cons.mpr ⟨s_goto d_X0_plainWorth_69 (by decide), List.forall_mem_cons.mpr ⟨s_iload_n d_X0_plainWorth_72 rfl, List.forall_mem_cons.mpr ⟨s_ir d_X0_plainWorth_73 rfl, List.forall_mem_cons.mpr ⟨s_iload_n d_X0_plainWorth_74 rfl, List.forall_mem_cons.mpr ⟨s_ir d_X0_plainWorth_75 rfl, fun _ h => absurd h List.not_mem_nil⟩⟩⟩⟩⟩⟩⟩⟩⟩⟩⟩
def t_X0_plainWorth (pc : Nat) : Option QO := cond (Nat.ble pc 42) (q_look (t_X0_plainWorth_0) pc) (cond (Nat.ble pc 58) (q_look (t_X0_plainWorth_1) pc) (q_look (t_X0_plainWorth_2) pc))
theorem ts_X0_plainWorth (sx : QX) (pc : Nat) : ∀ o, t_X0_plainWorth pc = some o → q_Snd sx RX0 cX0_plainWorth 4 (some .int) pc o := by
  unfold t_X0_plainWorth
  exact q_cb (q_look_all (ts_X0_plainWorth_0 sx)) (q_cb (q_look_all (ts_X0_plainWorth_1 sx)) (q_look_all (ts_X0_plainWorth_2 sx)))
theorem d_X0_spokenWorth_0 : decode cX0_spokenWorth 0 = .ok (.aload_n 0, 1) := by decide +kernel
theorem d_X0_spokenWorth_1 : decode cX0_spokenWorth 1 = .ok (.getfield 21, 3) := by decide +kernel
theorem d_X0_spokenWorth_4 : decode cX0_spokenWorth 4 = .ok (.iload_n 1, 1) := by decide +kernel
theorem d_X0_spokenWorth_5 : decode cX0_spokenWorth 5 = .ok (.invokestatic 65, 3) := by decide +kernel
theorem d_X0_spokenWorth_8 : decode cX0_spokenWorth 8 = .ok (.tableswitch 70 1 3 #[28, 33, 56], 28) := by decide +kernel
theorem d_X0_spokenWorth_36 : decode cX0_spokenWorth 36 = .ok (.iconst 2, 1) := by decide +kernel
theorem d_X0_spokenWorth_37 : decode cX0_spokenWorth 37 = .ok (.iload 4, 2) := by decide +kernel
theorem d_X0_spokenWorth_39 : decode cX0_spokenWorth 39 = .ok (.imul, 1) := by decide +kernel
theorem d_X0_spokenWorth_40 : decode cX0_spokenWorth 40 = .ok (.ireturn, 1) := by decide +kernel
theorem d_X0_spokenWorth_41 : decode cX0_spokenWorth 41 = .ok (.aload_n 0, 1) := by decide +kernel
theorem d_X0_spokenWorth_42 : decode cX0_spokenWorth 42 = .ok (.getfield 15, 3) := by decide +kernel
theorem d_X0_spokenWorth_45 : decode cX0_spokenWorth 45 = .ok (.iload_n 2, 1) := by decide +kernel
theorem d_X0_spokenWorth_46 : decode cX0_spokenWorth 46 = .ok (.invokestatic 65, 3) := by decide +kernel
theorem d_X0_spokenWorth_49 : decode cX0_spokenWorth 49 = .ok (.bipush 10, 2) := by decide +kernel
theorem d_X0_spokenWorth_51 : decode cX0_spokenWorth 51 = .ok (.if_icmp .gt 10, 3) := by decide +kernel
theorem d_X0_spokenWorth_54 : decode cX0_spokenWorth 54 = .ok (.iload 4, 2) := by decide +kernel
theorem d_X0_spokenWorth_56 : decode cX0_spokenWorth 56 = .ok (.iconst 4, 1) := by decide +kernel
theorem d_X0_spokenWorth_57 : decode cX0_spokenWorth 57 = .ok (.iadd, 1) := by decide +kernel
theorem d_X0_spokenWorth_58 : decode cX0_spokenWorth 58 = .ok (.goto 5, 3) := by decide +kernel
theorem d_X0_spokenWorth_61 : decode cX0_spokenWorth 61 = .ok (.iload 4, 2) := by decide +kernel
theorem d_X0_spokenWorth_63 : decode cX0_spokenWorth 63 = .ok (.ireturn, 1) := by decide +kernel
theorem d_X0_spokenWorth_64 : decode cX0_spokenWorth 64 = .ok (.iload_n 3, 1) := by decide +kernel
theorem d_X0_spokenWorth_65 : decode cX0_spokenWorth 65 = .ok (.ifCond .ne 10, 3) := by decide +kernel
theorem d_X0_spokenWorth_68 : decode cX0_spokenWorth 68 = .ok (.iload 4, 2) := by decide +kernel
theorem d_X0_spokenWorth_70 : decode cX0_spokenWorth 70 = .ok (.iconst 3, 1) := by decide +kernel
theorem d_X0_spokenWorth_71 : decode cX0_spokenWorth 71 = .ok (.iadd, 1) := by decide +kernel
theorem d_X0_spokenWorth_72 : decode cX0_spokenWorth 72 = .ok (.goto 5, 3) := by decide +kernel
theorem d_X0_spokenWorth_75 : decode cX0_spokenWorth 75 = .ok (.iload 4, 2) := by decide +kernel
theorem d_X0_spokenWorth_77 : decode cX0_spokenWorth 77 = .ok (.ireturn, 1) := by decide +kernel
theorem d_X0_spokenWorth_78 : decode cX0_spokenWorth 78 = .ok (.iload 4, 2) := by decide +kernel
theorem d_X0_spokenWorth_80 : decode cX0_spokenWorth 80 = .ok (.ireturn, 1) := by decide +kernel
def t_X0_spokenWorth_0 : List (Nat × QO) := [(0, o_al 0 1), (1, o_gf 0 7 4), (4, o_il 1 5), (5, o_cS 1 97 2 2 8), (8, o_sw [(1, 36), (2, 41), (3, 64)] 78), (36, o_k 2 37), (37, o_il 4 39), (39, o_b (fun x y => x * y) 40), (40, o_ir false), (41, o_al 0 42), (42, o_gf 0 5 45), (45, o_il 2 46)]
theorem ts_X0_spokenWorth_0 (sx : QX) : ∀ q ∈ t_X0_spokenWorth_0, q_Snd sx RX0 cX0_spokenWorth 5 (some .int) q.1 q.2 := List.forall_mem_cons.mpr ⟨s_aload_n d_X0_spokenWorth_0 rfl, List.forall_mem_cons.mpr ⟨s_gf d_X0_spokenWorth_1 rfl (by decide) n_X0 in_X0 rfl k_1_71, List.forall_mem_cons.mpr ⟨s_iload_n d_X0_spokenWorth_4 rfl, List.forall_mem_cons.mpr ⟨s_cN (host := "StoneApologies") rfl d_X0_spokenWorth_5 (List.mem_of_getElem? (i := 7) rfl) k_2_57 k_1_1 k_2_58 ⟨by decide, by decide⟩ (by decide +kernel) (by decide), List.forall_mem_cons.mpr ⟨s_tsw d_X0_spokenWorth_8 (by decide +kernel) (by decide) (by decide), List.forall_mem_cons.mpr ⟨s_iconst d_X0_spokenWorth_36 rfl, List.forall_mem_cons.mpr ⟨s_iload d_X0_spokenWorth_37, List.forall_mem_cons.mpr ⟨s_imul d_X0_spokenWorth_39, List.forall_mem_cons.mpr ⟨s_ir d_X0_spokenWorth_40 rfl, List.forall_mem_cons.mpr ⟨s_aload_n d_X0_spokenWorth_41 rfl, List.forall_mem_cons.mpr ⟨s_gf d_X0_spokenWorth_42 rfl (by decide) n_X0 in_X0 rfl k_1_66, List.forall_mem_cons.mpr ⟨s_iload_n d_X0_spokenWorth_45 rfl, fun _ h => absurd h List.not_mem_nil⟩⟩⟩⟩⟩⟩⟩⟩⟩⟩⟩⟩
def t_X0_spokenWorth_1 : List (Nat × QO) := [(46, o_cS 1 97 2 2 49), (49, o_k 10 51), (51, o_ic (fun x y => decide (y < x)) 61 54), (54, o_il 4 56), (56, o_k 4 57), (57, o_b (fun x y => x + y) 58), (58, o_goto 63), (61, o_il 4 63), (63, o_ir false), (64, o_il 3 65), (65, o_if (fun x => decide (x ≠ 0)) 75 68), (68, o_il 4 70)]
theorem ts_X0_spokenWorth_1 (sx : QX) : ∀ q ∈ t_X0_spokenWorth_1, q_Snd sx RX0 cX0_spokenWorth 5 (some .int) q.1 q.2 := List.forall_mem_cons.mpr ⟨s_cN (host := "StoneApologies") rfl d_X0_spokenWorth_46 (List.mem_of_getElem? (i := 7) rfl) k_2_57 k_1_1 k_2_58 ⟨by decide, by decide⟩ (by decide +kernel) (by decide), List.forall_mem_cons.mpr ⟨s_bipush d_X0_spokenWorth_49 rfl, List.forall_mem_cons.mpr ⟨s_ic_gt d_X0_spokenWorth_51 (by decide), List.forall_mem_cons.mpr ⟨s_iload d_X0_spokenWorth_54, List.forall_mem_cons.mpr ⟨s_iconst d_X0_spokenWorth_56 rfl, List.forall_mem_cons.mpr ⟨s_iadd d_X0_spokenWorth_57, List.forall_mem_cons.mpr ⟨s_goto d_X0_spokenWorth_58 (by decide), List.forall_mem_cons.mpr ⟨s_iload d_X0_spokenWorth_61, List.forall_mem_cons.mpr ⟨s_ir d_X0_spokenWorth_63 rfl, List.forall_mem_cons.mpr ⟨s_iload_n d_X0_spokenWorth_64 rfl, List.forall_mem_cons.mpr ⟨s_if_ne d_X0_spokenWorth_65 (by decide), List.forall_mem_cons.mpr ⟨s_iload d_X0_spokenWorth_68, fun _ h => absurd h List.not_mem_nil⟩⟩⟩⟩⟩⟩⟩⟩⟩⟩⟩⟩
def t_X0_spokenWorth_2 : List (Nat × QO) := [(70, o_k 3 71), (71, o_b (fun x y => x + y) 72), (72, o_goto 77), (75, o_il 4 77), (77, o_ir false), (78, o_il 4 80), (80, o_ir false)]
theorem ts_X0_spokenWorth_2 (sx : QX) : ∀ q ∈ t_X0_spokenWorth_2, q_Snd sx RX0 cX0_spokenWorth 5 (some .int) q.1 q.2 := List.forall_mem_cons.mpr ⟨s_iconst d_X0_spokenWorth_70 rfl, List.forall_mem_cons.mpr ⟨s_iadd d_X0_spokenWorth_71, List.forall_mem_cons.mpr ⟨s_goto d_X0_spokenWorth_72 (by decide), List.forall_mem_cons.mpr ⟨s_iload d_X0_spokenWorth_75, List.forall_mem_cons.mpr ⟨s_ir d_X0_spokenWorth_77 rfl, List.forall_mem_cons.mpr ⟨s_iload d_X0_spokenWorth_78, List.forall_mem_cons.mpr ⟨s_ir d_X0_spokenWorth_80 rfl, fun _ h => absurd h List.not_mem_nil⟩⟩⟩⟩⟩⟩⟩
def t_X0_spokenWorth (pc : Nat) : Option QO := cond (Nat.ble pc 45) (q_look (t_X0_spokenWorth_0) pc) (cond (Nat.ble pc 68) (q_look (t_X0_spokenWorth_1) pc) (q_look (t_X0_spokenWorth_2) pc))
theorem ts_X0_spokenWorth (sx : QX) (pc : Nat) : ∀ o, t_X0_spokenWorth pc = some o → q_Snd sx RX0 cX0_spokenWorth 5 (some .int) pc o := by
  unfold t_X0_spokenWorth
  exact q_cb (q_look_all (ts_X0_spokenWorth_0 sx)) (q_cb (q_look_all (ts_X0_spokenWorth_1 sx)) (q_look_all (ts_X0_spokenWorth_2 sx)))
theorem d_X0_coldFor_0 : decode cX0_coldFor 0 = .ok (.aload_n 0, 1) := by decide +kernel
theorem d_X0_coldFor_1 : decode cX0_coldFor 1 = .ok (.getfield 9, 3) := by decide +kernel
theorem d_X0_coldFor_4 : decode cX0_coldFor 4 = .ok (.iload_n 1, 1) := by decide +kernel
theorem d_X0_coldFor_5 : decode cX0_coldFor 5 = .ok (.invokestatic 65, 3) := by decide +kernel
theorem d_X0_coldFor_8 : decode cX0_coldFor 8 = .ok (.iconst 2, 1) := by decide +kernel
theorem d_X0_coldFor_9 : decode cX0_coldFor 9 = .ok (.if_icmp .ne 12, 3) := by decide +kernel
theorem d_X0_coldFor_12 : decode cX0_coldFor 12 = .ok (.iconst 2, 1) := by decide +kernel
theorem d_X0_coldFor_13 : decode cX0_coldFor 13 = .ok (.aload_n 0, 1) := by decide +kernel
theorem d_X0_coldFor_14 : decode cX0_coldFor 14 = .ok (.getfield 46, 3) := by decide +kernel
theorem d_X0_coldFor_17 : decode cX0_coldFor 17 = .ok (.imul, 1) := by decide +kernel
theorem d_X0_coldFor_18 : decode cX0_coldFor 18 = .ok (.goto 7, 3) := by decide +kernel
theorem d_X0_coldFor_21 : decode cX0_coldFor 21 = .ok (.aload_n 0, 1) := by decide +kernel
theorem d_X0_coldFor_22 : decode cX0_coldFor 22 = .ok (.getfield 46, 3) := by decide +kernel
theorem d_X0_coldFor_25 : decode cX0_coldFor 25 = .ok (.ireturn, 1) := by decide +kernel
def t_X0_coldFor_0 : List (Nat × QO) := [(0, o_al 0 1), (1, o_gf 0 4 4), (4, o_il 1 5), (5, o_cS 1 97 2 2 8), (8, o_k 2 9), (9, o_ic (fun x y => decide (x ≠ y)) 21 12), (12, o_k 2 13), (13, o_al 0 14), (14, o_gf 0 3 17), (17, o_b (fun x y => x * y) 18), (18, o_goto 25), (21, o_al 0 22)]
theorem ts_X0_coldFor_0 (sx : QX) : ∀ q ∈ t_X0_coldFor_0, q_Snd sx RX0 cX0_coldFor 2 (some .int) q.1 q.2 := List.forall_mem_cons.mpr ⟨s_aload_n d_X0_coldFor_0 rfl, List.forall_mem_cons.mpr ⟨s_gf d_X0_coldFor_1 rfl (by decide) n_X0 in_X0 rfl k_1_63, List.forall_mem_cons.mpr ⟨s_iload_n d_X0_coldFor_4 rfl, List.forall_mem_cons.mpr ⟨s_cN (host := "StoneApologies") rfl d_X0_coldFor_5 (List.mem_of_getElem? (i := 7) rfl) k_2_57 k_1_1 k_2_58 ⟨by decide, by decide⟩ (by decide +kernel) (by decide), List.forall_mem_cons.mpr ⟨s_iconst d_X0_coldFor_8 rfl, List.forall_mem_cons.mpr ⟨s_ic_ne d_X0_coldFor_9 (by decide), List.forall_mem_cons.mpr ⟨s_iconst d_X0_coldFor_12 rfl, List.forall_mem_cons.mpr ⟨s_aload_n d_X0_coldFor_13 rfl, List.forall_mem_cons.mpr ⟨s_gf d_X0_coldFor_14 rfl (by decide) n_X0 in_X0 rfl k_1_62, List.forall_mem_cons.mpr ⟨s_imul d_X0_coldFor_17, List.forall_mem_cons.mpr ⟨s_goto d_X0_coldFor_18 (by decide), List.forall_mem_cons.mpr ⟨s_aload_n d_X0_coldFor_21 rfl, fun _ h => absurd h List.not_mem_nil⟩⟩⟩⟩⟩⟩⟩⟩⟩⟩⟩⟩
def t_X0_coldFor_1 : List (Nat × QO) := [(22, o_gf 0 3 25), (25, o_ir false)]
theorem ts_X0_coldFor_1 (sx : QX) : ∀ q ∈ t_X0_coldFor_1, q_Snd sx RX0 cX0_coldFor 2 (some .int) q.1 q.2 := List.forall_mem_cons.mpr ⟨s_gf d_X0_coldFor_22 rfl (by decide) n_X0 in_X0 rfl k_1_62, List.forall_mem_cons.mpr ⟨s_ir d_X0_coldFor_25 rfl, fun _ h => absurd h List.not_mem_nil⟩⟩
def t_X0_coldFor (pc : Nat) : Option QO := cond (Nat.ble pc 21) (q_look (t_X0_coldFor_0) pc) (q_look (t_X0_coldFor_1) pc)
theorem ts_X0_coldFor (sx : QX) (pc : Nat) : ∀ o, t_X0_coldFor pc = some o → q_Snd sx RX0 cX0_coldFor 2 (some .int) pc o := by
  unfold t_X0_coldFor
  exact q_cb (q_look_all (ts_X0_coldFor_0 sx)) (q_look_all (ts_X0_coldFor_1 sx))
theorem d_X0_vowPlace_0 : decode cX0_vowPlace 0 = .ok (.iload_n 0, 1) := by decide +kernel
theorem d_X0_vowPlace_1 : decode cX0_vowPlace 1 = .ok (.bipush 6, 2) := by decide +kernel
theorem d_X0_vowPlace_3 : decode cX0_vowPlace 3 = .ok (.imul, 1) := by decide +kernel
theorem d_X0_vowPlace_4 : decode cX0_vowPlace 4 = .ok (.iload_n 1, 1) := by decide +kernel
theorem d_X0_vowPlace_5 : decode cX0_vowPlace 5 = .ok (.iadd, 1) := by decide +kernel
theorem d_X0_vowPlace_6 : decode cX0_vowPlace 6 = .ok (.ireturn, 1) := by decide +kernel
def t_X0_vowPlace_0 : List (Nat × QO) := [(0, o_il 0 1), (1, o_k 6 3), (3, o_b (fun x y => x * y) 4), (4, o_il 1 5), (5, o_b (fun x y => x + y) 6), (6, o_ir false)]
theorem ts_X0_vowPlace_0 (sx : QX) : ∀ q ∈ t_X0_vowPlace_0, q_Snd sx RX0 cX0_vowPlace 2 (some .int) q.1 q.2 := List.forall_mem_cons.mpr ⟨s_iload_n d_X0_vowPlace_0 rfl, List.forall_mem_cons.mpr ⟨s_bipush d_X0_vowPlace_1 rfl, List.forall_mem_cons.mpr ⟨s_imul d_X0_vowPlace_3, List.forall_mem_cons.mpr ⟨s_iload_n d_X0_vowPlace_4 rfl, List.forall_mem_cons.mpr ⟨s_iadd d_X0_vowPlace_5, List.forall_mem_cons.mpr ⟨s_ir d_X0_vowPlace_6 rfl, fun _ h => absurd h List.not_mem_nil⟩⟩⟩⟩⟩⟩
def t_X0_vowPlace (pc : Nat) : Option QO := q_look (t_X0_vowPlace_0) pc
theorem ts_X0_vowPlace (sx : QX) (pc : Nat) : ∀ o, t_X0_vowPlace pc = some o → q_Snd sx RX0 cX0_vowPlace 2 (some .int) pc o := by
  unfold t_X0_vowPlace
  exact q_look_all (ts_X0_vowPlace_0 sx)
theorem d_X0_wordPlace_0 : decode cX0_wordPlace 0 = .ok (.iload_n 0, 1) := by decide +kernel
theorem d_X0_wordPlace_1 : decode cX0_wordPlace 1 = .ok (.bipush 6, 2) := by decide +kernel
theorem d_X0_wordPlace_3 : decode cX0_wordPlace 3 = .ok (.imul, 1) := by decide +kernel
theorem d_X0_wordPlace_4 : decode cX0_wordPlace 4 = .ok (.iload_n 1, 1) := by decide +kernel
theorem d_X0_wordPlace_5 : decode cX0_wordPlace 5 = .ok (.iadd, 1) := by decide +kernel
theorem d_X0_wordPlace_6 : decode cX0_wordPlace 6 = .ok (.ireturn, 1) := by decide +kernel
def t_X0_wordPlace_0 : List (Nat × QO) := [(0, o_il 0 1), (1, o_k 6 3), (3, o_b (fun x y => x * y) 4), (4, o_il 1 5), (5, o_b (fun x y => x + y) 6), (6, o_ir false)]
theorem ts_X0_wordPlace_0 (sx : QX) : ∀ q ∈ t_X0_wordPlace_0, q_Snd sx RX0 cX0_wordPlace 2 (some .int) q.1 q.2 := List.forall_mem_cons.mpr ⟨s_iload_n d_X0_wordPlace_0 rfl, List.forall_mem_cons.mpr ⟨s_bipush d_X0_wordPlace_1 rfl, List.forall_mem_cons.mpr ⟨s_imul d_X0_wordPlace_3, List.forall_mem_cons.mpr ⟨s_iload_n d_X0_wordPlace_4 rfl, List.forall_mem_cons.mpr ⟨s_iadd d_X0_wordPlace_5, List.forall_mem_cons.mpr ⟨s_ir d_X0_wordPlace_6 rfl, fun _ h => absurd h List.not_mem_nil⟩⟩⟩⟩⟩⟩
def t_X0_wordPlace (pc : Nat) : Option QO := q_look (t_X0_wordPlace_0) pc
theorem ts_X0_wordPlace (sx : QX) (pc : Nat) : ∀ o, t_X0_wordPlace pc = some o → q_Snd sx RX0 cX0_wordPlace 2 (some .int) pc o := by
  unfold t_X0_wordPlace
  exact q_look_all (ts_X0_wordPlace_0 sx)
theorem d_X0_sayingPlace_0 : decode cX0_sayingPlace 0 = .ok (.iload_n 0, 1) := by decide +kernel
theorem d_X0_sayingPlace_1 : decode cX0_sayingPlace 1 = .ok (.bipush 6, 2) := by decide +kernel
theorem d_X0_sayingPlace_3 : decode cX0_sayingPlace 3 = .ok (.imul, 1) := by decide +kernel
theorem d_X0_sayingPlace_4 : decode cX0_sayingPlace 4 = .ok (.iload_n 1, 1) := by decide +kernel
theorem d_X0_sayingPlace_5 : decode cX0_sayingPlace 5 = .ok (.iadd, 1) := by decide +kernel
theorem d_X0_sayingPlace_6 : decode cX0_sayingPlace 6 = .ok (.bipush 6, 2) := by decide +kernel
theorem d_X0_sayingPlace_8 : decode cX0_sayingPlace 8 = .ok (.imul, 1) := by decide +kernel
theorem d_X0_sayingPlace_9 : decode cX0_sayingPlace 9 = .ok (.iload_n 2, 1) := by decide +kernel
theorem d_X0_sayingPlace_10 : decode cX0_sayingPlace 10 = .ok (.iadd, 1) := by decide +kernel
theorem d_X0_sayingPlace_11 : decode cX0_sayingPlace 11 = .ok (.ireturn, 1) := by decide +kernel
def t_X0_sayingPlace_0 : List (Nat × QO) := [(0, o_il 0 1), (1, o_k 6 3), (3, o_b (fun x y => x * y) 4), (4, o_il 1 5), (5, o_b (fun x y => x + y) 6), (6, o_k 6 8), (8, o_b (fun x y => x * y) 9), (9, o_il 2 10), (10, o_b (fun x y => x + y) 11), (11, o_ir false)]
theorem ts_X0_sayingPlace_0 (sx : QX) : ∀ q ∈ t_X0_sayingPlace_0, q_Snd sx RX0 cX0_sayingPlace 3 (some .int) q.1 q.2 := List.forall_mem_cons.mpr ⟨s_iload_n d_X0_sayingPlace_0 rfl, List.forall_mem_cons.mpr ⟨s_bipush d_X0_sayingPlace_1 rfl, List.forall_mem_cons.mpr ⟨s_imul d_X0_sayingPlace_3, List.forall_mem_cons.mpr ⟨s_iload_n d_X0_sayingPlace_4 rfl, List.forall_mem_cons.mpr ⟨s_iadd d_X0_sayingPlace_5, List.forall_mem_cons.mpr ⟨s_bipush d_X0_sayingPlace_6 rfl, List.forall_mem_cons.mpr ⟨s_imul d_X0_sayingPlace_8, List.forall_mem_cons.mpr ⟨s_iload_n d_X0_sayingPlace_9 rfl, List.forall_mem_cons.mpr ⟨s_iadd d_X0_sayingPlace_10, List.forall_mem_cons.mpr ⟨s_ir d_X0_sayingPlace_11 rfl, fun _ h => absurd h List.not_mem_nil⟩⟩⟩⟩⟩⟩⟩⟩⟩⟩
def t_X0_sayingPlace (pc : Nat) : Option QO := q_look (t_X0_sayingPlace_0) pc
theorem ts_X0_sayingPlace (sx : QX) (pc : Nat) : ∀ o, t_X0_sayingPlace pc = some o → q_Snd sx RX0 cX0_sayingPlace 3 (some .int) pc o := by
  unfold t_X0_sayingPlace
  exact q_look_all (ts_X0_sayingPlace_0 sx)
theorem d_X1_seek_0 : decode cX1_seek 0 = .ok (.aload_n 0, 1) := by decide +kernel
theorem d_X1_seek_1 : decode cX1_seek 1 = .ok (.getfield 11, 3) := by decide +kernel
theorem d_X1_seek_4 : decode cX1_seek 4 = .ok (.iconst 0, 1) := by decide +kernel
theorem d_X1_seek_5 : decode cX1_seek 5 = .ok (.invokestatic 27, 3) := by decide +kernel
theorem d_X1_seek_8 : decode cX1_seek 8 = .ok (.astore_n 2, 1) := by decide +kernel
theorem d_X1_seek_9 : decode cX1_seek 9 = .ok (.aload_n 2, 1) := by decide +kernel
theorem d_X1_seek_10 : decode cX1_seek 10 = .ok (.ifnonnull 4, 3) := by decide +kernel
theorem d_X1_seek_13 : decode cX1_seek 13 = .ok (.return_, 1) := by decide +kernel
theorem d_X1_seek_14 : decode cX1_seek 14 = .ok (.aload_n 2, 1) := by decide +kernel
theorem d_X1_seek_15 : decode cX1_seek 15 = .ok (.aload_n 1, 1) := by decide +kernel
theorem d_X1_seek_16 : decode cX1_seek 16 = .ok (.invokevirtual 31, 3) := by decide +kernel
theorem d_X1_seek_19 : decode cX1_seek 19 = .ok (.aload_n 0, 1) := by decide +kernel
theorem d_X1_seek_20 : decode cX1_seek 20 = .ok (.aload_n 2, 1) := by decide +kernel
theorem d_X1_seek_21 : decode cX1_seek 21 = .ok (.iconst 0, 1) := by decide +kernel
theorem d_X1_seek_22 : decode cX1_seek 22 = .ok (.invokevirtual 35, 3) := by decide +kernel
theorem d_X1_seek_25 : decode cX1_seek 25 = .ok (.putfield 39, 3) := by decide +kernel
theorem d_X1_seek_28 : decode cX1_seek 28 = .ok (.aload_n 0, 1) := by decide +kernel
theorem d_X1_seek_29 : decode cX1_seek 29 = .ok (.iconst (-1), 1) := by decide +kernel
theorem d_X1_seek_30 : decode cX1_seek 30 = .ok (.putfield 43, 3) := by decide +kernel
theorem d_X1_seek_33 : decode cX1_seek 33 = .ok (.aload_n 0, 1) := by decide +kernel
theorem d_X1_seek_34 : decode cX1_seek 34 = .ok (.iconst 0, 1) := by decide +kernel
theorem d_X1_seek_35 : decode cX1_seek 35 = .ok (.iconst 0, 1) := by decide +kernel
theorem d_X1_seek_36 : decode cX1_seek 36 = .ok (.iconst 0, 1) := by decide +kernel
theorem d_X1_seek_37 : decode cX1_seek 37 = .ok (.invokestatic 46, 3) := by decide +kernel
theorem d_X1_seek_40 : decode cX1_seek 40 = .ok (.return_, 1) := by decide +kernel
def t_X1_seek_0 : List (Nat × QO) := [(0, o_al 0 1), (1, o_gf 1 0 4), (4, o_k 0 5), (5, o_cS 2 101 2 2 8), (8, o_as 2 9), (9, o_al 2 10), (10, o_ifnull 13 14), (13, o_vr), (14, o_al 2 15), (15, o_al 1 16), (16, o_cV 0 3 20 2 2 19), (19, o_al 0 20)]
theorem ts_X1_seek_0 (sx : QX) : ∀ q ∈ t_X1_seek_0, q_Snd sx RX1 cX1_seek 3 none q.1 q.2 := List.forall_mem_cons.mpr ⟨s_aload_n d_X1_seek_0 rfl, List.forall_mem_cons.mpr ⟨s_gf d_X1_seek_1 rfl (by decide) n_X1 in_X1 rfl k_1_190, List.forall_mem_cons.mpr ⟨s_iconst d_X1_seek_4 rfl, List.forall_mem_cons.mpr ⟨s_cN (host := "StoneApologies") rfl d_X1_seek_5 (List.mem_of_getElem? (i := 17) rfl) k_2_239 k_1_1 k_3_0 ⟨by decide, by decide⟩ (by decide +kernel) (by decide), List.forall_mem_cons.mpr ⟨s_astore_n d_X1_seek_8 rfl (by decide), List.forall_mem_cons.mpr ⟨s_aload_n d_X1_seek_9 rfl, List.forall_mem_cons.mpr ⟨s_ifnonnull d_X1_seek_10 (by decide), List.forall_mem_cons.mpr ⟨s_vr d_X1_seek_13 rfl, List.forall_mem_cons.mpr ⟨s_aload_n d_X1_seek_14 rfl, List.forall_mem_cons.mpr ⟨s_aload_n d_X1_seek_15 rfl, List.forall_mem_cons.mpr ⟨s_cV (T := TX3) (N := 8) rfl d_X1_seek_16 rfl k_3_119 k_3_2 k_3_3 k_1_4 k_3_4 ⟨by decide, by decide⟩ (by decide +kernel) (by decide), List.forall_mem_cons.mpr ⟨s_aload_n d_X1_seek_19 rfl, fun _ h => absurd h List.not_mem_nil⟩⟩⟩⟩⟩⟩⟩⟩⟩⟩⟩⟩
def t_X1_seek_1 : List (Nat × QO) := [(20, o_al 2 21), (21, o_k 0 22), (22, o_cV 1 3 22 4 2 25), (25, o_pf 1 3 28), (28, o_al 0 29), (29, o_k (-1) 30), (30, o_pf 1 4 33), (33, o_al 0 34), (34, o_k 0 35), (35, o_k 0 36), (36, o_k 0 37), (37, o_cS 0 15 8 4 40)]
theorem ts_X1_seek_1 (sx : QX) : ∀ q ∈ t_X1_seek_1, q_Snd sx RX1 cX1_seek 3 none q.1 q.2 := List.forall_mem_cons.mpr ⟨s_aload_n d_X1_seek_20 rfl, List.forall_mem_cons.mpr ⟨s_iconst d_X1_seek_21 rfl, List.forall_mem_cons.mpr ⟨s_cV (T := TX3) (N := 8) rfl d_X1_seek_22 rfl k_3_120 k_3_121 k_3_122 k_1_4 k_3_123 ⟨by decide, by decide⟩ (by decide +kernel) (by decide), List.forall_mem_cons.mpr ⟨s_pf tyX1 d_X1_seek_25 rfl (by decide) n_X1 in_X1 rfl k_1_194 tyX1_ok nmX1 rfl rfl, List.forall_mem_cons.mpr ⟨s_aload_n d_X1_seek_28 rfl, List.forall_mem_cons.mpr ⟨s_iconst d_X1_seek_29 rfl, List.forall_mem_cons.mpr ⟨s_pf tyX1 d_X1_seek_30 rfl (by decide) n_X1 in_X1 rfl k_1_196 tyX1_ok nmX1 rfl rfl, List.forall_mem_cons.mpr ⟨s_aload_n d_X1_seek_33 rfl, List.forall_mem_cons.mpr ⟨s_iconst d_X1_seek_34 rfl, List.forall_mem_cons.mpr ⟨s_iconst d_X1_seek_35 rfl, List.forall_mem_cons.mpr ⟨s_iconst d_X1_seek_36 rfl, List.forall_mem_cons.mpr ⟨s_cS rfl d_X1_seek_37 k_3_124 k_3_125 k_1_7 k_3_126 ⟨by decide, by decide⟩ (by decide +kernel) (by decide), fun _ h => absurd h List.not_mem_nil⟩⟩⟩⟩⟩⟩⟩⟩⟩⟩⟩⟩
def t_X1_seek_2 : List (Nat × QO) := [(40, o_vr)]
theorem ts_X1_seek_2 (sx : QX) : ∀ q ∈ t_X1_seek_2, q_Snd sx RX1 cX1_seek 3 none q.1 q.2 := List.forall_mem_cons.mpr ⟨s_vr d_X1_seek_40 rfl, fun _ h => absurd h List.not_mem_nil⟩
def t_X1_seek (pc : Nat) : Option QO := cond (Nat.ble pc 19) (q_look (t_X1_seek_0) pc) (cond (Nat.ble pc 37) (q_look (t_X1_seek_1) pc) (q_look (t_X1_seek_2) pc))
theorem ts_X1_seek (sx : QX) (pc : Nat) : ∀ o, t_X1_seek pc = some o → q_Snd sx RX1 cX1_seek 3 none pc o := by
  unfold t_X1_seek
  exact q_cb (q_look_all (ts_X1_seek_0 sx)) (q_cb (q_look_all (ts_X1_seek_1 sx)) (q_look_all (ts_X1_seek_2 sx)))
theorem d_X1_extend_0 : decode cX1_extend 0 = .ok (.iload_n 3, 1) := by decide +kernel
theorem d_X1_extend_1 : decode cX1_extend 1 = .ok (.aload_n 0, 1) := by decide +kernel
theorem d_X1_extend_2 : decode cX1_extend 2 = .ok (.getfield 39, 3) := by decide +kernel
theorem d_X1_extend_5 : decode cX1_extend 5 = .ok (.iadd, 1) := by decide +kernel
theorem d_X1_extend_6 : decode cX1_extend 6 = .ok (.iload_n 1, 1) := by decide +kernel
theorem d_X1_extend_7 : decode cX1_extend 7 = .ok (.isub, 1) := by decide +kernel
theorem d_X1_extend_8 : decode cX1_extend 8 = .ok (.aload_n 0, 1) := by decide +kernel
theorem d_X1_extend_9 : decode cX1_extend 9 = .ok (.getfield 43, 3) := by decide +kernel
theorem d_X1_extend_12 : decode cX1_extend 12 = .ok (.if_icmp .gt 4, 3) := by decide +kernel
theorem d_X1_extend_15 : decode cX1_extend 15 = .ok (.return_, 1) := by decide +kernel
theorem d_X1_extend_16 : decode cX1_extend 16 = .ok (.iload_n 1, 1) := by decide +kernel
theorem d_X1_extend_17 : decode cX1_extend 17 = .ok (.aload_n 0, 1) := by decide +kernel
theorem d_X1_extend_18 : decode cX1_extend 18 = .ok (.getfield 39, 3) := by decide +kernel
theorem d_X1_extend_21 : decode cX1_extend 21 = .ok (.if_icmp .lt 20, 3) := by decide +kernel
theorem d_X1_extend_24 : decode cX1_extend 24 = .ok (.aload_n 0, 1) := by decide +kernel
theorem d_X1_extend_25 : decode cX1_extend 25 = .ok (.iload_n 3, 1) := by decide +kernel
theorem d_X1_extend_26 : decode cX1_extend 26 = .ok (.putfield 43, 3) := by decide +kernel
theorem d_X1_extend_29 : decode cX1_extend 29 = .ok (.aload_n 0, 1) := by decide +kernel
theorem d_X1_extend_30 : decode cX1_extend 30 = .ok (.getfield 17, 3) := by decide +kernel
theorem d_X1_extend_33 : decode cX1_extend 33 = .ok (.aload_n 0, 1) := by decide +kernel
theorem d_X1_extend_34 : decode cX1_extend 34 = .ok (.getfield 21, 3) := by decide +kernel
theorem d_X1_extend_37 : decode cX1_extend 37 = .ok (.invokestatic 50, 3) := by decide +kernel
theorem d_X1_extend_40 : decode cX1_extend 40 = .ok (.return_, 1) := by decide +kernel
theorem d_X1_extend_41 : decode cX1_extend 41 = .ok (.aload_n 0, 1) := by decide +kernel
theorem d_X1_extend_42 : decode cX1_extend 42 = .ok (.getfield 11, 3) := by decide +kernel
theorem d_X1_extend_45 : decode cX1_extend 45 = .ok (.iload_n 1, 1) := by decide +kernel
theorem d_X1_extend_46 : decode cX1_extend 46 = .ok (.invokestatic 27, 3) := by decide +kernel
theorem d_X1_extend_49 : decode cX1_extend 49 = .ok (.astore 4, 2) := by decide +kernel
theorem d_X1_extend_51 : decode cX1_extend 51 = .ok (.aload_n 0, 1) := by decide +kernel
theorem d_X1_extend_52 : decode cX1_extend 52 = .ok (.getfield 11, 3) := by decide +kernel
theorem d_X1_extend_55 : decode cX1_extend 55 = .ok (.iload_n 1, 1) := by decide +kernel
theorem d_X1_extend_56 : decode cX1_extend 56 = .ok (.iconst 1, 1) := by decide +kernel
theorem d_X1_extend_57 : decode cX1_extend 57 = .ok (.iadd, 1) := by decide +kernel
theorem d_X1_extend_58 : decode cX1_extend 58 = .ok (.invokestatic 27, 3) := by decide +kernel
theorem d_X1_extend_61 : decode cX1_extend 61 = .ok (.astore 5, 2) := by decide +kernel
theorem d_X1_extend_63 : decode cX1_extend 63 = .ok (.aload_n 0, 1) := by decide +kernel
theorem d_X1_extend_64 : decode cX1_extend 64 = .ok (.getfield 11, 3) := by decide +kernel
theorem d_X1_extend_67 : decode cX1_extend 67 = .ok (.iconst 0, 1) := by decide +kernel
theorem d_X1_extend_68 : decode cX1_extend 68 = .ok (.invokestatic 27, 3) := by decide +kernel
theorem d_X1_extend_71 : decode cX1_extend 71 = .ok (.astore 6, 2) := by decide +kernel
theorem d_X1_extend_73 : decode cX1_extend 73 = .ok (.aload 4, 2) := by decide +kernel
theorem d_X1_extend_75 : decode cX1_extend 75 = .ok (.ifnull 13, 3) := by decide +kernel
theorem d_X1_extend_78 : decode cX1_extend 78 = .ok (.aload 5, 2) := by decide +kernel
theorem d_X1_extend_80 : decode cX1_extend 80 = .ok (.ifnull 8, 3) := by decide +kernel
theorem d_X1_extend_83 : decode cX1_extend 83 = .ok (.aload 6, 2) := by decide +kernel
theorem d_X1_extend_85 : decode cX1_extend 85 = .ok (.ifnonnull 4, 3) := by decide +kernel
theorem d_X1_extend_88 : decode cX1_extend 88 = .ok (.return_, 1) := by decide +kernel
theorem d_X1_extend_89 : decode cX1_extend 89 = .ok (.iconst 0, 1) := by decide +kernel
theorem d_X1_extend_90 : decode cX1_extend 90 = .ok (.istore 7, 2) := by decide +kernel
theorem d_X1_extend_92 : decode cX1_extend 92 = .ok (.iload 7, 2) := by decide +kernel
theorem d_X1_extend_94 : decode cX1_extend 94 = .ok (.aload 4, 2) := by decide +kernel
theorem d_X1_extend_96 : decode cX1_extend 96 = .ok (.getfield 54, 3) := by decide +kernel
theorem d_X1_extend_99 : decode cX1_extend 99 = .ok (.getfield 58, 3) := by decide +kernel
theorem d_X1_extend_102 : decode cX1_extend 102 = .ok (.if_icmp .ge 88, 3) := by decide +kernel
theorem d_X1_extend_105 : decode cX1_extend 105 = .ok (.iload_n 2, 1) := by decide +kernel
theorem d_X1_extend_106 : decode cX1_extend 106 = .ok (.iload 7, 2) := by decide +kernel
theorem d_X1_extend_108 : decode cX1_extend 108 = .ok (.ishr, 1) := by decide +kernel
theorem d_X1_extend_109 : decode cX1_extend 109 = .ok (.iconst 1, 1) := by decide +kernel
theorem d_X1_extend_110 : decode cX1_extend 110 = .ok (.iand, 1) := by decide +kernel
theorem d_X1_extend_111 : decode cX1_extend 111 = .ok (.iconst 1, 1) := by decide +kernel
theorem d_X1_extend_112 : decode cX1_extend 112 = .ok (.if_icmp .eq 72, 3) := by decide +kernel
theorem d_X1_extend_115 : decode cX1_extend 115 = .ok (.aload 6, 2) := by decide +kernel
theorem d_X1_extend_117 : decode cX1_extend 117 = .ok (.iload 7, 2) := by decide +kernel
theorem d_X1_extend_119 : decode cX1_extend 119 = .ok (.iconst 0, 1) := by decide +kernel
theorem d_X1_extend_120 : decode cX1_extend 120 = .ok (.invokevirtual 63, 3) := by decide +kernel
theorem d_X1_extend_123 : decode cX1_extend 123 = .ok (.ifCond .ne 6, 3) := by decide +kernel
theorem d_X1_extend_126 : decode cX1_extend 126 = .ok (.goto 58, 3) := by decide +kernel
theorem d_X1_extend_129 : decode cX1_extend 129 = .ok (.aload_n 0, 1) := by decide +kernel
theorem d_X1_extend_130 : decode cX1_extend 130 = .ok (.getfield 17, 3) := by decide +kernel
theorem d_X1_extend_133 : decode cX1_extend 133 = .ok (.iload_n 1, 1) := by decide +kernel
theorem d_X1_extend_134 : decode cX1_extend 134 = .ok (.iload 7, 2) := by decide +kernel
theorem d_X1_extend_136 : decode cX1_extend 136 = .ok (.invokestatic 67, 3) := by decide +kernel
theorem d_X1_extend_139 : decode cX1_extend 139 = .ok (.aload 5, 2) := by decide +kernel
theorem d_X1_extend_141 : decode cX1_extend 141 = .ok (.aload 4, 2) := by decide +kernel
theorem d_X1_extend_143 : decode cX1_extend 143 = .ok (.invokevirtual 31, 3) := by decide +kernel
theorem d_X1_extend_146 : decode cX1_extend 146 = .ok (.aload 5, 2) := by decide +kernel
theorem d_X1_extend_148 : decode cX1_extend 148 = .ok (.iload 7, 2) := by decide +kernel
theorem d_X1_extend_150 : decode cX1_extend 150 = .ok (.invokevirtual 71, 3) := by decide +kernel
theorem d_X1_extend_153 : decode cX1_extend 153 = .ok (.aload_n 0, 1) := by decide +kernel
theorem d_X1_extend_154 : decode cX1_extend 154 = .ok (.iload_n 1, 1) := by decide +kernel
theorem d_X1_extend_155 : decode cX1_extend 155 = .ok (.iconst 1, 1) := by decide +kernel
theorem d_X1_extend_156 : decode cX1_extend 156 = .ok (.iadd, 1) := by decide +kernel
theorem d_X1_extend_157 : decode cX1_extend 157 = .ok (.iload_n 2, 1) := by decide +kernel
theorem d_X1_extend_158 : decode cX1_extend 158 = .ok (.iconst 1, 1) := by decide +kernel
theorem d_X1_extend_159 : decode cX1_extend 159 = .ok (.iload 7, 2) := by decide +kernel
theorem d_X1_extend_161 : decode cX1_extend 161 = .ok (.ishl, 1) := by decide +kernel
theorem d_X1_extend_162 : decode cX1_extend 162 = .ok (.ior, 1) := by decide +kernel
theorem d_X1_extend_163 : decode cX1_extend 163 = .ok (.aload 5, 2) := by decide +kernel
theorem d_X1_extend_165 : decode cX1_extend 165 = .ok (.iload 7, 2) := by decide +kernel
theorem d_X1_extend_167 : decode cX1_extend 167 = .ok (.iconst 1, 1) := by decide +kernel
theorem d_X1_extend_168 : decode cX1_extend 168 = .ok (.invokevirtual 63, 3) := by decide +kernel
theorem d_X1_extend_171 : decode cX1_extend 171 = .ok (.ifCond .eq 9, 3) := by decide +kernel
theorem d_X1_extend_174 : decode cX1_extend 174 = .ok (.iload_n 3, 1) := by decide +kernel
theorem d_X1_extend_175 : decode cX1_extend 175 = .ok (.iconst 1, 1) := by decide +kernel
theorem d_X1_extend_176 : decode cX1_extend 176 = .ok (.iadd, 1) := by decide +kernel
theorem d_X1_extend_177 : decode cX1_extend 177 = .ok (.goto 4, 3) := by decide +kernel
theorem d_X1_extend_180 : decode cX1_extend 180 = .ok (.iload_n 3, 1) := by decide +kernel
theorem d_X1_extend_181 : decode cX1_extend 181 = .ok (.invokestatic 46, 3) := by decide +kernel
theorem d_X1_extend_184 : decode cX1_extend 184 = .ok (.iinc 7 1, 3) := by decide +kernel
theorem d_X1_extend_187 : decode cX1_extend 187 = .ok (.goto (-95), 3) := by decide +kernel
theorem d_X1_extend_190 : decode cX1_extend 190 = .ok (.return_, 1) := by decide +kernel
def t_X1_extend_0 : List (Nat × QO) := [(0, o_il 3 1), (1, o_al 0 2), (2, o_gf 1 3 5), (5, o_b (fun x y => x + y) 6), (6, o_il 1 7), (7, o_b (fun x y => x - y) 8), (8, o_al 0 9), (9, o_gf 1 4 12), (12, o_ic (fun x y => decide (y < x)) 16 15), (15, o_vr), (16, o_il 1 17), (17, o_al 0 18)]
theorem ts_X1_extend_0 (sx : QX) : ∀ q ∈ t_X1_extend_0, q_Snd sx RX1 cX1_extend 8 none q.1 q.2 := List.forall_mem_cons.mpr ⟨s_iload_n d_X1_extend_0 rfl, List.forall_mem_cons.mpr ⟨s_aload_n d_X1_extend_1 rfl, List.forall_mem_cons.mpr ⟨s_gf d_X1_extend_2 rfl (by decide) n_X1 in_X1 rfl k_1_194, List.forall_mem_cons.mpr ⟨s_iadd d_X1_extend_5, List.forall_mem_cons.mpr ⟨s_iload_n d_X1_extend_6 rfl, List.forall_mem_cons.mpr ⟨s_isub d_X1_extend_7, List.forall_mem_cons.mpr ⟨s_aload_n d_X1_extend_8 rfl, List.forall_mem_cons.mpr ⟨s_gf d_X1_extend_9 rfl (by decide) n_X1 in_X1 rfl k_1_196, List.forall_mem_cons.mpr ⟨s_ic_gt d_X1_extend_12 (by decide), List.forall_mem_cons.mpr ⟨s_vr d_X1_extend_15 rfl, List.forall_mem_cons.mpr ⟨s_iload_n d_X1_extend_16 rfl, List.forall_mem_cons.mpr ⟨s_aload_n d_X1_extend_17 rfl, fun _ h => absurd h List.not_mem_nil⟩⟩⟩⟩⟩⟩⟩⟩⟩⟩⟩⟩
def t_X1_extend_1 : List (Nat × QO) := [(18, o_gf 1 3 21), (21, o_ic (fun x y => decide (x < y)) 41 24), (24, o_al 0 25), (25, o_il 3 26), (26, o_pf 1 4 29), (29, o_al 0 30), (30, o_gf 1 1 33), (33, o_al 0 34), (34, o_gf 1 2 37), (37, o_cS 0 100 3 2 40), (40, o_vr), (41, o_al 0 42)]
theorem ts_X1_extend_1 (sx : QX) : ∀ q ∈ t_X1_extend_1, q_Snd sx RX1 cX1_extend 8 none q.1 q.2 := List.forall_mem_cons.mpr ⟨s_gf d_X1_extend_18 rfl (by decide) n_X1 in_X1 rfl k_1_194, List.forall_mem_cons.mpr ⟨s_ic_lt d_X1_extend_21 (by decide), List.forall_mem_cons.mpr ⟨s_aload_n d_X1_extend_24 rfl, List.forall_mem_cons.mpr ⟨s_iload_n d_X1_extend_25 rfl, List.forall_mem_cons.mpr ⟨s_pf tyX1 d_X1_extend_26 rfl (by decide) n_X1 in_X1 rfl k_1_196 tyX1_ok nmX1 rfl rfl, List.forall_mem_cons.mpr ⟨s_aload_n d_X1_extend_29 rfl, List.forall_mem_cons.mpr ⟨s_gf d_X1_extend_30 rfl (by decide) n_X1 in_X1 rfl k_1_191, List.forall_mem_cons.mpr ⟨s_aload_n d_X1_extend_33 rfl, List.forall_mem_cons.mpr ⟨s_gf d_X1_extend_34 rfl (by decide) n_X1 in_X1 rfl k_1_192, List.forall_mem_cons.mpr ⟨s_cN (host := "StoneApologies") rfl d_X1_extend_37 (List.mem_of_getElem? (i := 18) rfl) k_2_111 k_1_1 k_2_112 ⟨by decide, by decide⟩ (by decide +kernel) (by decide), List.forall_mem_cons.mpr ⟨s_vr d_X1_extend_40 rfl, List.forall_mem_cons.mpr ⟨s_aload_n d_X1_extend_41 rfl, fun _ h => absurd h List.not_mem_nil⟩⟩⟩⟩⟩⟩⟩⟩⟩⟩⟩⟩
def t_X1_extend_2 : List (Nat × QO) := [(42, o_gf 1 0 45), (45, o_il 1 46), (46, o_cS 2 101 2 2 49), (49, o_as 4 51), (51, o_al 0 52), (52, o_gf 1 0 55), (55, o_il 1 56), (56, o_k 1 57), (57, o_b (fun x y => x + y) 58), (58, o_cS 2 101 2 2 61), (61, o_as 5 63), (63, o_al 0 64)]
theorem ts_X1_extend_2 (sx : QX) : ∀ q ∈ t_X1_extend_2, q_Snd sx RX1 cX1_extend 8 none q.1 q.2 := List.forall_mem_cons.mpr ⟨s_gf d_X1_extend_42 rfl (by decide) n_X1 in_X1 rfl k_1_190, List.forall_mem_cons.mpr ⟨s_iload_n d_X1_extend_45 rfl, List.forall_mem_cons.mpr ⟨s_cN (host := "StoneApologies") rfl d_X1_extend_46 (List.mem_of_getElem? (i := 17) rfl) k_2_239 k_1_1 k_3_0 ⟨by decide, by decide⟩ (by decide +kernel) (by decide), List.forall_mem_cons.mpr ⟨s_astore d_X1_extend_49 (by decide), List.forall_mem_cons.mpr ⟨s_aload_n d_X1_extend_51 rfl, List.forall_mem_cons.mpr ⟨s_gf d_X1_extend_52 rfl (by decide) n_X1 in_X1 rfl k_1_190, List.forall_mem_cons.mpr ⟨s_iload_n d_X1_extend_55 rfl, List.forall_mem_cons.mpr ⟨s_iconst d_X1_extend_56 rfl, List.forall_mem_cons.mpr ⟨s_iadd d_X1_extend_57, List.forall_mem_cons.mpr ⟨s_cN (host := "StoneApologies") rfl d_X1_extend_58 (List.mem_of_getElem? (i := 17) rfl) k_2_239 k_1_1 k_3_0 ⟨by decide, by decide⟩ (by decide +kernel) (by decide), List.forall_mem_cons.mpr ⟨s_astore d_X1_extend_61 (by decide), List.forall_mem_cons.mpr ⟨s_aload_n d_X1_extend_63 rfl, fun _ h => absurd h List.not_mem_nil⟩⟩⟩⟩⟩⟩⟩⟩⟩⟩⟩⟩
def t_X1_extend_3 : List (Nat × QO) := [(64, o_gf 1 0 67), (67, o_k 0 68), (68, o_cS 2 101 2 2 71), (71, o_as 6 73), (73, o_al 4 75), (75, o_ifnull 88 78), (78, o_al 5 80), (80, o_ifnull 88 83), (83, o_al 6 85), (85, o_ifnull 88 89), (88, o_vr), (89, o_k 0 90)]
theorem ts_X1_extend_3 (sx : QX) : ∀ q ∈ t_X1_extend_3, q_Snd sx RX1 cX1_extend 8 none q.1 q.2 := List.forall_mem_cons.mpr ⟨s_gf d_X1_extend_64 rfl (by decide) n_X1 in_X1 rfl k_1_190, List.forall_mem_cons.mpr ⟨s_iconst d_X1_extend_67 rfl, List.forall_mem_cons.mpr ⟨s_cN (host := "StoneApologies") rfl d_X1_extend_68 (List.mem_of_getElem? (i := 17) rfl) k_2_239 k_1_1 k_3_0 ⟨by decide, by decide⟩ (by decide +kernel) (by decide), List.forall_mem_cons.mpr ⟨s_astore d_X1_extend_71 (by decide), List.forall_mem_cons.mpr ⟨s_aload d_X1_extend_73, List.forall_mem_cons.mpr ⟨s_ifnull d_X1_extend_75 (by decide), List.forall_mem_cons.mpr ⟨s_aload d_X1_extend_78, List.forall_mem_cons.mpr ⟨s_ifnull d_X1_extend_80 (by decide), List.forall_mem_cons.mpr ⟨s_aload d_X1_extend_83, List.forall_mem_cons.mpr ⟨s_ifnonnull d_X1_extend_85 (by decide), List.forall_mem_cons.mpr ⟨s_vr d_X1_extend_88 rfl, List.forall_mem_cons.mpr ⟨s_iconst d_X1_extend_89 rfl, fun _ h => absurd h List.not_mem_nil⟩⟩⟩⟩⟩⟩⟩⟩⟩⟩⟩⟩
def t_X1_extend_4 : List (Nat × QO) := [(90, o_is 7 92), (92, o_il 7 94), (94, o_al 4 96), (96, o_gf 3 0 99), (99, o_gf 0 0 102), (102, o_ic (fun x y => decide (y ≤ x)) 190 105), (105, o_il 2 106), (106, o_il 7 108), (108, o_b (fun x y => x >>> (y &&& 31)) 109), (109, o_k 1 110), (110, o_b (fun x y => x &&& y) 111), (111, o_k 1 112)]
theorem ts_X1_extend_4 (sx : QX) : ∀ q ∈ t_X1_extend_4, q_Snd sx RX1 cX1_extend 8 none q.1 q.2 := List.forall_mem_cons.mpr ⟨s_istore d_X1_extend_90 (by decide), List.forall_mem_cons.mpr ⟨s_iload d_X1_extend_92, List.forall_mem_cons.mpr ⟨s_aload d_X1_extend_94, List.forall_mem_cons.mpr ⟨s_gf d_X1_extend_96 rfl (by decide) n_X3 in_X3 rfl k_1_115, List.forall_mem_cons.mpr ⟨s_gf d_X1_extend_99 rfl (by decide) n_X0 in_X0 rfl k_1_51, List.forall_mem_cons.mpr ⟨s_ic_ge d_X1_extend_102 (by decide), List.forall_mem_cons.mpr ⟨s_iload_n d_X1_extend_105 rfl, List.forall_mem_cons.mpr ⟨s_iload d_X1_extend_106, List.forall_mem_cons.mpr ⟨s_ishr d_X1_extend_108, List.forall_mem_cons.mpr ⟨s_iconst d_X1_extend_109 rfl, List.forall_mem_cons.mpr ⟨s_iand d_X1_extend_110, List.forall_mem_cons.mpr ⟨s_iconst d_X1_extend_111 rfl, fun _ h => absurd h List.not_mem_nil⟩⟩⟩⟩⟩⟩⟩⟩⟩⟩⟩⟩
def t_X1_extend_5 : List (Nat × QO) := [(112, o_ic (fun x y => decide (x = y)) 184 115), (115, o_al 6 117), (117, o_il 7 119), (119, o_k 0 120), (120, o_cV 1 3 21 3 3 123), (123, o_if (fun x => decide (x ≠ 0)) 129 126), (126, o_goto 184), (129, o_al 0 130), (130, o_gf 1 1 133), (133, o_il 1 134), (134, o_il 7 136), (136, o_cS 0 98 3 3 139)]
theorem ts_X1_extend_5 (sx : QX) : ∀ q ∈ t_X1_extend_5, q_Snd sx RX1 cX1_extend 8 none q.1 q.2 := List.forall_mem_cons.mpr ⟨s_ic_eq d_X1_extend_112 (by decide), List.forall_mem_cons.mpr ⟨s_aload d_X1_extend_115, List.forall_mem_cons.mpr ⟨s_iload d_X1_extend_117, List.forall_mem_cons.mpr ⟨s_iconst d_X1_extend_119 rfl, List.forall_mem_cons.mpr ⟨s_cV (T := TX3) (N := 8) rfl d_X1_extend_120 rfl k_3_128 k_3_29 k_3_30 k_1_4 k_3_31 ⟨by decide, by decide⟩ (by decide +kernel) (by decide), List.forall_mem_cons.mpr ⟨s_if_ne d_X1_extend_123 (by decide), List.forall_mem_cons.mpr ⟨s_goto d_X1_extend_126 (by decide), List.forall_mem_cons.mpr ⟨s_aload_n d_X1_extend_129 rfl, List.forall_mem_cons.mpr ⟨s_gf d_X1_extend_130 rfl (by decide) n_X1 in_X1 rfl k_1_191, List.forall_mem_cons.mpr ⟨s_iload_n d_X1_extend_133 rfl, List.forall_mem_cons.mpr ⟨s_iload d_X1_extend_134, List.forall_mem_cons.mpr ⟨s_cN (host := "StoneApologies") rfl d_X1_extend_136 (List.mem_of_getElem? (i := 19) rfl) k_2_23 k_1_1 k_2_24 ⟨by decide, by decide⟩ (by decide +kernel) (by decide), fun _ h => absurd h List.not_mem_nil⟩⟩⟩⟩⟩⟩⟩⟩⟩⟩⟩⟩
def t_X1_extend_6 : List (Nat × QO) := [(139, o_al 5 141), (141, o_al 4 143), (143, o_cV 0 3 20 2 2 146), (146, o_al 5 148), (148, o_il 7 150), (150, o_cV 0 3 39 4 2 153), (153, o_al 0 154), (154, o_il 1 155), (155, o_k 1 156), (156, o_b (fun x y => x + y) 157), (157, o_il 2 158), (158, o_k 1 159)]
theorem ts_X1_extend_6 (sx : QX) : ∀ q ∈ t_X1_extend_6, q_Snd sx RX1 cX1_extend 8 none q.1 q.2 := List.forall_mem_cons.mpr ⟨s_aload d_X1_extend_139, List.forall_mem_cons.mpr ⟨s_aload d_X1_extend_141, List.forall_mem_cons.mpr ⟨s_cV (T := TX3) (N := 8) rfl d_X1_extend_143 rfl k_3_119 k_3_2 k_3_3 k_1_4 k_3_4 ⟨by decide, by decide⟩ (by decide +kernel) (by decide), List.forall_mem_cons.mpr ⟨s_aload d_X1_extend_146, List.forall_mem_cons.mpr ⟨s_iload d_X1_extend_148, List.forall_mem_cons.mpr ⟨s_cV (T := TX3) (N := 8) rfl d_X1_extend_150 rfl k_3_130 k_3_131 k_3_132 k_1_4 k_3_133 ⟨by decide, by decide⟩ (by decide +kernel) (by decide), List.forall_mem_cons.mpr ⟨s_aload_n d_X1_extend_153 rfl, List.forall_mem_cons.mpr ⟨s_iload_n d_X1_extend_154 rfl, List.forall_mem_cons.mpr ⟨s_iconst d_X1_extend_155 rfl, List.forall_mem_cons.mpr ⟨s_iadd d_X1_extend_156, List.forall_mem_cons.mpr ⟨s_iload_n d_X1_extend_157 rfl, List.forall_mem_cons.mpr ⟨s_iconst d_X1_extend_158 rfl, fun _ h => absurd h List.not_mem_nil⟩⟩⟩⟩⟩⟩⟩⟩⟩⟩⟩⟩
def t_X1_extend_7 : List (Nat × QO) := [(159, o_il 7 161), (161, o_b (fun x y => x <<< (y &&& 31)) 162), (162, o_b (fun x y => x ||| y) 163), (163, o_al 5 165), (165, o_il 7 167), (167, o_k 1 168), (168, o_cV 1 3 21 3 3 171), (171, o_if (fun x => decide (x = 0)) 180 174), (174, o_il 3 175), (175, o_k 1 176), (176, o_b (fun x y => x + y) 177), (177, o_goto 181)]
theorem ts_X1_extend_7 (sx : QX) : ∀ q ∈ t_X1_extend_7, q_Snd sx RX1 cX1_extend 8 none q.1 q.2 := List.forall_mem_cons.mpr ⟨s_iload d_X1_extend_159, List.forall_mem_cons.mpr ⟨s_ishl d_X1_extend_161, List.forall_mem_cons.mpr ⟨s_ior d_X1_extend_162, List.forall_mem_cons.mpr ⟨s_aload d_X1_extend_163, List.forall_mem_cons.mpr ⟨s_iload d_X1_extend_165, List.forall_mem_cons.mpr ⟨s_iconst d_X1_extend_167 rfl, List.forall_mem_cons.mpr ⟨s_cV (T := TX3) (N := 8) rfl d_X1_extend_168 rfl k_3_128 k_3_29 k_3_30 k_1_4 k_3_31 ⟨by decide, by decide⟩ (by decide +kernel) (by decide), List.forall_mem_cons.mpr ⟨s_if_eq d_X1_extend_171 (by decide), List.forall_mem_cons.mpr ⟨s_iload_n d_X1_extend_174 rfl, List.forall_mem_cons.mpr ⟨s_iconst d_X1_extend_175 rfl, List.forall_mem_cons.mpr ⟨s_iadd d_X1_extend_176, List.forall_mem_cons.mpr ⟨s_goto d_X1_extend_177 (by decide), fun _ h => absurd h List.not_mem_nil⟩⟩⟩⟩⟩⟩⟩⟩⟩⟩⟩⟩
def t_X1_extend_8 : List (Nat × QO) := [(180, o_il 3 181), (181, o_cS 0 15 8 4 184), (184, o_inc 7 1 187), (187, o_goto 92), (190, o_vr)]
theorem ts_X1_extend_8 (sx : QX) : ∀ q ∈ t_X1_extend_8, q_Snd sx RX1 cX1_extend 8 none q.1 q.2 := List.forall_mem_cons.mpr ⟨s_iload_n d_X1_extend_180 rfl, List.forall_mem_cons.mpr ⟨s_cS rfl d_X1_extend_181 k_3_124 k_3_125 k_1_7 k_3_126 ⟨by decide, by decide⟩ (by decide +kernel) (by decide), List.forall_mem_cons.mpr ⟨s_iinc d_X1_extend_184 rfl (by decide), List.forall_mem_cons.mpr ⟨s_goto d_X1_extend_187 (by decide), List.forall_mem_cons.mpr ⟨s_vr d_X1_extend_190 rfl, fun _ h => absurd h List.not_mem_nil⟩⟩⟩⟩⟩
def t_X1_extend (pc : Nat) : Option QO := cond (Nat.ble pc 89) (cond (Nat.ble pc 41) (cond (Nat.ble pc 17) (q_look (t_X1_extend_0) pc) (q_look (t_X1_extend_1) pc)) (cond (Nat.ble pc 63) (q_look (t_X1_extend_2) pc) (q_look (t_X1_extend_3) pc))) (cond (Nat.ble pc 136) (cond (Nat.ble pc 111) (q_look (t_X1_extend_4) pc) (q_look (t_X1_extend_5) pc)) (cond (Nat.ble pc 158) (q_look (t_X1_extend_6) pc) (cond (Nat.ble pc 177) (q_look (t_X1_extend_7) pc) (q_look (t_X1_extend_8) pc))))
theorem ts_X1_extend (sx : QX) (pc : Nat) : ∀ o, t_X1_extend pc = some o → q_Snd sx RX1 cX1_extend 8 none pc o := by
  unfold t_X1_extend
  exact q_cb (q_cb (q_cb (q_look_all (ts_X1_extend_0 sx)) (q_look_all (ts_X1_extend_1 sx))) (q_cb (q_look_all (ts_X1_extend_2 sx)) (q_look_all (ts_X1_extend_3 sx)))) (q_cb (q_cb (q_look_all (ts_X1_extend_4 sx)) (q_look_all (ts_X1_extend_5 sx))) (q_cb (q_look_all (ts_X1_extend_6 sx)) (q_cb (q_look_all (ts_X1_extend_7 sx)) (q_look_all (ts_X1_extend_8 sx)))))
theorem d_X2_clear_0 : decode cX2_clear 0 = .ok (.aload_n 0, 1) := by decide +kernel
theorem d_X2_clear_1 : decode cX2_clear 1 = .ok (.iconst 0, 1) := by decide +kernel
theorem d_X2_clear_2 : decode cX2_clear 2 = .ok (.putfield 18, 3) := by decide +kernel
theorem d_X2_clear_5 : decode cX2_clear 5 = .ok (.return_, 1) := by decide +kernel
def t_X2_clear_0 : List (Nat × QO) := [(0, o_al 0 1), (1, o_k 0 2), (2, o_pf 2 2 5), (5, o_vr)]
theorem ts_X2_clear_0 (sx : QX) : ∀ q ∈ t_X2_clear_0, q_Snd sx RX2 cX2_clear 1 none q.1 q.2 := List.forall_mem_cons.mpr ⟨s_aload_n d_X2_clear_0 rfl, List.forall_mem_cons.mpr ⟨s_iconst d_X2_clear_1 rfl, List.forall_mem_cons.mpr ⟨s_pf tyX2 d_X2_clear_2 rfl (by decide) n_X2 in_X2 rfl k_1_159 tyX2_ok nmX2 rfl rfl, List.forall_mem_cons.mpr ⟨s_vr d_X2_clear_5 rfl, fun _ h => absurd h List.not_mem_nil⟩⟩⟩⟩
def t_X2_clear (pc : Nat) : Option QO := q_look (t_X2_clear_0) pc
theorem ts_X2_clear (sx : QX) (pc : Nat) : ∀ o, t_X2_clear pc = some o → q_Snd sx RX2 cX2_clear 1 none pc o := by
  unfold t_X2_clear
  exact q_look_all (ts_X2_clear_0 sx)
theorem d_X2_push_0 : decode cX2_push 0 = .ok (.aload_n 0, 1) := by decide +kernel
theorem d_X2_push_1 : decode cX2_push 1 = .ok (.getfield 9, 3) := by decide +kernel
theorem d_X2_push_4 : decode cX2_push 4 = .ok (.aload_n 0, 1) := by decide +kernel
theorem d_X2_push_5 : decode cX2_push 5 = .ok (.getfield 22, 3) := by decide +kernel
theorem d_X2_push_8 : decode cX2_push 8 = .ok (.invokestatic 25, 3) := by decide +kernel
theorem d_X2_push_11 : decode cX2_push 11 = .ok (.astore_n 2, 1) := by decide +kernel
theorem d_X2_push_12 : decode cX2_push 12 = .ok (.aload_n 2, 1) := by decide +kernel
theorem d_X2_push_13 : decode cX2_push 13 = .ok (.ifnonnull 4, 3) := by decide +kernel
theorem d_X2_push_16 : decode cX2_push 16 = .ok (.return_, 1) := by decide +kernel
theorem d_X2_push_17 : decode cX2_push 17 = .ok (.aload_n 2, 1) := by decide +kernel
theorem d_X2_push_18 : decode cX2_push 18 = .ok (.aload_n 1, 1) := by decide +kernel
theorem d_X2_push_19 : decode cX2_push 19 = .ok (.invokevirtual 31, 3) := by decide +kernel
theorem d_X2_push_22 : decode cX2_push 22 = .ok (.aload_n 0, 1) := by decide +kernel
theorem d_X2_push_23 : decode cX2_push 23 = .ok (.aload_n 0, 1) := by decide +kernel
theorem d_X2_push_24 : decode cX2_push 24 = .ok (.getfield 22, 3) := by decide +kernel
theorem d_X2_push_27 : decode cX2_push 27 = .ok (.iconst 1, 1) := by decide +kernel
theorem d_X2_push_28 : decode cX2_push 28 = .ok (.iadd, 1) := by decide +kernel
theorem d_X2_push_29 : decode cX2_push 29 = .ok (.aload_n 0, 1) := by decide +kernel
theorem d_X2_push_30 : decode cX2_push 30 = .ok (.getfield 9, 3) := by decide +kernel
theorem d_X2_push_33 : decode cX2_push 33 = .ok (.arraylength, 1) := by decide +kernel
theorem d_X2_push_34 : decode cX2_push 34 = .ok (.if_icmp .ge 12, 3) := by decide +kernel
theorem d_X2_push_37 : decode cX2_push 37 = .ok (.aload_n 0, 1) := by decide +kernel
theorem d_X2_push_38 : decode cX2_push 38 = .ok (.getfield 22, 3) := by decide +kernel
theorem d_X2_push_41 : decode cX2_push 41 = .ok (.iconst 1, 1) := by decide +kernel
theorem d_X2_push_42 : decode cX2_push 42 = .ok (.iadd, 1) := by decide +kernel
theorem d_X2_push_43 : decode cX2_push 43 = .ok (.goto 4, 3) := by decide +kernel
theorem d_X2_push_46 : decode cX2_push 46 = .ok (.iconst 0, 1) := by decide +kernel
theorem d_X2_push_47 : decode cX2_push 47 = .ok (.putfield 22, 3) := by decide +kernel
theorem d_X2_push_50 : decode cX2_push 50 = .ok (.aload_n 0, 1) := by decide +kernel
theorem d_X2_push_51 : decode cX2_push 51 = .ok (.getfield 18, 3) := by decide +kernel
theorem d_X2_push_54 : decode cX2_push 54 = .ok (.aload_n 0, 1) := by decide +kernel
theorem d_X2_push_55 : decode cX2_push 55 = .ok (.getfield 9, 3) := by decide +kernel
theorem d_X2_push_58 : decode cX2_push 58 = .ok (.arraylength, 1) := by decide +kernel
theorem d_X2_push_59 : decode cX2_push 59 = .ok (.if_icmp .ge 13, 3) := by decide +kernel
theorem d_X2_push_62 : decode cX2_push 62 = .ok (.aload_n 0, 1) := by decide +kernel
theorem d_X2_push_63 : decode cX2_push 63 = .ok (.dup, 1) := by decide +kernel
theorem d_X2_push_64 : decode cX2_push 64 = .ok (.getfield 18, 3) := by decide +kernel
theorem d_X2_push_67 : decode cX2_push 67 = .ok (.iconst 1, 1) := by decide +kernel
theorem d_X2_push_68 : decode cX2_push 68 = .ok (.iadd, 1) := by decide +kernel
theorem d_X2_push_69 : decode cX2_push 69 = .ok (.putfield 18, 3) := by decide +kernel
theorem d_X2_push_72 : decode cX2_push 72 = .ok (.return_, 1) := by decide +kernel
def t_X2_push_0 : List (Nat × QO) := [(0, o_al 0 1), (1, o_gf 2 0 4), (4, o_al 0 5), (5, o_gf 2 1 8), (8, o_cS 2 101 2 2 11), (11, o_as 2 12), (12, o_al 2 13), (13, o_ifnull 16 17), (16, o_vr), (17, o_al 2 18), (18, o_al 1 19), (19, o_cV 0 3 20 2 2 22)]
theorem ts_X2_push_0 (sx : QX) : ∀ q ∈ t_X2_push_0, q_Snd sx RX2 cX2_push 3 none q.1 q.2 := List.forall_mem_cons.mpr ⟨s_aload_n d_X2_push_0 rfl, List.forall_mem_cons.mpr ⟨s_gf d_X2_push_1 rfl (by decide) n_X2 in_X2 rfl k_1_157, List.forall_mem_cons.mpr ⟨s_aload_n d_X2_push_4 rfl, List.forall_mem_cons.mpr ⟨s_gf d_X2_push_5 rfl (by decide) n_X2 in_X2 rfl k_1_158, List.forall_mem_cons.mpr ⟨s_cN (host := "StoneApologies") rfl d_X2_push_8 (List.mem_of_getElem? (i := 11) rfl) k_2_239 k_1_1 k_3_0 ⟨by decide, by decide⟩ (by decide +kernel) (by decide), List.forall_mem_cons.mpr ⟨s_astore_n d_X2_push_11 rfl (by decide), List.forall_mem_cons.mpr ⟨s_aload_n d_X2_push_12 rfl, List.forall_mem_cons.mpr ⟨s_ifnonnull d_X2_push_13 (by decide), List.forall_mem_cons.mpr ⟨s_vr d_X2_push_16 rfl, List.forall_mem_cons.mpr ⟨s_aload_n d_X2_push_17 rfl, List.forall_mem_cons.mpr ⟨s_aload_n d_X2_push_18 rfl, List.forall_mem_cons.mpr ⟨s_cV (T := TX3) (N := 8) rfl d_X2_push_19 rfl k_3_1 k_3_2 k_3_3 k_1_4 k_3_4 ⟨by decide, by decide⟩ (by decide +kernel) (by decide), fun _ h => absurd h List.not_mem_nil⟩⟩⟩⟩⟩⟩⟩⟩⟩⟩⟩⟩
def t_X2_push_1 : List (Nat × QO) := [(22, o_al 0 23), (23, o_al 0 24), (24, o_gf 2 1 27), (27, o_k 1 28), (28, o_b (fun x y => x + y) 29), (29, o_al 0 30), (30, o_gf 2 0 33), (33, o_len 34), (34, o_ic (fun x y => decide (y ≤ x)) 46 37), (37, o_al 0 38), (38, o_gf 2 1 41), (41, o_k 1 42)]
theorem ts_X2_push_1 (sx : QX) : ∀ q ∈ t_X2_push_1, q_Snd sx RX2 cX2_push 3 none q.1 q.2 := List.forall_mem_cons.mpr ⟨s_aload_n d_X2_push_22 rfl, List.forall_mem_cons.mpr ⟨s_aload_n d_X2_push_23 rfl, List.forall_mem_cons.mpr ⟨s_gf d_X2_push_24 rfl (by decide) n_X2 in_X2 rfl k_1_158, List.forall_mem_cons.mpr ⟨s_iconst d_X2_push_27 rfl, List.forall_mem_cons.mpr ⟨s_iadd d_X2_push_28, List.forall_mem_cons.mpr ⟨s_aload_n d_X2_push_29 rfl, List.forall_mem_cons.mpr ⟨s_gf d_X2_push_30 rfl (by decide) n_X2 in_X2 rfl k_1_157, List.forall_mem_cons.mpr ⟨s_len d_X2_push_33, List.forall_mem_cons.mpr ⟨s_ic_ge d_X2_push_34 (by decide), List.forall_mem_cons.mpr ⟨s_aload_n d_X2_push_37 rfl, List.forall_mem_cons.mpr ⟨s_gf d_X2_push_38 rfl (by decide) n_X2 in_X2 rfl k_1_158, List.forall_mem_cons.mpr ⟨s_iconst d_X2_push_41 rfl, fun _ h => absurd h List.not_mem_nil⟩⟩⟩⟩⟩⟩⟩⟩⟩⟩⟩⟩
def t_X2_push_2 : List (Nat × QO) := [(42, o_b (fun x y => x + y) 43), (43, o_goto 47), (46, o_k 0 47), (47, o_pf 2 1 50), (50, o_al 0 51), (51, o_gf 2 2 54), (54, o_al 0 55), (55, o_gf 2 0 58), (58, o_len 59), (59, o_ic (fun x y => decide (y ≤ x)) 72 62), (62, o_al 0 63), (63, o_dup 64)]
theorem ts_X2_push_2 (sx : QX) : ∀ q ∈ t_X2_push_2, q_Snd sx RX2 cX2_push 3 none q.1 q.2 := List.forall_mem_cons.mpr ⟨s_iadd d_X2_push_42, List.forall_mem_cons.mpr ⟨s_goto d_X2_push_43 (by decide), List.forall_mem_cons.mpr ⟨s_iconst d_X2_push_46 rfl, List.forall_mem_cons.mpr ⟨s_pf tyX2 d_X2_push_47 rfl (by decide) n_X2 in_X2 rfl k_1_158 tyX2_ok nmX2 rfl rfl, List.forall_mem_cons.mpr ⟨s_aload_n d_X2_push_50 rfl, List.forall_mem_cons.mpr ⟨s_gf d_X2_push_51 rfl (by decide) n_X2 in_X2 rfl k_1_159, List.forall_mem_cons.mpr ⟨s_aload_n d_X2_push_54 rfl, List.forall_mem_cons.mpr ⟨s_gf d_X2_push_55 rfl (by decide) n_X2 in_X2 rfl k_1_157, List.forall_mem_cons.mpr ⟨s_len d_X2_push_58, List.forall_mem_cons.mpr ⟨s_ic_ge d_X2_push_59 (by decide), List.forall_mem_cons.mpr ⟨s_aload_n d_X2_push_62 rfl, List.forall_mem_cons.mpr ⟨s_dup d_X2_push_63, fun _ h => absurd h List.not_mem_nil⟩⟩⟩⟩⟩⟩⟩⟩⟩⟩⟩⟩
def t_X2_push_3 : List (Nat × QO) := [(64, o_gf 2 2 67), (67, o_k 1 68), (68, o_b (fun x y => x + y) 69), (69, o_pf 2 2 72), (72, o_vr)]
theorem ts_X2_push_3 (sx : QX) : ∀ q ∈ t_X2_push_3, q_Snd sx RX2 cX2_push 3 none q.1 q.2 := List.forall_mem_cons.mpr ⟨s_gf d_X2_push_64 rfl (by decide) n_X2 in_X2 rfl k_1_159, List.forall_mem_cons.mpr ⟨s_iconst d_X2_push_67 rfl, List.forall_mem_cons.mpr ⟨s_iadd d_X2_push_68, List.forall_mem_cons.mpr ⟨s_pf tyX2 d_X2_push_69 rfl (by decide) n_X2 in_X2 rfl k_1_159 tyX2_ok nmX2 rfl rfl, List.forall_mem_cons.mpr ⟨s_vr d_X2_push_72 rfl, fun _ h => absurd h List.not_mem_nil⟩⟩⟩⟩⟩
def t_X2_push (pc : Nat) : Option QO := cond (Nat.ble pc 41) (cond (Nat.ble pc 19) (q_look (t_X2_push_0) pc) (q_look (t_X2_push_1) pc)) (cond (Nat.ble pc 63) (q_look (t_X2_push_2) pc) (q_look (t_X2_push_3) pc))
theorem ts_X2_push (sx : QX) (pc : Nat) : ∀ o, t_X2_push pc = some o → q_Snd sx RX2 cX2_push 3 none pc o := by
  unfold t_X2_push
  exact q_cb (q_cb (q_look_all (ts_X2_push_0 sx)) (q_look_all (ts_X2_push_1 sx))) (q_cb (q_look_all (ts_X2_push_2 sx)) (q_look_all (ts_X2_push_3 sx)))
theorem d_X2_pop_0 : decode cX2_pop 0 = .ok (.aload_n 0, 1) := by decide +kernel
theorem d_X2_pop_1 : decode cX2_pop 1 = .ok (.getfield 18, 3) := by decide +kernel
theorem d_X2_pop_4 : decode cX2_pop 4 = .ok (.iconst 1, 1) := by decide +kernel
theorem d_X2_pop_5 : decode cX2_pop 5 = .ok (.if_icmp .ge 5, 3) := by decide +kernel
theorem d_X2_pop_8 : decode cX2_pop 8 = .ok (.iconst 0, 1) := by decide +kernel
theorem d_X2_pop_9 : decode cX2_pop 9 = .ok (.ireturn, 1) := by decide +kernel
theorem d_X2_pop_10 : decode cX2_pop 10 = .ok (.aload_n 0, 1) := by decide +kernel
theorem d_X2_pop_11 : decode cX2_pop 11 = .ok (.getfield 22, 3) := by decide +kernel
theorem d_X2_pop_14 : decode cX2_pop 14 = .ok (.ifCond .le 12, 3) := by decide +kernel
theorem d_X2_pop_17 : decode cX2_pop 17 = .ok (.aload_n 0, 1) := by decide +kernel
theorem d_X2_pop_18 : decode cX2_pop 18 = .ok (.getfield 22, 3) := by decide +kernel
theorem d_X2_pop_21 : decode cX2_pop 21 = .ok (.iconst 1, 1) := by decide +kernel
theorem d_X2_pop_22 : decode cX2_pop 22 = .ok (.isub, 1) := by decide +kernel
theorem d_X2_pop_23 : decode cX2_pop 23 = .ok (.goto 10, 3) := by decide +kernel
theorem d_X2_pop_26 : decode cX2_pop 26 = .ok (.aload_n 0, 1) := by decide +kernel
theorem d_X2_pop_27 : decode cX2_pop 27 = .ok (.getfield 9, 3) := by decide +kernel
theorem d_X2_pop_30 : decode cX2_pop 30 = .ok (.arraylength, 1) := by decide +kernel
theorem d_X2_pop_31 : decode cX2_pop 31 = .ok (.iconst 1, 1) := by decide +kernel
theorem d_X2_pop_32 : decode cX2_pop 32 = .ok (.isub, 1) := by decide +kernel
theorem d_X2_pop_33 : decode cX2_pop 33 = .ok (.istore_n 2, 1) := by decide +kernel
theorem d_X2_pop_34 : decode cX2_pop 34 = .ok (.aload_n 0, 1) := by decide +kernel
theorem d_X2_pop_35 : decode cX2_pop 35 = .ok (.getfield 9, 3) := by decide +kernel
theorem d_X2_pop_38 : decode cX2_pop 38 = .ok (.iload_n 2, 1) := by decide +kernel
theorem d_X2_pop_39 : decode cX2_pop 39 = .ok (.invokestatic 25, 3) := by decide +kernel
theorem d_X2_pop_42 : decode cX2_pop 42 = .ok (.astore_n 3, 1) := by decide +kernel
theorem d_X2_pop_43 : decode cX2_pop 43 = .ok (.aload_n 3, 1) := by decide +kernel
theorem d_X2_pop_44 : decode cX2_pop 44 = .ok (.ifnonnull 5, 3) := by decide +kernel
theorem d_X2_pop_47 : decode cX2_pop 47 = .ok (.iconst 0, 1) := by decide +kernel
theorem d_X2_pop_48 : decode cX2_pop 48 = .ok (.ireturn, 1) := by decide +kernel
theorem d_X2_pop_49 : decode cX2_pop 49 = .ok (.aload_n 1, 1) := by decide +kernel
theorem d_X2_pop_50 : decode cX2_pop 50 = .ok (.aload_n 3, 1) := by decide +kernel
theorem d_X2_pop_51 : decode cX2_pop 51 = .ok (.invokevirtual 31, 3) := by decide +kernel
theorem d_X2_pop_54 : decode cX2_pop 54 = .ok (.aload_n 0, 1) := by decide +kernel
theorem d_X2_pop_55 : decode cX2_pop 55 = .ok (.iload_n 2, 1) := by decide +kernel
theorem d_X2_pop_56 : decode cX2_pop 56 = .ok (.putfield 22, 3) := by decide +kernel
theorem d_X2_pop_59 : decode cX2_pop 59 = .ok (.aload_n 0, 1) := by decide +kernel
theorem d_X2_pop_60 : decode cX2_pop 60 = .ok (.dup, 1) := by decide +kernel
theorem d_X2_pop_61 : decode cX2_pop 61 = .ok (.getfield 18, 3) := by decide +kernel
theorem d_X2_pop_64 : decode cX2_pop 64 = .ok (.iconst 1, 1) := by decide +kernel
theorem d_X2_pop_65 : decode cX2_pop 65 = .ok (.isub, 1) := by decide +kernel
theorem d_X2_pop_66 : decode cX2_pop 66 = .ok (.putfield 18, 3) := by decide +kernel
theorem d_X2_pop_69 : decode cX2_pop 69 = .ok (.iconst 1, 1) := by decide +kernel
theorem d_X2_pop_70 : decode cX2_pop 70 = .ok (.ireturn, 1) := by decide +kernel
def t_X2_pop_0 : List (Nat × QO) := [(0, o_al 0 1), (1, o_gf 2 2 4), (4, o_k 1 5), (5, o_ic (fun x y => decide (y ≤ x)) 10 8), (8, o_k 0 9), (9, o_ir true), (10, o_al 0 11), (11, o_gf 2 1 14), (14, o_if (fun x => decide (x ≤ 0)) 26 17), (17, o_al 0 18), (18, o_gf 2 1 21), (21, o_k 1 22)]
theorem ts_X2_pop_0 (sx : QX) : ∀ q ∈ t_X2_pop_0, q_Snd sx RX2 cX2_pop 4 (some .boolean) q.1 q.2 := List.forall_mem_cons.mpr ⟨s_aload_n d_X2_pop_0 rfl, List.forall_mem_cons.mpr ⟨s_gf d_X2_pop_1 rfl (by decide) n_X2 in_X2 rfl k_1_159, List.forall_mem_cons.mpr ⟨s_iconst d_X2_pop_4 rfl, List.forall_mem_cons.mpr ⟨s_ic_ge d_X2_pop_5 (by decide), List.forall_mem_cons.mpr ⟨s_iconst d_X2_pop_8 rfl, List.forall_mem_cons.mpr ⟨s_zr d_X2_pop_9 rfl, List.forall_mem_cons.mpr ⟨s_aload_n d_X2_pop_10 rfl, List.forall_mem_cons.mpr ⟨s_gf d_X2_pop_11 rfl (by decide) n_X2 in_X2 rfl k_1_158, List.forall_mem_cons.mpr ⟨s_if_le d_X2_pop_14 (by decide), List.forall_mem_cons.mpr ⟨s_aload_n d_X2_pop_17 rfl, List.forall_mem_cons.mpr ⟨s_gf d_X2_pop_18 rfl (by decide) n_X2 in_X2 rfl k_1_158, List.forall_mem_cons.mpr ⟨s_iconst d_X2_pop_21 rfl, fun _ h => absurd h List.not_mem_nil⟩⟩⟩⟩⟩⟩⟩⟩⟩⟩⟩⟩
def t_X2_pop_1 : List (Nat × QO) := [(22, o_b (fun x y => x - y) 23), (23, o_goto 33), (26, o_al 0 27), (27, o_gf 2 0 30), (30, o_len 31), (31, o_k 1 32), (32, o_b (fun x y => x - y) 33), (33, o_is 2 34), (34, o_al 0 35), (35, o_gf 2 0 38), (38, o_il 2 39), (39, o_cS 2 101 2 2 42)]
theorem ts_X2_pop_1 (sx : QX) : ∀ q ∈ t_X2_pop_1, q_Snd sx RX2 cX2_pop 4 (some .boolean) q.1 q.2 := List.forall_mem_cons.mpr ⟨s_isub d_X2_pop_22, List.forall_mem_cons.mpr ⟨s_goto d_X2_pop_23 (by decide), List.forall_mem_cons.mpr ⟨s_aload_n d_X2_pop_26 rfl, List.forall_mem_cons.mpr ⟨s_gf d_X2_pop_27 rfl (by decide) n_X2 in_X2 rfl k_1_157, List.forall_mem_cons.mpr ⟨s_len d_X2_pop_30, List.forall_mem_cons.mpr ⟨s_iconst d_X2_pop_31 rfl, List.forall_mem_cons.mpr ⟨s_isub d_X2_pop_32, List.forall_mem_cons.mpr ⟨s_istore_n d_X2_pop_33 rfl (by decide), List.forall_mem_cons.mpr ⟨s_aload_n d_X2_pop_34 rfl, List.forall_mem_cons.mpr ⟨s_gf d_X2_pop_35 rfl (by decide) n_X2 in_X2 rfl k_1_157, List.forall_mem_cons.mpr ⟨s_iload_n d_X2_pop_38 rfl, List.forall_mem_cons.mpr ⟨s_cN (host := "StoneApologies") rfl d_X2_pop_39 (List.mem_of_getElem? (i := 11) rfl) k_2_239 k_1_1 k_3_0 ⟨by decide, by decide⟩ (by decide +kernel) (by decide), fun _ h => absurd h List.not_mem_nil⟩⟩⟩⟩⟩⟩⟩⟩⟩⟩⟩⟩
def t_X2_pop_2 : List (Nat × QO) := [(42, o_as 3 43), (43, o_al 3 44), (44, o_ifnull 47 49), (47, o_k 0 48), (48, o_ir true), (49, o_al 1 50), (50, o_al 3 51), (51, o_cV 0 3 20 2 2 54), (54, o_al 0 55), (55, o_il 2 56), (56, o_pf 2 1 59), (59, o_al 0 60)]
theorem ts_X2_pop_2 (sx : QX) : ∀ q ∈ t_X2_pop_2, q_Snd sx RX2 cX2_pop 4 (some .boolean) q.1 q.2 := List.forall_mem_cons.mpr ⟨s_astore_n d_X2_pop_42 rfl (by decide), List.forall_mem_cons.mpr ⟨s_aload_n d_X2_pop_43 rfl, List.forall_mem_cons.mpr ⟨s_ifnonnull d_X2_pop_44 (by decide), List.forall_mem_cons.mpr ⟨s_iconst d_X2_pop_47 rfl, List.forall_mem_cons.mpr ⟨s_zr d_X2_pop_48 rfl, List.forall_mem_cons.mpr ⟨s_aload_n d_X2_pop_49 rfl, List.forall_mem_cons.mpr ⟨s_aload_n d_X2_pop_50 rfl, List.forall_mem_cons.mpr ⟨s_cV (T := TX3) (N := 8) rfl d_X2_pop_51 rfl k_3_1 k_3_2 k_3_3 k_1_4 k_3_4 ⟨by decide, by decide⟩ (by decide +kernel) (by decide), List.forall_mem_cons.mpr ⟨s_aload_n d_X2_pop_54 rfl, List.forall_mem_cons.mpr ⟨s_iload_n d_X2_pop_55 rfl, List.forall_mem_cons.mpr ⟨s_pf tyX2 d_X2_pop_56 rfl (by decide) n_X2 in_X2 rfl k_1_158 tyX2_ok nmX2 rfl rfl, List.forall_mem_cons.mpr ⟨s_aload_n d_X2_pop_59 rfl, fun _ h => absurd h List.not_mem_nil⟩⟩⟩⟩⟩⟩⟩⟩⟩⟩⟩⟩
def t_X2_pop_3 : List (Nat × QO) := [(60, o_dup 61), (61, o_gf 2 2 64), (64, o_k 1 65), (65, o_b (fun x y => x - y) 66), (66, o_pf 2 2 69), (69, o_k 1 70), (70, o_ir true)]
theorem ts_X2_pop_3 (sx : QX) : ∀ q ∈ t_X2_pop_3, q_Snd sx RX2 cX2_pop 4 (some .boolean) q.1 q.2 := List.forall_mem_cons.mpr ⟨s_dup d_X2_pop_60, List.forall_mem_cons.mpr ⟨s_gf d_X2_pop_61 rfl (by decide) n_X2 in_X2 rfl k_1_159, List.forall_mem_cons.mpr ⟨s_iconst d_X2_pop_64 rfl, List.forall_mem_cons.mpr ⟨s_isub d_X2_pop_65, List.forall_mem_cons.mpr ⟨s_pf tyX2 d_X2_pop_66 rfl (by decide) n_X2 in_X2 rfl k_1_159 tyX2_ok nmX2 rfl rfl, List.forall_mem_cons.mpr ⟨s_iconst d_X2_pop_69 rfl, List.forall_mem_cons.mpr ⟨s_zr d_X2_pop_70 rfl, fun _ h => absurd h List.not_mem_nil⟩⟩⟩⟩⟩⟩⟩
def t_X2_pop (pc : Nat) : Option QO := cond (Nat.ble pc 39) (cond (Nat.ble pc 21) (q_look (t_X2_pop_0) pc) (q_look (t_X2_pop_1) pc)) (cond (Nat.ble pc 59) (q_look (t_X2_pop_2) pc) (q_look (t_X2_pop_3) pc))
theorem ts_X2_pop (sx : QX) (pc : Nat) : ∀ o, t_X2_pop pc = some o → q_Snd sx RX2 cX2_pop 4 (some .boolean) pc o := by
  unfold t_X2_pop
  exact q_cb (q_cb (q_look_all (ts_X2_pop_0 sx)) (q_look_all (ts_X2_pop_1 sx))) (q_cb (q_look_all (ts_X2_pop_2 sx)) (q_look_all (ts_X2_pop_3 sx)))
theorem d_X3_begin_0 : decode cX3_begin 0 = .ok (.aload_n 0, 1) := by decide +kernel
theorem d_X3_begin_1 : decode cX3_begin 1 = .ok (.iconst 0, 1) := by decide +kernel
theorem d_X3_begin_2 : decode cX3_begin 2 = .ok (.putfield 34, 3) := by decide +kernel
theorem d_X3_begin_5 : decode cX3_begin 5 = .ok (.aload_n 0, 1) := by decide +kernel
theorem d_X3_begin_6 : decode cX3_begin 6 = .ok (.getfield 9, 3) := by decide +kernel
theorem d_X3_begin_9 : decode cX3_begin 9 = .ok (.iconst 0, 1) := by decide +kernel
theorem d_X3_begin_10 : decode cX3_begin 10 = .ok (.invokestatic 38, 3) := by decide +kernel
theorem d_X3_begin_13 : decode cX3_begin 13 = .ok (.aload_n 0, 1) := by decide +kernel
theorem d_X3_begin_14 : decode cX3_begin 14 = .ok (.getfield 15, 3) := by decide +kernel
theorem d_X3_begin_17 : decode cX3_begin 17 = .ok (.iconst 0, 1) := by decide +kernel
theorem d_X3_begin_18 : decode cX3_begin 18 = .ok (.invokestatic 38, 3) := by decide +kernel
theorem d_X3_begin_21 : decode cX3_begin 21 = .ok (.aload_n 0, 1) := by decide +kernel
theorem d_X3_begin_22 : decode cX3_begin 22 = .ok (.getfield 18, 3) := by decide +kernel
theorem d_X3_begin_25 : decode cX3_begin 25 = .ok (.bipush (-4), 2) := by decide +kernel
theorem d_X3_begin_27 : decode cX3_begin 27 = .ok (.invokestatic 38, 3) := by decide +kernel
theorem d_X3_begin_30 : decode cX3_begin 30 = .ok (.aload_n 0, 1) := by decide +kernel
theorem d_X3_begin_31 : decode cX3_begin 31 = .ok (.getfield 30, 3) := by decide +kernel
theorem d_X3_begin_34 : decode cX3_begin 34 = .ok (.getfield 42, 3) := by decide +kernel
theorem d_X3_begin_37 : decode cX3_begin 37 = .ok (.aload_n 0, 1) := by decide +kernel
theorem d_X3_begin_38 : decode cX3_begin 38 = .ok (.getfield 21, 3) := by decide +kernel
theorem d_X3_begin_41 : decode cX3_begin 41 = .ok (.invokestatic 47, 3) := by decide +kernel
theorem d_X3_begin_44 : decode cX3_begin 44 = .ok (.aload_n 0, 1) := by decide +kernel
theorem d_X3_begin_45 : decode cX3_begin 45 = .ok (.getfield 24, 3) := by decide +kernel
theorem d_X3_begin_48 : decode cX3_begin 48 = .ok (.iconst 0, 1) := by decide +kernel
theorem d_X3_begin_49 : decode cX3_begin 49 = .ok (.invokestatic 38, 3) := by decide +kernel
theorem d_X3_begin_52 : decode cX3_begin 52 = .ok (.aload_n 0, 1) := by decide +kernel
theorem d_X3_begin_53 : decode cX3_begin 53 = .ok (.getfield 30, 3) := by decide +kernel
theorem d_X3_begin_56 : decode cX3_begin 56 = .ok (.getfield 51, 3) := by decide +kernel
theorem d_X3_begin_59 : decode cX3_begin 59 = .ok (.aload_n 0, 1) := by decide +kernel
theorem d_X3_begin_60 : decode cX3_begin 60 = .ok (.getfield 27, 3) := by decide +kernel
theorem d_X3_begin_63 : decode cX3_begin 63 = .ok (.invokestatic 47, 3) := by decide +kernel
theorem d_X3_begin_66 : decode cX3_begin 66 = .ok (.return_, 1) := by decide +kernel
def t_X3_begin_0 : List (Nat × QO) := [(0, o_al 0 1), (1, o_k 0 2), (2, o_pf 3 1 5), (5, o_al 0 6), (6, o_gf 3 2 9), (9, o_k 0 10), (10, o_cS 0 99 3 2 13), (13, o_al 0 14), (14, o_gf 3 3 17), (17, o_k 0 18), (18, o_cS 0 99 3 2 21), (21, o_al 0 22)]
theorem ts_X3_begin_0 (sx : QX) : ∀ q ∈ t_X3_begin_0, q_Snd sx RX3 cX3_begin 1 none q.1 q.2 := List.forall_mem_cons.mpr ⟨s_aload_n d_X3_begin_0 rfl, List.forall_mem_cons.mpr ⟨s_iconst d_X3_begin_1 rfl, List.forall_mem_cons.mpr ⟨s_pf tyX3 d_X3_begin_2 rfl (by decide) n_X3 in_X3 rfl k_1_117 tyX3_ok nmX3 rfl rfl, List.forall_mem_cons.mpr ⟨s_aload_n d_X3_begin_5 rfl, List.forall_mem_cons.mpr ⟨s_gf d_X3_begin_6 rfl (by decide) n_X3 in_X3 rfl k_1_119, List.forall_mem_cons.mpr ⟨s_iconst d_X3_begin_9 rfl, List.forall_mem_cons.mpr ⟨s_cN (host := "StoneApologies") rfl d_X3_begin_10 (List.mem_of_getElem? (i := 8) rfl) k_2_38 k_1_1 k_2_39 ⟨by decide, by decide⟩ (by decide +kernel) (by decide), List.forall_mem_cons.mpr ⟨s_aload_n d_X3_begin_13 rfl, List.forall_mem_cons.mpr ⟨s_gf d_X3_begin_14 rfl (by decide) n_X3 in_X3 rfl k_1_122, List.forall_mem_cons.mpr ⟨s_iconst d_X3_begin_17 rfl, List.forall_mem_cons.mpr ⟨s_cN (host := "StoneApologies") rfl d_X3_begin_18 (List.mem_of_getElem? (i := 8) rfl) k_2_38 k_1_1 k_2_39 ⟨by decide, by decide⟩ (by decide +kernel) (by decide), List.forall_mem_cons.mpr ⟨s_aload_n d_X3_begin_21 rfl, fun _ h => absurd h List.not_mem_nil⟩⟩⟩⟩⟩⟩⟩⟩⟩⟩⟩⟩
def t_X3_begin_1 : List (Nat × QO) := [(22, o_gf 3 4 25), (25, o_k (-4) 27), (27, o_cS 0 99 3 2 30), (30, o_al 0 31), (31, o_gf 3 0 34), (34, o_gf 0 8 37), (37, o_al 0 38), (38, o_gf 3 5 41), (41, o_cS 0 100 3 2 44), (44, o_al 0 45), (45, o_gf 3 6 48), (48, o_k 0 49)]
theorem ts_X3_begin_1 (sx : QX) : ∀ q ∈ t_X3_begin_1, q_Snd sx RX3 cX3_begin 1 none q.1 q.2 := List.forall_mem_cons.mpr ⟨s_gf d_X3_begin_22 rfl (by decide) n_X3 in_X3 rfl k_1_124, List.forall_mem_cons.mpr ⟨s_bipush d_X3_begin_25 rfl, List.forall_mem_cons.mpr ⟨s_cN (host := "StoneApologies") rfl d_X3_begin_27 (List.mem_of_getElem? (i := 8) rfl) k_2_38 k_1_1 k_2_39 ⟨by decide, by decide⟩ (by decide +kernel) (by decide), List.forall_mem_cons.mpr ⟨s_aload_n d_X3_begin_30 rfl, List.forall_mem_cons.mpr ⟨s_gf d_X3_begin_31 rfl (by decide) n_X3 in_X3 rfl k_1_113, List.forall_mem_cons.mpr ⟨s_gf d_X3_begin_34 rfl (by decide) n_X0 in_X0 rfl k_1_74, List.forall_mem_cons.mpr ⟨s_aload_n d_X3_begin_37 rfl, List.forall_mem_cons.mpr ⟨s_gf d_X3_begin_38 rfl (by decide) n_X3 in_X3 rfl k_1_126, List.forall_mem_cons.mpr ⟨s_cN (host := "StoneApologies") rfl d_X3_begin_41 (List.mem_of_getElem? (i := 9) rfl) k_2_111 k_1_1 k_2_112 ⟨by decide, by decide⟩ (by decide +kernel) (by decide), List.forall_mem_cons.mpr ⟨s_aload_n d_X3_begin_44 rfl, List.forall_mem_cons.mpr ⟨s_gf d_X3_begin_45 rfl (by decide) n_X3 in_X3 rfl k_1_129, List.forall_mem_cons.mpr ⟨s_iconst d_X3_begin_48 rfl, fun _ h => absurd h List.not_mem_nil⟩⟩⟩⟩⟩⟩⟩⟩⟩⟩⟩⟩
def t_X3_begin_2 : List (Nat × QO) := [(49, o_cS 0 99 3 2 52), (52, o_al 0 53), (53, o_gf 3 0 56), (56, o_gf 0 9 59), (59, o_al 0 60), (60, o_gf 3 7 63), (63, o_cS 0 100 3 2 66), (66, o_vr)]
theorem ts_X3_begin_2 (sx : QX) : ∀ q ∈ t_X3_begin_2, q_Snd sx RX3 cX3_begin 1 none q.1 q.2 := List.forall_mem_cons.mpr ⟨s_cN (host := "StoneApologies") rfl d_X3_begin_49 (List.mem_of_getElem? (i := 8) rfl) k_2_38 k_1_1 k_2_39 ⟨by decide, by decide⟩ (by decide +kernel) (by decide), List.forall_mem_cons.mpr ⟨s_aload_n d_X3_begin_52 rfl, List.forall_mem_cons.mpr ⟨s_gf d_X3_begin_53 rfl (by decide) n_X3 in_X3 rfl k_1_113, List.forall_mem_cons.mpr ⟨s_gf d_X3_begin_56 rfl (by decide) n_X0 in_X0 rfl k_1_77, List.forall_mem_cons.mpr ⟨s_aload_n d_X3_begin_59 rfl, List.forall_mem_cons.mpr ⟨s_gf d_X3_begin_60 rfl (by decide) n_X3 in_X3 rfl k_1_130, List.forall_mem_cons.mpr ⟨s_cN (host := "StoneApologies") rfl d_X3_begin_63 (List.mem_of_getElem? (i := 9) rfl) k_2_111 k_1_1 k_2_112 ⟨by decide, by decide⟩ (by decide +kernel) (by decide), List.forall_mem_cons.mpr ⟨s_vr d_X3_begin_66 rfl, fun _ h => absurd h List.not_mem_nil⟩⟩⟩⟩⟩⟩⟩⟩
def t_X3_begin (pc : Nat) : Option QO := cond (Nat.ble pc 21) (q_look (t_X3_begin_0) pc) (cond (Nat.ble pc 48) (q_look (t_X3_begin_1) pc) (q_look (t_X3_begin_2) pc))
theorem ts_X3_begin (sx : QX) (pc : Nat) : ∀ o, t_X3_begin pc = some o → q_Snd sx RX3 cX3_begin 1 none pc o := by
  unfold t_X3_begin
  exact q_cb (q_look_all (ts_X3_begin_0 sx)) (q_cb (q_look_all (ts_X3_begin_1 sx)) (q_look_all (ts_X3_begin_2 sx)))
theorem d_X3_copyFrom_0 : decode cX3_copyFrom 0 = .ok (.aload_n 0, 1) := by decide +kernel
theorem d_X3_copyFrom_1 : decode cX3_copyFrom 1 = .ok (.aload_n 1, 1) := by decide +kernel
theorem d_X3_copyFrom_2 : decode cX3_copyFrom 2 = .ok (.getfield 34, 3) := by decide +kernel
theorem d_X3_copyFrom_5 : decode cX3_copyFrom 5 = .ok (.putfield 34, 3) := by decide +kernel
theorem d_X3_copyFrom_8 : decode cX3_copyFrom 8 = .ok (.aload_n 1, 1) := by decide +kernel
theorem d_X3_copyFrom_9 : decode cX3_copyFrom 9 = .ok (.getfield 9, 3) := by decide +kernel
theorem d_X3_copyFrom_12 : decode cX3_copyFrom 12 = .ok (.aload_n 0, 1) := by decide +kernel
theorem d_X3_copyFrom_13 : decode cX3_copyFrom 13 = .ok (.getfield 9, 3) := by decide +kernel
theorem d_X3_copyFrom_16 : decode cX3_copyFrom 16 = .ok (.invokestatic 47, 3) := by decide +kernel
theorem d_X3_copyFrom_19 : decode cX3_copyFrom 19 = .ok (.aload_n 1, 1) := by decide +kernel
theorem d_X3_copyFrom_20 : decode cX3_copyFrom 20 = .ok (.getfield 15, 3) := by decide +kernel
theorem d_X3_copyFrom_23 : decode cX3_copyFrom 23 = .ok (.aload_n 0, 1) := by decide +kernel
theorem d_X3_copyFrom_24 : decode cX3_copyFrom 24 = .ok (.getfield 15, 3) := by decide +kernel
theorem d_X3_copyFrom_27 : decode cX3_copyFrom 27 = .ok (.invokestatic 47, 3) := by decide +kernel
theorem d_X3_copyFrom_30 : decode cX3_copyFrom 30 = .ok (.aload_n 1, 1) := by decide +kernel
theorem d_X3_copyFrom_31 : decode cX3_copyFrom 31 = .ok (.getfield 18, 3) := by decide +kernel
theorem d_X3_copyFrom_34 : decode cX3_copyFrom 34 = .ok (.aload_n 0, 1) := by decide +kernel
theorem d_X3_copyFrom_35 : decode cX3_copyFrom 35 = .ok (.getfield 18, 3) := by decide +kernel
theorem d_X3_copyFrom_38 : decode cX3_copyFrom 38 = .ok (.invokestatic 47, 3) := by decide +kernel
theorem d_X3_copyFrom_41 : decode cX3_copyFrom 41 = .ok (.aload_n 1, 1) := by decide +kernel
theorem d_X3_copyFrom_42 : decode cX3_copyFrom 42 = .ok (.getfield 21, 3) := by decide +kernel
theorem d_X3_copyFrom_45 : decode cX3_copyFrom 45 = .ok (.aload_n 0, 1) := by decide +kernel
theorem d_X3_copyFrom_46 : decode cX3_copyFrom 46 = .ok (.getfield 21, 3) := by decide +kernel
theorem d_X3_copyFrom_49 : decode cX3_copyFrom 49 = .ok (.invokestatic 47, 3) := by decide +kernel
theorem d_X3_copyFrom_52 : decode cX3_copyFrom 52 = .ok (.aload_n 1, 1) := by decide +kernel
theorem d_X3_copyFrom_53 : decode cX3_copyFrom 53 = .ok (.getfield 24, 3) := by decide +kernel
theorem d_X3_copyFrom_56 : decode cX3_copyFrom 56 = .ok (.aload_n 0, 1) := by decide +kernel
theorem d_X3_copyFrom_57 : decode cX3_copyFrom 57 = .ok (.getfield 24, 3) := by decide +kernel
theorem d_X3_copyFrom_60 : decode cX3_copyFrom 60 = .ok (.invokestatic 47, 3) := by decide +kernel
theorem d_X3_copyFrom_63 : decode cX3_copyFrom 63 = .ok (.aload_n 1, 1) := by decide +kernel
theorem d_X3_copyFrom_64 : decode cX3_copyFrom 64 = .ok (.getfield 27, 3) := by decide +kernel
theorem d_X3_copyFrom_67 : decode cX3_copyFrom 67 = .ok (.aload_n 0, 1) := by decide +kernel
theorem d_X3_copyFrom_68 : decode cX3_copyFrom 68 = .ok (.getfield 27, 3) := by decide +kernel
theorem d_X3_copyFrom_71 : decode cX3_copyFrom 71 = .ok (.invokestatic 47, 3) := by decide +kernel
theorem d_X3_copyFrom_74 : decode cX3_copyFrom 74 = .ok (.return_, 1) := by decide +kernel
def t_X3_copyFrom_0 : List (Nat × QO) := [(0, o_al 0 1), (1, o_al 1 2), (2, o_gf 3 1 5), (5, o_pf 3 1 8), (8, o_al 1 9), (9, o_gf 3 2 12), (12, o_al 0 13), (13, o_gf 3 2 16), (16, o_cS 0 100 3 2 19), (19, o_al 1 20), (20, o_gf 3 3 23), (23, o_al 0 24)]
theorem ts_X3_copyFrom_0 (sx : QX) : ∀ q ∈ t_X3_copyFrom_0, q_Snd sx RX3 cX3_copyFrom 2 none q.1 q.2 := List.forall_mem_cons.mpr ⟨s_aload_n d_X3_copyFrom_0 rfl, List.forall_mem_cons.mpr ⟨s_aload_n d_X3_copyFrom_1 rfl, List.forall_mem_cons.mpr ⟨s_gf d_X3_copyFrom_2 rfl (by decide) n_X3 in_X3 rfl k_1_117, List.forall_mem_cons.mpr ⟨s_pf tyX3 d_X3_copyFrom_5 rfl (by decide) n_X3 in_X3 rfl k_1_117 tyX3_ok nmX3 rfl rfl, List.forall_mem_cons.mpr ⟨s_aload_n d_X3_copyFrom_8 rfl, List.forall_mem_cons.mpr ⟨s_gf d_X3_copyFrom_9 rfl (by decide) n_X3 in_X3 rfl k_1_119, List.forall_mem_cons.mpr ⟨s_aload_n d_X3_copyFrom_12 rfl, List.forall_mem_cons.mpr ⟨s_gf d_X3_copyFrom_13 rfl (by decide) n_X3 in_X3 rfl k_1_119, List.forall_mem_cons.mpr ⟨s_cN (host := "StoneApologies") rfl d_X3_copyFrom_16 (List.mem_of_getElem? (i := 9) rfl) k_2_111 k_1_1 k_2_112 ⟨by decide, by decide⟩ (by decide +kernel) (by decide), List.forall_mem_cons.mpr ⟨s_aload_n d_X3_copyFrom_19 rfl, List.forall_mem_cons.mpr ⟨s_gf d_X3_copyFrom_20 rfl (by decide) n_X3 in_X3 rfl k_1_122, List.forall_mem_cons.mpr ⟨s_aload_n d_X3_copyFrom_23 rfl, fun _ h => absurd h List.not_mem_nil⟩⟩⟩⟩⟩⟩⟩⟩⟩⟩⟩⟩
def t_X3_copyFrom_1 : List (Nat × QO) := [(24, o_gf 3 3 27), (27, o_cS 0 100 3 2 30), (30, o_al 1 31), (31, o_gf 3 4 34), (34, o_al 0 35), (35, o_gf 3 4 38), (38, o_cS 0 100 3 2 41), (41, o_al 1 42), (42, o_gf 3 5 45), (45, o_al 0 46), (46, o_gf 3 5 49), (49, o_cS 0 100 3 2 52)]
theorem ts_X3_copyFrom_1 (sx : QX) : ∀ q ∈ t_X3_copyFrom_1, q_Snd sx RX3 cX3_copyFrom 2 none q.1 q.2 := List.forall_mem_cons.mpr ⟨s_gf d_X3_copyFrom_24 rfl (by decide) n_X3 in_X3 rfl k_1_122, List.forall_mem_cons.mpr ⟨s_cN (host := "StoneApologies") rfl d_X3_copyFrom_27 (List.mem_of_getElem? (i := 9) rfl) k_2_111 k_1_1 k_2_112 ⟨by decide, by decide⟩ (by decide +kernel) (by decide), List.forall_mem_cons.mpr ⟨s_aload_n d_X3_copyFrom_30 rfl, List.forall_mem_cons.mpr ⟨s_gf d_X3_copyFrom_31 rfl (by decide) n_X3 in_X3 rfl k_1_124, List.forall_mem_cons.mpr ⟨s_aload_n d_X3_copyFrom_34 rfl, List.forall_mem_cons.mpr ⟨s_gf d_X3_copyFrom_35 rfl (by decide) n_X3 in_X3 rfl k_1_124, List.forall_mem_cons.mpr ⟨s_cN (host := "StoneApologies") rfl d_X3_copyFrom_38 (List.mem_of_getElem? (i := 9) rfl) k_2_111 k_1_1 k_2_112 ⟨by decide, by decide⟩ (by decide +kernel) (by decide), List.forall_mem_cons.mpr ⟨s_aload_n d_X3_copyFrom_41 rfl, List.forall_mem_cons.mpr ⟨s_gf d_X3_copyFrom_42 rfl (by decide) n_X3 in_X3 rfl k_1_126, List.forall_mem_cons.mpr ⟨s_aload_n d_X3_copyFrom_45 rfl, List.forall_mem_cons.mpr ⟨s_gf d_X3_copyFrom_46 rfl (by decide) n_X3 in_X3 rfl k_1_126, List.forall_mem_cons.mpr ⟨s_cN (host := "StoneApologies") rfl d_X3_copyFrom_49 (List.mem_of_getElem? (i := 9) rfl) k_2_111 k_1_1 k_2_112 ⟨by decide, by decide⟩ (by decide +kernel) (by decide), fun _ h => absurd h List.not_mem_nil⟩⟩⟩⟩⟩⟩⟩⟩⟩⟩⟩⟩
def t_X3_copyFrom_2 : List (Nat × QO) := [(52, o_al 1 53), (53, o_gf 3 6 56), (56, o_al 0 57), (57, o_gf 3 6 60), (60, o_cS 0 100 3 2 63), (63, o_al 1 64), (64, o_gf 3 7 67), (67, o_al 0 68), (68, o_gf 3 7 71), (71, o_cS 0 100 3 2 74), (74, o_vr)]
theorem ts_X3_copyFrom_2 (sx : QX) : ∀ q ∈ t_X3_copyFrom_2, q_Snd sx RX3 cX3_copyFrom 2 none q.1 q.2 := List.forall_mem_cons.mpr ⟨s_aload_n d_X3_copyFrom_52 rfl, List.forall_mem_cons.mpr ⟨s_gf d_X3_copyFrom_53 rfl (by decide) n_X3 in_X3 rfl k_1_129, List.forall_mem_cons.mpr ⟨s_aload_n d_X3_copyFrom_56 rfl, List.forall_mem_cons.mpr ⟨s_gf d_X3_copyFrom_57 rfl (by decide) n_X3 in_X3 rfl k_1_129, List.forall_mem_cons.mpr ⟨s_cN (host := "StoneApologies") rfl d_X3_copyFrom_60 (List.mem_of_getElem? (i := 9) rfl) k_2_111 k_1_1 k_2_112 ⟨by decide, by decide⟩ (by decide +kernel) (by decide), List.forall_mem_cons.mpr ⟨s_aload_n d_X3_copyFrom_63 rfl, List.forall_mem_cons.mpr ⟨s_gf d_X3_copyFrom_64 rfl (by decide) n_X3 in_X3 rfl k_1_130, List.forall_mem_cons.mpr ⟨s_aload_n d_X3_copyFrom_67 rfl, List.forall_mem_cons.mpr ⟨s_gf d_X3_copyFrom_68 rfl (by decide) n_X3 in_X3 rfl k_1_130, List.forall_mem_cons.mpr ⟨s_cN (host := "StoneApologies") rfl d_X3_copyFrom_71 (List.mem_of_getElem? (i := 9) rfl) k_2_111 k_1_1 k_2_112 ⟨by decide, by decide⟩ (by decide +kernel) (by decide), List.forall_mem_cons.mpr ⟨s_vr d_X3_copyFrom_74 rfl, fun _ h => absurd h List.not_mem_nil⟩⟩⟩⟩⟩⟩⟩⟩⟩⟩⟩
def t_X3_copyFrom (pc : Nat) : Option QO := cond (Nat.ble pc 23) (q_look (t_X3_copyFrom_0) pc) (cond (Nat.ble pc 49) (q_look (t_X3_copyFrom_1) pc) (q_look (t_X3_copyFrom_2) pc))
theorem ts_X3_copyFrom (sx : QX) (pc : Nat) : ∀ o, t_X3_copyFrom pc = some o → q_Snd sx RX3 cX3_copyFrom 2 none pc o := by
  unfold t_X3_copyFrom
  exact q_cb (q_look_all (ts_X3_copyFrom_0 sx)) (q_cb (q_look_all (ts_X3_copyFrom_1 sx)) (q_look_all (ts_X3_copyFrom_2 sx)))
theorem d_X3_isIn_0 : decode cX3_isIn 0 = .ok (.aload_n 0, 1) := by decide +kernel
theorem d_X3_isIn_1 : decode cX3_isIn 1 = .ok (.getfield 15, 3) := by decide +kernel
theorem d_X3_isIn_4 : decode cX3_isIn 4 = .ok (.iload_n 1, 1) := by decide +kernel
theorem d_X3_isIn_5 : decode cX3_isIn 5 = .ok (.invokestatic 54, 3) := by decide +kernel
theorem d_X3_isIn_8 : decode cX3_isIn 8 = .ok (.iload_n 2, 1) := by decide +kernel
theorem d_X3_isIn_9 : decode cX3_isIn 9 = .ok (.if_icmp .ne 7, 3) := by decide +kernel
theorem d_X3_isIn_12 : decode cX3_isIn 12 = .ok (.iconst 1, 1) := by decide +kernel
theorem d_X3_isIn_13 : decode cX3_isIn 13 = .ok (.goto 4, 3) := by decide +kernel
theorem d_X3_isIn_16 : decode cX3_isIn 16 = .ok (.iconst 0, 1) := by decide +kernel
theorem d_X3_isIn_17 : decode cX3_isIn 17 = .ok (.ireturn, 1) := by decide +kernel
def t_X3_isIn_0 : List (Nat × QO) := [(0, o_al 0 1), (1, o_gf 3 3 4), (4, o_il 1 5), (5, o_cS 1 97 2 2 8), (8, o_il 2 9), (9, o_ic (fun x y => decide (x ≠ y)) 16 12), (12, o_k 1 13), (13, o_goto 17), (16, o_k 0 17), (17, o_ir true)]
theorem ts_X3_isIn_0 (sx : QX) : ∀ q ∈ t_X3_isIn_0, q_Snd sx RX3 cX3_isIn 3 (some .boolean) q.1 q.2 := List.forall_mem_cons.mpr ⟨s_aload_n d_X3_isIn_0 rfl, List.forall_mem_cons.mpr ⟨s_gf d_X3_isIn_1 rfl (by decide) n_X3 in_X3 rfl k_1_122, List.forall_mem_cons.mpr ⟨s_iload_n d_X3_isIn_4 rfl, List.forall_mem_cons.mpr ⟨s_cN (host := "StoneApologies") rfl d_X3_isIn_5 (List.mem_of_getElem? (i := 10) rfl) k_2_57 k_1_1 k_2_58 ⟨by decide, by decide⟩ (by decide +kernel) (by decide), List.forall_mem_cons.mpr ⟨s_iload_n d_X3_isIn_8 rfl, List.forall_mem_cons.mpr ⟨s_ic_ne d_X3_isIn_9 (by decide), List.forall_mem_cons.mpr ⟨s_iconst d_X3_isIn_12 rfl, List.forall_mem_cons.mpr ⟨s_goto d_X3_isIn_13 (by decide), List.forall_mem_cons.mpr ⟨s_iconst d_X3_isIn_16 rfl, List.forall_mem_cons.mpr ⟨s_zr d_X3_isIn_17 rfl, fun _ h => absurd h List.not_mem_nil⟩⟩⟩⟩⟩⟩⟩⟩⟩⟩
def t_X3_isIn (pc : Nat) : Option QO := q_look (t_X3_isIn_0) pc
theorem ts_X3_isIn (sx : QX) (pc : Nat) : ∀ o, t_X3_isIn pc = some o → q_Snd sx RX3 cX3_isIn 3 (some .boolean) pc o := by
  unfold t_X3_isIn
  exact q_look_all (ts_X3_isIn_0 sx)
theorem d_X3_tally_0 : decode cX3_tally 0 = .ok (.iconst 0, 1) := by decide +kernel
theorem d_X3_tally_1 : decode cX3_tally 1 = .ok (.istore_n 2, 1) := by decide +kernel
theorem d_X3_tally_2 : decode cX3_tally 2 = .ok (.iconst 0, 1) := by decide +kernel
theorem d_X3_tally_3 : decode cX3_tally 3 = .ok (.istore_n 3, 1) := by decide +kernel
theorem d_X3_tally_4 : decode cX3_tally 4 = .ok (.iload_n 3, 1) := by decide +kernel
theorem d_X3_tally_5 : decode cX3_tally 5 = .ok (.aload_n 0, 1) := by decide +kernel
theorem d_X3_tally_6 : decode cX3_tally 6 = .ok (.getfield 30, 3) := by decide +kernel
theorem d_X3_tally_9 : decode cX3_tally 9 = .ok (.getfield 58, 3) := by decide +kernel
theorem d_X3_tally_12 : decode cX3_tally 12 = .ok (.if_icmp .ge 24, 3) := by decide +kernel
theorem d_X3_tally_15 : decode cX3_tally 15 = .ok (.aload_n 0, 1) := by decide +kernel
theorem d_X3_tally_16 : decode cX3_tally 16 = .ok (.getfield 15, 3) := by decide +kernel
theorem d_X3_tally_19 : decode cX3_tally 19 = .ok (.iload_n 3, 1) := by decide +kernel
theorem d_X3_tally_20 : decode cX3_tally 20 = .ok (.invokestatic 54, 3) := by decide +kernel
theorem d_X3_tally_23 : decode cX3_tally 23 = .ok (.iload_n 1, 1) := by decide +kernel
theorem d_X3_tally_24 : decode cX3_tally 24 = .ok (.if_icmp .ne 6, 3) := by decide +kernel
theorem d_X3_tally_27 : decode cX3_tally 27 = .ok (.iinc 2 1, 3) := by decide +kernel
theorem d_X3_tally_30 : decode cX3_tally 30 = .ok (.iinc 3 1, 3) := by decide +kernel
theorem d_X3_tally_33 : decode cX3_tally 33 = .ok (.goto (-29), 3) := by decide +kernel
theorem d_X3_tally_36 : decode cX3_tally 36 = .ok (.iload_n 2, 1) := by decide +kernel
theorem d_X3_tally_37 : decode cX3_tally 37 = .ok (.ireturn, 1) := by decide +kernel
def t_X3_tally_0 : List (Nat × QO) := [(0, o_k 0 1), (1, o_is 2 2), (2, o_k 0 3), (3, o_is 3 4), (4, o_il 3 5), (5, o_al 0 6), (6, o_gf 3 0 9), (9, o_gf 0 0 12), (12, o_ic (fun x y => decide (y ≤ x)) 36 15), (15, o_al 0 16), (16, o_gf 3 3 19), (19, o_il 3 20)]
theorem ts_X3_tally_0 (sx : QX) : ∀ q ∈ t_X3_tally_0, q_Snd sx RX3 cX3_tally 4 (some .int) q.1 q.2 := List.forall_mem_cons.mpr ⟨s_iconst d_X3_tally_0 rfl, List.forall_mem_cons.mpr ⟨s_istore_n d_X3_tally_1 rfl (by decide), List.forall_mem_cons.mpr ⟨s_iconst d_X3_tally_2 rfl, List.forall_mem_cons.mpr ⟨s_istore_n d_X3_tally_3 rfl (by decide), List.forall_mem_cons.mpr ⟨s_iload_n d_X3_tally_4 rfl, List.forall_mem_cons.mpr ⟨s_aload_n d_X3_tally_5 rfl, List.forall_mem_cons.mpr ⟨s_gf d_X3_tally_6 rfl (by decide) n_X3 in_X3 rfl k_1_113, List.forall_mem_cons.mpr ⟨s_gf d_X3_tally_9 rfl (by decide) n_X0 in_X0 rfl k_1_52, List.forall_mem_cons.mpr ⟨s_ic_ge d_X3_tally_12 (by decide), List.forall_mem_cons.mpr ⟨s_aload_n d_X3_tally_15 rfl, List.forall_mem_cons.mpr ⟨s_gf d_X3_tally_16 rfl (by decide) n_X3 in_X3 rfl k_1_122, List.forall_mem_cons.mpr ⟨s_iload_n d_X3_tally_19 rfl, fun _ h => absurd h List.not_mem_nil⟩⟩⟩⟩⟩⟩⟩⟩⟩⟩⟩⟩
def t_X3_tally_1 : List (Nat × QO) := [(20, o_cS 1 97 2 2 23), (23, o_il 1 24), (24, o_ic (fun x y => decide (x ≠ y)) 30 27), (27, o_inc 2 1 30), (30, o_inc 3 1 33), (33, o_goto 4), (36, o_il 2 37), (37, o_ir false)]
theorem ts_X3_tally_1 (sx : QX) : ∀ q ∈ t_X3_tally_1, q_Snd sx RX3 cX3_tally 4 (some .int) q.1 q.2 := List.forall_mem_cons.mpr ⟨s_cN (host := "StoneApologies") rfl d_X3_tally_20 (List.mem_of_getElem? (i := 10) rfl) k_2_57 k_1_1 k_2_58 ⟨by decide, by decide⟩ (by decide +kernel) (by decide), List.forall_mem_cons.mpr ⟨s_iload_n d_X3_tally_23 rfl, List.forall_mem_cons.mpr ⟨s_ic_ne d_X3_tally_24 (by decide), List.forall_mem_cons.mpr ⟨s_iinc d_X3_tally_27 rfl (by decide), List.forall_mem_cons.mpr ⟨s_iinc d_X3_tally_30 rfl (by decide), List.forall_mem_cons.mpr ⟨s_goto d_X3_tally_33 (by decide), List.forall_mem_cons.mpr ⟨s_iload_n d_X3_tally_36 rfl, List.forall_mem_cons.mpr ⟨s_ir d_X3_tally_37 rfl, fun _ h => absurd h List.not_mem_nil⟩⟩⟩⟩⟩⟩⟩⟩
def t_X3_tally (pc : Nat) : Option QO := cond (Nat.ble pc 19) (q_look (t_X3_tally_0) pc) (q_look (t_X3_tally_1) pc)
theorem ts_X3_tally (sx : QX) (pc : Nat) : ∀ o, t_X3_tally pc = some o → q_Snd sx RX3 cX3_tally 4 (some .int) pc o := by
  unfold t_X3_tally
  exact q_cb (q_look_all (ts_X3_tally_0 sx)) (q_look_all (ts_X3_tally_1 sx))
theorem d_X3_hoursLeft_0 : decode cX3_hoursLeft 0 = .ok (.iconst 0, 1) := by decide +kernel
theorem d_X3_hoursLeft_1 : decode cX3_hoursLeft 1 = .ok (.istore_n 1, 1) := by decide +kernel
theorem d_X3_hoursLeft_2 : decode cX3_hoursLeft 2 = .ok (.iconst 0, 1) := by decide +kernel
theorem d_X3_hoursLeft_3 : decode cX3_hoursLeft 3 = .ok (.istore_n 2, 1) := by decide +kernel
theorem d_X3_hoursLeft_4 : decode cX3_hoursLeft 4 = .ok (.iload_n 2, 1) := by decide +kernel
theorem d_X3_hoursLeft_5 : decode cX3_hoursLeft 5 = .ok (.aload_n 0, 1) := by decide +kernel
theorem d_X3_hoursLeft_6 : decode cX3_hoursLeft 6 = .ok (.getfield 30, 3) := by decide +kernel
theorem d_X3_hoursLeft_9 : decode cX3_hoursLeft 9 = .ok (.getfield 61, 3) := by decide +kernel
theorem d_X3_hoursLeft_12 : decode cX3_hoursLeft 12 = .ok (.if_icmp .ge 20, 3) := by decide +kernel
theorem d_X3_hoursLeft_15 : decode cX3_hoursLeft 15 = .ok (.iload_n 1, 1) := by decide +kernel
theorem d_X3_hoursLeft_16 : decode cX3_hoursLeft 16 = .ok (.aload_n 0, 1) := by decide +kernel
theorem d_X3_hoursLeft_17 : decode cX3_hoursLeft 17 = .ok (.getfield 21, 3) := by decide +kernel
theorem d_X3_hoursLeft_20 : decode cX3_hoursLeft 20 = .ok (.iload_n 2, 1) := by decide +kernel
theorem d_X3_hoursLeft_21 : decode cX3_hoursLeft 21 = .ok (.invokestatic 54, 3) := by decide +kernel
theorem d_X3_hoursLeft_24 : decode cX3_hoursLeft 24 = .ok (.iadd, 1) := by decide +kernel
theorem d_X3_hoursLeft_25 : decode cX3_hoursLeft 25 = .ok (.istore_n 1, 1) := by decide +kernel
theorem d_X3_hoursLeft_26 : decode cX3_hoursLeft 26 = .ok (.iinc 2 1, 3) := by decide +kernel
theorem d_X3_hoursLeft_29 : decode cX3_hoursLeft 29 = .ok (.goto (-25), 3) := by decide +kernel
theorem d_X3_hoursLeft_32 : decode cX3_hoursLeft 32 = .ok (.iload_n 1, 1) := by decide +kernel
theorem d_X3_hoursLeft_33 : decode cX3_hoursLeft 33 = .ok (.ireturn, 1) := by decide +kernel
def t_X3_hoursLeft_0 : List (Nat × QO) := [(0, o_k 0 1), (1, o_is 1 2), (2, o_k 0 3), (3, o_is 2 4), (4, o_il 2 5), (5, o_al 0 6), (6, o_gf 3 0 9), (9, o_gf 0 2 12), (12, o_ic (fun x y => decide (y ≤ x)) 32 15), (15, o_il 1 16), (16, o_al 0 17), (17, o_gf 3 5 20)]
theorem ts_X3_hoursLeft_0 (sx : QX) : ∀ q ∈ t_X3_hoursLeft_0, q_Snd sx RX3 cX3_hoursLeft 3 (some .int) q.1 q.2 := List.forall_mem_cons.mpr ⟨s_iconst d_X3_hoursLeft_0 rfl, List.forall_mem_cons.mpr ⟨s_istore_n d_X3_hoursLeft_1 rfl (by decide), List.forall_mem_cons.mpr ⟨s_iconst d_X3_hoursLeft_2 rfl, List.forall_mem_cons.mpr ⟨s_istore_n d_X3_hoursLeft_3 rfl (by decide), List.forall_mem_cons.mpr ⟨s_iload_n d_X3_hoursLeft_4 rfl, List.forall_mem_cons.mpr ⟨s_aload_n d_X3_hoursLeft_5 rfl, List.forall_mem_cons.mpr ⟨s_gf d_X3_hoursLeft_6 rfl (by decide) n_X3 in_X3 rfl k_1_113, List.forall_mem_cons.mpr ⟨s_gf d_X3_hoursLeft_9 rfl (by decide) n_X0 in_X0 rfl k_1_60, List.forall_mem_cons.mpr ⟨s_ic_ge d_X3_hoursLeft_12 (by decide), List.forall_mem_cons.mpr ⟨s_iload_n d_X3_hoursLeft_15 rfl, List.forall_mem_cons.mpr ⟨s_aload_n d_X3_hoursLeft_16 rfl, List.forall_mem_cons.mpr ⟨s_gf d_X3_hoursLeft_17 rfl (by decide) n_X3 in_X3 rfl k_1_126, fun _ h => absurd h List.not_mem_nil⟩⟩⟩⟩⟩⟩⟩⟩⟩⟩⟩⟩
def t_X3_hoursLeft_1 : List (Nat × QO) := [(20, o_il 2 21), (21, o_cS 1 97 2 2 24), (24, o_b (fun x y => x + y) 25), (25, o_is 1 26), (26, o_inc 2 1 29), (29, o_goto 4), (32, o_il 1 33), (33, o_ir false)]
theorem ts_X3_hoursLeft_1 (sx : QX) : ∀ q ∈ t_X3_hoursLeft_1, q_Snd sx RX3 cX3_hoursLeft 3 (some .int) q.1 q.2 := List.forall_mem_cons.mpr ⟨s_iload_n d_X3_hoursLeft_20 rfl, List.forall_mem_cons.mpr ⟨s_cN (host := "StoneApologies") rfl d_X3_hoursLeft_21 (List.mem_of_getElem? (i := 10) rfl) k_2_57 k_1_1 k_2_58 ⟨by decide, by decide⟩ (by decide +kernel) (by decide), List.forall_mem_cons.mpr ⟨s_iadd d_X3_hoursLeft_24, List.forall_mem_cons.mpr ⟨s_istore_n d_X3_hoursLeft_25 rfl (by decide), List.forall_mem_cons.mpr ⟨s_iinc d_X3_hoursLeft_26 rfl (by decide), List.forall_mem_cons.mpr ⟨s_goto d_X3_hoursLeft_29 (by decide), List.forall_mem_cons.mpr ⟨s_iload_n d_X3_hoursLeft_32 rfl, List.forall_mem_cons.mpr ⟨s_ir d_X3_hoursLeft_33 rfl, fun _ h => absurd h List.not_mem_nil⟩⟩⟩⟩⟩⟩⟩⟩
def t_X3_hoursLeft (pc : Nat) : Option QO := cond (Nat.ble pc 17) (q_look (t_X3_hoursLeft_0) pc) (q_look (t_X3_hoursLeft_1) pc)
theorem ts_X3_hoursLeft (sx : QX) (pc : Nat) : ∀ o, t_X3_hoursLeft pc = some o → q_Snd sx RX3 cX3_hoursLeft 3 (some .int) pc o := by
  unfold t_X3_hoursLeft
  exact q_cb (q_look_all (ts_X3_hoursLeft_0 sx)) (q_look_all (ts_X3_hoursLeft_1 sx))
theorem d_X3_lackOf_0 : decode cX3_lackOf 0 = .ok (.aload_n 0, 1) := by decide +kernel
theorem d_X3_lackOf_1 : decode cX3_lackOf 1 = .ok (.getfield 30, 3) := by decide +kernel
theorem d_X3_lackOf_4 : decode cX3_lackOf 4 = .ok (.getfield 64, 3) := by decide +kernel
theorem d_X3_lackOf_7 : decode cX3_lackOf 7 = .ok (.iload_n 1, 1) := by decide +kernel
theorem d_X3_lackOf_8 : decode cX3_lackOf 8 = .ok (.invokestatic 54, 3) := by decide +kernel
theorem d_X3_lackOf_11 : decode cX3_lackOf 11 = .ok (.aload_n 0, 1) := by decide +kernel
theorem d_X3_lackOf_12 : decode cX3_lackOf 12 = .ok (.getfield 9, 3) := by decide +kernel
theorem d_X3_lackOf_15 : decode cX3_lackOf 15 = .ok (.iload_n 1, 1) := by decide +kernel
theorem d_X3_lackOf_16 : decode cX3_lackOf 16 = .ok (.invokestatic 54, 3) := by decide +kernel
theorem d_X3_lackOf_19 : decode cX3_lackOf 19 = .ok (.isub, 1) := by decide +kernel
theorem d_X3_lackOf_20 : decode cX3_lackOf 20 = .ok (.ireturn, 1) := by decide +kernel
def t_X3_lackOf_0 : List (Nat × QO) := [(0, o_al 0 1), (1, o_gf 3 0 4), (4, o_gf 0 5 7), (7, o_il 1 8), (8, o_cS 1 97 2 2 11), (11, o_al 0 12), (12, o_gf 3 2 15), (15, o_il 1 16), (16, o_cS 1 97 2 2 19), (19, o_b (fun x y => x - y) 20), (20, o_ir false)]
theorem ts_X3_lackOf_0 (sx : QX) : ∀ q ∈ t_X3_lackOf_0, q_Snd sx RX3 cX3_lackOf 2 (some .int) q.1 q.2 := List.forall_mem_cons.mpr ⟨s_aload_n d_X3_lackOf_0 rfl, List.forall_mem_cons.mpr ⟨s_gf d_X3_lackOf_1 rfl (by decide) n_X3 in_X3 rfl k_1_113, List.forall_mem_cons.mpr ⟨s_gf d_X3_lackOf_4 rfl (by decide) n_X0 in_X0 rfl k_1_68, List.forall_mem_cons.mpr ⟨s_iload_n d_X3_lackOf_7 rfl, List.forall_mem_cons.mpr ⟨s_cN (host := "StoneApologies") rfl d_X3_lackOf_8 (List.mem_of_getElem? (i := 10) rfl) k_2_57 k_1_1 k_2_58 ⟨by decide, by decide⟩ (by decide +kernel) (by decide), List.forall_mem_cons.mpr ⟨s_aload_n d_X3_lackOf_11 rfl, List.forall_mem_cons.mpr ⟨s_gf d_X3_lackOf_12 rfl (by decide) n_X3 in_X3 rfl k_1_119, List.forall_mem_cons.mpr ⟨s_iload_n d_X3_lackOf_15 rfl, List.forall_mem_cons.mpr ⟨s_cN (host := "StoneApologies") rfl d_X3_lackOf_16 (List.mem_of_getElem? (i := 10) rfl) k_2_57 k_1_1 k_2_58 ⟨by decide, by decide⟩ (by decide +kernel) (by decide), List.forall_mem_cons.mpr ⟨s_isub d_X3_lackOf_19, List.forall_mem_cons.mpr ⟨s_ir d_X3_lackOf_20 rfl, fun _ h => absurd h List.not_mem_nil⟩⟩⟩⟩⟩⟩⟩⟩⟩⟩⟩
def t_X3_lackOf (pc : Nat) : Option QO := q_look (t_X3_lackOf_0) pc
theorem ts_X3_lackOf (sx : QX) (pc : Nat) : ∀ o, t_X3_lackOf pc = some o → q_Snd sx RX3 cX3_lackOf 2 (some .int) pc o := by
  unfold t_X3_lackOf
  exact q_look_all (ts_X3_lackOf_0 sx)
theorem d_X3_timesHeard_0 : decode cX3_timesHeard 0 = .ok (.aload_n 0, 1) := by decide +kernel
theorem d_X3_timesHeard_1 : decode cX3_timesHeard 1 = .ok (.getfield 24, 3) := by decide +kernel
theorem d_X3_timesHeard_4 : decode cX3_timesHeard 4 = .ok (.iload_n 1, 1) := by decide +kernel
theorem d_X3_timesHeard_5 : decode cX3_timesHeard 5 = .ok (.iload_n 2, 1) := by decide +kernel
theorem d_X3_timesHeard_6 : decode cX3_timesHeard 6 = .ok (.invokestatic 67, 3) := by decide +kernel
theorem d_X3_timesHeard_9 : decode cX3_timesHeard 9 = .ok (.invokestatic 54, 3) := by decide +kernel
theorem d_X3_timesHeard_12 : decode cX3_timesHeard 12 = .ok (.ireturn, 1) := by decide +kernel
def t_X3_timesHeard_0 : List (Nat × QO) := [(0, o_al 0 1), (1, o_gf 3 6 4), (4, o_il 1 5), (5, o_il 2 6), (6, o_cS 1 12 2 2 9), (9, o_cS 1 97 2 2 12), (12, o_ir false)]
theorem ts_X3_timesHeard_0 (sx : QX) : ∀ q ∈ t_X3_timesHeard_0, q_Snd sx RX3 cX3_timesHeard 3 (some .int) q.1 q.2 := List.forall_mem_cons.mpr ⟨s_aload_n d_X3_timesHeard_0 rfl, List.forall_mem_cons.mpr ⟨s_gf d_X3_timesHeard_1 rfl (by decide) n_X3 in_X3 rfl k_1_129, List.forall_mem_cons.mpr ⟨s_iload_n d_X3_timesHeard_4 rfl, List.forall_mem_cons.mpr ⟨s_iload_n d_X3_timesHeard_5 rfl, List.forall_mem_cons.mpr ⟨s_cS rfl d_X3_timesHeard_6 k_2_199 k_2_96 k_1_3 k_2_97 ⟨by decide, by decide⟩ (by decide +kernel) (by decide), List.forall_mem_cons.mpr ⟨s_cN (host := "StoneApologies") rfl d_X3_timesHeard_9 (List.mem_of_getElem? (i := 10) rfl) k_2_57 k_1_1 k_2_58 ⟨by decide, by decide⟩ (by decide +kernel) (by decide), List.forall_mem_cons.mpr ⟨s_ir d_X3_timesHeard_12 rfl, fun _ h => absurd h List.not_mem_nil⟩⟩⟩⟩⟩⟩⟩
def t_X3_timesHeard (pc : Nat) : Option QO := q_look (t_X3_timesHeard_0) pc
theorem ts_X3_timesHeard (sx : QX) (pc : Nat) : ∀ o, t_X3_timesHeard pc = some o → q_Snd sx RX3 cX3_timesHeard 3 (some .int) pc o := by
  unfold t_X3_timesHeard
  exact q_look_all (ts_X3_timesHeard_0 sx)
theorem d_X3_worthOf_0 : decode cX3_worthOf 0 = .ok (.aload_n 0, 1) := by decide +kernel
theorem d_X3_worthOf_1 : decode cX3_worthOf 1 = .ok (.getfield 30, 3) := by decide +kernel
theorem d_X3_worthOf_4 : decode cX3_worthOf 4 = .ok (.getfield 71, 3) := by decide +kernel
theorem d_X3_worthOf_7 : decode cX3_worthOf 7 = .ok (.iload_n 1, 1) := by decide +kernel
theorem d_X3_worthOf_8 : decode cX3_worthOf 8 = .ok (.iload_n 2, 1) := by decide +kernel
theorem d_X3_worthOf_9 : decode cX3_worthOf 9 = .ok (.iload_n 3, 1) := by decide +kernel
theorem d_X3_worthOf_10 : decode cX3_worthOf 10 = .ok (.invokestatic 74, 3) := by decide +kernel
theorem d_X3_worthOf_13 : decode cX3_worthOf 13 = .ok (.invokestatic 54, 3) := by decide +kernel
theorem d_X3_worthOf_16 : decode cX3_worthOf 16 = .ok (.istore 4, 2) := by decide +kernel
theorem d_X3_worthOf_18 : decode cX3_worthOf 18 = .ok (.iconst 0, 1) := by decide +kernel
theorem d_X3_worthOf_19 : decode cX3_worthOf 19 = .ok (.iload 4, 2) := by decide +kernel
theorem d_X3_worthOf_21 : decode cX3_worthOf 21 = .ok (.aload_n 0, 1) := by decide +kernel
theorem d_X3_worthOf_22 : decode cX3_worthOf 22 = .ok (.getfield 24, 3) := by decide +kernel
theorem d_X3_worthOf_25 : decode cX3_worthOf 25 = .ok (.iload_n 2, 1) := by decide +kernel
theorem d_X3_worthOf_26 : decode cX3_worthOf 26 = .ok (.iload_n 3, 1) := by decide +kernel
theorem d_X3_worthOf_27 : decode cX3_worthOf 27 = .ok (.invokestatic 67, 3) := by decide +kernel
theorem d_X3_worthOf_30 : decode cX3_worthOf 30 = .ok (.invokestatic 54, 3) := by decide +kernel
theorem d_X3_worthOf_33 : decode cX3_worthOf 33 = .ok (.isub, 1) := by decide +kernel
theorem d_X3_worthOf_34 : decode cX3_worthOf 34 = .ok (.invokestatic 78, 3) := by decide +kernel
theorem d_X3_worthOf_37 : decode cX3_worthOf 37 = .ok (.ireturn, 1) := by decide +kernel
def t_X3_worthOf_0 : List (Nat × QO) := [(0, o_al 0 1), (1, o_gf 3 0 4), (4, o_gf 0 11 7), (7, o_il 1 8), (8, o_il 2 9), (9, o_il 3 10), (10, o_cS 1 13 3 3 13), (13, o_cS 1 97 2 2 16), (16, o_is 4 18), (18, o_k 0 19), (19, o_il 4 21), (21, o_al 0 22)]
theorem ts_X3_worthOf_0 (sx : QX) : ∀ q ∈ t_X3_worthOf_0, q_Snd sx RX3 cX3_worthOf 5 (some .int) q.1 q.2 := List.forall_mem_cons.mpr ⟨s_aload_n d_X3_worthOf_0 rfl, List.forall_mem_cons.mpr ⟨s_gf d_X3_worthOf_1 rfl (by decide) n_X3 in_X3 rfl k_1_113, List.forall_mem_cons.mpr ⟨s_gf d_X3_worthOf_4 rfl (by decide) n_X0 in_X0 rfl k_1_81, List.forall_mem_cons.mpr ⟨s_iload_n d_X3_worthOf_7 rfl, List.forall_mem_cons.mpr ⟨s_iload_n d_X3_worthOf_8 rfl, List.forall_mem_cons.mpr ⟨s_iload_n d_X3_worthOf_9 rfl, List.forall_mem_cons.mpr ⟨s_cS rfl d_X3_worthOf_10 k_2_222 k_2_99 k_1_3 k_2_100 ⟨by decide, by decide⟩ (by decide +kernel) (by decide), List.forall_mem_cons.mpr ⟨s_cN (host := "StoneApologies") rfl d_X3_worthOf_13 (List.mem_of_getElem? (i := 10) rfl) k_2_57 k_1_1 k_2_58 ⟨by decide, by decide⟩ (by decide +kernel) (by decide), List.forall_mem_cons.mpr ⟨s_istore d_X3_worthOf_16 (by decide), List.forall_mem_cons.mpr ⟨s_iconst d_X3_worthOf_18 rfl, List.forall_mem_cons.mpr ⟨s_iload d_X3_worthOf_19, List.forall_mem_cons.mpr ⟨s_aload_n d_X3_worthOf_21 rfl, fun _ h => absurd h List.not_mem_nil⟩⟩⟩⟩⟩⟩⟩⟩⟩⟩⟩⟩
def t_X3_worthOf_1 : List (Nat × QO) := [(22, o_gf 3 6 25), (25, o_il 2 26), (26, o_il 3 27), (27, o_cS 1 12 2 2 30), (30, o_cS 1 97 2 2 33), (33, o_b (fun x y => x - y) 34), (34, o_max 37), (37, o_ir false)]
theorem ts_X3_worthOf_1 (sx : QX) : ∀ q ∈ t_X3_worthOf_1, q_Snd sx RX3 cX3_worthOf 5 (some .int) q.1 q.2 := List.forall_mem_cons.mpr ⟨s_gf d_X3_worthOf_22 rfl (by decide) n_X3 in_X3 rfl k_1_129, List.forall_mem_cons.mpr ⟨s_iload_n d_X3_worthOf_25 rfl, List.forall_mem_cons.mpr ⟨s_iload_n d_X3_worthOf_26 rfl, List.forall_mem_cons.mpr ⟨s_cS rfl d_X3_worthOf_27 k_2_199 k_2_96 k_1_3 k_2_97 ⟨by decide, by decide⟩ (by decide +kernel) (by decide), List.forall_mem_cons.mpr ⟨s_cN (host := "StoneApologies") rfl d_X3_worthOf_30 (List.mem_of_getElem? (i := 10) rfl) k_2_57 k_1_1 k_2_58 ⟨by decide, by decide⟩ (by decide +kernel) (by decide), List.forall_mem_cons.mpr ⟨s_isub d_X3_worthOf_33, List.forall_mem_cons.mpr ⟨s_max d_X3_worthOf_34 k_2_223 k_2_224 k_1_13 k_2_225, List.forall_mem_cons.mpr ⟨s_ir d_X3_worthOf_37 rfl, fun _ h => absurd h List.not_mem_nil⟩⟩⟩⟩⟩⟩⟩⟩
def t_X3_worthOf (pc : Nat) : Option QO := cond (Nat.ble pc 21) (q_look (t_X3_worthOf_0) pc) (q_look (t_X3_worthOf_1) pc)
theorem ts_X3_worthOf (sx : QX) (pc : Nat) : ∀ o, t_X3_worthOf pc = some o → q_Snd sx RX3 cX3_worthOf 5 (some .int) pc o := by
  unfold t_X3_worthOf
  exact q_cb (q_look_all (ts_X3_worthOf_0 sx)) (q_look_all (ts_X3_worthOf_1 sx))
theorem d_X3_vowOf_0 : decode cX3_vowOf 0 = .ok (.aload_n 0, 1) := by decide +kernel
theorem d_X3_vowOf_1 : decode cX3_vowOf 1 = .ok (.getfield 27, 3) := by decide +kernel
theorem d_X3_vowOf_4 : decode cX3_vowOf 4 = .ok (.iload_n 1, 1) := by decide +kernel
theorem d_X3_vowOf_5 : decode cX3_vowOf 5 = .ok (.iload_n 2, 1) := by decide +kernel
theorem d_X3_vowOf_6 : decode cX3_vowOf 6 = .ok (.invokestatic 83, 3) := by decide +kernel
theorem d_X3_vowOf_9 : decode cX3_vowOf 9 = .ok (.invokestatic 54, 3) := by decide +kernel
theorem d_X3_vowOf_12 : decode cX3_vowOf 12 = .ok (.ireturn, 1) := by decide +kernel
def t_X3_vowOf_0 : List (Nat × QO) := [(0, o_al 0 1), (1, o_gf 3 7 4), (4, o_il 1 5), (5, o_il 2 6), (6, o_cS 1 11 2 2 9), (9, o_cS 1 97 2 2 12), (12, o_ir false)]
theorem ts_X3_vowOf_0 (sx : QX) : ∀ q ∈ t_X3_vowOf_0, q_Snd sx RX3 cX3_vowOf 3 (some .int) q.1 q.2 := List.forall_mem_cons.mpr ⟨s_aload_n d_X3_vowOf_0 rfl, List.forall_mem_cons.mpr ⟨s_gf d_X3_vowOf_1 rfl (by decide) n_X3 in_X3 rfl k_1_130, List.forall_mem_cons.mpr ⟨s_iload_n d_X3_vowOf_4 rfl, List.forall_mem_cons.mpr ⟨s_iload_n d_X3_vowOf_5 rfl, List.forall_mem_cons.mpr ⟨s_cS rfl d_X3_vowOf_6 k_2_209 k_2_84 k_1_3 k_2_85 ⟨by decide, by decide⟩ (by decide +kernel) (by decide), List.forall_mem_cons.mpr ⟨s_cN (host := "StoneApologies") rfl d_X3_vowOf_9 (List.mem_of_getElem? (i := 10) rfl) k_2_57 k_1_1 k_2_58 ⟨by decide, by decide⟩ (by decide +kernel) (by decide), List.forall_mem_cons.mpr ⟨s_ir d_X3_vowOf_12 rfl, fun _ h => absurd h List.not_mem_nil⟩⟩⟩⟩⟩⟩⟩
def t_X3_vowOf (pc : Nat) : Option QO := q_look (t_X3_vowOf_0) pc
theorem ts_X3_vowOf (sx : QX) (pc : Nat) : ∀ o, t_X3_vowOf pc = some o → q_Snd sx RX3 cX3_vowOf 3 (some .int) pc o := by
  unfold t_X3_vowOf
  exact q_look_all (ts_X3_vowOf_0 sx)
theorem d_X3_canSay_0 : decode cX3_canSay 0 = .ok (.aload_n 0, 1) := by decide +kernel
theorem d_X3_canSay_1 : decode cX3_canSay 1 = .ok (.getfield 21, 3) := by decide +kernel
theorem d_X3_canSay_4 : decode cX3_canSay 4 = .ok (.iload_n 1, 1) := by decide +kernel
theorem d_X3_canSay_5 : decode cX3_canSay 5 = .ok (.invokestatic 54, 3) := by decide +kernel
theorem d_X3_canSay_8 : decode cX3_canSay 8 = .ok (.ifCond .le 18, 3) := by decide +kernel
theorem d_X3_canSay_11 : decode cX3_canSay 11 = .ok (.aload_n 0, 1) := by decide +kernel
theorem d_X3_canSay_12 : decode cX3_canSay 12 = .ok (.getfield 15, 3) := by decide +kernel
theorem d_X3_canSay_15 : decode cX3_canSay 15 = .ok (.iload_n 2, 1) := by decide +kernel
theorem d_X3_canSay_16 : decode cX3_canSay 16 = .ok (.invokestatic 54, 3) := by decide +kernel
theorem d_X3_canSay_19 : decode cX3_canSay 19 = .ok (.ifCond .ne 7, 3) := by decide +kernel
theorem d_X3_canSay_22 : decode cX3_canSay 22 = .ok (.iconst 1, 1) := by decide +kernel
theorem d_X3_canSay_23 : decode cX3_canSay 23 = .ok (.goto 4, 3) := by decide +kernel
theorem d_X3_canSay_26 : decode cX3_canSay 26 = .ok (.iconst 0, 1) := by decide +kernel
theorem d_X3_canSay_27 : decode cX3_canSay 27 = .ok (.ireturn, 1) := by decide +kernel
def t_X3_canSay_0 : List (Nat × QO) := [(0, o_al 0 1), (1, o_gf 3 5 4), (4, o_il 1 5), (5, o_cS 1 97 2 2 8), (8, o_if (fun x => decide (x ≤ 0)) 26 11), (11, o_al 0 12), (12, o_gf 3 3 15), (15, o_il 2 16), (16, o_cS 1 97 2 2 19), (19, o_if (fun x => decide (x ≠ 0)) 26 22), (22, o_k 1 23), (23, o_goto 27)]
theorem ts_X3_canSay_0 (sx : QX) : ∀ q ∈ t_X3_canSay_0, q_Snd sx RX3 cX3_canSay 3 (some .boolean) q.1 q.2 := List.forall_mem_cons.mpr ⟨s_aload_n d_X3_canSay_0 rfl, List.forall_mem_cons.mpr ⟨s_gf d_X3_canSay_1 rfl (by decide) n_X3 in_X3 rfl k_1_126, List.forall_mem_cons.mpr ⟨s_iload_n d_X3_canSay_4 rfl, List.forall_mem_cons.mpr ⟨s_cN (host := "StoneApologies") rfl d_X3_canSay_5 (List.mem_of_getElem? (i := 10) rfl) k_2_57 k_1_1 k_2_58 ⟨by decide, by decide⟩ (by decide +kernel) (by decide), List.forall_mem_cons.mpr ⟨s_if_le d_X3_canSay_8 (by decide), List.forall_mem_cons.mpr ⟨s_aload_n d_X3_canSay_11 rfl, List.forall_mem_cons.mpr ⟨s_gf d_X3_canSay_12 rfl (by decide) n_X3 in_X3 rfl k_1_122, List.forall_mem_cons.mpr ⟨s_iload_n d_X3_canSay_15 rfl, List.forall_mem_cons.mpr ⟨s_cN (host := "StoneApologies") rfl d_X3_canSay_16 (List.mem_of_getElem? (i := 10) rfl) k_2_57 k_1_1 k_2_58 ⟨by decide, by decide⟩ (by decide +kernel) (by decide), List.forall_mem_cons.mpr ⟨s_if_ne d_X3_canSay_19 (by decide), List.forall_mem_cons.mpr ⟨s_iconst d_X3_canSay_22 rfl, List.forall_mem_cons.mpr ⟨s_goto d_X3_canSay_23 (by decide), fun _ h => absurd h List.not_mem_nil⟩⟩⟩⟩⟩⟩⟩⟩⟩⟩⟩⟩
def t_X3_canSay_1 : List (Nat × QO) := [(26, o_k 0 27), (27, o_ir true)]
theorem ts_X3_canSay_1 (sx : QX) : ∀ q ∈ t_X3_canSay_1, q_Snd sx RX3 cX3_canSay 3 (some .boolean) q.1 q.2 := List.forall_mem_cons.mpr ⟨s_iconst d_X3_canSay_26 rfl, List.forall_mem_cons.mpr ⟨s_zr d_X3_canSay_27 rfl, fun _ h => absurd h List.not_mem_nil⟩⟩
def t_X3_canSay (pc : Nat) : Option QO := cond (Nat.ble pc 23) (q_look (t_X3_canSay_0) pc) (q_look (t_X3_canSay_1) pc)
theorem ts_X3_canSay (sx : QX) (pc : Nat) : ∀ o, t_X3_canSay pc = some o → q_Snd sx RX3 cX3_canSay 3 (some .boolean) pc o := by
  unfold t_X3_canSay
  exact q_cb (q_look_all (ts_X3_canSay_0 sx)) (q_look_all (ts_X3_canSay_1 sx))
theorem d_X3_speak_0 : decode cX3_speak 0 = .ok (.aload_n 0, 1) := by decide +kernel
theorem d_X3_speak_1 : decode cX3_speak 1 = .ok (.iload_n 1, 1) := by decide +kernel
theorem d_X3_speak_2 : decode cX3_speak 2 = .ok (.iload_n 2, 1) := by decide +kernel
theorem d_X3_speak_3 : decode cX3_speak 3 = .ok (.iload_n 3, 1) := by decide +kernel
theorem d_X3_speak_4 : decode cX3_speak 4 = .ok (.invokevirtual 86, 3) := by decide +kernel
theorem d_X3_speak_7 : decode cX3_speak 7 = .ok (.istore 4, 2) := by decide +kernel
theorem d_X3_speak_9 : decode cX3_speak 9 = .ok (.aload_n 0, 1) := by decide +kernel
theorem d_X3_speak_10 : decode cX3_speak 10 = .ok (.getfield 21, 3) := by decide +kernel
theorem d_X3_speak_13 : decode cX3_speak 13 = .ok (.iload_n 1, 1) := by decide +kernel
theorem d_X3_speak_14 : decode cX3_speak 14 = .ok (.aload_n 0, 1) := by decide +kernel
theorem d_X3_speak_15 : decode cX3_speak 15 = .ok (.getfield 21, 3) := by decide +kernel
theorem d_X3_speak_18 : decode cX3_speak 18 = .ok (.iload_n 1, 1) := by decide +kernel
theorem d_X3_speak_19 : decode cX3_speak 19 = .ok (.invokestatic 54, 3) := by decide +kernel
theorem d_X3_speak_22 : decode cX3_speak 22 = .ok (.iconst 1, 1) := by decide +kernel
theorem d_X3_speak_23 : decode cX3_speak 23 = .ok (.isub, 1) := by decide +kernel
theorem d_X3_speak_24 : decode cX3_speak 24 = .ok (.invokestatic 89, 3) := by decide +kernel
theorem d_X3_speak_27 : decode cX3_speak 27 = .ok (.iload_n 2, 1) := by decide +kernel
theorem d_X3_speak_28 : decode cX3_speak 28 = .ok (.iconst 2, 1) := by decide +kernel
theorem d_X3_speak_29 : decode cX3_speak 29 = .ok (.isub, 1) := by decide +kernel
theorem d_X3_speak_30 : decode cX3_speak 30 = .ok (.istore 5, 2) := by decide +kernel
theorem d_X3_speak_32 : decode cX3_speak 32 = .ok (.iload 5, 2) := by decide +kernel
theorem d_X3_speak_34 : decode cX3_speak 34 = .ok (.iload_n 2, 1) := by decide +kernel
theorem d_X3_speak_35 : decode cX3_speak 35 = .ok (.iconst 2, 1) := by decide +kernel
theorem d_X3_speak_36 : decode cX3_speak 36 = .ok (.iadd, 1) := by decide +kernel
theorem d_X3_speak_37 : decode cX3_speak 37 = .ok (.if_icmp .gt 33, 3) := by decide +kernel
theorem d_X3_speak_40 : decode cX3_speak 40 = .ok (.iload 5, 2) := by decide +kernel
theorem d_X3_speak_42 : decode cX3_speak 42 = .ok (.iload_n 2, 1) := by decide +kernel
theorem d_X3_speak_43 : decode cX3_speak 43 = .ok (.if_icmp .eq 13, 3) := by decide +kernel
theorem d_X3_speak_46 : decode cX3_speak 46 = .ok (.aload_n 0, 1) := by decide +kernel
theorem d_X3_speak_47 : decode cX3_speak 47 = .ok (.iload_n 2, 1) := by decide +kernel
theorem d_X3_speak_48 : decode cX3_speak 48 = .ok (.iload 5, 2) := by decide +kernel
theorem d_X3_speak_50 : decode cX3_speak 50 = .ok (.invokevirtual 93, 3) := by decide +kernel
theorem d_X3_speak_53 : decode cX3_speak 53 = .ok (.ifCond .eq 11, 3) := by decide +kernel
theorem d_X3_speak_56 : decode cX3_speak 56 = .ok (.aload_n 0, 1) := by decide +kernel
theorem d_X3_speak_57 : decode cX3_speak 57 = .ok (.iload 5, 2) := by decide +kernel
theorem d_X3_speak_59 : decode cX3_speak 59 = .ok (.iload_n 3, 1) := by decide +kernel
theorem d_X3_speak_60 : decode cX3_speak 60 = .ok (.iconst 1, 1) := by decide +kernel
theorem d_X3_speak_61 : decode cX3_speak 61 = .ok (.invokevirtual 97, 3) := by decide +kernel
theorem d_X3_speak_64 : decode cX3_speak 64 = .ok (.iinc 5 1, 3) := by decide +kernel
theorem d_X3_speak_67 : decode cX3_speak 67 = .ok (.goto (-35), 3) := by decide +kernel
theorem d_X3_speak_70 : decode cX3_speak 70 = .ok (.aload_n 0, 1) := by decide +kernel
theorem d_X3_speak_71 : decode cX3_speak 71 = .ok (.iload_n 2, 1) := by decide +kernel
theorem d_X3_speak_72 : decode cX3_speak 72 = .ok (.iload 4, 2) := by decide +kernel
theorem d_X3_speak_74 : decode cX3_speak 74 = .ok (.invokevirtual 101, 3) := by decide +kernel
theorem d_X3_speak_77 : decode cX3_speak 77 = .ok (.return_, 1) := by decide +kernel
def t_X3_speak_0 : List (Nat × QO) := [(0, o_al 0 1), (1, o_il 1 2), (2, o_il 2 3), (3, o_il 3 4), (4, o_cV 1 3 26 5 4 7), (7, o_is 4 9), (9, o_al 0 10), (10, o_gf 3 5 13), (13, o_il 1 14), (14, o_al 0 15), (15, o_gf 3 5 18), (18, o_il 1 19)]
theorem ts_X3_speak_0 (sx : QX) : ∀ q ∈ t_X3_speak_0, q_Snd sx RX3 cX3_speak 6 none q.1 q.2 := List.forall_mem_cons.mpr ⟨s_aload_n d_X3_speak_0 rfl, List.forall_mem_cons.mpr ⟨s_iload_n d_X3_speak_1 rfl, List.forall_mem_cons.mpr ⟨s_iload_n d_X3_speak_2 rfl, List.forall_mem_cons.mpr ⟨s_iload_n d_X3_speak_3 rfl, List.forall_mem_cons.mpr ⟨s_cV (T := TX3) (N := 8) rfl d_X3_speak_4 rfl k_3_9 k_2_219 k_2_220 k_1_4 k_2_221 ⟨by decide, by decide⟩ (by decide +kernel) (by decide), List.forall_mem_cons.mpr ⟨s_istore d_X3_speak_7 (by decide), List.forall_mem_cons.mpr ⟨s_aload_n d_X3_speak_9 rfl, List.forall_mem_cons.mpr ⟨s_gf d_X3_speak_10 rfl (by decide) n_X3 in_X3 rfl k_1_126, List.forall_mem_cons.mpr ⟨s_iload_n d_X3_speak_13 rfl, List.forall_mem_cons.mpr ⟨s_aload_n d_X3_speak_14 rfl, List.forall_mem_cons.mpr ⟨s_gf d_X3_speak_15 rfl (by decide) n_X3 in_X3 rfl k_1_126, List.forall_mem_cons.mpr ⟨s_iload_n d_X3_speak_18 rfl, fun _ h => absurd h List.not_mem_nil⟩⟩⟩⟩⟩⟩⟩⟩⟩⟩⟩⟩
def t_X3_speak_1 : List (Nat × QO) := [(19, o_cS 1 97 2 2 22), (22, o_k 1 23), (23, o_b (fun x y => x - y) 24), (24, o_cS 0 98 3 3 27), (27, o_il 2 28), (28, o_k 2 29), (29, o_b (fun x y => x - y) 30), (30, o_is 5 32), (32, o_il 5 34), (34, o_il 2 35), (35, o_k 2 36), (36, o_b (fun x y => x + y) 37)]
theorem ts_X3_speak_1 (sx : QX) : ∀ q ∈ t_X3_speak_1, q_Snd sx RX3 cX3_speak 6 none q.1 q.2 := List.forall_mem_cons.mpr ⟨s_cN (host := "StoneApologies") rfl d_X3_speak_19 (List.mem_of_getElem? (i := 10) rfl) k_2_57 k_1_1 k_2_58 ⟨by decide, by decide⟩ (by decide +kernel) (by decide), List.forall_mem_cons.mpr ⟨s_iconst d_X3_speak_22 rfl, List.forall_mem_cons.mpr ⟨s_isub d_X3_speak_23, List.forall_mem_cons.mpr ⟨s_cN (host := "StoneApologies") rfl d_X3_speak_24 (List.mem_of_getElem? (i := 12) rfl) k_2_23 k_1_1 k_2_24 ⟨by decide, by decide⟩ (by decide +kernel) (by decide), List.forall_mem_cons.mpr ⟨s_iload_n d_X3_speak_27 rfl, List.forall_mem_cons.mpr ⟨s_iconst d_X3_speak_28 rfl, List.forall_mem_cons.mpr ⟨s_isub d_X3_speak_29, List.forall_mem_cons.mpr ⟨s_istore d_X3_speak_30 (by decide), List.forall_mem_cons.mpr ⟨s_iload d_X3_speak_32, List.forall_mem_cons.mpr ⟨s_iload_n d_X3_speak_34 rfl, List.forall_mem_cons.mpr ⟨s_iconst d_X3_speak_35 rfl, List.forall_mem_cons.mpr ⟨s_iadd d_X3_speak_36, fun _ h => absurd h List.not_mem_nil⟩⟩⟩⟩⟩⟩⟩⟩⟩⟩⟩⟩
def t_X3_speak_2 : List (Nat × QO) := [(37, o_ic (fun x y => decide (y < x)) 70 40), (40, o_il 5 42), (42, o_il 2 43), (43, o_ic (fun x y => decide (x = y)) 56 46), (46, o_al 0 47), (47, o_il 2 48), (48, o_il 5 50), (50, o_cV 1 3 31 4 3 53), (53, o_if (fun x => decide (x = 0)) 64 56), (56, o_al 0 57), (57, o_il 5 59), (59, o_il 3 60)]
theorem ts_X3_speak_2 (sx : QX) : ∀ q ∈ t_X3_speak_2, q_Snd sx RX3 cX3_speak 6 none q.1 q.2 := List.forall_mem_cons.mpr ⟨s_ic_gt d_X3_speak_37 (by decide), List.forall_mem_cons.mpr ⟨s_iload d_X3_speak_40, List.forall_mem_cons.mpr ⟨s_iload_n d_X3_speak_42 rfl, List.forall_mem_cons.mpr ⟨s_ic_eq d_X3_speak_43 (by decide), List.forall_mem_cons.mpr ⟨s_aload_n d_X3_speak_46 rfl, List.forall_mem_cons.mpr ⟨s_iload_n d_X3_speak_47 rfl, List.forall_mem_cons.mpr ⟨s_iload d_X3_speak_48, List.forall_mem_cons.mpr ⟨s_cV (T := TX3) (N := 8) rfl d_X3_speak_50 rfl k_3_11 k_3_13 k_0_11 k_1_4 k_3_14 ⟨by decide, by decide⟩ (by decide +kernel) (by decide), List.forall_mem_cons.mpr ⟨s_if_eq d_X3_speak_53 (by decide), List.forall_mem_cons.mpr ⟨s_aload_n d_X3_speak_56 rfl, List.forall_mem_cons.mpr ⟨s_iload d_X3_speak_57, List.forall_mem_cons.mpr ⟨s_iload_n d_X3_speak_59 rfl, fun _ h => absurd h List.not_mem_nil⟩⟩⟩⟩⟩⟩⟩⟩⟩⟩⟩⟩
def t_X3_speak_3 : List (Nat × QO) := [(60, o_k 1 61), (61, o_cV 0 3 30 5 4 64), (64, o_inc 5 1 67), (67, o_goto 32), (70, o_al 0 71), (71, o_il 2 72), (72, o_il 4 74), (74, o_cV 0 3 32 4 3 77), (77, o_vr)]
theorem ts_X3_speak_3 (sx : QX) : ∀ q ∈ t_X3_speak_3, q_Snd sx RX3 cX3_speak 6 none q.1 q.2 := List.forall_mem_cons.mpr ⟨s_iconst d_X3_speak_60 rfl, List.forall_mem_cons.mpr ⟨s_cV (T := TX3) (N := 8) rfl d_X3_speak_61 rfl k_3_15 k_3_16 k_3_17 k_1_4 k_3_18 ⟨by decide, by decide⟩ (by decide +kernel) (by decide), List.forall_mem_cons.mpr ⟨s_iinc d_X3_speak_64 rfl (by decide), List.forall_mem_cons.mpr ⟨s_goto d_X3_speak_67 (by decide), List.forall_mem_cons.mpr ⟨s_aload_n d_X3_speak_70 rfl, List.forall_mem_cons.mpr ⟨s_iload_n d_X3_speak_71 rfl, List.forall_mem_cons.mpr ⟨s_iload d_X3_speak_72, List.forall_mem_cons.mpr ⟨s_cV (T := TX3) (N := 8) rfl d_X3_speak_74 rfl k_3_19 k_3_21 k_0_12 k_1_4 k_3_22 ⟨by decide, by decide⟩ (by decide +kernel) (by decide), List.forall_mem_cons.mpr ⟨s_vr d_X3_speak_77 rfl, fun _ h => absurd h List.not_mem_nil⟩⟩⟩⟩⟩⟩⟩⟩⟩
def t_X3_speak (pc : Nat) : Option QO := cond (Nat.ble pc 36) (cond (Nat.ble pc 18) (q_look (t_X3_speak_0) pc) (q_look (t_X3_speak_1) pc)) (cond (Nat.ble pc 59) (q_look (t_X3_speak_2) pc) (q_look (t_X3_speak_3) pc))
theorem ts_X3_speak (sx : QX) (pc : Nat) : ∀ o, t_X3_speak pc = some o → q_Snd sx RX3 cX3_speak 6 none pc o := by
  unfold t_X3_speak
  exact q_cb (q_cb (q_look_all (ts_X3_speak_0 sx)) (q_look_all (ts_X3_speak_1 sx))) (q_cb (q_look_all (ts_X3_speak_2 sx)) (q_look_all (ts_X3_speak_3 sx)))
theorem d_X3_hear_0 : decode cX3_hear 0 = .ok (.iload_n 1, 1) := by decide +kernel
theorem d_X3_hear_1 : decode cX3_hear 1 = .ok (.iload_n 2, 1) := by decide +kernel
theorem d_X3_hear_2 : decode cX3_hear 2 = .ok (.invokestatic 67, 3) := by decide +kernel
theorem d_X3_hear_5 : decode cX3_hear 5 = .ok (.istore 4, 2) := by decide +kernel
theorem d_X3_hear_7 : decode cX3_hear 7 = .ok (.aload_n 0, 1) := by decide +kernel
theorem d_X3_hear_8 : decode cX3_hear 8 = .ok (.getfield 24, 3) := by decide +kernel
theorem d_X3_hear_11 : decode cX3_hear 11 = .ok (.iload 4, 2) := by decide +kernel
theorem d_X3_hear_13 : decode cX3_hear 13 = .ok (.aload_n 0, 1) := by decide +kernel
theorem d_X3_hear_14 : decode cX3_hear 14 = .ok (.getfield 24, 3) := by decide +kernel
theorem d_X3_hear_17 : decode cX3_hear 17 = .ok (.iload 4, 2) := by decide +kernel
theorem d_X3_hear_19 : decode cX3_hear 19 = .ok (.invokestatic 54, 3) := by decide +kernel
theorem d_X3_hear_22 : decode cX3_hear 22 = .ok (.iload_n 3, 1) := by decide +kernel
theorem d_X3_hear_23 : decode cX3_hear 23 = .ok (.iadd, 1) := by decide +kernel
theorem d_X3_hear_24 : decode cX3_hear 24 = .ok (.invokestatic 89, 3) := by decide +kernel
theorem d_X3_hear_27 : decode cX3_hear 27 = .ok (.return_, 1) := by decide +kernel
def t_X3_hear_0 : List (Nat × QO) := [(0, o_il 1 1), (1, o_il 2 2), (2, o_cS 1 12 2 2 5), (5, o_is 4 7), (7, o_al 0 8), (8, o_gf 3 6 11), (11, o_il 4 13), (13, o_al 0 14), (14, o_gf 3 6 17), (17, o_il 4 19), (19, o_cS 1 97 2 2 22), (22, o_il 3 23)]
theorem ts_X3_hear_0 (sx : QX) : ∀ q ∈ t_X3_hear_0, q_Snd sx RX3 cX3_hear 5 none q.1 q.2 := List.forall_mem_cons.mpr ⟨s_iload_n d_X3_hear_0 rfl, List.forall_mem_cons.mpr ⟨s_iload_n d_X3_hear_1 rfl, List.forall_mem_cons.mpr ⟨s_cS rfl d_X3_hear_2 k_2_199 k_2_96 k_1_3 k_2_97 ⟨by decide, by decide⟩ (by decide +kernel) (by decide), List.forall_mem_cons.mpr ⟨s_istore d_X3_hear_5 (by decide), List.forall_mem_cons.mpr ⟨s_aload_n d_X3_hear_7 rfl, List.forall_mem_cons.mpr ⟨s_gf d_X3_hear_8 rfl (by decide) n_X3 in_X3 rfl k_1_129, List.forall_mem_cons.mpr ⟨s_iload d_X3_hear_11, List.forall_mem_cons.mpr ⟨s_aload_n d_X3_hear_13 rfl, List.forall_mem_cons.mpr ⟨s_gf d_X3_hear_14 rfl (by decide) n_X3 in_X3 rfl k_1_129, List.forall_mem_cons.mpr ⟨s_iload d_X3_hear_17, List.forall_mem_cons.mpr ⟨s_cN (host := "StoneApologies") rfl d_X3_hear_19 (List.mem_of_getElem? (i := 10) rfl) k_2_57 k_1_1 k_2_58 ⟨by decide, by decide⟩ (by decide +kernel) (by decide), List.forall_mem_cons.mpr ⟨s_iload_n d_X3_hear_22 rfl, fun _ h => absurd h List.not_mem_nil⟩⟩⟩⟩⟩⟩⟩⟩⟩⟩⟩⟩
def t_X3_hear_1 : List (Nat × QO) := [(23, o_b (fun x y => x + y) 24), (24, o_cS 0 98 3 3 27), (27, o_vr)]
theorem ts_X3_hear_1 (sx : QX) : ∀ q ∈ t_X3_hear_1, q_Snd sx RX3 cX3_hear 5 none q.1 q.2 := List.forall_mem_cons.mpr ⟨s_iadd d_X3_hear_23, List.forall_mem_cons.mpr ⟨s_cN (host := "StoneApologies") rfl d_X3_hear_24 (List.mem_of_getElem? (i := 12) rfl) k_2_23 k_1_1 k_2_24 ⟨by decide, by decide⟩ (by decide +kernel) (by decide), List.forall_mem_cons.mpr ⟨s_vr d_X3_hear_27 rfl, fun _ h => absurd h List.not_mem_nil⟩⟩⟩
def t_X3_hear (pc : Nat) : Option QO := cond (Nat.ble pc 22) (q_look (t_X3_hear_0) pc) (q_look (t_X3_hear_1) pc)
theorem ts_X3_hear (sx : QX) (pc : Nat) : ∀ o, t_X3_hear pc = some o → q_Snd sx RX3 cX3_hear 5 none pc o := by
  unfold t_X3_hear
  exact q_cb (q_look_all (ts_X3_hear_0 sx)) (q_look_all (ts_X3_hear_1 sx))
theorem d_X3_hearsThrough_0 : decode cX3_hearsThrough 0 = .ok (.iload_n 2, 1) := by decide +kernel
theorem d_X3_hearsThrough_1 : decode cX3_hearsThrough 1 = .ok (.ifCond .lt 25, 3) := by decide +kernel
theorem d_X3_hearsThrough_4 : decode cX3_hearsThrough 4 = .ok (.iload_n 2, 1) := by decide +kernel
theorem d_X3_hearsThrough_5 : decode cX3_hearsThrough 5 = .ok (.aload_n 0, 1) := by decide +kernel
theorem d_X3_hearsThrough_6 : decode cX3_hearsThrough 6 = .ok (.getfield 30, 3) := by decide +kernel
theorem d_X3_hearsThrough_9 : decode cX3_hearsThrough 9 = .ok (.getfield 58, 3) := by decide +kernel
theorem d_X3_hearsThrough_12 : decode cX3_hearsThrough 12 = .ok (.if_icmp .ge 14, 3) := by decide +kernel
theorem d_X3_hearsThrough_15 : decode cX3_hearsThrough 15 = .ok (.aload_n 0, 1) := by decide +kernel
theorem d_X3_hearsThrough_16 : decode cX3_hearsThrough 16 = .ok (.getfield 15, 3) := by decide +kernel
theorem d_X3_hearsThrough_19 : decode cX3_hearsThrough 19 = .ok (.iload_n 2, 1) := by decide +kernel
theorem d_X3_hearsThrough_20 : decode cX3_hearsThrough 20 = .ok (.invokestatic 54, 3) := by decide +kernel
theorem d_X3_hearsThrough_23 : decode cX3_hearsThrough 23 = .ok (.ifCond .eq 5, 3) := by decide +kernel
theorem d_X3_hearsThrough_26 : decode cX3_hearsThrough 26 = .ok (.iconst 0, 1) := by decide +kernel
theorem d_X3_hearsThrough_27 : decode cX3_hearsThrough 27 = .ok (.ireturn, 1) := by decide +kernel
theorem d_X3_hearsThrough_28 : decode cX3_hearsThrough 28 = .ok (.iload_n 2, 1) := by decide +kernel
theorem d_X3_hearsThrough_29 : decode cX3_hearsThrough 29 = .ok (.iload_n 1, 1) := by decide +kernel
theorem d_X3_hearsThrough_30 : decode cX3_hearsThrough 30 = .ok (.iconst 1, 1) := by decide +kernel
theorem d_X3_hearsThrough_31 : decode cX3_hearsThrough 31 = .ok (.isub, 1) := by decide +kernel
theorem d_X3_hearsThrough_32 : decode cX3_hearsThrough 32 = .ok (.if_icmp .eq 10, 3) := by decide +kernel
theorem d_X3_hearsThrough_35 : decode cX3_hearsThrough 35 = .ok (.iload_n 2, 1) := by decide +kernel
theorem d_X3_hearsThrough_36 : decode cX3_hearsThrough 36 = .ok (.iload_n 1, 1) := by decide +kernel
theorem d_X3_hearsThrough_37 : decode cX3_hearsThrough 37 = .ok (.iconst 1, 1) := by decide +kernel
theorem d_X3_hearsThrough_38 : decode cX3_hearsThrough 38 = .ok (.iadd, 1) := by decide +kernel
theorem d_X3_hearsThrough_39 : decode cX3_hearsThrough 39 = .ok (.if_icmp .ne 7, 3) := by decide +kernel
theorem d_X3_hearsThrough_42 : decode cX3_hearsThrough 42 = .ok (.iconst 1, 1) := by decide +kernel
theorem d_X3_hearsThrough_43 : decode cX3_hearsThrough 43 = .ok (.goto 4, 3) := by decide +kernel
theorem d_X3_hearsThrough_46 : decode cX3_hearsThrough 46 = .ok (.iconst 0, 1) := by decide +kernel
theorem d_X3_hearsThrough_47 : decode cX3_hearsThrough 47 = .ok (.istore_n 3, 1) := by decide +kernel
theorem d_X3_hearsThrough_48 : decode cX3_hearsThrough 48 = .ok (.iload_n 3, 1) := by decide +kernel
theorem d_X3_hearsThrough_49 : decode cX3_hearsThrough 49 = .ok (.ifCond .ne 18, 3) := by decide +kernel
theorem d_X3_hearsThrough_52 : decode cX3_hearsThrough 52 = .ok (.aload_n 0, 1) := by decide +kernel
theorem d_X3_hearsThrough_53 : decode cX3_hearsThrough 53 = .ok (.getfield 15, 3) := by decide +kernel
theorem d_X3_hearsThrough_56 : decode cX3_hearsThrough 56 = .ok (.iload_n 1, 1) := by decide +kernel
theorem d_X3_hearsThrough_57 : decode cX3_hearsThrough 57 = .ok (.iload_n 2, 1) := by decide +kernel
theorem d_X3_hearsThrough_58 : decode cX3_hearsThrough 58 = .ok (.iadd, 1) := by decide +kernel
theorem d_X3_hearsThrough_59 : decode cX3_hearsThrough 59 = .ok (.iconst 2, 1) := by decide +kernel
theorem d_X3_hearsThrough_60 : decode cX3_hearsThrough 60 = .ok (.idiv, 1) := by decide +kernel
theorem d_X3_hearsThrough_61 : decode cX3_hearsThrough 61 = .ok (.invokestatic 54, 3) := by decide +kernel
theorem d_X3_hearsThrough_64 : decode cX3_hearsThrough 64 = .ok (.ifCond .ne 7, 3) := by decide +kernel
theorem d_X3_hearsThrough_67 : decode cX3_hearsThrough 67 = .ok (.iconst 1, 1) := by decide +kernel
theorem d_X3_hearsThrough_68 : decode cX3_hearsThrough 68 = .ok (.goto 4, 3) := by decide +kernel
theorem d_X3_hearsThrough_71 : decode cX3_hearsThrough 71 = .ok (.iconst 0, 1) := by decide +kernel
theorem d_X3_hearsThrough_72 : decode cX3_hearsThrough 72 = .ok (.ireturn, 1) := by decide +kernel
def t_X3_hearsThrough_0 : List (Nat × QO) := [(0, o_il 2 1), (1, o_if (fun x => decide (x < 0)) 26 4), (4, o_il 2 5), (5, o_al 0 6), (6, o_gf 3 0 9), (9, o_gf 0 0 12), (12, o_ic (fun x y => decide (y ≤ x)) 26 15), (15, o_al 0 16), (16, o_gf 3 3 19), (19, o_il 2 20), (20, o_cS 1 97 2 2 23), (23, o_if (fun x => decide (x = 0)) 28 26)]
theorem ts_X3_hearsThrough_0 (sx : QX) : ∀ q ∈ t_X3_hearsThrough_0, q_Snd sx RX3 cX3_hearsThrough 4 (some .boolean) q.1 q.2 := List.forall_mem_cons.mpr ⟨s_iload_n d_X3_hearsThrough_0 rfl, List.forall_mem_cons.mpr ⟨s_if_lt d_X3_hearsThrough_1 (by decide), List.forall_mem_cons.mpr ⟨s_iload_n d_X3_hearsThrough_4 rfl, List.forall_mem_cons.mpr ⟨s_aload_n d_X3_hearsThrough_5 rfl, List.forall_mem_cons.mpr ⟨s_gf d_X3_hearsThrough_6 rfl (by decide) n_X3 in_X3 rfl k_1_113, List.forall_mem_cons.mpr ⟨s_gf d_X3_hearsThrough_9 rfl (by decide) n_X0 in_X0 rfl k_1_52, List.forall_mem_cons.mpr ⟨s_ic_ge d_X3_hearsThrough_12 (by decide), List.forall_mem_cons.mpr ⟨s_aload_n d_X3_hearsThrough_15 rfl, List.forall_mem_cons.mpr ⟨s_gf d_X3_hearsThrough_16 rfl (by decide) n_X3 in_X3 rfl k_1_122, List.forall_mem_cons.mpr ⟨s_iload_n d_X3_hearsThrough_19 rfl, List.forall_mem_cons.mpr ⟨s_cN (host := "StoneApologies") rfl d_X3_hearsThrough_20 (List.mem_of_getElem? (i := 10) rfl) k_2_57 k_1_1 k_2_58 ⟨by decide, by decide⟩ (by decide +kernel) (by decide), List.forall_mem_cons.mpr ⟨s_if_eq d_X3_hearsThrough_23 (by decide), fun _ h => absurd h List.not_mem_nil⟩⟩⟩⟩⟩⟩⟩⟩⟩⟩⟩⟩
def t_X3_hearsThrough_1 : List (Nat × QO) := [(26, o_k 0 27), (27, o_ir true), (28, o_il 2 29), (29, o_il 1 30), (30, o_k 1 31), (31, o_b (fun x y => x - y) 32), (32, o_ic (fun x y => decide (x = y)) 42 35), (35, o_il 2 36), (36, o_il 1 37), (37, o_k 1 38), (38, o_b (fun x y => x + y) 39), (39, o_ic (fun x y => decide (x ≠ y)) 46 42)]
theorem ts_X3_hearsThrough_1 (sx : QX) : ∀ q ∈ t_X3_hearsThrough_1, q_Snd sx RX3 cX3_hearsThrough 4 (some .boolean) q.1 q.2 := List.forall_mem_cons.mpr ⟨s_iconst d_X3_hearsThrough_26 rfl, List.forall_mem_cons.mpr ⟨s_zr d_X3_hearsThrough_27 rfl, List.forall_mem_cons.mpr ⟨s_iload_n d_X3_hearsThrough_28 rfl, List.forall_mem_cons.mpr ⟨s_iload_n d_X3_hearsThrough_29 rfl, List.forall_mem_cons.mpr ⟨s_iconst d_X3_hearsThrough_30 rfl, List.forall_mem_cons.mpr ⟨s_isub d_X3_hearsThrough_31, List.forall_mem_cons.mpr ⟨s_ic_eq d_X3_hearsThrough_32 (by decide), List.forall_mem_cons.mpr ⟨s_iload_n d_X3_hearsThrough_35 rfl, List.forall_mem_cons.mpr ⟨s_iload_n d_X3_hearsThrough_36 rfl, List.forall_mem_cons.mpr ⟨s_iconst d_X3_hearsThrough_37 rfl, List.forall_mem_cons.mpr ⟨s_iadd d_X3_hearsThrough_38, List.forall_mem_cons.mpr ⟨s_ic_ne d_X3_hearsThrough_39 (by decide), fun _ h => absurd h List.not_mem_nil⟩⟩⟩⟩⟩⟩⟩⟩⟩⟩⟩⟩
def t_X3_hearsThrough_2 : List (Nat × QO) := [(42, o_k 1 43), (43, o_goto 47), (46, o_k 0 47), (47, o_is 3 48), (48, o_il 3 49), (49, o_if (fun x => decide (x ≠ 0)) 67 52), (52, o_al 0 53), (53, o_gf 3 3 56), (56, o_il 1 57), (57, o_il 2 58), (58, o_b (fun x y => x + y) 59), (59, o_k 2 60)]
theorem ts_X3_hearsThrough_2 (sx : QX) : ∀ q ∈ t_X3_hearsThrough_2, q_Snd sx RX3 cX3_hearsThrough 4 (some .boolean) q.1 q.2 := List.forall_mem_cons.mpr ⟨s_iconst d_X3_hearsThrough_42 rfl, List.forall_mem_cons.mpr ⟨s_goto d_X3_hearsThrough_43 (by decide), List.forall_mem_cons.mpr ⟨s_iconst d_X3_hearsThrough_46 rfl, List.forall_mem_cons.mpr ⟨s_istore_n d_X3_hearsThrough_47 rfl (by decide), List.forall_mem_cons.mpr ⟨s_iload_n d_X3_hearsThrough_48 rfl, List.forall_mem_cons.mpr ⟨s_if_ne d_X3_hearsThrough_49 (by decide), List.forall_mem_cons.mpr ⟨s_aload_n d_X3_hearsThrough_52 rfl, List.forall_mem_cons.mpr ⟨s_gf d_X3_hearsThrough_53 rfl (by decide) n_X3 in_X3 rfl k_1_122, List.forall_mem_cons.mpr ⟨s_iload_n d_X3_hearsThrough_56 rfl, List.forall_mem_cons.mpr ⟨s_iload_n d_X3_hearsThrough_57 rfl, List.forall_mem_cons.mpr ⟨s_iadd d_X3_hearsThrough_58, List.forall_mem_cons.mpr ⟨s_iconst d_X3_hearsThrough_59 rfl, fun _ h => absurd h List.not_mem_nil⟩⟩⟩⟩⟩⟩⟩⟩⟩⟩⟩⟩
def t_X3_hearsThrough_3 : List (Nat × QO) := [(60, o_bz (fun x y => x / y) 61), (61, o_cS 1 97 2 2 64), (64, o_if (fun x => decide (x ≠ 0)) 71 67), (67, o_k 1 68), (68, o_goto 72), (71, o_k 0 72), (72, o_ir true)]
theorem ts_X3_hearsThrough_3 (sx : QX) : ∀ q ∈ t_X3_hearsThrough_3, q_Snd sx RX3 cX3_hearsThrough 4 (some .boolean) q.1 q.2 := List.forall_mem_cons.mpr ⟨s_idiv d_X3_hearsThrough_60, List.forall_mem_cons.mpr ⟨s_cN (host := "StoneApologies") rfl d_X3_hearsThrough_61 (List.mem_of_getElem? (i := 10) rfl) k_2_57 k_1_1 k_2_58 ⟨by decide, by decide⟩ (by decide +kernel) (by decide), List.forall_mem_cons.mpr ⟨s_if_ne d_X3_hearsThrough_64 (by decide), List.forall_mem_cons.mpr ⟨s_iconst d_X3_hearsThrough_67 rfl, List.forall_mem_cons.mpr ⟨s_goto d_X3_hearsThrough_68 (by decide), List.forall_mem_cons.mpr ⟨s_iconst d_X3_hearsThrough_71 rfl, List.forall_mem_cons.mpr ⟨s_zr d_X3_hearsThrough_72 rfl, fun _ h => absurd h List.not_mem_nil⟩⟩⟩⟩⟩⟩⟩
def t_X3_hearsThrough (pc : Nat) : Option QO := cond (Nat.ble pc 39) (cond (Nat.ble pc 23) (q_look (t_X3_hearsThrough_0) pc) (q_look (t_X3_hearsThrough_1) pc)) (cond (Nat.ble pc 59) (q_look (t_X3_hearsThrough_2) pc) (q_look (t_X3_hearsThrough_3) pc))
theorem ts_X3_hearsThrough (sx : QX) (pc : Nat) : ∀ o, t_X3_hearsThrough pc = some o → q_Snd sx RX3 cX3_hearsThrough 4 (some .boolean) pc o := by
  unfold t_X3_hearsThrough
  exact q_cb (q_cb (q_look_all (ts_X3_hearsThrough_0 sx)) (q_look_all (ts_X3_hearsThrough_1 sx))) (q_cb (q_look_all (ts_X3_hearsThrough_2 sx)) (q_look_all (ts_X3_hearsThrough_3 sx)))
theorem d_X3_soften_0 : decode cX3_soften 0 = .ok (.aload_n 0, 1) := by decide +kernel
theorem d_X3_soften_1 : decode cX3_soften 1 = .ok (.getfield 9, 3) := by decide +kernel
theorem d_X3_soften_4 : decode cX3_soften 4 = .ok (.iload_n 1, 1) := by decide +kernel
theorem d_X3_soften_5 : decode cX3_soften 5 = .ok (.invokestatic 54, 3) := by decide +kernel
theorem d_X3_soften_8 : decode cX3_soften 8 = .ok (.iload_n 2, 1) := by decide +kernel
theorem d_X3_soften_9 : decode cX3_soften 9 = .ok (.iadd, 1) := by decide +kernel
theorem d_X3_soften_10 : decode cX3_soften 10 = .ok (.istore_n 3, 1) := by decide +kernel
theorem d_X3_soften_11 : decode cX3_soften 11 = .ok (.aload_n 0, 1) := by decide +kernel
theorem d_X3_soften_12 : decode cX3_soften 12 = .ok (.getfield 9, 3) := by decide +kernel
theorem d_X3_soften_15 : decode cX3_soften 15 = .ok (.iload_n 1, 1) := by decide +kernel
theorem d_X3_soften_16 : decode cX3_soften 16 = .ok (.iload_n 3, 1) := by decide +kernel
theorem d_X3_soften_17 : decode cX3_soften 17 = .ok (.invokestatic 89, 3) := by decide +kernel
theorem d_X3_soften_20 : decode cX3_soften 20 = .ok (.iload_n 3, 1) := by decide +kernel
theorem d_X3_soften_21 : decode cX3_soften 21 = .ok (.aload_n 0, 1) := by decide +kernel
theorem d_X3_soften_22 : decode cX3_soften 22 = .ok (.getfield 30, 3) := by decide +kernel
theorem d_X3_soften_25 : decode cX3_soften 25 = .ok (.getfield 64, 3) := by decide +kernel
theorem d_X3_soften_28 : decode cX3_soften 28 = .ok (.iload_n 1, 1) := by decide +kernel
theorem d_X3_soften_29 : decode cX3_soften 29 = .ok (.invokestatic 54, 3) := by decide +kernel
theorem d_X3_soften_32 : decode cX3_soften 32 = .ok (.if_icmp .lt 12, 3) := by decide +kernel
theorem d_X3_soften_35 : decode cX3_soften 35 = .ok (.aload_n 0, 1) := by decide +kernel
theorem d_X3_soften_36 : decode cX3_soften 36 = .ok (.getfield 15, 3) := by decide +kernel
theorem d_X3_soften_39 : decode cX3_soften 39 = .ok (.iload_n 1, 1) := by decide +kernel
theorem d_X3_soften_40 : decode cX3_soften 40 = .ok (.iconst 1, 1) := by decide +kernel
theorem d_X3_soften_41 : decode cX3_soften 41 = .ok (.invokestatic 89, 3) := by decide +kernel
theorem d_X3_soften_44 : decode cX3_soften 44 = .ok (.return_, 1) := by decide +kernel
def t_X3_soften_0 : List (Nat × QO) := [(0, o_al 0 1), (1, o_gf 3 2 4), (4, o_il 1 5), (5, o_cS 1 97 2 2 8), (8, o_il 2 9), (9, o_b (fun x y => x + y) 10), (10, o_is 3 11), (11, o_al 0 12), (12, o_gf 3 2 15), (15, o_il 1 16), (16, o_il 3 17), (17, o_cS 0 98 3 3 20)]
theorem ts_X3_soften_0 (sx : QX) : ∀ q ∈ t_X3_soften_0, q_Snd sx RX3 cX3_soften 4 none q.1 q.2 := List.forall_mem_cons.mpr ⟨s_aload_n d_X3_soften_0 rfl, List.forall_mem_cons.mpr ⟨s_gf d_X3_soften_1 rfl (by decide) n_X3 in_X3 rfl k_1_119, List.forall_mem_cons.mpr ⟨s_iload_n d_X3_soften_4 rfl, List.forall_mem_cons.mpr ⟨s_cN (host := "StoneApologies") rfl d_X3_soften_5 (List.mem_of_getElem? (i := 10) rfl) k_2_57 k_1_1 k_2_58 ⟨by decide, by decide⟩ (by decide +kernel) (by decide), List.forall_mem_cons.mpr ⟨s_iload_n d_X3_soften_8 rfl, List.forall_mem_cons.mpr ⟨s_iadd d_X3_soften_9, List.forall_mem_cons.mpr ⟨s_istore_n d_X3_soften_10 rfl (by decide), List.forall_mem_cons.mpr ⟨s_aload_n d_X3_soften_11 rfl, List.forall_mem_cons.mpr ⟨s_gf d_X3_soften_12 rfl (by decide) n_X3 in_X3 rfl k_1_119, List.forall_mem_cons.mpr ⟨s_iload_n d_X3_soften_15 rfl, List.forall_mem_cons.mpr ⟨s_iload_n d_X3_soften_16 rfl, List.forall_mem_cons.mpr ⟨s_cN (host := "StoneApologies") rfl d_X3_soften_17 (List.mem_of_getElem? (i := 12) rfl) k_2_23 k_1_1 k_2_24 ⟨by decide, by decide⟩ (by decide +kernel) (by decide), fun _ h => absurd h List.not_mem_nil⟩⟩⟩⟩⟩⟩⟩⟩⟩⟩⟩⟩
def t_X3_soften_1 : List (Nat × QO) := [(20, o_il 3 21), (21, o_al 0 22), (22, o_gf 3 0 25), (25, o_gf 0 5 28), (28, o_il 1 29), (29, o_cS 1 97 2 2 32), (32, o_ic (fun x y => decide (x < y)) 44 35), (35, o_al 0 36), (36, o_gf 3 3 39), (39, o_il 1 40), (40, o_k 1 41), (41, o_cS 0 98 3 3 44)]
theorem ts_X3_soften_1 (sx : QX) : ∀ q ∈ t_X3_soften_1, q_Snd sx RX3 cX3_soften 4 none q.1 q.2 := List.forall_mem_cons.mpr ⟨s_iload_n d_X3_soften_20 rfl, List.forall_mem_cons.mpr ⟨s_aload_n d_X3_soften_21 rfl, List.forall_mem_cons.mpr ⟨s_gf d_X3_soften_22 rfl (by decide) n_X3 in_X3 rfl k_1_113, List.forall_mem_cons.mpr ⟨s_gf d_X3_soften_25 rfl (by decide) n_X0 in_X0 rfl k_1_68, List.forall_mem_cons.mpr ⟨s_iload_n d_X3_soften_28 rfl, List.forall_mem_cons.mpr ⟨s_cN (host := "StoneApologies") rfl d_X3_soften_29 (List.mem_of_getElem? (i := 10) rfl) k_2_57 k_1_1 k_2_58 ⟨by decide, by decide⟩ (by decide +kernel) (by decide), List.forall_mem_cons.mpr ⟨s_ic_lt d_X3_soften_32 (by decide), List.forall_mem_cons.mpr ⟨s_aload_n d_X3_soften_35 rfl, List.forall_mem_cons.mpr ⟨s_gf d_X3_soften_36 rfl (by decide) n_X3 in_X3 rfl k_1_122, List.forall_mem_cons.mpr ⟨s_iload_n d_X3_soften_39 rfl, List.forall_mem_cons.mpr ⟨s_iconst d_X3_soften_40 rfl, List.forall_mem_cons.mpr ⟨s_cN (host := "StoneApologies") rfl d_X3_soften_41 (List.mem_of_getElem? (i := 12) rfl) k_2_23 k_1_1 k_2_24 ⟨by decide, by decide⟩ (by decide +kernel) (by decide), fun _ h => absurd h List.not_mem_nil⟩⟩⟩⟩⟩⟩⟩⟩⟩⟩⟩⟩
def t_X3_soften_2 : List (Nat × QO) := [(44, o_vr)]
theorem ts_X3_soften_2 (sx : QX) : ∀ q ∈ t_X3_soften_2, q_Snd sx RX3 cX3_soften 4 none q.1 q.2 := List.forall_mem_cons.mpr ⟨s_vr d_X3_soften_44 rfl, fun _ h => absurd h List.not_mem_nil⟩
def t_X3_soften (pc : Nat) : Option QO := cond (Nat.ble pc 17) (q_look (t_X3_soften_0) pc) (cond (Nat.ble pc 41) (q_look (t_X3_soften_1) pc) (q_look (t_X3_soften_2) pc))
theorem ts_X3_soften (sx : QX) (pc : Nat) : ∀ o, t_X3_soften pc = some o → q_Snd sx RX3 cX3_soften 4 none pc o := by
  unfold t_X3_soften
  exact q_cb (q_look_all (ts_X3_soften_0 sx)) (q_cb (q_look_all (ts_X3_soften_1 sx)) (q_look_all (ts_X3_soften_2 sx)))
theorem d_X3_vow_0 : decode cX3_vow 0 = .ok (.aload_n 0, 1) := by decide +kernel
theorem d_X3_vow_1 : decode cX3_vow 1 = .ok (.getfield 27, 3) := by decide +kernel
theorem d_X3_vow_4 : decode cX3_vow 4 = .ok (.iload_n 1, 1) := by decide +kernel
theorem d_X3_vow_5 : decode cX3_vow 5 = .ok (.iload_n 2, 1) := by decide +kernel
theorem d_X3_vow_6 : decode cX3_vow 6 = .ok (.invokestatic 83, 3) := by decide +kernel
theorem d_X3_vow_9 : decode cX3_vow 9 = .ok (.iload_n 3, 1) := by decide +kernel
theorem d_X3_vow_10 : decode cX3_vow 10 = .ok (.invokestatic 89, 3) := by decide +kernel
theorem d_X3_vow_13 : decode cX3_vow 13 = .ok (.return_, 1) := by decide +kernel
def t_X3_vow_0 : List (Nat × QO) := [(0, o_al 0 1), (1, o_gf 3 7 4), (4, o_il 1 5), (5, o_il 2 6), (6, o_cS 1 11 2 2 9), (9, o_il 3 10), (10, o_cS 0 98 3 3 13), (13, o_vr)]
theorem ts_X3_vow_0 (sx : QX) : ∀ q ∈ t_X3_vow_0, q_Snd sx RX3 cX3_vow 4 none q.1 q.2 := List.forall_mem_cons.mpr ⟨s_aload_n d_X3_vow_0 rfl, List.forall_mem_cons.mpr ⟨s_gf d_X3_vow_1 rfl (by decide) n_X3 in_X3 rfl k_1_130, List.forall_mem_cons.mpr ⟨s_iload_n d_X3_vow_4 rfl, List.forall_mem_cons.mpr ⟨s_iload_n d_X3_vow_5 rfl, List.forall_mem_cons.mpr ⟨s_cS rfl d_X3_vow_6 k_2_209 k_2_84 k_1_3 k_2_85 ⟨by decide, by decide⟩ (by decide +kernel) (by decide), List.forall_mem_cons.mpr ⟨s_iload_n d_X3_vow_9 rfl, List.forall_mem_cons.mpr ⟨s_cN (host := "StoneApologies") rfl d_X3_vow_10 (List.mem_of_getElem? (i := 12) rfl) k_2_23 k_1_1 k_2_24 ⟨by decide, by decide⟩ (by decide +kernel) (by decide), List.forall_mem_cons.mpr ⟨s_vr d_X3_vow_13 rfl, fun _ h => absurd h List.not_mem_nil⟩⟩⟩⟩⟩⟩⟩⟩
def t_X3_vow (pc : Nat) : Option QO := q_look (t_X3_vow_0) pc
theorem ts_X3_vow (sx : QX) (pc : Nat) : ∀ o, t_X3_vow pc = some o → q_Snd sx RX3 cX3_vow 4 none pc o := by
  unfold t_X3_vow
  exact q_look_all (ts_X3_vow_0 sx)
theorem d_X3_carryOff_0 : decode cX3_carryOff 0 = .ok (.aload_n 0, 1) := by decide +kernel
theorem d_X3_carryOff_1 : decode cX3_carryOff 1 = .ok (.getfield 15, 3) := by decide +kernel
theorem d_X3_carryOff_4 : decode cX3_carryOff 4 = .ok (.iload_n 1, 1) := by decide +kernel
theorem d_X3_carryOff_5 : decode cX3_carryOff 5 = .ok (.aload_n 0, 1) := by decide +kernel
theorem d_X3_carryOff_6 : decode cX3_carryOff 6 = .ok (.iload_n 1, 1) := by decide +kernel
theorem d_X3_carryOff_7 : decode cX3_carryOff 7 = .ok (.iload_n 2, 1) := by decide +kernel
theorem d_X3_carryOff_8 : decode cX3_carryOff 8 = .ok (.invokevirtual 105, 3) := by decide +kernel
theorem d_X3_carryOff_11 : decode cX3_carryOff 11 = .ok (.ifCond .eq 7, 3) := by decide +kernel
theorem d_X3_carryOff_14 : decode cX3_carryOff 14 = .ok (.iconst 3, 1) := by decide +kernel
theorem d_X3_carryOff_15 : decode cX3_carryOff 15 = .ok (.goto 4, 3) := by decide +kernel
theorem d_X3_carryOff_18 : decode cX3_carryOff 18 = .ok (.iconst 2, 1) := by decide +kernel
theorem d_X3_carryOff_19 : decode cX3_carryOff 19 = .ok (.invokestatic 89, 3) := by decide +kernel
theorem d_X3_carryOff_22 : decode cX3_carryOff 22 = .ok (.aload_n 0, 1) := by decide +kernel
theorem d_X3_carryOff_23 : decode cX3_carryOff 23 = .ok (.getfield 18, 3) := by decide +kernel
theorem d_X3_carryOff_26 : decode cX3_carryOff 26 = .ok (.iload_n 1, 1) := by decide +kernel
theorem d_X3_carryOff_27 : decode cX3_carryOff 27 = .ok (.iload_n 2, 1) := by decide +kernel
theorem d_X3_carryOff_28 : decode cX3_carryOff 28 = .ok (.invokestatic 89, 3) := by decide +kernel
theorem d_X3_carryOff_31 : decode cX3_carryOff 31 = .ok (.return_, 1) := by decide +kernel
def t_X3_carryOff_0 : List (Nat × QO) := [(0, o_al 0 1), (1, o_gf 3 3 4), (4, o_il 1 5), (5, o_al 0 6), (6, o_il 1 7), (7, o_il 2 8), (8, o_cV 1 3 35 4 3 11), (11, o_if (fun x => decide (x = 0)) 18 14), (14, o_k 3 15), (15, o_goto 19), (18, o_k 2 19), (19, o_cS 0 98 3 3 22)]
theorem ts_X3_carryOff_0 (sx : QX) : ∀ q ∈ t_X3_carryOff_0, q_Snd sx RX3 cX3_carryOff 3 none q.1 q.2 := List.forall_mem_cons.mpr ⟨s_aload_n d_X3_carryOff_0 rfl, List.forall_mem_cons.mpr ⟨s_gf d_X3_carryOff_1 rfl (by decide) n_X3 in_X3 rfl k_1_122, List.forall_mem_cons.mpr ⟨s_iload_n d_X3_carryOff_4 rfl, List.forall_mem_cons.mpr ⟨s_aload_n d_X3_carryOff_5 rfl, List.forall_mem_cons.mpr ⟨s_iload_n d_X3_carryOff_6 rfl, List.forall_mem_cons.mpr ⟨s_iload_n d_X3_carryOff_7 rfl, List.forall_mem_cons.mpr ⟨s_cV (T := TX3) (N := 8) rfl d_X3_carryOff_8 rfl k_3_44 k_3_45 k_3_46 k_1_4 k_3_47 ⟨by decide, by decide⟩ (by decide +kernel) (by decide), List.forall_mem_cons.mpr ⟨s_if_eq d_X3_carryOff_11 (by decide), List.forall_mem_cons.mpr ⟨s_iconst d_X3_carryOff_14 rfl, List.forall_mem_cons.mpr ⟨s_goto d_X3_carryOff_15 (by decide), List.forall_mem_cons.mpr ⟨s_iconst d_X3_carryOff_18 rfl, List.forall_mem_cons.mpr ⟨s_cN (host := "StoneApologies") rfl d_X3_carryOff_19 (List.mem_of_getElem? (i := 12) rfl) k_2_23 k_1_1 k_2_24 ⟨by decide, by decide⟩ (by decide +kernel) (by decide), fun _ h => absurd h List.not_mem_nil⟩⟩⟩⟩⟩⟩⟩⟩⟩⟩⟩⟩
def t_X3_carryOff_1 : List (Nat × QO) := [(22, o_al 0 23), (23, o_gf 3 4 26), (26, o_il 1 27), (27, o_il 2 28), (28, o_cS 0 98 3 3 31), (31, o_vr)]
theorem ts_X3_carryOff_1 (sx : QX) : ∀ q ∈ t_X3_carryOff_1, q_Snd sx RX3 cX3_carryOff 3 none q.1 q.2 := List.forall_mem_cons.mpr ⟨s_aload_n d_X3_carryOff_22 rfl, List.forall_mem_cons.mpr ⟨s_gf d_X3_carryOff_23 rfl (by decide) n_X3 in_X3 rfl k_1_124, List.forall_mem_cons.mpr ⟨s_iload_n d_X3_carryOff_26 rfl, List.forall_mem_cons.mpr ⟨s_iload_n d_X3_carryOff_27 rfl, List.forall_mem_cons.mpr ⟨s_cN (host := "StoneApologies") rfl d_X3_carryOff_28 (List.mem_of_getElem? (i := 12) rfl) k_2_23 k_1_1 k_2_24 ⟨by decide, by decide⟩ (by decide +kernel) (by decide), List.forall_mem_cons.mpr ⟨s_vr d_X3_carryOff_31 rfl, fun _ h => absurd h List.not_mem_nil⟩⟩⟩⟩⟩⟩
def t_X3_carryOff (pc : Nat) : Option QO := cond (Nat.ble pc 19) (q_look (t_X3_carryOff_0) pc) (q_look (t_X3_carryOff_1) pc)
theorem ts_X3_carryOff (sx : QX) (pc : Nat) : ∀ o, t_X3_carryOff pc = some o → q_Snd sx RX3 cX3_carryOff 3 none pc o := by
  unfold t_X3_carryOff
  exact q_cb (q_look_all (ts_X3_carryOff_0 sx)) (q_look_all (ts_X3_carryOff_1 sx))
theorem d_X3_wouldCrack_0 : decode cX3_wouldCrack 0 = .ok (.aload_n 0, 1) := by decide +kernel
theorem d_X3_wouldCrack_1 : decode cX3_wouldCrack 1 = .ok (.getfield 30, 3) := by decide +kernel
theorem d_X3_wouldCrack_4 : decode cX3_wouldCrack 4 = .ok (.getfield 108, 3) := by decide +kernel
theorem d_X3_wouldCrack_7 : decode cX3_wouldCrack 7 = .ok (.iload_n 1, 1) := by decide +kernel
theorem d_X3_wouldCrack_8 : decode cX3_wouldCrack 8 = .ok (.invokestatic 54, 3) := by decide +kernel
theorem d_X3_wouldCrack_11 : decode cX3_wouldCrack 11 = .ok (.iconst 3, 1) := by decide +kernel
theorem d_X3_wouldCrack_12 : decode cX3_wouldCrack 12 = .ok (.if_icmp .ne 5, 3) := by decide +kernel
theorem d_X3_wouldCrack_15 : decode cX3_wouldCrack 15 = .ok (.iconst 0, 1) := by decide +kernel
theorem d_X3_wouldCrack_16 : decode cX3_wouldCrack 16 = .ok (.ireturn, 1) := by decide +kernel
theorem d_X3_wouldCrack_17 : decode cX3_wouldCrack 17 = .ok (.iconst 0, 1) := by decide +kernel
theorem d_X3_wouldCrack_18 : decode cX3_wouldCrack 18 = .ok (.istore_n 3, 1) := by decide +kernel
theorem d_X3_wouldCrack_19 : decode cX3_wouldCrack 19 = .ok (.iload_n 3, 1) := by decide +kernel
theorem d_X3_wouldCrack_20 : decode cX3_wouldCrack 20 = .ok (.aload_n 0, 1) := by decide +kernel
theorem d_X3_wouldCrack_21 : decode cX3_wouldCrack 21 = .ok (.getfield 30, 3) := by decide +kernel
theorem d_X3_wouldCrack_24 : decode cX3_wouldCrack 24 = .ok (.getfield 61, 3) := by decide +kernel
theorem d_X3_wouldCrack_27 : decode cX3_wouldCrack 27 = .ok (.if_icmp .ge 21, 3) := by decide +kernel
theorem d_X3_wouldCrack_30 : decode cX3_wouldCrack 30 = .ok (.aload_n 0, 1) := by decide +kernel
theorem d_X3_wouldCrack_31 : decode cX3_wouldCrack 31 = .ok (.iload_n 3, 1) := by decide +kernel
theorem d_X3_wouldCrack_32 : decode cX3_wouldCrack 32 = .ok (.iload_n 1, 1) := by decide +kernel
theorem d_X3_wouldCrack_33 : decode cX3_wouldCrack 33 = .ok (.iload_n 2, 1) := by decide +kernel
theorem d_X3_wouldCrack_34 : decode cX3_wouldCrack 34 = .ok (.invokevirtual 111, 3) := by decide +kernel
theorem d_X3_wouldCrack_37 : decode cX3_wouldCrack 37 = .ok (.ifCond .eq 5, 3) := by decide +kernel
theorem d_X3_wouldCrack_40 : decode cX3_wouldCrack 40 = .ok (.iconst 1, 1) := by decide +kernel
theorem d_X3_wouldCrack_41 : decode cX3_wouldCrack 41 = .ok (.ireturn, 1) := by decide +kernel
theorem d_X3_wouldCrack_42 : decode cX3_wouldCrack 42 = .ok (.iinc 3 1, 3) := by decide +kernel
theorem d_X3_wouldCrack_45 : decode cX3_wouldCrack 45 = .ok (.goto (-26), 3) := by decide +kernel
theorem d_X3_wouldCrack_48 : decode cX3_wouldCrack 48 = .ok (.iconst 0, 1) := by decide +kernel
theorem d_X3_wouldCrack_49 : decode cX3_wouldCrack 49 = .ok (.ireturn, 1) := by decide +kernel
def t_X3_wouldCrack_0 : List (Nat × QO) := [(0, o_al 0 1), (1, o_gf 3 0 4), (4, o_gf 0 4 7), (7, o_il 1 8), (8, o_cS 1 97 2 2 11), (11, o_k 3 12), (12, o_ic (fun x y => decide (x ≠ y)) 17 15), (15, o_k 0 16), (16, o_ir true), (17, o_k 0 18), (18, o_is 3 19), (19, o_il 3 20)]
theorem ts_X3_wouldCrack_0 (sx : QX) : ∀ q ∈ t_X3_wouldCrack_0, q_Snd sx RX3 cX3_wouldCrack 4 (some .boolean) q.1 q.2 := List.forall_mem_cons.mpr ⟨s_aload_n d_X3_wouldCrack_0 rfl, List.forall_mem_cons.mpr ⟨s_gf d_X3_wouldCrack_1 rfl (by decide) n_X3 in_X3 rfl k_1_113, List.forall_mem_cons.mpr ⟨s_gf d_X3_wouldCrack_4 rfl (by decide) n_X0 in_X0 rfl k_1_65, List.forall_mem_cons.mpr ⟨s_iload_n d_X3_wouldCrack_7 rfl, List.forall_mem_cons.mpr ⟨s_cN (host := "StoneApologies") rfl d_X3_wouldCrack_8 (List.mem_of_getElem? (i := 10) rfl) k_2_57 k_1_1 k_2_58 ⟨by decide, by decide⟩ (by decide +kernel) (by decide), List.forall_mem_cons.mpr ⟨s_iconst d_X3_wouldCrack_11 rfl, List.forall_mem_cons.mpr ⟨s_ic_ne d_X3_wouldCrack_12 (by decide), List.forall_mem_cons.mpr ⟨s_iconst d_X3_wouldCrack_15 rfl, List.forall_mem_cons.mpr ⟨s_zr d_X3_wouldCrack_16 rfl, List.forall_mem_cons.mpr ⟨s_iconst d_X3_wouldCrack_17 rfl, List.forall_mem_cons.mpr ⟨s_istore_n d_X3_wouldCrack_18 rfl (by decide), List.forall_mem_cons.mpr ⟨s_iload_n d_X3_wouldCrack_19 rfl, fun _ h => absurd h List.not_mem_nil⟩⟩⟩⟩⟩⟩⟩⟩⟩⟩⟩⟩
def t_X3_wouldCrack_1 : List (Nat × QO) := [(20, o_al 0 21), (21, o_gf 3 0 24), (24, o_gf 0 2 27), (27, o_ic (fun x y => decide (y ≤ x)) 48 30), (30, o_al 0 31), (31, o_il 3 32), (32, o_il 1 33), (33, o_il 2 34), (34, o_cV 1 3 36 5 4 37), (37, o_if (fun x => decide (x = 0)) 42 40), (40, o_k 1 41), (41, o_ir true)]
theorem ts_X3_wouldCrack_1 (sx : QX) : ∀ q ∈ t_X3_wouldCrack_1, q_Snd sx RX3 cX3_wouldCrack 4 (some .boolean) q.1 q.2 := List.forall_mem_cons.mpr ⟨s_aload_n d_X3_wouldCrack_20 rfl, List.forall_mem_cons.mpr ⟨s_gf d_X3_wouldCrack_21 rfl (by decide) n_X3 in_X3 rfl k_1_113, List.forall_mem_cons.mpr ⟨s_gf d_X3_wouldCrack_24 rfl (by decide) n_X0 in_X0 rfl k_1_60, List.forall_mem_cons.mpr ⟨s_ic_ge d_X3_wouldCrack_27 (by decide), List.forall_mem_cons.mpr ⟨s_aload_n d_X3_wouldCrack_30 rfl, List.forall_mem_cons.mpr ⟨s_iload_n d_X3_wouldCrack_31 rfl, List.forall_mem_cons.mpr ⟨s_iload_n d_X3_wouldCrack_32 rfl, List.forall_mem_cons.mpr ⟨s_iload_n d_X3_wouldCrack_33 rfl, List.forall_mem_cons.mpr ⟨s_cV (T := TX3) (N := 8) rfl d_X3_wouldCrack_34 rfl k_3_48 k_3_50 k_0_13 k_1_4 k_3_51 ⟨by decide, by decide⟩ (by decide +kernel) (by decide), List.forall_mem_cons.mpr ⟨s_if_eq d_X3_wouldCrack_37 (by decide), List.forall_mem_cons.mpr ⟨s_iconst d_X3_wouldCrack_40 rfl, List.forall_mem_cons.mpr ⟨s_zr d_X3_wouldCrack_41 rfl, fun _ h => absurd h List.not_mem_nil⟩⟩⟩⟩⟩⟩⟩⟩⟩⟩⟩⟩
def t_X3_wouldCrack_2 : List (Nat × QO) := [(42, o_inc 3 1 45), (45, o_goto 19), (48, o_k 0 49), (49, o_ir true)]
theorem ts_X3_wouldCrack_2 (sx : QX) : ∀ q ∈ t_X3_wouldCrack_2, q_Snd sx RX3 cX3_wouldCrack 4 (some .boolean) q.1 q.2 := List.forall_mem_cons.mpr ⟨s_iinc d_X3_wouldCrack_42 rfl (by decide), List.forall_mem_cons.mpr ⟨s_goto d_X3_wouldCrack_45 (by decide), List.forall_mem_cons.mpr ⟨s_iconst d_X3_wouldCrack_48 rfl, List.forall_mem_cons.mpr ⟨s_zr d_X3_wouldCrack_49 rfl, fun _ h => absurd h List.not_mem_nil⟩⟩⟩⟩
def t_X3_wouldCrack (pc : Nat) : Option QO := cond (Nat.ble pc 19) (q_look (t_X3_wouldCrack_0) pc) (cond (Nat.ble pc 41) (q_look (t_X3_wouldCrack_1) pc) (q_look (t_X3_wouldCrack_2) pc))
theorem ts_X3_wouldCrack (sx : QX) (pc : Nat) : ∀ o, t_X3_wouldCrack pc = some o → q_Snd sx RX3 cX3_wouldCrack 4 (some .boolean) pc o := by
  unfold t_X3_wouldCrack
  exact q_cb (q_look_all (ts_X3_wouldCrack_0 sx)) (q_cb (q_look_all (ts_X3_wouldCrack_1 sx)) (q_look_all (ts_X3_wouldCrack_2 sx)))
theorem d_X3_belies_0 : decode cX3_belies 0 = .ok (.aload_n 0, 1) := by decide +kernel
theorem d_X3_belies_1 : decode cX3_belies 1 = .ok (.iload_n 1, 1) := by decide +kernel
theorem d_X3_belies_2 : decode cX3_belies 2 = .ok (.iload_n 2, 1) := by decide +kernel
theorem d_X3_belies_3 : decode cX3_belies 3 = .ok (.invokevirtual 115, 3) := by decide +kernel
theorem d_X3_belies_6 : decode cX3_belies 6 = .ok (.istore 4, 2) := by decide +kernel
theorem d_X3_belies_8 : decode cX3_belies 8 = .ok (.iload 4, 2) := by decide +kernel
theorem d_X3_belies_10 : decode cX3_belies 10 = .ok (.bipush (-4), 2) := by decide +kernel
theorem d_X3_belies_12 : decode cX3_belies 12 = .ok (.if_icmp .eq 13, 3) := by decide +kernel
theorem d_X3_belies_15 : decode cX3_belies 15 = .ok (.iload 4, 2) := by decide +kernel
theorem d_X3_belies_17 : decode cX3_belies 17 = .ok (.iload_n 3, 1) := by decide +kernel
theorem d_X3_belies_18 : decode cX3_belies 18 = .ok (.if_icmp .eq 7, 3) := by decide +kernel
theorem d_X3_belies_21 : decode cX3_belies 21 = .ok (.iconst 1, 1) := by decide +kernel
theorem d_X3_belies_22 : decode cX3_belies 22 = .ok (.goto 4, 3) := by decide +kernel
theorem d_X3_belies_25 : decode cX3_belies 25 = .ok (.iconst 0, 1) := by decide +kernel
theorem d_X3_belies_26 : decode cX3_belies 26 = .ok (.ireturn, 1) := by decide +kernel
def t_X3_belies_0 : List (Nat × QO) := [(0, o_al 0 1), (1, o_il 1 2), (2, o_il 2 3), (3, o_cV 1 3 27 3 3 6), (6, o_is 4 8), (8, o_il 4 10), (10, o_k (-4) 12), (12, o_ic (fun x y => decide (x = y)) 25 15), (15, o_il 4 17), (17, o_il 3 18), (18, o_ic (fun x y => decide (x = y)) 25 21), (21, o_k 1 22)]
theorem ts_X3_belies_0 (sx : QX) : ∀ q ∈ t_X3_belies_0, q_Snd sx RX3 cX3_belies 5 (some .boolean) q.1 q.2 := List.forall_mem_cons.mpr ⟨s_aload_n d_X3_belies_0 rfl, List.forall_mem_cons.mpr ⟨s_iload_n d_X3_belies_1 rfl, List.forall_mem_cons.mpr ⟨s_iload_n d_X3_belies_2 rfl, List.forall_mem_cons.mpr ⟨s_cV (T := TX3) (N := 8) rfl d_X3_belies_3 rfl k_3_52 k_2_206 k_2_207 k_1_4 k_2_208 ⟨by decide, by decide⟩ (by decide +kernel) (by decide), List.forall_mem_cons.mpr ⟨s_istore d_X3_belies_6 (by decide), List.forall_mem_cons.mpr ⟨s_iload d_X3_belies_8, List.forall_mem_cons.mpr ⟨s_bipush d_X3_belies_10 rfl, List.forall_mem_cons.mpr ⟨s_ic_eq d_X3_belies_12 (by decide), List.forall_mem_cons.mpr ⟨s_iload d_X3_belies_15, List.forall_mem_cons.mpr ⟨s_iload_n d_X3_belies_17 rfl, List.forall_mem_cons.mpr ⟨s_ic_eq d_X3_belies_18 (by decide), List.forall_mem_cons.mpr ⟨s_iconst d_X3_belies_21 rfl, fun _ h => absurd h List.not_mem_nil⟩⟩⟩⟩⟩⟩⟩⟩⟩⟩⟩⟩
def t_X3_belies_1 : List (Nat × QO) := [(22, o_goto 26), (25, o_k 0 26), (26, o_ir true)]
theorem ts_X3_belies_1 (sx : QX) : ∀ q ∈ t_X3_belies_1, q_Snd sx RX3 cX3_belies 5 (some .boolean) q.1 q.2 := List.forall_mem_cons.mpr ⟨s_goto d_X3_belies_22 (by decide), List.forall_mem_cons.mpr ⟨s_iconst d_X3_belies_25 rfl, List.forall_mem_cons.mpr ⟨s_zr d_X3_belies_26 rfl, fun _ h => absurd h List.not_mem_nil⟩⟩⟩
def t_X3_belies (pc : Nat) : Option QO := cond (Nat.ble pc 21) (q_look (t_X3_belies_0) pc) (q_look (t_X3_belies_1) pc)
theorem ts_X3_belies (sx : QX) (pc : Nat) : ∀ o, t_X3_belies pc = some o → q_Snd sx RX3 cX3_belies 5 (some .boolean) pc o := by
  unfold t_X3_belies
  exact q_cb (q_look_all (ts_X3_belies_0 sx)) (q_look_all (ts_X3_belies_1 sx))
theorem d_X3_night_0 : decode cX3_night 0 = .ok (.iconst 0, 1) := by decide +kernel
theorem d_X3_night_1 : decode cX3_night 1 = .ok (.istore_n 1, 1) := by decide +kernel
theorem d_X3_night_2 : decode cX3_night 2 = .ok (.iload_n 1, 1) := by decide +kernel
theorem d_X3_night_3 : decode cX3_night 3 = .ok (.aload_n 0, 1) := by decide +kernel
theorem d_X3_night_4 : decode cX3_night 4 = .ok (.getfield 30, 3) := by decide +kernel
theorem d_X3_night_7 : decode cX3_night 7 = .ok (.getfield 58, 3) := by decide +kernel
theorem d_X3_night_10 : decode cX3_night 10 = .ok (.if_icmp .ge 33, 3) := by decide +kernel
theorem d_X3_night_13 : decode cX3_night 13 = .ok (.aload_n 0, 1) := by decide +kernel
theorem d_X3_night_14 : decode cX3_night 14 = .ok (.getfield 15, 3) := by decide +kernel
theorem d_X3_night_17 : decode cX3_night 17 = .ok (.iload_n 1, 1) := by decide +kernel
theorem d_X3_night_18 : decode cX3_night 18 = .ok (.invokestatic 54, 3) := by decide +kernel
theorem d_X3_night_21 : decode cX3_night 21 = .ok (.ifCond .ne 16, 3) := by decide +kernel
theorem d_X3_night_24 : decode cX3_night 24 = .ok (.aload_n 0, 1) := by decide +kernel
theorem d_X3_night_25 : decode cX3_night 25 = .ok (.iload_n 1, 1) := by decide +kernel
theorem d_X3_night_26 : decode cX3_night 26 = .ok (.aload_n 0, 1) := by decide +kernel
theorem d_X3_night_27 : decode cX3_night 27 = .ok (.getfield 30, 3) := by decide +kernel
theorem d_X3_night_30 : decode cX3_night 30 = .ok (.iload_n 1, 1) := by decide +kernel
theorem d_X3_night_31 : decode cX3_night 31 = .ok (.invokevirtual 118, 3) := by decide +kernel
theorem d_X3_night_34 : decode cX3_night 34 = .ok (.invokevirtual 101, 3) := by decide +kernel
theorem d_X3_night_37 : decode cX3_night 37 = .ok (.iinc 1 1, 3) := by decide +kernel
theorem d_X3_night_40 : decode cX3_night 40 = .ok (.goto (-38), 3) := by decide +kernel
theorem d_X3_night_43 : decode cX3_night 43 = .ok (.aload_n 0, 1) := by decide +kernel
theorem d_X3_night_44 : decode cX3_night 44 = .ok (.getfield 30, 3) := by decide +kernel
theorem d_X3_night_47 : decode cX3_night 47 = .ok (.getfield 42, 3) := by decide +kernel
theorem d_X3_night_50 : decode cX3_night 50 = .ok (.aload_n 0, 1) := by decide +kernel
theorem d_X3_night_51 : decode cX3_night 51 = .ok (.getfield 21, 3) := by decide +kernel
theorem d_X3_night_54 : decode cX3_night 54 = .ok (.invokestatic 47, 3) := by decide +kernel
theorem d_X3_night_57 : decode cX3_night 57 = .ok (.aload_n 0, 1) := by decide +kernel
theorem d_X3_night_58 : decode cX3_night 58 = .ok (.dup, 1) := by decide +kernel
theorem d_X3_night_59 : decode cX3_night 59 = .ok (.getfield 34, 3) := by decide +kernel
theorem d_X3_night_62 : decode cX3_night 62 = .ok (.iconst 1, 1) := by decide +kernel
theorem d_X3_night_63 : decode cX3_night 63 = .ok (.iadd, 1) := by decide +kernel
theorem d_X3_night_64 : decode cX3_night 64 = .ok (.putfield 34, 3) := by decide +kernel
theorem d_X3_night_67 : decode cX3_night 67 = .ok (.return_, 1) := by decide +kernel
def t_X3_night_0 : List (Nat × QO) := [(0, o_k 0 1), (1, o_is 1 2), (2, o_il 1 3), (3, o_al 0 4), (4, o_gf 3 0 7), (7, o_gf 0 0 10), (10, o_ic (fun x y => decide (y ≤ x)) 43 13), (13, o_al 0 14), (14, o_gf 3 3 17), (17, o_il 1 18), (18, o_cS 1 97 2 2 21), (21, o_if (fun x => decide (x ≠ 0)) 37 24)]
theorem ts_X3_night_0 (sx : QX) : ∀ q ∈ t_X3_night_0, q_Snd sx RX3 cX3_night 2 none q.1 q.2 := List.forall_mem_cons.mpr ⟨s_iconst d_X3_night_0 rfl, List.forall_mem_cons.mpr ⟨s_istore_n d_X3_night_1 rfl (by decide), List.forall_mem_cons.mpr ⟨s_iload_n d_X3_night_2 rfl, List.forall_mem_cons.mpr ⟨s_aload_n d_X3_night_3 rfl, List.forall_mem_cons.mpr ⟨s_gf d_X3_night_4 rfl (by decide) n_X3 in_X3 rfl k_1_113, List.forall_mem_cons.mpr ⟨s_gf d_X3_night_7 rfl (by decide) n_X0 in_X0 rfl k_1_52, List.forall_mem_cons.mpr ⟨s_ic_ge d_X3_night_10 (by decide), List.forall_mem_cons.mpr ⟨s_aload_n d_X3_night_13 rfl, List.forall_mem_cons.mpr ⟨s_gf d_X3_night_14 rfl (by decide) n_X3 in_X3 rfl k_1_122, List.forall_mem_cons.mpr ⟨s_iload_n d_X3_night_17 rfl, List.forall_mem_cons.mpr ⟨s_cN (host := "StoneApologies") rfl d_X3_night_18 (List.mem_of_getElem? (i := 10) rfl) k_2_57 k_1_1 k_2_58 ⟨by decide, by decide⟩ (by decide +kernel) (by decide), List.forall_mem_cons.mpr ⟨s_if_ne d_X3_night_21 (by decide), fun _ h => absurd h List.not_mem_nil⟩⟩⟩⟩⟩⟩⟩⟩⟩⟩⟩⟩
def t_X3_night_1 : List (Nat × QO) := [(24, o_al 0 25), (25, o_il 1 26), (26, o_al 0 27), (27, o_gf 3 0 30), (30, o_il 1 31), (31, o_cV 1 0 10 2 2 34), (34, o_cV 0 3 32 4 3 37), (37, o_inc 1 1 40), (40, o_goto 2), (43, o_al 0 44), (44, o_gf 3 0 47), (47, o_gf 0 8 50)]
theorem ts_X3_night_1 (sx : QX) : ∀ q ∈ t_X3_night_1, q_Snd sx RX3 cX3_night 2 none q.1 q.2 := List.forall_mem_cons.mpr ⟨s_aload_n d_X3_night_24 rfl, List.forall_mem_cons.mpr ⟨s_iload_n d_X3_night_25 rfl, List.forall_mem_cons.mpr ⟨s_aload_n d_X3_night_26 rfl, List.forall_mem_cons.mpr ⟨s_gf d_X3_night_27 rfl (by decide) n_X3 in_X3 rfl k_1_113, List.forall_mem_cons.mpr ⟨s_iload_n d_X3_night_30 rfl, List.forall_mem_cons.mpr ⟨s_cV (T := TX0) (N := 12) rfl d_X3_night_31 rfl k_3_61 k_3_62 k_3_63 k_1_3 k_3_64 ⟨by decide, by decide⟩ (by decide +kernel) (by decide), List.forall_mem_cons.mpr ⟨s_cV (T := TX3) (N := 8) rfl d_X3_night_34 rfl k_3_19 k_3_21 k_0_12 k_1_4 k_3_22 ⟨by decide, by decide⟩ (by decide +kernel) (by decide), List.forall_mem_cons.mpr ⟨s_iinc d_X3_night_37 rfl (by decide), List.forall_mem_cons.mpr ⟨s_goto d_X3_night_40 (by decide), List.forall_mem_cons.mpr ⟨s_aload_n d_X3_night_43 rfl, List.forall_mem_cons.mpr ⟨s_gf d_X3_night_44 rfl (by decide) n_X3 in_X3 rfl k_1_113, List.forall_mem_cons.mpr ⟨s_gf d_X3_night_47 rfl (by decide) n_X0 in_X0 rfl k_1_74, fun _ h => absurd h List.not_mem_nil⟩⟩⟩⟩⟩⟩⟩⟩⟩⟩⟩⟩
def t_X3_night_2 : List (Nat × QO) := [(50, o_al 0 51), (51, o_gf 3 5 54), (54, o_cS 0 100 3 2 57), (57, o_al 0 58), (58, o_dup 59), (59, o_gf 3 1 62), (62, o_k 1 63), (63, o_b (fun x y => x + y) 64), (64, o_pf 3 1 67), (67, o_vr)]
theorem ts_X3_night_2 (sx : QX) : ∀ q ∈ t_X3_night_2, q_Snd sx RX3 cX3_night 2 none q.1 q.2 := List.forall_mem_cons.mpr ⟨s_aload_n d_X3_night_50 rfl, List.forall_mem_cons.mpr ⟨s_gf d_X3_night_51 rfl (by decide) n_X3 in_X3 rfl k_1_126, List.forall_mem_cons.mpr ⟨s_cN (host := "StoneApologies") rfl d_X3_night_54 (List.mem_of_getElem? (i := 9) rfl) k_2_111 k_1_1 k_2_112 ⟨by decide, by decide⟩ (by decide +kernel) (by decide), List.forall_mem_cons.mpr ⟨s_aload_n d_X3_night_57 rfl, List.forall_mem_cons.mpr ⟨s_dup d_X3_night_58, List.forall_mem_cons.mpr ⟨s_gf d_X3_night_59 rfl (by decide) n_X3 in_X3 rfl k_1_117, List.forall_mem_cons.mpr ⟨s_iconst d_X3_night_62 rfl, List.forall_mem_cons.mpr ⟨s_iadd d_X3_night_63, List.forall_mem_cons.mpr ⟨s_pf tyX3 d_X3_night_64 rfl (by decide) n_X3 in_X3 rfl k_1_117 tyX3_ok nmX3 rfl rfl, List.forall_mem_cons.mpr ⟨s_vr d_X3_night_67 rfl, fun _ h => absurd h List.not_mem_nil⟩⟩⟩⟩⟩⟩⟩⟩⟩⟩
def t_X3_night (pc : Nat) : Option QO := cond (Nat.ble pc 21) (q_look (t_X3_night_0) pc) (cond (Nat.ble pc 47) (q_look (t_X3_night_1) pc) (q_look (t_X3_night_2) pc))
theorem ts_X3_night (sx : QX) (pc : Nat) : ∀ o, t_X3_night pc = some o → q_Snd sx RX3 cX3_night 2 none pc o := by
  unfold t_X3_night
  exact q_cb (q_look_all (ts_X3_night_0 sx)) (q_cb (q_look_all (ts_X3_night_1 sx)) (q_look_all (ts_X3_night_2 sx)))
theorem d_X3_dearest_0 : decode cX3_dearest 0 = .ok (.iconst 0, 1) := by decide +kernel
theorem d_X3_dearest_1 : decode cX3_dearest 1 = .ok (.istore_n 2, 1) := by decide +kernel
theorem d_X3_dearest_2 : decode cX3_dearest 2 = .ok (.bipush (-4), 2) := by decide +kernel
theorem d_X3_dearest_4 : decode cX3_dearest 4 = .ok (.istore_n 3, 1) := by decide +kernel
theorem d_X3_dearest_5 : decode cX3_dearest 5 = .ok (.iconst 0, 1) := by decide +kernel
theorem d_X3_dearest_6 : decode cX3_dearest 6 = .ok (.istore 4, 2) := by decide +kernel
theorem d_X3_dearest_8 : decode cX3_dearest 8 = .ok (.iload 4, 2) := by decide +kernel
theorem d_X3_dearest_10 : decode cX3_dearest 10 = .ok (.aload_n 0, 1) := by decide +kernel
theorem d_X3_dearest_11 : decode cX3_dearest 11 = .ok (.getfield 30, 3) := by decide +kernel
theorem d_X3_dearest_14 : decode cX3_dearest 14 = .ok (.getfield 61, 3) := by decide +kernel
theorem d_X3_dearest_17 : decode cX3_dearest 17 = .ok (.if_icmp .ge 76, 3) := by decide +kernel
theorem d_X3_dearest_20 : decode cX3_dearest 20 = .ok (.aload_n 0, 1) := by decide +kernel
theorem d_X3_dearest_21 : decode cX3_dearest 21 = .ok (.getfield 21, 3) := by decide +kernel
theorem d_X3_dearest_24 : decode cX3_dearest 24 = .ok (.iload 4, 2) := by decide +kernel
theorem d_X3_dearest_26 : decode cX3_dearest 26 = .ok (.invokestatic 54, 3) := by decide +kernel
theorem d_X3_dearest_29 : decode cX3_dearest 29 = .ok (.ifCond .gt 6, 3) := by decide +kernel
theorem d_X3_dearest_32 : decode cX3_dearest 32 = .ok (.goto 55, 3) := by decide +kernel
theorem d_X3_dearest_35 : decode cX3_dearest 35 = .ok (.iconst 0, 1) := by decide +kernel
theorem d_X3_dearest_36 : decode cX3_dearest 36 = .ok (.istore 5, 2) := by decide +kernel
theorem d_X3_dearest_38 : decode cX3_dearest 38 = .ok (.iload 5, 2) := by decide +kernel
theorem d_X3_dearest_40 : decode cX3_dearest 40 = .ok (.aload_n 0, 1) := by decide +kernel
theorem d_X3_dearest_41 : decode cX3_dearest 41 = .ok (.getfield 30, 3) := by decide +kernel
theorem d_X3_dearest_44 : decode cX3_dearest 44 = .ok (.getfield 122, 3) := by decide +kernel
theorem d_X3_dearest_47 : decode cX3_dearest 47 = .ok (.if_icmp .ge 40, 3) := by decide +kernel
theorem d_X3_dearest_50 : decode cX3_dearest 50 = .ok (.aload_n 0, 1) := by decide +kernel
theorem d_X3_dearest_51 : decode cX3_dearest 51 = .ok (.iload 4, 2) := by decide +kernel
theorem d_X3_dearest_53 : decode cX3_dearest 53 = .ok (.iload_n 1, 1) := by decide +kernel
theorem d_X3_dearest_54 : decode cX3_dearest 54 = .ok (.iload 5, 2) := by decide +kernel
theorem d_X3_dearest_56 : decode cX3_dearest 56 = .ok (.invokevirtual 86, 3) := by decide +kernel
theorem d_X3_dearest_59 : decode cX3_dearest 59 = .ok (.istore 6, 2) := by decide +kernel
theorem d_X3_dearest_61 : decode cX3_dearest 61 = .ok (.iload 6, 2) := by decide +kernel
theorem d_X3_dearest_63 : decode cX3_dearest 63 = .ok (.iload_n 2, 1) := by decide +kernel
theorem d_X3_dearest_64 : decode cX3_dearest 64 = .ok (.if_icmp .gt 6, 3) := by decide +kernel
theorem d_X3_dearest_67 : decode cX3_dearest 67 = .ok (.goto 14, 3) := by decide +kernel
theorem d_X3_dearest_70 : decode cX3_dearest 70 = .ok (.iload 6, 2) := by decide +kernel
theorem d_X3_dearest_72 : decode cX3_dearest 72 = .ok (.istore_n 2, 1) := by decide +kernel
theorem d_X3_dearest_73 : decode cX3_dearest 73 = .ok (.iload 4, 2) := by decide +kernel
theorem d_X3_dearest_75 : decode cX3_dearest 75 = .ok (.iload 5, 2) := by decide +kernel
theorem d_X3_dearest_77 : decode cX3_dearest 77 = .ok (.invokestatic 125, 3) := by decide +kernel
theorem d_X3_dearest_80 : decode cX3_dearest 80 = .ok (.istore_n 3, 1) := by decide +kernel
theorem d_X3_dearest_81 : decode cX3_dearest 81 = .ok (.iinc 5 1, 3) := by decide +kernel
theorem d_X3_dearest_84 : decode cX3_dearest 84 = .ok (.goto (-46), 3) := by decide +kernel
theorem d_X3_dearest_87 : decode cX3_dearest 87 = .ok (.iinc 4 1, 3) := by decide +kernel
theorem d_X3_dearest_90 : decode cX3_dearest 90 = .ok (.goto (-82), 3) := by decide +kernel
theorem d_X3_dearest_93 : decode cX3_dearest 93 = .ok (.iload_n 3, 1) := by decide +kernel
theorem d_X3_dearest_94 : decode cX3_dearest 94 = .ok (.ireturn, 1) := by decide +kernel
def t_X3_dearest_0 : List (Nat × QO) := [(0, o_k 0 1), (1, o_is 2 2), (2, o_k (-4) 4), (4, o_is 3 5), (5, o_k 0 6), (6, o_is 4 8), (8, o_il 4 10), (10, o_al 0 11), (11, o_gf 3 0 14), (14, o_gf 0 2 17), (17, o_ic (fun x y => decide (y ≤ x)) 93 20), (20, o_al 0 21)]
theorem ts_X3_dearest_0 (sx : QX) : ∀ q ∈ t_X3_dearest_0, q_Snd sx RX3 cX3_dearest 7 (some .int) q.1 q.2 := List.forall_mem_cons.mpr ⟨s_iconst d_X3_dearest_0 rfl, List.forall_mem_cons.mpr ⟨s_istore_n d_X3_dearest_1 rfl (by decide), List.forall_mem_cons.mpr ⟨s_bipush d_X3_dearest_2 rfl, List.forall_mem_cons.mpr ⟨s_istore_n d_X3_dearest_4 rfl (by decide), List.forall_mem_cons.mpr ⟨s_iconst d_X3_dearest_5 rfl, List.forall_mem_cons.mpr ⟨s_istore d_X3_dearest_6 (by decide), List.forall_mem_cons.mpr ⟨s_iload d_X3_dearest_8, List.forall_mem_cons.mpr ⟨s_aload_n d_X3_dearest_10 rfl, List.forall_mem_cons.mpr ⟨s_gf d_X3_dearest_11 rfl (by decide) n_X3 in_X3 rfl k_1_113, List.forall_mem_cons.mpr ⟨s_gf d_X3_dearest_14 rfl (by decide) n_X0 in_X0 rfl k_1_60, List.forall_mem_cons.mpr ⟨s_ic_ge d_X3_dearest_17 (by decide), List.forall_mem_cons.mpr ⟨s_aload_n d_X3_dearest_20 rfl, fun _ h => absurd h List.not_mem_nil⟩⟩⟩⟩⟩⟩⟩⟩⟩⟩⟩⟩
def t_X3_dearest_1 : List (Nat × QO) := [(21, o_gf 3 5 24), (24, o_il 4 26), (26, o_cS 1 97 2 2 29), (29, o_if (fun x => decide (0 < x)) 35 32), (32, o_goto 87), (35, o_k 0 36), (36, o_is 5 38), (38, o_il 5 40), (40, o_al 0 41), (41, o_gf 3 0 44), (44, o_gf 0 1 47), (47, o_ic (fun x y => decide (y ≤ x)) 87 50)]
theorem ts_X3_dearest_1 (sx : QX) : ∀ q ∈ t_X3_dearest_1, q_Snd sx RX3 cX3_dearest 7 (some .int) q.1 q.2 := List.forall_mem_cons.mpr ⟨s_gf d_X3_dearest_21 rfl (by decide) n_X3 in_X3 rfl k_1_126, List.forall_mem_cons.mpr ⟨s_iload d_X3_dearest_24, List.forall_mem_cons.mpr ⟨s_cN (host := "StoneApologies") rfl d_X3_dearest_26 (List.mem_of_getElem? (i := 10) rfl) k_2_57 k_1_1 k_2_58 ⟨by decide, by decide⟩ (by decide +kernel) (by decide), List.forall_mem_cons.mpr ⟨s_if_gt d_X3_dearest_29 (by decide), List.forall_mem_cons.mpr ⟨s_goto d_X3_dearest_32 (by decide), List.forall_mem_cons.mpr ⟨s_iconst d_X3_dearest_35 rfl, List.forall_mem_cons.mpr ⟨s_istore d_X3_dearest_36 (by decide), List.forall_mem_cons.mpr ⟨s_iload d_X3_dearest_38, List.forall_mem_cons.mpr ⟨s_aload_n d_X3_dearest_40 rfl, List.forall_mem_cons.mpr ⟨s_gf d_X3_dearest_41 rfl (by decide) n_X3 in_X3 rfl k_1_113, List.forall_mem_cons.mpr ⟨s_gf d_X3_dearest_44 rfl (by decide) n_X0 in_X0 rfl k_1_56, List.forall_mem_cons.mpr ⟨s_ic_ge d_X3_dearest_47 (by decide), fun _ h => absurd h List.not_mem_nil⟩⟩⟩⟩⟩⟩⟩⟩⟩⟩⟩⟩
def t_X3_dearest_2 : List (Nat × QO) := [(50, o_al 0 51), (51, o_il 4 53), (53, o_il 1 54), (54, o_il 5 56), (56, o_cV 1 3 26 5 4 59), (59, o_is 6 61), (61, o_il 6 63), (63, o_il 2 64), (64, o_ic (fun x y => decide (y < x)) 70 67), (67, o_goto 81), (70, o_il 6 72), (72, o_is 2 73)]
theorem ts_X3_dearest_2 (sx : QX) : ∀ q ∈ t_X3_dearest_2, q_Snd sx RX3 cX3_dearest 7 (some .int) q.1 q.2 := List.forall_mem_cons.mpr ⟨s_aload_n d_X3_dearest_50 rfl, List.forall_mem_cons.mpr ⟨s_iload d_X3_dearest_51, List.forall_mem_cons.mpr ⟨s_iload_n d_X3_dearest_53 rfl, List.forall_mem_cons.mpr ⟨s_iload d_X3_dearest_54, List.forall_mem_cons.mpr ⟨s_cV (T := TX3) (N := 8) rfl d_X3_dearest_56 rfl k_3_9 k_2_219 k_2_220 k_1_4 k_2_221 ⟨by decide, by decide⟩ (by decide +kernel) (by decide), List.forall_mem_cons.mpr ⟨s_istore d_X3_dearest_59 (by decide), List.forall_mem_cons.mpr ⟨s_iload d_X3_dearest_61, List.forall_mem_cons.mpr ⟨s_iload_n d_X3_dearest_63 rfl, List.forall_mem_cons.mpr ⟨s_ic_gt d_X3_dearest_64 (by decide), List.forall_mem_cons.mpr ⟨s_goto d_X3_dearest_67 (by decide), List.forall_mem_cons.mpr ⟨s_iload d_X3_dearest_70, List.forall_mem_cons.mpr ⟨s_istore_n d_X3_dearest_72 rfl (by decide), fun _ h => absurd h List.not_mem_nil⟩⟩⟩⟩⟩⟩⟩⟩⟩⟩⟩⟩
def t_X3_dearest_3 : List (Nat × QO) := [(73, o_il 4 75), (75, o_il 5 77), (77, o_cS 1 92 2 2 80), (80, o_is 3 81), (81, o_inc 5 1 84), (84, o_goto 38), (87, o_inc 4 1 90), (90, o_goto 8), (93, o_il 3 94), (94, o_ir false)]
theorem ts_X3_dearest_3 (sx : QX) : ∀ q ∈ t_X3_dearest_3, q_Snd sx RX3 cX3_dearest 7 (some .int) q.1 q.2 := List.forall_mem_cons.mpr ⟨s_iload d_X3_dearest_73, List.forall_mem_cons.mpr ⟨s_iload d_X3_dearest_75, List.forall_mem_cons.mpr ⟨s_cN (host := "StoneApologies") rfl d_X3_dearest_77 (List.mem_of_getElem? (i := 13) rfl) k_3_94 k_1_1 k_3_95 ⟨by decide, by decide⟩ (by decide +kernel) (by decide), List.forall_mem_cons.mpr ⟨s_istore_n d_X3_dearest_80 rfl (by decide), List.forall_mem_cons.mpr ⟨s_iinc d_X3_dearest_81 rfl (by decide), List.forall_mem_cons.mpr ⟨s_goto d_X3_dearest_84 (by decide), List.forall_mem_cons.mpr ⟨s_iinc d_X3_dearest_87 rfl (by decide), List.forall_mem_cons.mpr ⟨s_goto d_X3_dearest_90 (by decide), List.forall_mem_cons.mpr ⟨s_iload_n d_X3_dearest_93 rfl, List.forall_mem_cons.mpr ⟨s_ir d_X3_dearest_94 rfl, fun _ h => absurd h List.not_mem_nil⟩⟩⟩⟩⟩⟩⟩⟩⟩⟩
def t_X3_dearest (pc : Nat) : Option QO := cond (Nat.ble pc 47) (cond (Nat.ble pc 20) (q_look (t_X3_dearest_0) pc) (q_look (t_X3_dearest_1) pc)) (cond (Nat.ble pc 72) (q_look (t_X3_dearest_2) pc) (q_look (t_X3_dearest_3) pc))
theorem ts_X3_dearest (sx : QX) (pc : Nat) : ∀ o, t_X3_dearest pc = some o → q_Snd sx RX3 cX3_dearest 7 (some .int) pc o := by
  unfold t_X3_dearest
  exact q_cb (q_cb (q_look_all (ts_X3_dearest_0 sx)) (q_look_all (ts_X3_dearest_1 sx))) (q_cb (q_look_all (ts_X3_dearest_2 sx)) (q_look_all (ts_X3_dearest_3 sx)))
theorem d_X3_askAll_0 : decode cX3_askAll 0 = .ok (.aload_n 0, 1) := by decide +kernel
theorem d_X3_askAll_1 : decode cX3_askAll 1 = .ok (.invokevirtual 128, 3) := by decide +kernel
theorem d_X3_askAll_4 : decode cX3_askAll 4 = .ok (.istore_n 2, 1) := by decide +kernel
theorem d_X3_askAll_5 : decode cX3_askAll 5 = .ok (.iload_n 2, 1) := by decide +kernel
theorem d_X3_askAll_6 : decode cX3_askAll 6 = .ok (.ifCond .le 44, 3) := by decide +kernel
theorem d_X3_askAll_9 : decode cX3_askAll 9 = .ok (.aload_n 0, 1) := by decide +kernel
theorem d_X3_askAll_10 : decode cX3_askAll 10 = .ok (.getfield 15, 3) := by decide +kernel
theorem d_X3_askAll_13 : decode cX3_askAll 13 = .ok (.iload_n 1, 1) := by decide +kernel
theorem d_X3_askAll_14 : decode cX3_askAll 14 = .ok (.invokestatic 54, 3) := by decide +kernel
theorem d_X3_askAll_17 : decode cX3_askAll 17 = .ok (.ifCond .ne 33, 3) := by decide +kernel
theorem d_X3_askAll_20 : decode cX3_askAll 20 = .ok (.aload_n 0, 1) := by decide +kernel
theorem d_X3_askAll_21 : decode cX3_askAll 21 = .ok (.iload_n 1, 1) := by decide +kernel
theorem d_X3_askAll_22 : decode cX3_askAll 22 = .ok (.invokevirtual 132, 3) := by decide +kernel
theorem d_X3_askAll_25 : decode cX3_askAll 25 = .ok (.istore_n 3, 1) := by decide +kernel
theorem d_X3_askAll_26 : decode cX3_askAll 26 = .ok (.iload_n 3, 1) := by decide +kernel
theorem d_X3_askAll_27 : decode cX3_askAll 27 = .ok (.ifCond .ge 4, 3) := by decide +kernel
theorem d_X3_askAll_30 : decode cX3_askAll 30 = .ok (.return_, 1) := by decide +kernel
theorem d_X3_askAll_31 : decode cX3_askAll 31 = .ok (.aload_n 0, 1) := by decide +kernel
theorem d_X3_askAll_32 : decode cX3_askAll 32 = .ok (.iload_n 3, 1) := by decide +kernel
theorem d_X3_askAll_33 : decode cX3_askAll 33 = .ok (.bipush 10, 2) := by decide +kernel
theorem d_X3_askAll_35 : decode cX3_askAll 35 = .ok (.idiv, 1) := by decide +kernel
theorem d_X3_askAll_36 : decode cX3_askAll 36 = .ok (.iload_n 1, 1) := by decide +kernel
theorem d_X3_askAll_37 : decode cX3_askAll 37 = .ok (.iload_n 3, 1) := by decide +kernel
theorem d_X3_askAll_38 : decode cX3_askAll 38 = .ok (.bipush 10, 2) := by decide +kernel
theorem d_X3_askAll_40 : decode cX3_askAll 40 = .ok (.irem, 1) := by decide +kernel
theorem d_X3_askAll_41 : decode cX3_askAll 41 = .ok (.invokevirtual 135, 3) := by decide +kernel
theorem d_X3_askAll_44 : decode cX3_askAll 44 = .ok (.iinc 2 (-1), 3) := by decide +kernel
theorem d_X3_askAll_47 : decode cX3_askAll 47 = .ok (.goto (-42), 3) := by decide +kernel
theorem d_X3_askAll_50 : decode cX3_askAll 50 = .ok (.return_, 1) := by decide +kernel
def t_X3_askAll_0 : List (Nat × QO) := [(0, o_al 0 1), (1, o_cV 1 3 23 3 1 4), (4, o_is 2 5), (5, o_il 2 6), (6, o_if (fun x => decide (x ≤ 0)) 50 9), (9, o_al 0 10), (10, o_gf 3 3 13), (13, o_il 1 14), (14, o_cS 1 97 2 2 17), (17, o_if (fun x => decide (x ≠ 0)) 50 20), (20, o_al 0 21), (21, o_il 1 22)]
theorem ts_X3_askAll_0 (sx : QX) : ∀ q ∈ t_X3_askAll_0, q_Snd sx RX3 cX3_askAll 4 none q.1 q.2 := List.forall_mem_cons.mpr ⟨s_aload_n d_X3_askAll_0 rfl, List.forall_mem_cons.mpr ⟨s_cV (T := TX3) (N := 8) rfl d_X3_askAll_1 rfl k_3_134 k_3_135 k_3_136 k_1_4 k_3_137 ⟨by decide, by decide⟩ (by decide +kernel) (by decide), List.forall_mem_cons.mpr ⟨s_istore_n d_X3_askAll_4 rfl (by decide), List.forall_mem_cons.mpr ⟨s_iload_n d_X3_askAll_5 rfl, List.forall_mem_cons.mpr ⟨s_if_le d_X3_askAll_6 (by decide), List.forall_mem_cons.mpr ⟨s_aload_n d_X3_askAll_9 rfl, List.forall_mem_cons.mpr ⟨s_gf d_X3_askAll_10 rfl (by decide) n_X3 in_X3 rfl k_1_122, List.forall_mem_cons.mpr ⟨s_iload_n d_X3_askAll_13 rfl, List.forall_mem_cons.mpr ⟨s_cN (host := "StoneApologies") rfl d_X3_askAll_14 (List.mem_of_getElem? (i := 10) rfl) k_2_57 k_1_1 k_2_58 ⟨by decide, by decide⟩ (by decide +kernel) (by decide), List.forall_mem_cons.mpr ⟨s_if_ne d_X3_askAll_17 (by decide), List.forall_mem_cons.mpr ⟨s_aload_n d_X3_askAll_20 rfl, List.forall_mem_cons.mpr ⟨s_iload_n d_X3_askAll_21 rfl, fun _ h => absurd h List.not_mem_nil⟩⟩⟩⟩⟩⟩⟩⟩⟩⟩⟩⟩
def t_X3_askAll_1 : List (Nat × QO) := [(22, o_cV 1 3 38 7 2 25), (25, o_is 3 26), (26, o_il 3 27), (27, o_if (fun x => decide (0 ≤ x)) 31 30), (30, o_vr), (31, o_al 0 32), (32, o_il 3 33), (33, o_k 10 35), (35, o_bz (fun x y => x / y) 36), (36, o_il 1 37), (37, o_il 3 38), (38, o_k 10 40)]
theorem ts_X3_askAll_1 (sx : QX) : ∀ q ∈ t_X3_askAll_1, q_Snd sx RX3 cX3_askAll 4 none q.1 q.2 := List.forall_mem_cons.mpr ⟨s_cV (T := TX3) (N := 8) rfl d_X3_askAll_22 rfl k_3_138 k_3_90 k_3_91 k_1_4 k_3_92 ⟨by decide, by decide⟩ (by decide +kernel) (by decide), List.forall_mem_cons.mpr ⟨s_istore_n d_X3_askAll_25 rfl (by decide), List.forall_mem_cons.mpr ⟨s_iload_n d_X3_askAll_26 rfl, List.forall_mem_cons.mpr ⟨s_if_ge d_X3_askAll_27 (by decide), List.forall_mem_cons.mpr ⟨s_vr d_X3_askAll_30 rfl, List.forall_mem_cons.mpr ⟨s_aload_n d_X3_askAll_31 rfl, List.forall_mem_cons.mpr ⟨s_iload_n d_X3_askAll_32 rfl, List.forall_mem_cons.mpr ⟨s_bipush d_X3_askAll_33 rfl, List.forall_mem_cons.mpr ⟨s_idiv d_X3_askAll_35, List.forall_mem_cons.mpr ⟨s_iload_n d_X3_askAll_36 rfl, List.forall_mem_cons.mpr ⟨s_iload_n d_X3_askAll_37 rfl, List.forall_mem_cons.mpr ⟨s_bipush d_X3_askAll_38 rfl, fun _ h => absurd h List.not_mem_nil⟩⟩⟩⟩⟩⟩⟩⟩⟩⟩⟩⟩
def t_X3_askAll_2 : List (Nat × QO) := [(40, o_bz (fun x y => x - x / y * y) 41), (41, o_cV 0 3 29 6 4 44), (44, o_inc 2 (-1) 47), (47, o_goto 5), (50, o_vr)]
theorem ts_X3_askAll_2 (sx : QX) : ∀ q ∈ t_X3_askAll_2, q_Snd sx RX3 cX3_askAll 4 none q.1 q.2 := List.forall_mem_cons.mpr ⟨s_irem d_X3_askAll_40, List.forall_mem_cons.mpr ⟨s_cV (T := TX3) (N := 8) rfl d_X3_askAll_41 rfl k_3_139 k_3_6 k_3_7 k_1_4 k_3_8 ⟨by decide, by decide⟩ (by decide +kernel) (by decide), List.forall_mem_cons.mpr ⟨s_iinc d_X3_askAll_44 rfl (by decide), List.forall_mem_cons.mpr ⟨s_goto d_X3_askAll_47 (by decide), List.forall_mem_cons.mpr ⟨s_vr d_X3_askAll_50 rfl, fun _ h => absurd h List.not_mem_nil⟩⟩⟩⟩⟩
def t_X3_askAll (pc : Nat) : Option QO := cond (Nat.ble pc 21) (q_look (t_X3_askAll_0) pc) (cond (Nat.ble pc 38) (q_look (t_X3_askAll_1) pc) (q_look (t_X3_askAll_2) pc))
theorem ts_X3_askAll (sx : QX) (pc : Nat) : ∀ o, t_X3_askAll pc = some o → q_Snd sx RX3 cX3_askAll 4 none pc o := by
  unfold t_X3_askAll
  exact q_cb (q_look_all (ts_X3_askAll_0 sx)) (q_cb (q_look_all (ts_X3_askAll_1 sx)) (q_look_all (ts_X3_askAll_2 sx)))
theorem d_X3_askOne_0 : decode cX3_askOne 0 = .ok (.aload_n 0, 1) := by decide +kernel
theorem d_X3_askOne_1 : decode cX3_askOne 1 = .ok (.getfield 21, 3) := by decide +kernel
theorem d_X3_askOne_4 : decode cX3_askOne 4 = .ok (.iload_n 2, 1) := by decide +kernel
theorem d_X3_askOne_5 : decode cX3_askOne 5 = .ok (.invokestatic 54, 3) := by decide +kernel
theorem d_X3_askOne_8 : decode cX3_askOne 8 = .ok (.istore_n 3, 1) := by decide +kernel
theorem d_X3_askOne_9 : decode cX3_askOne 9 = .ok (.iload_n 3, 1) := by decide +kernel
theorem d_X3_askOne_10 : decode cX3_askOne 10 = .ok (.ifCond .le 42, 3) := by decide +kernel
theorem d_X3_askOne_13 : decode cX3_askOne 13 = .ok (.aload_n 0, 1) := by decide +kernel
theorem d_X3_askOne_14 : decode cX3_askOne 14 = .ok (.getfield 15, 3) := by decide +kernel
theorem d_X3_askOne_17 : decode cX3_askOne 17 = .ok (.iload_n 1, 1) := by decide +kernel
theorem d_X3_askOne_18 : decode cX3_askOne 18 = .ok (.invokestatic 54, 3) := by decide +kernel
theorem d_X3_askOne_21 : decode cX3_askOne 21 = .ok (.ifCond .ne 31, 3) := by decide +kernel
theorem d_X3_askOne_24 : decode cX3_askOne 24 = .ok (.aload_n 0, 1) := by decide +kernel
theorem d_X3_askOne_25 : decode cX3_askOne 25 = .ok (.iload_n 2, 1) := by decide +kernel
theorem d_X3_askOne_26 : decode cX3_askOne 26 = .ok (.iload_n 1, 1) := by decide +kernel
theorem d_X3_askOne_27 : decode cX3_askOne 27 = .ok (.invokevirtual 138, 3) := by decide +kernel
theorem d_X3_askOne_30 : decode cX3_askOne 30 = .ok (.istore 4, 2) := by decide +kernel
theorem d_X3_askOne_32 : decode cX3_askOne 32 = .ok (.iload 4, 2) := by decide +kernel
theorem d_X3_askOne_34 : decode cX3_askOne 34 = .ok (.ifCond .ge 4, 3) := by decide +kernel
theorem d_X3_askOne_37 : decode cX3_askOne 37 = .ok (.return_, 1) := by decide +kernel
theorem d_X3_askOne_38 : decode cX3_askOne 38 = .ok (.aload_n 0, 1) := by decide +kernel
theorem d_X3_askOne_39 : decode cX3_askOne 39 = .ok (.iload_n 2, 1) := by decide +kernel
theorem d_X3_askOne_40 : decode cX3_askOne 40 = .ok (.iload_n 1, 1) := by decide +kernel
theorem d_X3_askOne_41 : decode cX3_askOne 41 = .ok (.iload 4, 2) := by decide +kernel
theorem d_X3_askOne_43 : decode cX3_askOne 43 = .ok (.invokevirtual 135, 3) := by decide +kernel
theorem d_X3_askOne_46 : decode cX3_askOne 46 = .ok (.iinc 3 (-1), 3) := by decide +kernel
theorem d_X3_askOne_49 : decode cX3_askOne 49 = .ok (.goto (-40), 3) := by decide +kernel
theorem d_X3_askOne_52 : decode cX3_askOne 52 = .ok (.return_, 1) := by decide +kernel
def t_X3_askOne_0 : List (Nat × QO) := [(0, o_al 0 1), (1, o_gf 3 5 4), (4, o_il 2 5), (5, o_cS 1 97 2 2 8), (8, o_is 3 9), (9, o_il 3 10), (10, o_if (fun x => decide (x ≤ 0)) 52 13), (13, o_al 0 14), (14, o_gf 3 3 17), (17, o_il 1 18), (18, o_cS 1 97 2 2 21), (21, o_if (fun x => decide (x ≠ 0)) 52 24)]
theorem ts_X3_askOne_0 (sx : QX) : ∀ q ∈ t_X3_askOne_0, q_Snd sx RX3 cX3_askOne 5 none q.1 q.2 := List.forall_mem_cons.mpr ⟨s_aload_n d_X3_askOne_0 rfl, List.forall_mem_cons.mpr ⟨s_gf d_X3_askOne_1 rfl (by decide) n_X3 in_X3 rfl k_1_126, List.forall_mem_cons.mpr ⟨s_iload_n d_X3_askOne_4 rfl, List.forall_mem_cons.mpr ⟨s_cN (host := "StoneApologies") rfl d_X3_askOne_5 (List.mem_of_getElem? (i := 10) rfl) k_2_57 k_1_1 k_2_58 ⟨by decide, by decide⟩ (by decide +kernel) (by decide), List.forall_mem_cons.mpr ⟨s_istore_n d_X3_askOne_8 rfl (by decide), List.forall_mem_cons.mpr ⟨s_iload_n d_X3_askOne_9 rfl, List.forall_mem_cons.mpr ⟨s_if_le d_X3_askOne_10 (by decide), List.forall_mem_cons.mpr ⟨s_aload_n d_X3_askOne_13 rfl, List.forall_mem_cons.mpr ⟨s_gf d_X3_askOne_14 rfl (by decide) n_X3 in_X3 rfl k_1_122, List.forall_mem_cons.mpr ⟨s_iload_n d_X3_askOne_17 rfl, List.forall_mem_cons.mpr ⟨s_cN (host := "StoneApologies") rfl d_X3_askOne_18 (List.mem_of_getElem? (i := 10) rfl) k_2_57 k_1_1 k_2_58 ⟨by decide, by decide⟩ (by decide +kernel) (by decide), List.forall_mem_cons.mpr ⟨s_if_ne d_X3_askOne_21 (by decide), fun _ h => absurd h List.not_mem_nil⟩⟩⟩⟩⟩⟩⟩⟩⟩⟩⟩⟩
def t_X3_askOne_1 : List (Nat × QO) := [(24, o_al 0 25), (25, o_il 2 26), (26, o_il 1 27), (27, o_cV 1 3 41 7 3 30), (30, o_is 4 32), (32, o_il 4 34), (34, o_if (fun x => decide (0 ≤ x)) 38 37), (37, o_vr), (38, o_al 0 39), (39, o_il 2 40), (40, o_il 1 41), (41, o_il 4 43)]
theorem ts_X3_askOne_1 (sx : QX) : ∀ q ∈ t_X3_askOne_1, q_Snd sx RX3 cX3_askOne 5 none q.1 q.2 := List.forall_mem_cons.mpr ⟨s_aload_n d_X3_askOne_24 rfl, List.forall_mem_cons.mpr ⟨s_iload_n d_X3_askOne_25 rfl, List.forall_mem_cons.mpr ⟨s_iload_n d_X3_askOne_26 rfl, List.forall_mem_cons.mpr ⟨s_cV (T := TX3) (N := 8) rfl d_X3_askOne_27 rfl k_3_148 k_3_150 k_0_15 k_1_4 k_3_151 ⟨by decide, by decide⟩ (by decide +kernel) (by decide), List.forall_mem_cons.mpr ⟨s_istore d_X3_askOne_30 (by decide), List.forall_mem_cons.mpr ⟨s_iload d_X3_askOne_32, List.forall_mem_cons.mpr ⟨s_if_ge d_X3_askOne_34 (by decide), List.forall_mem_cons.mpr ⟨s_vr d_X3_askOne_37 rfl, List.forall_mem_cons.mpr ⟨s_aload_n d_X3_askOne_38 rfl, List.forall_mem_cons.mpr ⟨s_iload_n d_X3_askOne_39 rfl, List.forall_mem_cons.mpr ⟨s_iload_n d_X3_askOne_40 rfl, List.forall_mem_cons.mpr ⟨s_iload d_X3_askOne_41, fun _ h => absurd h List.not_mem_nil⟩⟩⟩⟩⟩⟩⟩⟩⟩⟩⟩⟩
def t_X3_askOne_2 : List (Nat × QO) := [(43, o_cV 0 3 29 6 4 46), (46, o_inc 3 (-1) 49), (49, o_goto 9), (52, o_vr)]
theorem ts_X3_askOne_2 (sx : QX) : ∀ q ∈ t_X3_askOne_2, q_Snd sx RX3 cX3_askOne 5 none q.1 q.2 := List.forall_mem_cons.mpr ⟨s_cV (T := TX3) (N := 8) rfl d_X3_askOne_43 rfl k_3_139 k_3_6 k_3_7 k_1_4 k_3_8 ⟨by decide, by decide⟩ (by decide +kernel) (by decide), List.forall_mem_cons.mpr ⟨s_iinc d_X3_askOne_46 rfl (by decide), List.forall_mem_cons.mpr ⟨s_goto d_X3_askOne_49 (by decide), List.forall_mem_cons.mpr ⟨s_vr d_X3_askOne_52 rfl, fun _ h => absurd h List.not_mem_nil⟩⟩⟩⟩
def t_X3_askOne (pc : Nat) : Option QO := cond (Nat.ble pc 21) (q_look (t_X3_askOne_0) pc) (cond (Nat.ble pc 41) (q_look (t_X3_askOne_1) pc) (q_look (t_X3_askOne_2) pc))
theorem ts_X3_askOne (sx : QX) (pc : Nat) : ∀ o, t_X3_askOne pc = some o → q_Snd sx RX3 cX3_askOne 5 none pc o := by
  unfold t_X3_askOne
  exact q_cb (q_look_all (ts_X3_askOne_0 sx)) (q_cb (q_look_all (ts_X3_askOne_1 sx)) (q_look_all (ts_X3_askOne_2 sx)))
theorem d_X3_dearestWord_0 : decode cX3_dearestWord 0 = .ok (.iconst 0, 1) := by decide +kernel
theorem d_X3_dearestWord_1 : decode cX3_dearestWord 1 = .ok (.istore_n 3, 1) := by decide +kernel
theorem d_X3_dearestWord_2 : decode cX3_dearestWord 2 = .ok (.bipush (-4), 2) := by decide +kernel
theorem d_X3_dearestWord_4 : decode cX3_dearestWord 4 = .ok (.istore 4, 2) := by decide +kernel
theorem d_X3_dearestWord_6 : decode cX3_dearestWord 6 = .ok (.iconst 0, 1) := by decide +kernel
theorem d_X3_dearestWord_7 : decode cX3_dearestWord 7 = .ok (.istore 5, 2) := by decide +kernel
theorem d_X3_dearestWord_9 : decode cX3_dearestWord 9 = .ok (.iload 5, 2) := by decide +kernel
theorem d_X3_dearestWord_11 : decode cX3_dearestWord 11 = .ok (.aload_n 0, 1) := by decide +kernel
theorem d_X3_dearestWord_12 : decode cX3_dearestWord 12 = .ok (.getfield 30, 3) := by decide +kernel
theorem d_X3_dearestWord_15 : decode cX3_dearestWord 15 = .ok (.getfield 122, 3) := by decide +kernel
theorem d_X3_dearestWord_18 : decode cX3_dearestWord 18 = .ok (.if_icmp .ge 35, 3) := by decide +kernel
theorem d_X3_dearestWord_21 : decode cX3_dearestWord 21 = .ok (.aload_n 0, 1) := by decide +kernel
theorem d_X3_dearestWord_22 : decode cX3_dearestWord 22 = .ok (.iload_n 1, 1) := by decide +kernel
theorem d_X3_dearestWord_23 : decode cX3_dearestWord 23 = .ok (.iload_n 2, 1) := by decide +kernel
theorem d_X3_dearestWord_24 : decode cX3_dearestWord 24 = .ok (.iload 5, 2) := by decide +kernel
theorem d_X3_dearestWord_26 : decode cX3_dearestWord 26 = .ok (.invokevirtual 86, 3) := by decide +kernel
theorem d_X3_dearestWord_29 : decode cX3_dearestWord 29 = .ok (.istore 6, 2) := by decide +kernel
theorem d_X3_dearestWord_31 : decode cX3_dearestWord 31 = .ok (.iload 6, 2) := by decide +kernel
theorem d_X3_dearestWord_33 : decode cX3_dearestWord 33 = .ok (.iload_n 3, 1) := by decide +kernel
theorem d_X3_dearestWord_34 : decode cX3_dearestWord 34 = .ok (.if_icmp .gt 6, 3) := by decide +kernel
theorem d_X3_dearestWord_37 : decode cX3_dearestWord 37 = .ok (.goto 10, 3) := by decide +kernel
theorem d_X3_dearestWord_40 : decode cX3_dearestWord 40 = .ok (.iload 6, 2) := by decide +kernel
theorem d_X3_dearestWord_42 : decode cX3_dearestWord 42 = .ok (.istore_n 3, 1) := by decide +kernel
theorem d_X3_dearestWord_43 : decode cX3_dearestWord 43 = .ok (.iload 5, 2) := by decide +kernel
theorem d_X3_dearestWord_45 : decode cX3_dearestWord 45 = .ok (.istore 4, 2) := by decide +kernel
theorem d_X3_dearestWord_47 : decode cX3_dearestWord 47 = .ok (.iinc 5 1, 3) := by decide +kernel
theorem d_X3_dearestWord_50 : decode cX3_dearestWord 50 = .ok (.goto (-41), 3) := by decide +kernel
theorem d_X3_dearestWord_53 : decode cX3_dearestWord 53 = .ok (.iload 4, 2) := by decide +kernel
theorem d_X3_dearestWord_55 : decode cX3_dearestWord 55 = .ok (.ireturn, 1) := by decide +kernel
def t_X3_dearestWord_0 : List (Nat × QO) := [(0, o_k 0 1), (1, o_is 3 2), (2, o_k (-4) 4), (4, o_is 4 6), (6, o_k 0 7), (7, o_is 5 9), (9, o_il 5 11), (11, o_al 0 12), (12, o_gf 3 0 15), (15, o_gf 0 1 18), (18, o_ic (fun x y => decide (y ≤ x)) 53 21), (21, o_al 0 22)]
theorem ts_X3_dearestWord_0 (sx : QX) : ∀ q ∈ t_X3_dearestWord_0, q_Snd sx RX3 cX3_dearestWord 7 (some .int) q.1 q.2 := List.forall_mem_cons.mpr ⟨s_iconst d_X3_dearestWord_0 rfl, List.forall_mem_cons.mpr ⟨s_istore_n d_X3_dearestWord_1 rfl (by decide), List.forall_mem_cons.mpr ⟨s_bipush d_X3_dearestWord_2 rfl, List.forall_mem_cons.mpr ⟨s_istore d_X3_dearestWord_4 (by decide), List.forall_mem_cons.mpr ⟨s_iconst d_X3_dearestWord_6 rfl, List.forall_mem_cons.mpr ⟨s_istore d_X3_dearestWord_7 (by decide), List.forall_mem_cons.mpr ⟨s_iload d_X3_dearestWord_9, List.forall_mem_cons.mpr ⟨s_aload_n d_X3_dearestWord_11 rfl, List.forall_mem_cons.mpr ⟨s_gf d_X3_dearestWord_12 rfl (by decide) n_X3 in_X3 rfl k_1_113, List.forall_mem_cons.mpr ⟨s_gf d_X3_dearestWord_15 rfl (by decide) n_X0 in_X0 rfl k_1_56, List.forall_mem_cons.mpr ⟨s_ic_ge d_X3_dearestWord_18 (by decide), List.forall_mem_cons.mpr ⟨s_aload_n d_X3_dearestWord_21 rfl, fun _ h => absurd h List.not_mem_nil⟩⟩⟩⟩⟩⟩⟩⟩⟩⟩⟩⟩
def t_X3_dearestWord_1 : List (Nat × QO) := [(22, o_il 1 23), (23, o_il 2 24), (24, o_il 5 26), (26, o_cV 1 3 26 5 4 29), (29, o_is 6 31), (31, o_il 6 33), (33, o_il 3 34), (34, o_ic (fun x y => decide (y < x)) 40 37), (37, o_goto 47), (40, o_il 6 42), (42, o_is 3 43), (43, o_il 5 45)]
theorem ts_X3_dearestWord_1 (sx : QX) : ∀ q ∈ t_X3_dearestWord_1, q_Snd sx RX3 cX3_dearestWord 7 (some .int) q.1 q.2 := List.forall_mem_cons.mpr ⟨s_iload_n d_X3_dearestWord_22 rfl, List.forall_mem_cons.mpr ⟨s_iload_n d_X3_dearestWord_23 rfl, List.forall_mem_cons.mpr ⟨s_iload d_X3_dearestWord_24, List.forall_mem_cons.mpr ⟨s_cV (T := TX3) (N := 8) rfl d_X3_dearestWord_26 rfl k_3_9 k_2_219 k_2_220 k_1_4 k_2_221 ⟨by decide, by decide⟩ (by decide +kernel) (by decide), List.forall_mem_cons.mpr ⟨s_istore d_X3_dearestWord_29 (by decide), List.forall_mem_cons.mpr ⟨s_iload d_X3_dearestWord_31, List.forall_mem_cons.mpr ⟨s_iload_n d_X3_dearestWord_33 rfl, List.forall_mem_cons.mpr ⟨s_ic_gt d_X3_dearestWord_34 (by decide), List.forall_mem_cons.mpr ⟨s_goto d_X3_dearestWord_37 (by decide), List.forall_mem_cons.mpr ⟨s_iload d_X3_dearestWord_40, List.forall_mem_cons.mpr ⟨s_istore_n d_X3_dearestWord_42 rfl (by decide), List.forall_mem_cons.mpr ⟨s_iload d_X3_dearestWord_43, fun _ h => absurd h List.not_mem_nil⟩⟩⟩⟩⟩⟩⟩⟩⟩⟩⟩⟩
def t_X3_dearestWord_2 : List (Nat × QO) := [(45, o_is 4 47), (47, o_inc 5 1 50), (50, o_goto 9), (53, o_il 4 55), (55, o_ir false)]
theorem ts_X3_dearestWord_2 (sx : QX) : ∀ q ∈ t_X3_dearestWord_2, q_Snd sx RX3 cX3_dearestWord 7 (some .int) q.1 q.2 := List.forall_mem_cons.mpr ⟨s_istore d_X3_dearestWord_45 (by decide), List.forall_mem_cons.mpr ⟨s_iinc d_X3_dearestWord_47 rfl (by decide), List.forall_mem_cons.mpr ⟨s_goto d_X3_dearestWord_50 (by decide), List.forall_mem_cons.mpr ⟨s_iload d_X3_dearestWord_53, List.forall_mem_cons.mpr ⟨s_ir d_X3_dearestWord_55 rfl, fun _ h => absurd h List.not_mem_nil⟩⟩⟩⟩⟩
def t_X3_dearestWord (pc : Nat) : Option QO := cond (Nat.ble pc 21) (q_look (t_X3_dearestWord_0) pc) (cond (Nat.ble pc 43) (q_look (t_X3_dearestWord_1) pc) (q_look (t_X3_dearestWord_2) pc))
theorem ts_X3_dearestWord (sx : QX) (pc : Nat) : ∀ o, t_X3_dearestWord pc = some o → q_Snd sx RX3 cX3_dearestWord 7 (some .int) pc o := by
  unfold t_X3_dearestWord
  exact q_cb (q_look_all (ts_X3_dearestWord_0 sx)) (q_cb (q_look_all (ts_X3_dearestWord_1 sx)) (q_look_all (ts_X3_dearestWord_2 sx)))
theorem d_X3_mildest_0 : decode cX3_mildest 0 = .ok (.bipush (-4), 2) := by decide +kernel
theorem d_X3_mildest_2 : decode cX3_mildest 2 = .ok (.istore_n 2, 1) := by decide +kernel
theorem d_X3_mildest_3 : decode cX3_mildest 3 = .ok (.iconst 0, 1) := by decide +kernel
theorem d_X3_mildest_4 : decode cX3_mildest 4 = .ok (.istore_n 3, 1) := by decide +kernel
theorem d_X3_mildest_5 : decode cX3_mildest 5 = .ok (.iconst 0, 1) := by decide +kernel
theorem d_X3_mildest_6 : decode cX3_mildest 6 = .ok (.istore 4, 2) := by decide +kernel
theorem d_X3_mildest_8 : decode cX3_mildest 8 = .ok (.iconst 0, 1) := by decide +kernel
theorem d_X3_mildest_9 : decode cX3_mildest 9 = .ok (.istore 5, 2) := by decide +kernel
theorem d_X3_mildest_11 : decode cX3_mildest 11 = .ok (.iload 5, 2) := by decide +kernel
theorem d_X3_mildest_13 : decode cX3_mildest 13 = .ok (.aload_n 0, 1) := by decide +kernel
theorem d_X3_mildest_14 : decode cX3_mildest 14 = .ok (.getfield 30, 3) := by decide +kernel
theorem d_X3_mildest_17 : decode cX3_mildest 17 = .ok (.getfield 61, 3) := by decide +kernel
theorem d_X3_mildest_20 : decode cX3_mildest 20 = .ok (.if_icmp .ge 128, 3) := by decide +kernel
theorem d_X3_mildest_23 : decode cX3_mildest 23 = .ok (.aload_n 0, 1) := by decide +kernel
theorem d_X3_mildest_24 : decode cX3_mildest 24 = .ok (.getfield 21, 3) := by decide +kernel
theorem d_X3_mildest_27 : decode cX3_mildest 27 = .ok (.iload 5, 2) := by decide +kernel
theorem d_X3_mildest_29 : decode cX3_mildest 29 = .ok (.invokestatic 54, 3) := by decide +kernel
theorem d_X3_mildest_32 : decode cX3_mildest 32 = .ok (.ifCond .gt 6, 3) := by decide +kernel
theorem d_X3_mildest_35 : decode cX3_mildest 35 = .ok (.goto 107, 3) := by decide +kernel
theorem d_X3_mildest_38 : decode cX3_mildest 38 = .ok (.iconst 0, 1) := by decide +kernel
theorem d_X3_mildest_39 : decode cX3_mildest 39 = .ok (.istore 6, 2) := by decide +kernel
theorem d_X3_mildest_41 : decode cX3_mildest 41 = .ok (.iload 6, 2) := by decide +kernel
theorem d_X3_mildest_43 : decode cX3_mildest 43 = .ok (.aload_n 0, 1) := by decide +kernel
theorem d_X3_mildest_44 : decode cX3_mildest 44 = .ok (.getfield 30, 3) := by decide +kernel
theorem d_X3_mildest_47 : decode cX3_mildest 47 = .ok (.getfield 122, 3) := by decide +kernel
theorem d_X3_mildest_50 : decode cX3_mildest 50 = .ok (.if_icmp .ge 92, 3) := by decide +kernel
theorem d_X3_mildest_53 : decode cX3_mildest 53 = .ok (.aload_n 0, 1) := by decide +kernel
theorem d_X3_mildest_54 : decode cX3_mildest 54 = .ok (.iload 5, 2) := by decide +kernel
theorem d_X3_mildest_56 : decode cX3_mildest 56 = .ok (.iload_n 1, 1) := by decide +kernel
theorem d_X3_mildest_57 : decode cX3_mildest 57 = .ok (.iload 6, 2) := by decide +kernel
theorem d_X3_mildest_59 : decode cX3_mildest 59 = .ok (.invokevirtual 86, 3) := by decide +kernel
theorem d_X3_mildest_62 : decode cX3_mildest 62 = .ok (.istore 7, 2) := by decide +kernel
theorem d_X3_mildest_64 : decode cX3_mildest 64 = .ok (.iload 7, 2) := by decide +kernel
theorem d_X3_mildest_66 : decode cX3_mildest 66 = .ok (.ifCond .gt 6, 3) := by decide +kernel
theorem d_X3_mildest_69 : decode cX3_mildest 69 = .ok (.goto 67, 3) := by decide +kernel
theorem d_X3_mildest_72 : decode cX3_mildest 72 = .ok (.aload_n 0, 1) := by decide +kernel
theorem d_X3_mildest_73 : decode cX3_mildest 73 = .ok (.iload_n 1, 1) := by decide +kernel
theorem d_X3_mildest_74 : decode cX3_mildest 74 = .ok (.iload 6, 2) := by decide +kernel
theorem d_X3_mildest_76 : decode cX3_mildest 76 = .ok (.invokevirtual 141, 3) := by decide +kernel
theorem d_X3_mildest_79 : decode cX3_mildest 79 = .ok (.istore 8, 2) := by decide +kernel
theorem d_X3_mildest_81 : decode cX3_mildest 81 = .ok (.iload_n 2, 1) := by decide +kernel
theorem d_X3_mildest_82 : decode cX3_mildest 82 = .ok (.bipush (-4), 2) := by decide +kernel
theorem d_X3_mildest_84 : decode cX3_mildest 84 = .ok (.if_icmp .eq 22, 3) := by decide +kernel
theorem d_X3_mildest_87 : decode cX3_mildest 87 = .ok (.iload 8, 2) := by decide +kernel
theorem d_X3_mildest_89 : decode cX3_mildest 89 = .ok (.iload_n 3, 1) := by decide +kernel
theorem d_X3_mildest_90 : decode cX3_mildest 90 = .ok (.if_icmp .lt 16, 3) := by decide +kernel
theorem d_X3_mildest_93 : decode cX3_mildest 93 = .ok (.iload 8, 2) := by decide +kernel
theorem d_X3_mildest_95 : decode cX3_mildest 95 = .ok (.iload_n 3, 1) := by decide +kernel
theorem d_X3_mildest_96 : decode cX3_mildest 96 = .ok (.if_icmp .ne 14, 3) := by decide +kernel
theorem d_X3_mildest_99 : decode cX3_mildest 99 = .ok (.iload 7, 2) := by decide +kernel
theorem d_X3_mildest_101 : decode cX3_mildest 101 = .ok (.iload 4, 2) := by decide +kernel
theorem d_X3_mildest_103 : decode cX3_mildest 103 = .ok (.if_icmp .le 7, 3) := by decide +kernel
theorem d_X3_mildest_106 : decode cX3_mildest 106 = .ok (.iconst 1, 1) := by decide +kernel
theorem d_X3_mildest_107 : decode cX3_mildest 107 = .ok (.goto 4, 3) := by decide +kernel
theorem d_X3_mildest_110 : decode cX3_mildest 110 = .ok (.iconst 0, 1) := by decide +kernel
theorem d_X3_mildest_111 : decode cX3_mildest 111 = .ok (.istore 9, 2) := by decide +kernel
theorem d_X3_mildest_113 : decode cX3_mildest 113 = .ok (.iload 9, 2) := by decide +kernel
theorem d_X3_mildest_115 : decode cX3_mildest 115 = .ok (.ifCond .ne 6, 3) := by decide +kernel
theorem d_X3_mildest_118 : decode cX3_mildest 118 = .ok (.goto 18, 3) := by decide +kernel
theorem d_X3_mildest_121 : decode cX3_mildest 121 = .ok (.iload 5, 2) := by decide +kernel
theorem d_X3_mildest_123 : decode cX3_mildest 123 = .ok (.iload 6, 2) := by decide +kernel
theorem d_X3_mildest_125 : decode cX3_mildest 125 = .ok (.invokestatic 125, 3) := by decide +kernel
theorem d_X3_mildest_128 : decode cX3_mildest 128 = .ok (.istore_n 2, 1) := by decide +kernel
theorem d_X3_mildest_129 : decode cX3_mildest 129 = .ok (.iload 8, 2) := by decide +kernel
theorem d_X3_mildest_131 : decode cX3_mildest 131 = .ok (.istore_n 3, 1) := by decide +kernel
theorem d_X3_mildest_132 : decode cX3_mildest 132 = .ok (.iload 7, 2) := by decide +kernel
theorem d_X3_mildest_134 : decode cX3_mildest 134 = .ok (.istore 4, 2) := by decide +kernel
theorem d_X3_mildest_136 : decode cX3_mildest 136 = .ok (.iinc 6 1, 3) := by decide +kernel
theorem d_X3_mildest_139 : decode cX3_mildest 139 = .ok (.goto (-98), 3) := by decide +kernel
theorem d_X3_mildest_142 : decode cX3_mildest 142 = .ok (.iinc 5 1, 3) := by decide +kernel
theorem d_X3_mildest_145 : decode cX3_mildest 145 = .ok (.goto (-134), 3) := by decide +kernel
theorem d_X3_mildest_148 : decode cX3_mildest 148 = .ok (.iload_n 2, 1) := by decide +kernel
theorem d_X3_mildest_149 : decode cX3_mildest 149 = .ok (.ireturn, 1) := by decide +kernel
def t_X3_mildest_0 : List (Nat × QO) := [(0, o_k (-4) 2), (2, o_is 2 3), (3, o_k 0 4), (4, o_is 3 5), (5, o_k 0 6), (6, o_is 4 8), (8, o_k 0 9), (9, o_is 5 11), (11, o_il 5 13), (13, o_al 0 14), (14, o_gf 3 0 17), (17, o_gf 0 2 20)]
theorem ts_X3_mildest_0 (sx : QX) : ∀ q ∈ t_X3_mildest_0, q_Snd sx RX3 cX3_mildest 10 (some .int) q.1 q.2 := List.forall_mem_cons.mpr ⟨s_bipush d_X3_mildest_0 rfl, List.forall_mem_cons.mpr ⟨s_istore_n d_X3_mildest_2 rfl (by decide), List.forall_mem_cons.mpr ⟨s_iconst d_X3_mildest_3 rfl, List.forall_mem_cons.mpr ⟨s_istore_n d_X3_mildest_4 rfl (by decide), List.forall_mem_cons.mpr ⟨s_iconst d_X3_mildest_5 rfl, List.forall_mem_cons.mpr ⟨s_istore d_X3_mildest_6 (by decide), List.forall_mem_cons.mpr ⟨s_iconst d_X3_mildest_8 rfl, List.forall_mem_cons.mpr ⟨s_istore d_X3_mildest_9 (by decide), List.forall_mem_cons.mpr ⟨s_iload d_X3_mildest_11, List.forall_mem_cons.mpr ⟨s_aload_n d_X3_mildest_13 rfl, List.forall_mem_cons.mpr ⟨s_gf d_X3_mildest_14 rfl (by decide) n_X3 in_X3 rfl k_1_113, List.forall_mem_cons.mpr ⟨s_gf d_X3_mildest_17 rfl (by decide) n_X0 in_X0 rfl k_1_60, fun _ h => absurd h List.not_mem_nil⟩⟩⟩⟩⟩⟩⟩⟩⟩⟩⟩⟩
def t_X3_mildest_1 : List (Nat × QO) := [(20, o_ic (fun x y => decide (y ≤ x)) 148 23), (23, o_al 0 24), (24, o_gf 3 5 27), (27, o_il 5 29), (29, o_cS 1 97 2 2 32), (32, o_if (fun x => decide (0 < x)) 38 35), (35, o_goto 142), (38, o_k 0 39), (39, o_is 6 41), (41, o_il 6 43), (43, o_al 0 44), (44, o_gf 3 0 47)]
theorem ts_X3_mildest_1 (sx : QX) : ∀ q ∈ t_X3_mildest_1, q_Snd sx RX3 cX3_mildest 10 (some .int) q.1 q.2 := List.forall_mem_cons.mpr ⟨s_ic_ge d_X3_mildest_20 (by decide), List.forall_mem_cons.mpr ⟨s_aload_n d_X3_mildest_23 rfl, List.forall_mem_cons.mpr ⟨s_gf d_X3_mildest_24 rfl (by decide) n_X3 in_X3 rfl k_1_126, List.forall_mem_cons.mpr ⟨s_iload d_X3_mildest_27, List.forall_mem_cons.mpr ⟨s_cN (host := "StoneApologies") rfl d_X3_mildest_29 (List.mem_of_getElem? (i := 10) rfl) k_2_57 k_1_1 k_2_58 ⟨by decide, by decide⟩ (by decide +kernel) (by decide), List.forall_mem_cons.mpr ⟨s_if_gt d_X3_mildest_32 (by decide), List.forall_mem_cons.mpr ⟨s_goto d_X3_mildest_35 (by decide), List.forall_mem_cons.mpr ⟨s_iconst d_X3_mildest_38 rfl, List.forall_mem_cons.mpr ⟨s_istore d_X3_mildest_39 (by decide), List.forall_mem_cons.mpr ⟨s_iload d_X3_mildest_41, List.forall_mem_cons.mpr ⟨s_aload_n d_X3_mildest_43 rfl, List.forall_mem_cons.mpr ⟨s_gf d_X3_mildest_44 rfl (by decide) n_X3 in_X3 rfl k_1_113, fun _ h => absurd h List.not_mem_nil⟩⟩⟩⟩⟩⟩⟩⟩⟩⟩⟩⟩
def t_X3_mildest_2 : List (Nat × QO) := [(47, o_gf 0 1 50), (50, o_ic (fun x y => decide (y ≤ x)) 142 53), (53, o_al 0 54), (54, o_il 5 56), (56, o_il 1 57), (57, o_il 6 59), (59, o_cV 1 3 26 5 4 62), (62, o_is 7 64), (64, o_il 7 66), (66, o_if (fun x => decide (0 < x)) 72 69), (69, o_goto 136), (72, o_al 0 73)]
theorem ts_X3_mildest_2 (sx : QX) : ∀ q ∈ t_X3_mildest_2, q_Snd sx RX3 cX3_mildest 10 (some .int) q.1 q.2 := List.forall_mem_cons.mpr ⟨s_gf d_X3_mildest_47 rfl (by decide) n_X0 in_X0 rfl k_1_56, List.forall_mem_cons.mpr ⟨s_ic_ge d_X3_mildest_50 (by decide), List.forall_mem_cons.mpr ⟨s_aload_n d_X3_mildest_53 rfl, List.forall_mem_cons.mpr ⟨s_iload d_X3_mildest_54, List.forall_mem_cons.mpr ⟨s_iload_n d_X3_mildest_56 rfl, List.forall_mem_cons.mpr ⟨s_iload d_X3_mildest_57, List.forall_mem_cons.mpr ⟨s_cV (T := TX3) (N := 8) rfl d_X3_mildest_59 rfl k_3_9 k_2_219 k_2_220 k_1_4 k_2_221 ⟨by decide, by decide⟩ (by decide +kernel) (by decide), List.forall_mem_cons.mpr ⟨s_istore d_X3_mildest_62 (by decide), List.forall_mem_cons.mpr ⟨s_iload d_X3_mildest_64, List.forall_mem_cons.mpr ⟨s_if_gt d_X3_mildest_66 (by decide), List.forall_mem_cons.mpr ⟨s_goto d_X3_mildest_69 (by decide), List.forall_mem_cons.mpr ⟨s_aload_n d_X3_mildest_72 rfl, fun _ h => absurd h List.not_mem_nil⟩⟩⟩⟩⟩⟩⟩⟩⟩⟩⟩⟩
def t_X3_mildest_3 : List (Nat × QO) := [(73, o_il 1 74), (74, o_il 6 76), (76, o_cV 1 3 43 6 3 79), (79, o_is 8 81), (81, o_il 2 82), (82, o_k (-4) 84), (84, o_ic (fun x y => decide (x = y)) 106 87), (87, o_il 8 89), (89, o_il 3 90), (90, o_ic (fun x y => decide (x < y)) 106 93), (93, o_il 8 95), (95, o_il 3 96)]
theorem ts_X3_mildest_3 (sx : QX) : ∀ q ∈ t_X3_mildest_3, q_Snd sx RX3 cX3_mildest 10 (some .int) q.1 q.2 := List.forall_mem_cons.mpr ⟨s_iload_n d_X3_mildest_73 rfl, List.forall_mem_cons.mpr ⟨s_iload d_X3_mildest_74, List.forall_mem_cons.mpr ⟨s_cV (T := TX3) (N := 8) rfl d_X3_mildest_76 rfl k_3_171 k_3_173 k_0_16 k_1_4 k_3_174 ⟨by decide, by decide⟩ (by decide +kernel) (by decide), List.forall_mem_cons.mpr ⟨s_istore d_X3_mildest_79 (by decide), List.forall_mem_cons.mpr ⟨s_iload_n d_X3_mildest_81 rfl, List.forall_mem_cons.mpr ⟨s_bipush d_X3_mildest_82 rfl, List.forall_mem_cons.mpr ⟨s_ic_eq d_X3_mildest_84 (by decide), List.forall_mem_cons.mpr ⟨s_iload d_X3_mildest_87, List.forall_mem_cons.mpr ⟨s_iload_n d_X3_mildest_89 rfl, List.forall_mem_cons.mpr ⟨s_ic_lt d_X3_mildest_90 (by decide), List.forall_mem_cons.mpr ⟨s_iload d_X3_mildest_93, List.forall_mem_cons.mpr ⟨s_iload_n d_X3_mildest_95 rfl, fun _ h => absurd h List.not_mem_nil⟩⟩⟩⟩⟩⟩⟩⟩⟩⟩⟩⟩
def t_X3_mildest_4 : List (Nat × QO) := [(96, o_ic (fun x y => decide (x ≠ y)) 110 99), (99, o_il 7 101), (101, o_il 4 103), (103, o_ic (fun x y => decide (x ≤ y)) 110 106), (106, o_k 1 107), (107, o_goto 111), (110, o_k 0 111), (111, o_is 9 113), (113, o_il 9 115), (115, o_if (fun x => decide (x ≠ 0)) 121 118), (118, o_goto 136), (121, o_il 5 123)]
theorem ts_X3_mildest_4 (sx : QX) : ∀ q ∈ t_X3_mildest_4, q_Snd sx RX3 cX3_mildest 10 (some .int) q.1 q.2 := List.forall_mem_cons.mpr ⟨s_ic_ne d_X3_mildest_96 (by decide), List.forall_mem_cons.mpr ⟨s_iload d_X3_mildest_99, List.forall_mem_cons.mpr ⟨s_iload d_X3_mildest_101, List.forall_mem_cons.mpr ⟨s_ic_le d_X3_mildest_103 (by decide), List.forall_mem_cons.mpr ⟨s_iconst d_X3_mildest_106 rfl, List.forall_mem_cons.mpr ⟨s_goto d_X3_mildest_107 (by decide), List.forall_mem_cons.mpr ⟨s_iconst d_X3_mildest_110 rfl, List.forall_mem_cons.mpr ⟨s_istore d_X3_mildest_111 (by decide), List.forall_mem_cons.mpr ⟨s_iload d_X3_mildest_113, List.forall_mem_cons.mpr ⟨s_if_ne d_X3_mildest_115 (by decide), List.forall_mem_cons.mpr ⟨s_goto d_X3_mildest_118 (by decide), List.forall_mem_cons.mpr ⟨s_iload d_X3_mildest_121, fun _ h => absurd h List.not_mem_nil⟩⟩⟩⟩⟩⟩⟩⟩⟩⟩⟩⟩
def t_X3_mildest_5 : List (Nat × QO) := [(123, o_il 6 125), (125, o_cS 1 92 2 2 128), (128, o_is 2 129), (129, o_il 8 131), (131, o_is 3 132), (132, o_il 7 134), (134, o_is 4 136), (136, o_inc 6 1 139), (139, o_goto 41), (142, o_inc 5 1 145), (145, o_goto 11), (148, o_il 2 149)]
theorem ts_X3_mildest_5 (sx : QX) : ∀ q ∈ t_X3_mildest_5, q_Snd sx RX3 cX3_mildest 10 (some .int) q.1 q.2 := List.forall_mem_cons.mpr ⟨s_iload d_X3_mildest_123, List.forall_mem_cons.mpr ⟨s_cN (host := "StoneApologies") rfl d_X3_mildest_125 (List.mem_of_getElem? (i := 13) rfl) k_3_94 k_1_1 k_3_95 ⟨by decide, by decide⟩ (by decide +kernel) (by decide), List.forall_mem_cons.mpr ⟨s_istore_n d_X3_mildest_128 rfl (by decide), List.forall_mem_cons.mpr ⟨s_iload d_X3_mildest_129, List.forall_mem_cons.mpr ⟨s_istore_n d_X3_mildest_131 rfl (by decide), List.forall_mem_cons.mpr ⟨s_iload d_X3_mildest_132, List.forall_mem_cons.mpr ⟨s_istore d_X3_mildest_134 (by decide), List.forall_mem_cons.mpr ⟨s_iinc d_X3_mildest_136 rfl (by decide), List.forall_mem_cons.mpr ⟨s_goto d_X3_mildest_139 (by decide), List.forall_mem_cons.mpr ⟨s_iinc d_X3_mildest_142 rfl (by decide), List.forall_mem_cons.mpr ⟨s_goto d_X3_mildest_145 (by decide), List.forall_mem_cons.mpr ⟨s_iload_n d_X3_mildest_148 rfl, fun _ h => absurd h List.not_mem_nil⟩⟩⟩⟩⟩⟩⟩⟩⟩⟩⟩⟩
def t_X3_mildest_6 : List (Nat × QO) := [(149, o_ir false)]
theorem ts_X3_mildest_6 (sx : QX) : ∀ q ∈ t_X3_mildest_6, q_Snd sx RX3 cX3_mildest 10 (some .int) q.1 q.2 := List.forall_mem_cons.mpr ⟨s_ir d_X3_mildest_149 rfl, fun _ h => absurd h List.not_mem_nil⟩
def t_X3_mildest (pc : Nat) : Option QO := cond (Nat.ble pc 72) (cond (Nat.ble pc 17) (q_look (t_X3_mildest_0) pc) (cond (Nat.ble pc 44) (q_look (t_X3_mildest_1) pc) (q_look (t_X3_mildest_2) pc))) (cond (Nat.ble pc 121) (cond (Nat.ble pc 95) (q_look (t_X3_mildest_3) pc) (q_look (t_X3_mildest_4) pc)) (cond (Nat.ble pc 148) (q_look (t_X3_mildest_5) pc) (q_look (t_X3_mildest_6) pc)))
theorem ts_X3_mildest (sx : QX) (pc : Nat) : ∀ o, t_X3_mildest pc = some o → q_Snd sx RX3 cX3_mildest 10 (some .int) pc o := by
  unfold t_X3_mildest
  exact q_cb (q_cb (q_look_all (ts_X3_mildest_0 sx)) (q_cb (q_look_all (ts_X3_mildest_1 sx)) (q_look_all (ts_X3_mildest_2 sx)))) (q_cb (q_cb (q_look_all (ts_X3_mildest_3 sx)) (q_look_all (ts_X3_mildest_4 sx))) (q_cb (q_look_all (ts_X3_mildest_5 sx)) (q_look_all (ts_X3_mildest_6 sx))))
theorem d_X3_harmOf_0 : decode cX3_harmOf 0 = .ok (.iconst 0, 1) := by decide +kernel
theorem d_X3_harmOf_1 : decode cX3_harmOf 1 = .ok (.istore_n 3, 1) := by decide +kernel
theorem d_X3_harmOf_2 : decode cX3_harmOf 2 = .ok (.iload_n 1, 1) := by decide +kernel
theorem d_X3_harmOf_3 : decode cX3_harmOf 3 = .ok (.iconst 2, 1) := by decide +kernel
theorem d_X3_harmOf_4 : decode cX3_harmOf 4 = .ok (.isub, 1) := by decide +kernel
theorem d_X3_harmOf_5 : decode cX3_harmOf 5 = .ok (.istore 4, 2) := by decide +kernel
theorem d_X3_harmOf_7 : decode cX3_harmOf 7 = .ok (.iload 4, 2) := by decide +kernel
theorem d_X3_harmOf_9 : decode cX3_harmOf 9 = .ok (.iload_n 1, 1) := by decide +kernel
theorem d_X3_harmOf_10 : decode cX3_harmOf 10 = .ok (.iconst 2, 1) := by decide +kernel
theorem d_X3_harmOf_11 : decode cX3_harmOf 11 = .ok (.iadd, 1) := by decide +kernel
theorem d_X3_harmOf_12 : decode cX3_harmOf 12 = .ok (.if_icmp .gt 63, 3) := by decide +kernel
theorem d_X3_harmOf_15 : decode cX3_harmOf 15 = .ok (.iload 4, 2) := by decide +kernel
theorem d_X3_harmOf_17 : decode cX3_harmOf 17 = .ok (.iload_n 1, 1) := by decide +kernel
theorem d_X3_harmOf_18 : decode cX3_harmOf 18 = .ok (.if_icmp .eq 51, 3) := by decide +kernel
theorem d_X3_harmOf_21 : decode cX3_harmOf 21 = .ok (.aload_n 0, 1) := by decide +kernel
theorem d_X3_harmOf_22 : decode cX3_harmOf 22 = .ok (.iload_n 1, 1) := by decide +kernel
theorem d_X3_harmOf_23 : decode cX3_harmOf 23 = .ok (.iload 4, 2) := by decide +kernel
theorem d_X3_harmOf_25 : decode cX3_harmOf 25 = .ok (.invokevirtual 93, 3) := by decide +kernel
theorem d_X3_harmOf_28 : decode cX3_harmOf 28 = .ok (.ifCond .ne 6, 3) := by decide +kernel
theorem d_X3_harmOf_31 : decode cX3_harmOf 31 = .ok (.goto 38, 3) := by decide +kernel
theorem d_X3_harmOf_34 : decode cX3_harmOf 34 = .ok (.aload_n 0, 1) := by decide +kernel
theorem d_X3_harmOf_35 : decode cX3_harmOf 35 = .ok (.getfield 30, 3) := by decide +kernel
theorem d_X3_harmOf_38 : decode cX3_harmOf 38 = .ok (.getfield 144, 3) := by decide +kernel
theorem d_X3_harmOf_41 : decode cX3_harmOf 41 = .ok (.iload 4, 2) := by decide +kernel
theorem d_X3_harmOf_43 : decode cX3_harmOf 43 = .ok (.iload_n 2, 1) := by decide +kernel
theorem d_X3_harmOf_44 : decode cX3_harmOf 44 = .ok (.invokestatic 67, 3) := by decide +kernel
theorem d_X3_harmOf_47 : decode cX3_harmOf 47 = .ok (.invokestatic 54, 3) := by decide +kernel
theorem d_X3_harmOf_50 : decode cX3_harmOf 50 = .ok (.istore 5, 2) := by decide +kernel
theorem d_X3_harmOf_52 : decode cX3_harmOf 52 = .ok (.iload_n 3, 1) := by decide +kernel
theorem d_X3_harmOf_53 : decode cX3_harmOf 53 = .ok (.iconst 0, 1) := by decide +kernel
theorem d_X3_harmOf_54 : decode cX3_harmOf 54 = .ok (.iload 5, 2) := by decide +kernel
theorem d_X3_harmOf_56 : decode cX3_harmOf 56 = .ok (.aload_n 0, 1) := by decide +kernel
theorem d_X3_harmOf_57 : decode cX3_harmOf 57 = .ok (.iload 4, 2) := by decide +kernel
theorem d_X3_harmOf_59 : decode cX3_harmOf 59 = .ok (.iload_n 2, 1) := by decide +kernel
theorem d_X3_harmOf_60 : decode cX3_harmOf 60 = .ok (.invokevirtual 147, 3) := by decide +kernel
theorem d_X3_harmOf_63 : decode cX3_harmOf 63 = .ok (.isub, 1) := by decide +kernel
theorem d_X3_harmOf_64 : decode cX3_harmOf 64 = .ok (.invokestatic 78, 3) := by decide +kernel
theorem d_X3_harmOf_67 : decode cX3_harmOf 67 = .ok (.iadd, 1) := by decide +kernel
theorem d_X3_harmOf_68 : decode cX3_harmOf 68 = .ok (.istore_n 3, 1) := by decide +kernel
theorem d_X3_harmOf_69 : decode cX3_harmOf 69 = .ok (.iinc 4 1, 3) := by decide +kernel
theorem d_X3_harmOf_72 : decode cX3_harmOf 72 = .ok (.goto (-65), 3) := by decide +kernel
theorem d_X3_harmOf_75 : decode cX3_harmOf 75 = .ok (.iload_n 3, 1) := by decide +kernel
theorem d_X3_harmOf_76 : decode cX3_harmOf 76 = .ok (.ireturn, 1) := by decide +kernel
def t_X3_harmOf_0 : List (Nat × QO) := [(0, o_k 0 1), (1, o_is 3 2), (2, o_il 1 3), (3, o_k 2 4), (4, o_b (fun x y => x - y) 5), (5, o_is 4 7), (7, o_il 4 9), (9, o_il 1 10), (10, o_k 2 11), (11, o_b (fun x y => x + y) 12), (12, o_ic (fun x y => decide (y < x)) 75 15), (15, o_il 4 17)]
theorem ts_X3_harmOf_0 (sx : QX) : ∀ q ∈ t_X3_harmOf_0, q_Snd sx RX3 cX3_harmOf 6 (some .int) q.1 q.2 := List.forall_mem_cons.mpr ⟨s_iconst d_X3_harmOf_0 rfl, List.forall_mem_cons.mpr ⟨s_istore_n d_X3_harmOf_1 rfl (by decide), List.forall_mem_cons.mpr ⟨s_iload_n d_X3_harmOf_2 rfl, List.forall_mem_cons.mpr ⟨s_iconst d_X3_harmOf_3 rfl, List.forall_mem_cons.mpr ⟨s_isub d_X3_harmOf_4, List.forall_mem_cons.mpr ⟨s_istore d_X3_harmOf_5 (by decide), List.forall_mem_cons.mpr ⟨s_iload d_X3_harmOf_7, List.forall_mem_cons.mpr ⟨s_iload_n d_X3_harmOf_9 rfl, List.forall_mem_cons.mpr ⟨s_iconst d_X3_harmOf_10 rfl, List.forall_mem_cons.mpr ⟨s_iadd d_X3_harmOf_11, List.forall_mem_cons.mpr ⟨s_ic_gt d_X3_harmOf_12 (by decide), List.forall_mem_cons.mpr ⟨s_iload d_X3_harmOf_15, fun _ h => absurd h List.not_mem_nil⟩⟩⟩⟩⟩⟩⟩⟩⟩⟩⟩⟩
def t_X3_harmOf_1 : List (Nat × QO) := [(17, o_il 1 18), (18, o_ic (fun x y => decide (x = y)) 69 21), (21, o_al 0 22), (22, o_il 1 23), (23, o_il 4 25), (25, o_cV 1 3 31 4 3 28), (28, o_if (fun x => decide (x ≠ 0)) 34 31), (31, o_goto 69), (34, o_al 0 35), (35, o_gf 3 0 38), (38, o_gf 0 10 41), (41, o_il 4 43)]
theorem ts_X3_harmOf_1 (sx : QX) : ∀ q ∈ t_X3_harmOf_1, q_Snd sx RX3 cX3_harmOf 6 (some .int) q.1 q.2 := List.forall_mem_cons.mpr ⟨s_iload_n d_X3_harmOf_17 rfl, List.forall_mem_cons.mpr ⟨s_ic_eq d_X3_harmOf_18 (by decide), List.forall_mem_cons.mpr ⟨s_aload_n d_X3_harmOf_21 rfl, List.forall_mem_cons.mpr ⟨s_iload_n d_X3_harmOf_22 rfl, List.forall_mem_cons.mpr ⟨s_iload d_X3_harmOf_23, List.forall_mem_cons.mpr ⟨s_cV (T := TX3) (N := 8) rfl d_X3_harmOf_25 rfl k_3_11 k_3_13 k_0_11 k_1_4 k_3_14 ⟨by decide, by decide⟩ (by decide +kernel) (by decide), List.forall_mem_cons.mpr ⟨s_if_ne d_X3_harmOf_28 (by decide), List.forall_mem_cons.mpr ⟨s_goto d_X3_harmOf_31 (by decide), List.forall_mem_cons.mpr ⟨s_aload_n d_X3_harmOf_34 rfl, List.forall_mem_cons.mpr ⟨s_gf d_X3_harmOf_35 rfl (by decide) n_X3 in_X3 rfl k_1_113, List.forall_mem_cons.mpr ⟨s_gf d_X3_harmOf_38 rfl (by decide) n_X0 in_X0 rfl k_1_79, List.forall_mem_cons.mpr ⟨s_iload d_X3_harmOf_41, fun _ h => absurd h List.not_mem_nil⟩⟩⟩⟩⟩⟩⟩⟩⟩⟩⟩⟩
def t_X3_harmOf_2 : List (Nat × QO) := [(43, o_il 2 44), (44, o_cS 1 12 2 2 47), (47, o_cS 1 97 2 2 50), (50, o_is 5 52), (52, o_il 3 53), (53, o_k 0 54), (54, o_il 5 56), (56, o_al 0 57), (57, o_il 4 59), (59, o_il 2 60), (60, o_cV 1 3 25 3 3 63), (63, o_b (fun x y => x - y) 64)]
theorem ts_X3_harmOf_2 (sx : QX) : ∀ q ∈ t_X3_harmOf_2, q_Snd sx RX3 cX3_harmOf 6 (some .int) q.1 q.2 := List.forall_mem_cons.mpr ⟨s_iload_n d_X3_harmOf_43 rfl, List.forall_mem_cons.mpr ⟨s_cS rfl d_X3_harmOf_44 k_2_199 k_2_96 k_1_3 k_2_97 ⟨by decide, by decide⟩ (by decide +kernel) (by decide), List.forall_mem_cons.mpr ⟨s_cN (host := "StoneApologies") rfl d_X3_harmOf_47 (List.mem_of_getElem? (i := 10) rfl) k_2_57 k_1_1 k_2_58 ⟨by decide, by decide⟩ (by decide +kernel) (by decide), List.forall_mem_cons.mpr ⟨s_istore d_X3_harmOf_50 (by decide), List.forall_mem_cons.mpr ⟨s_iload_n d_X3_harmOf_52 rfl, List.forall_mem_cons.mpr ⟨s_iconst d_X3_harmOf_53 rfl, List.forall_mem_cons.mpr ⟨s_iload d_X3_harmOf_54, List.forall_mem_cons.mpr ⟨s_aload_n d_X3_harmOf_56 rfl, List.forall_mem_cons.mpr ⟨s_iload d_X3_harmOf_57, List.forall_mem_cons.mpr ⟨s_iload_n d_X3_harmOf_59 rfl, List.forall_mem_cons.mpr ⟨s_cV (T := TX3) (N := 8) rfl d_X3_harmOf_60 rfl k_3_175 k_2_196 k_2_197 k_1_4 k_2_198 ⟨by decide, by decide⟩ (by decide +kernel) (by decide), List.forall_mem_cons.mpr ⟨s_isub d_X3_harmOf_63, fun _ h => absurd h List.not_mem_nil⟩⟩⟩⟩⟩⟩⟩⟩⟩⟩⟩⟩
def t_X3_harmOf_3 : List (Nat × QO) := [(64, o_max 67), (67, o_b (fun x y => x + y) 68), (68, o_is 3 69), (69, o_inc 4 1 72), (72, o_goto 7), (75, o_il 3 76), (76, o_ir false)]
theorem ts_X3_harmOf_3 (sx : QX) : ∀ q ∈ t_X3_harmOf_3, q_Snd sx RX3 cX3_harmOf 6 (some .int) q.1 q.2 := List.forall_mem_cons.mpr ⟨s_max d_X3_harmOf_64 k_2_223 k_2_224 k_1_13 k_2_225, List.forall_mem_cons.mpr ⟨s_iadd d_X3_harmOf_67, List.forall_mem_cons.mpr ⟨s_istore_n d_X3_harmOf_68 rfl (by decide), List.forall_mem_cons.mpr ⟨s_iinc d_X3_harmOf_69 rfl (by decide), List.forall_mem_cons.mpr ⟨s_goto d_X3_harmOf_72 (by decide), List.forall_mem_cons.mpr ⟨s_iload_n d_X3_harmOf_75 rfl, List.forall_mem_cons.mpr ⟨s_ir d_X3_harmOf_76 rfl, fun _ h => absurd h List.not_mem_nil⟩⟩⟩⟩⟩⟩⟩
def t_X3_harmOf (pc : Nat) : Option QO := cond (Nat.ble pc 41) (cond (Nat.ble pc 15) (q_look (t_X3_harmOf_0) pc) (q_look (t_X3_harmOf_1) pc)) (cond (Nat.ble pc 63) (q_look (t_X3_harmOf_2) pc) (q_look (t_X3_harmOf_3) pc))
theorem ts_X3_harmOf (sx : QX) (pc : Nat) : ∀ o, t_X3_harmOf pc = some o → q_Snd sx RX3 cX3_harmOf 6 (some .int) pc o := by
  unfold t_X3_harmOf
  exact q_cb (q_cb (q_look_all (ts_X3_harmOf_0 sx)) (q_look_all (ts_X3_harmOf_1 sx))) (q_cb (q_look_all (ts_X3_harmOf_2 sx)) (q_look_all (ts_X3_harmOf_3 sx)))
theorem d_X3_explains_0 : decode cX3_explains 0 = .ok (.iconst 0, 1) := by decide +kernel
theorem d_X3_explains_1 : decode cX3_explains 1 = .ok (.istore_n 2, 1) := by decide +kernel
theorem d_X3_explains_2 : decode cX3_explains 2 = .ok (.iload_n 2, 1) := by decide +kernel
theorem d_X3_explains_3 : decode cX3_explains 3 = .ok (.aload_n 0, 1) := by decide +kernel
theorem d_X3_explains_4 : decode cX3_explains 4 = .ok (.getfield 30, 3) := by decide +kernel
theorem d_X3_explains_7 : decode cX3_explains 7 = .ok (.getfield 58, 3) := by decide +kernel
theorem d_X3_explains_10 : decode cX3_explains 10 = .ok (.if_icmp .ge 32, 3) := by decide +kernel
theorem d_X3_explains_13 : decode cX3_explains 13 = .ok (.aload_n 0, 1) := by decide +kernel
theorem d_X3_explains_14 : decode cX3_explains 14 = .ok (.getfield 15, 3) := by decide +kernel
theorem d_X3_explains_17 : decode cX3_explains 17 = .ok (.iload_n 2, 1) := by decide +kernel
theorem d_X3_explains_18 : decode cX3_explains 18 = .ok (.invokestatic 54, 3) := by decide +kernel
theorem d_X3_explains_21 : decode cX3_explains 21 = .ok (.iconst 3, 1) := by decide +kernel
theorem d_X3_explains_22 : decode cX3_explains 22 = .ok (.if_icmp .ne 14, 3) := by decide +kernel
theorem d_X3_explains_25 : decode cX3_explains 25 = .ok (.aload_n 0, 1) := by decide +kernel
theorem d_X3_explains_26 : decode cX3_explains 26 = .ok (.iload_n 1, 1) := by decide +kernel
theorem d_X3_explains_27 : decode cX3_explains 27 = .ok (.iload_n 2, 1) := by decide +kernel
theorem d_X3_explains_28 : decode cX3_explains 28 = .ok (.invokevirtual 150, 3) := by decide +kernel
theorem d_X3_explains_31 : decode cX3_explains 31 = .ok (.ifCond .ne 5, 3) := by decide +kernel
theorem d_X3_explains_34 : decode cX3_explains 34 = .ok (.iconst 0, 1) := by decide +kernel
theorem d_X3_explains_35 : decode cX3_explains 35 = .ok (.ireturn, 1) := by decide +kernel
theorem d_X3_explains_36 : decode cX3_explains 36 = .ok (.iinc 2 1, 3) := by decide +kernel
theorem d_X3_explains_39 : decode cX3_explains 39 = .ok (.goto (-37), 3) := by decide +kernel
theorem d_X3_explains_42 : decode cX3_explains 42 = .ok (.iconst 1, 1) := by decide +kernel
theorem d_X3_explains_43 : decode cX3_explains 43 = .ok (.ireturn, 1) := by decide +kernel
def t_X3_explains_0 : List (Nat × QO) := [(0, o_k 0 1), (1, o_is 2 2), (2, o_il 2 3), (3, o_al 0 4), (4, o_gf 3 0 7), (7, o_gf 0 0 10), (10, o_ic (fun x y => decide (y ≤ x)) 42 13), (13, o_al 0 14), (14, o_gf 3 3 17), (17, o_il 2 18), (18, o_cS 1 97 2 2 21), (21, o_k 3 22)]
theorem ts_X3_explains_0 (sx : QX) : ∀ q ∈ t_X3_explains_0, q_Snd sx RX3 cX3_explains 3 (some .boolean) q.1 q.2 := List.forall_mem_cons.mpr ⟨s_iconst d_X3_explains_0 rfl, List.forall_mem_cons.mpr ⟨s_istore_n d_X3_explains_1 rfl (by decide), List.forall_mem_cons.mpr ⟨s_iload_n d_X3_explains_2 rfl, List.forall_mem_cons.mpr ⟨s_aload_n d_X3_explains_3 rfl, List.forall_mem_cons.mpr ⟨s_gf d_X3_explains_4 rfl (by decide) n_X3 in_X3 rfl k_1_113, List.forall_mem_cons.mpr ⟨s_gf d_X3_explains_7 rfl (by decide) n_X0 in_X0 rfl k_1_52, List.forall_mem_cons.mpr ⟨s_ic_ge d_X3_explains_10 (by decide), List.forall_mem_cons.mpr ⟨s_aload_n d_X3_explains_13 rfl, List.forall_mem_cons.mpr ⟨s_gf d_X3_explains_14 rfl (by decide) n_X3 in_X3 rfl k_1_122, List.forall_mem_cons.mpr ⟨s_iload_n d_X3_explains_17 rfl, List.forall_mem_cons.mpr ⟨s_cN (host := "StoneApologies") rfl d_X3_explains_18 (List.mem_of_getElem? (i := 10) rfl) k_2_57 k_1_1 k_2_58 ⟨by decide, by decide⟩ (by decide +kernel) (by decide), List.forall_mem_cons.mpr ⟨s_iconst d_X3_explains_21 rfl, fun _ h => absurd h List.not_mem_nil⟩⟩⟩⟩⟩⟩⟩⟩⟩⟩⟩⟩
def t_X3_explains_1 : List (Nat × QO) := [(22, o_ic (fun x y => decide (x ≠ y)) 36 25), (25, o_al 0 26), (26, o_il 1 27), (27, o_il 2 28), (28, o_cV 1 3 45 4 3 31), (31, o_if (fun x => decide (x ≠ 0)) 36 34), (34, o_k 0 35), (35, o_ir true), (36, o_inc 2 1 39), (39, o_goto 2), (42, o_k 1 43), (43, o_ir true)]
theorem ts_X3_explains_1 (sx : QX) : ∀ q ∈ t_X3_explains_1, q_Snd sx RX3 cX3_explains 3 (some .boolean) q.1 q.2 := List.forall_mem_cons.mpr ⟨s_ic_ne d_X3_explains_22 (by decide), List.forall_mem_cons.mpr ⟨s_aload_n d_X3_explains_25 rfl, List.forall_mem_cons.mpr ⟨s_iload_n d_X3_explains_26 rfl, List.forall_mem_cons.mpr ⟨s_iload_n d_X3_explains_27 rfl, List.forall_mem_cons.mpr ⟨s_cV (T := TX3) (N := 8) rfl d_X3_explains_28 rfl k_3_190 k_3_192 k_0_17 k_1_4 k_3_193 ⟨by decide, by decide⟩ (by decide +kernel) (by decide), List.forall_mem_cons.mpr ⟨s_if_ne d_X3_explains_31 (by decide), List.forall_mem_cons.mpr ⟨s_iconst d_X3_explains_34 rfl, List.forall_mem_cons.mpr ⟨s_zr d_X3_explains_35 rfl, List.forall_mem_cons.mpr ⟨s_iinc d_X3_explains_36 rfl (by decide), List.forall_mem_cons.mpr ⟨s_goto d_X3_explains_39 (by decide), List.forall_mem_cons.mpr ⟨s_iconst d_X3_explains_42 rfl, List.forall_mem_cons.mpr ⟨s_zr d_X3_explains_43 rfl, fun _ h => absurd h List.not_mem_nil⟩⟩⟩⟩⟩⟩⟩⟩⟩⟩⟩⟩
def t_X3_explains (pc : Nat) : Option QO := cond (Nat.ble pc 21) (q_look (t_X3_explains_0) pc) (q_look (t_X3_explains_1) pc)
theorem ts_X3_explains (sx : QX) (pc : Nat) : ∀ o, t_X3_explains pc = some o → q_Snd sx RX3 cX3_explains 3 (some .boolean) pc o := by
  unfold t_X3_explains
  exact q_cb (q_look_all (ts_X3_explains_0 sx)) (q_look_all (ts_X3_explains_1 sx))
theorem d_X3_explainsOne_0 : decode cX3_explainsOne 0 = .ok (.iconst 0, 1) := by decide +kernel
theorem d_X3_explainsOne_1 : decode cX3_explainsOne 1 = .ok (.istore_n 3, 1) := by decide +kernel
theorem d_X3_explainsOne_2 : decode cX3_explainsOne 2 = .ok (.iload_n 3, 1) := by decide +kernel
theorem d_X3_explainsOne_3 : decode cX3_explainsOne 3 = .ok (.aload_n 0, 1) := by decide +kernel
theorem d_X3_explainsOne_4 : decode cX3_explainsOne 4 = .ok (.getfield 30, 3) := by decide +kernel
theorem d_X3_explainsOne_7 : decode cX3_explainsOne 7 = .ok (.getfield 61, 3) := by decide +kernel
theorem d_X3_explainsOne_10 : decode cX3_explainsOne 10 = .ok (.if_icmp .ge 37, 3) := by decide +kernel
theorem d_X3_explainsOne_13 : decode cX3_explainsOne 13 = .ok (.iload_n 1, 1) := by decide +kernel
theorem d_X3_explainsOne_14 : decode cX3_explainsOne 14 = .ok (.iload_n 3, 1) := by decide +kernel
theorem d_X3_explainsOne_15 : decode cX3_explainsOne 15 = .ok (.ishr, 1) := by decide +kernel
theorem d_X3_explainsOne_16 : decode cX3_explainsOne 16 = .ok (.iconst 1, 1) := by decide +kernel
theorem d_X3_explainsOne_17 : decode cX3_explainsOne 17 = .ok (.iand, 1) := by decide +kernel
theorem d_X3_explainsOne_18 : decode cX3_explainsOne 18 = .ok (.iconst 1, 1) := by decide +kernel
theorem d_X3_explainsOne_19 : decode cX3_explainsOne 19 = .ok (.if_icmp .ne 22, 3) := by decide +kernel
theorem d_X3_explainsOne_22 : decode cX3_explainsOne 22 = .ok (.aload_n 0, 1) := by decide +kernel
theorem d_X3_explainsOne_23 : decode cX3_explainsOne 23 = .ok (.iload_n 3, 1) := by decide +kernel
theorem d_X3_explainsOne_24 : decode cX3_explainsOne 24 = .ok (.iload_n 2, 1) := by decide +kernel
theorem d_X3_explainsOne_25 : decode cX3_explainsOne 25 = .ok (.aload_n 0, 1) := by decide +kernel
theorem d_X3_explainsOne_26 : decode cX3_explainsOne 26 = .ok (.getfield 18, 3) := by decide +kernel
theorem d_X3_explainsOne_29 : decode cX3_explainsOne 29 = .ok (.iload_n 2, 1) := by decide +kernel
theorem d_X3_explainsOne_30 : decode cX3_explainsOne 30 = .ok (.invokestatic 54, 3) := by decide +kernel
theorem d_X3_explainsOne_33 : decode cX3_explainsOne 33 = .ok (.invokevirtual 111, 3) := by decide +kernel
theorem d_X3_explainsOne_36 : decode cX3_explainsOne 36 = .ok (.ifCond .eq 5, 3) := by decide +kernel
theorem d_X3_explainsOne_39 : decode cX3_explainsOne 39 = .ok (.iconst 1, 1) := by decide +kernel
theorem d_X3_explainsOne_40 : decode cX3_explainsOne 40 = .ok (.ireturn, 1) := by decide +kernel
theorem d_X3_explainsOne_41 : decode cX3_explainsOne 41 = .ok (.iinc 3 1, 3) := by decide +kernel
theorem d_X3_explainsOne_44 : decode cX3_explainsOne 44 = .ok (.goto (-42), 3) := by decide +kernel
theorem d_X3_explainsOne_47 : decode cX3_explainsOne 47 = .ok (.iconst 0, 1) := by decide +kernel
theorem d_X3_explainsOne_48 : decode cX3_explainsOne 48 = .ok (.ireturn, 1) := by decide +kernel
def t_X3_explainsOne_0 : List (Nat × QO) := [(0, o_k 0 1), (1, o_is 3 2), (2, o_il 3 3), (3, o_al 0 4), (4, o_gf 3 0 7), (7, o_gf 0 2 10), (10, o_ic (fun x y => decide (y ≤ x)) 47 13), (13, o_il 1 14), (14, o_il 3 15), (15, o_b (fun x y => x >>> (y &&& 31)) 16), (16, o_k 1 17), (17, o_b (fun x y => x &&& y) 18)]
theorem ts_X3_explainsOne_0 (sx : QX) : ∀ q ∈ t_X3_explainsOne_0, q_Snd sx RX3 cX3_explainsOne 4 (some .boolean) q.1 q.2 := List.forall_mem_cons.mpr ⟨s_iconst d_X3_explainsOne_0 rfl, List.forall_mem_cons.mpr ⟨s_istore_n d_X3_explainsOne_1 rfl (by decide), List.forall_mem_cons.mpr ⟨s_iload_n d_X3_explainsOne_2 rfl, List.forall_mem_cons.mpr ⟨s_aload_n d_X3_explainsOne_3 rfl, List.forall_mem_cons.mpr ⟨s_gf d_X3_explainsOne_4 rfl (by decide) n_X3 in_X3 rfl k_1_113, List.forall_mem_cons.mpr ⟨s_gf d_X3_explainsOne_7 rfl (by decide) n_X0 in_X0 rfl k_1_60, List.forall_mem_cons.mpr ⟨s_ic_ge d_X3_explainsOne_10 (by decide), List.forall_mem_cons.mpr ⟨s_iload_n d_X3_explainsOne_13 rfl, List.forall_mem_cons.mpr ⟨s_iload_n d_X3_explainsOne_14 rfl, List.forall_mem_cons.mpr ⟨s_ishr d_X3_explainsOne_15, List.forall_mem_cons.mpr ⟨s_iconst d_X3_explainsOne_16 rfl, List.forall_mem_cons.mpr ⟨s_iand d_X3_explainsOne_17, fun _ h => absurd h List.not_mem_nil⟩⟩⟩⟩⟩⟩⟩⟩⟩⟩⟩⟩
def t_X3_explainsOne_1 : List (Nat × QO) := [(18, o_k 1 19), (19, o_ic (fun x y => decide (x ≠ y)) 41 22), (22, o_al 0 23), (23, o_il 3 24), (24, o_il 2 25), (25, o_al 0 26), (26, o_gf 3 4 29), (29, o_il 2 30), (30, o_cS 1 97 2 2 33), (33, o_cV 1 3 36 5 4 36), (36, o_if (fun x => decide (x = 0)) 41 39), (39, o_k 1 40)]
theorem ts_X3_explainsOne_1 (sx : QX) : ∀ q ∈ t_X3_explainsOne_1, q_Snd sx RX3 cX3_explainsOne 4 (some .boolean) q.1 q.2 := List.forall_mem_cons.mpr ⟨s_iconst d_X3_explainsOne_18 rfl, List.forall_mem_cons.mpr ⟨s_ic_ne d_X3_explainsOne_19 (by decide), List.forall_mem_cons.mpr ⟨s_aload_n d_X3_explainsOne_22 rfl, List.forall_mem_cons.mpr ⟨s_iload_n d_X3_explainsOne_23 rfl, List.forall_mem_cons.mpr ⟨s_iload_n d_X3_explainsOne_24 rfl, List.forall_mem_cons.mpr ⟨s_aload_n d_X3_explainsOne_25 rfl, List.forall_mem_cons.mpr ⟨s_gf d_X3_explainsOne_26 rfl (by decide) n_X3 in_X3 rfl k_1_124, List.forall_mem_cons.mpr ⟨s_iload_n d_X3_explainsOne_29 rfl, List.forall_mem_cons.mpr ⟨s_cN (host := "StoneApologies") rfl d_X3_explainsOne_30 (List.mem_of_getElem? (i := 10) rfl) k_2_57 k_1_1 k_2_58 ⟨by decide, by decide⟩ (by decide +kernel) (by decide), List.forall_mem_cons.mpr ⟨s_cV (T := TX3) (N := 8) rfl d_X3_explainsOne_33 rfl k_3_48 k_3_50 k_0_13 k_1_4 k_3_51 ⟨by decide, by decide⟩ (by decide +kernel) (by decide), List.forall_mem_cons.mpr ⟨s_if_eq d_X3_explainsOne_36 (by decide), List.forall_mem_cons.mpr ⟨s_iconst d_X3_explainsOne_39 rfl, fun _ h => absurd h List.not_mem_nil⟩⟩⟩⟩⟩⟩⟩⟩⟩⟩⟩⟩
def t_X3_explainsOne_2 : List (Nat × QO) := [(40, o_ir true), (41, o_inc 3 1 44), (44, o_goto 2), (47, o_k 0 48), (48, o_ir true)]
theorem ts_X3_explainsOne_2 (sx : QX) : ∀ q ∈ t_X3_explainsOne_2, q_Snd sx RX3 cX3_explainsOne 4 (some .boolean) q.1 q.2 := List.forall_mem_cons.mpr ⟨s_zr d_X3_explainsOne_40 rfl, List.forall_mem_cons.mpr ⟨s_iinc d_X3_explainsOne_41 rfl (by decide), List.forall_mem_cons.mpr ⟨s_goto d_X3_explainsOne_44 (by decide), List.forall_mem_cons.mpr ⟨s_iconst d_X3_explainsOne_47 rfl, List.forall_mem_cons.mpr ⟨s_zr d_X3_explainsOne_48 rfl, fun _ h => absurd h List.not_mem_nil⟩⟩⟩⟩⟩
def t_X3_explainsOne (pc : Nat) : Option QO := cond (Nat.ble pc 17) (q_look (t_X3_explainsOne_0) pc) (cond (Nat.ble pc 39) (q_look (t_X3_explainsOne_1) pc) (q_look (t_X3_explainsOne_2) pc))
theorem ts_X3_explainsOne (sx : QX) (pc : Nat) : ∀ o, t_X3_explainsOne pc = some o → q_Snd sx RX3 cX3_explainsOne 4 (some .boolean) pc o := by
  unfold t_X3_explainsOne
  exact q_cb (q_look_all (ts_X3_explainsOne_0 sx)) (q_cb (q_look_all (ts_X3_explainsOne_1 sx)) (q_look_all (ts_X3_explainsOne_2 sx)))
theorem d_X3_softerBy_0 : decode cX3_softerBy 0 = .ok (.aload_n 0, 1) := by decide +kernel
theorem d_X3_softerBy_1 : decode cX3_softerBy 1 = .ok (.iload_n 1, 1) := by decide +kernel
theorem d_X3_softerBy_2 : decode cX3_softerBy 2 = .ok (.iload_n 2, 1) := by decide +kernel
theorem d_X3_softerBy_3 : decode cX3_softerBy 3 = .ok (.iload_n 3, 1) := by decide +kernel
theorem d_X3_softerBy_4 : decode cX3_softerBy 4 = .ok (.invokevirtual 86, 3) := by decide +kernel
theorem d_X3_softerBy_7 : decode cX3_softerBy 7 = .ok (.istore 5, 2) := by decide +kernel
theorem d_X3_softerBy_9 : decode cX3_softerBy 9 = .ok (.iconst 0, 1) := by decide +kernel
theorem d_X3_softerBy_10 : decode cX3_softerBy 10 = .ok (.istore 6, 2) := by decide +kernel
theorem d_X3_softerBy_12 : decode cX3_softerBy 12 = .ok (.iconst 0, 1) := by decide +kernel
theorem d_X3_softerBy_13 : decode cX3_softerBy 13 = .ok (.istore 7, 2) := by decide +kernel
theorem d_X3_softerBy_15 : decode cX3_softerBy 15 = .ok (.iload 7, 2) := by decide +kernel
theorem d_X3_softerBy_17 : decode cX3_softerBy 17 = .ok (.bipush 8, 2) := by decide +kernel
theorem d_X3_softerBy_19 : decode cX3_softerBy 19 = .ok (.if_icmp .ge 34, 3) := by decide +kernel
theorem d_X3_softerBy_22 : decode cX3_softerBy 22 = .ok (.iload 4, 2) := by decide +kernel
theorem d_X3_softerBy_24 : decode cX3_softerBy 24 = .ok (.iload 7, 2) := by decide +kernel
theorem d_X3_softerBy_26 : decode cX3_softerBy 26 = .ok (.ishr, 1) := by decide +kernel
theorem d_X3_softerBy_27 : decode cX3_softerBy 27 = .ok (.iconst 1, 1) := by decide +kernel
theorem d_X3_softerBy_28 : decode cX3_softerBy 28 = .ok (.iand, 1) := by decide +kernel
theorem d_X3_softerBy_29 : decode cX3_softerBy 29 = .ok (.iconst 1, 1) := by decide +kernel
theorem d_X3_softerBy_30 : decode cX3_softerBy 30 = .ok (.if_icmp .ne 17, 3) := by decide +kernel
theorem d_X3_softerBy_33 : decode cX3_softerBy 33 = .ok (.iload 6, 2) := by decide +kernel
theorem d_X3_softerBy_35 : decode cX3_softerBy 35 = .ok (.iconst 0, 1) := by decide +kernel
theorem d_X3_softerBy_36 : decode cX3_softerBy 36 = .ok (.iload 5, 2) := by decide +kernel
theorem d_X3_softerBy_38 : decode cX3_softerBy 38 = .ok (.iload 7, 2) := by decide +kernel
theorem d_X3_softerBy_40 : decode cX3_softerBy 40 = .ok (.isub, 1) := by decide +kernel
theorem d_X3_softerBy_41 : decode cX3_softerBy 41 = .ok (.invokestatic 78, 3) := by decide +kernel
theorem d_X3_softerBy_44 : decode cX3_softerBy 44 = .ok (.iadd, 1) := by decide +kernel
theorem d_X3_softerBy_45 : decode cX3_softerBy 45 = .ok (.istore 6, 2) := by decide +kernel
theorem d_X3_softerBy_47 : decode cX3_softerBy 47 = .ok (.iinc 7 1, 3) := by decide +kernel
theorem d_X3_softerBy_50 : decode cX3_softerBy 50 = .ok (.goto (-35), 3) := by decide +kernel
theorem d_X3_softerBy_53 : decode cX3_softerBy 53 = .ok (.iload 6, 2) := by decide +kernel
theorem d_X3_softerBy_55 : decode cX3_softerBy 55 = .ok (.ireturn, 1) := by decide +kernel
def t_X3_softerBy_0 : List (Nat × QO) := [(0, o_al 0 1), (1, o_il 1 2), (2, o_il 2 3), (3, o_il 3 4), (4, o_cV 1 3 26 5 4 7), (7, o_is 5 9), (9, o_k 0 10), (10, o_is 6 12), (12, o_k 0 13), (13, o_is 7 15), (15, o_il 7 17), (17, o_k 8 19)]
theorem ts_X3_softerBy_0 (sx : QX) : ∀ q ∈ t_X3_softerBy_0, q_Snd sx RX3 cX3_softerBy 8 (some .int) q.1 q.2 := List.forall_mem_cons.mpr ⟨s_aload_n d_X3_softerBy_0 rfl, List.forall_mem_cons.mpr ⟨s_iload_n d_X3_softerBy_1 rfl, List.forall_mem_cons.mpr ⟨s_iload_n d_X3_softerBy_2 rfl, List.forall_mem_cons.mpr ⟨s_iload_n d_X3_softerBy_3 rfl, List.forall_mem_cons.mpr ⟨s_cV (T := TX3) (N := 8) rfl d_X3_softerBy_4 rfl k_3_9 k_2_219 k_2_220 k_1_4 k_2_221 ⟨by decide, by decide⟩ (by decide +kernel) (by decide), List.forall_mem_cons.mpr ⟨s_istore d_X3_softerBy_7 (by decide), List.forall_mem_cons.mpr ⟨s_iconst d_X3_softerBy_9 rfl, List.forall_mem_cons.mpr ⟨s_istore d_X3_softerBy_10 (by decide), List.forall_mem_cons.mpr ⟨s_iconst d_X3_softerBy_12 rfl, List.forall_mem_cons.mpr ⟨s_istore d_X3_softerBy_13 (by decide), List.forall_mem_cons.mpr ⟨s_iload d_X3_softerBy_15, List.forall_mem_cons.mpr ⟨s_bipush d_X3_softerBy_17 rfl, fun _ h => absurd h List.not_mem_nil⟩⟩⟩⟩⟩⟩⟩⟩⟩⟩⟩⟩
def t_X3_softerBy_1 : List (Nat × QO) := [(19, o_ic (fun x y => decide (y ≤ x)) 53 22), (22, o_il 4 24), (24, o_il 7 26), (26, o_b (fun x y => x >>> (y &&& 31)) 27), (27, o_k 1 28), (28, o_b (fun x y => x &&& y) 29), (29, o_k 1 30), (30, o_ic (fun x y => decide (x ≠ y)) 47 33), (33, o_il 6 35), (35, o_k 0 36), (36, o_il 5 38), (38, o_il 7 40)]
theorem ts_X3_softerBy_1 (sx : QX) : ∀ q ∈ t_X3_softerBy_1, q_Snd sx RX3 cX3_softerBy 8 (some .int) q.1 q.2 := List.forall_mem_cons.mpr ⟨s_ic_ge d_X3_softerBy_19 (by decide), List.forall_mem_cons.mpr ⟨s_iload d_X3_softerBy_22, List.forall_mem_cons.mpr ⟨s_iload d_X3_softerBy_24, List.forall_mem_cons.mpr ⟨s_ishr d_X3_softerBy_26, List.forall_mem_cons.mpr ⟨s_iconst d_X3_softerBy_27 rfl, List.forall_mem_cons.mpr ⟨s_iand d_X3_softerBy_28, List.forall_mem_cons.mpr ⟨s_iconst d_X3_softerBy_29 rfl, List.forall_mem_cons.mpr ⟨s_ic_ne d_X3_softerBy_30 (by decide), List.forall_mem_cons.mpr ⟨s_iload d_X3_softerBy_33, List.forall_mem_cons.mpr ⟨s_iconst d_X3_softerBy_35 rfl, List.forall_mem_cons.mpr ⟨s_iload d_X3_softerBy_36, List.forall_mem_cons.mpr ⟨s_iload d_X3_softerBy_38, fun _ h => absurd h List.not_mem_nil⟩⟩⟩⟩⟩⟩⟩⟩⟩⟩⟩⟩
def t_X3_softerBy_2 : List (Nat × QO) := [(40, o_b (fun x y => x - y) 41), (41, o_max 44), (44, o_b (fun x y => x + y) 45), (45, o_is 6 47), (47, o_inc 7 1 50), (50, o_goto 15), (53, o_il 6 55), (55, o_ir false)]
theorem ts_X3_softerBy_2 (sx : QX) : ∀ q ∈ t_X3_softerBy_2, q_Snd sx RX3 cX3_softerBy 8 (some .int) q.1 q.2 := List.forall_mem_cons.mpr ⟨s_isub d_X3_softerBy_40, List.forall_mem_cons.mpr ⟨s_max d_X3_softerBy_41 k_2_223 k_2_224 k_1_13 k_2_225, List.forall_mem_cons.mpr ⟨s_iadd d_X3_softerBy_44, List.forall_mem_cons.mpr ⟨s_istore d_X3_softerBy_45 (by decide), List.forall_mem_cons.mpr ⟨s_iinc d_X3_softerBy_47 rfl (by decide), List.forall_mem_cons.mpr ⟨s_goto d_X3_softerBy_50 (by decide), List.forall_mem_cons.mpr ⟨s_iload d_X3_softerBy_53, List.forall_mem_cons.mpr ⟨s_ir d_X3_softerBy_55 rfl, fun _ h => absurd h List.not_mem_nil⟩⟩⟩⟩⟩⟩⟩⟩
def t_X3_softerBy (pc : Nat) : Option QO := cond (Nat.ble pc 17) (q_look (t_X3_softerBy_0) pc) (cond (Nat.ble pc 38) (q_look (t_X3_softerBy_1) pc) (q_look (t_X3_softerBy_2) pc))
theorem ts_X3_softerBy (sx : QX) (pc : Nat) : ∀ o, t_X3_softerBy pc = some o → q_Snd sx RX3 cX3_softerBy 8 (some .int) pc o := by
  unfold t_X3_softerBy
  exact q_cb (q_look_all (ts_X3_softerBy_0 sx)) (q_cb (q_look_all (ts_X3_softerBy_1 sx)) (q_look_all (ts_X3_softerBy_2 sx)))
