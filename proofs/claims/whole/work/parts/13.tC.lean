theorem d_X7_in_0 : decode cX7_in 0 = .ok (.lload_n 0, 1) := by decide +kernel
theorem d_X7_in_1 : decode cX7_in 1 = .ok (.lload_n 2, 1) := by decide +kernel
theorem d_X7_in_2 : decode cX7_in 2 = .ok (.lcmp, 1) := by decide +kernel
theorem d_X7_in_3 : decode cX7_in 3 = .ok (.ifCond .lt 14, 3) := by decide +kernel
theorem d_X7_in_6 : decode cX7_in 6 = .ok (.lload_n 0, 1) := by decide +kernel
theorem d_X7_in_7 : decode cX7_in 7 = .ok (.lload 4, 2) := by decide +kernel
theorem d_X7_in_9 : decode cX7_in 9 = .ok (.lcmp, 1) := by decide +kernel
theorem d_X7_in_10 : decode cX7_in 10 = .ok (.ifCond .gt 7, 3) := by decide +kernel
theorem d_X7_in_13 : decode cX7_in 13 = .ok (.iconst 1, 1) := by decide +kernel
theorem d_X7_in_14 : decode cX7_in 14 = .ok (.goto 4, 3) := by decide +kernel
theorem d_X7_in_17 : decode cX7_in 17 = .ok (.iconst 0, 1) := by decide +kernel
theorem d_X7_in_18 : decode cX7_in 18 = .ok (.ireturn, 1) := by decide +kernel
def t_X7_in_0 : List (Nat × QO) := [(0, o_ll 0 1), (1, o_ll 2 2), (2, o_lcmp 3), (3, o_if (fun x => decide (x < 0)) 17 6), (6, o_ll 0 7), (7, o_ll 4 9), (9, o_lcmp 10), (10, o_if (fun x => decide (0 < x)) 17 13), (13, o_k 1 14), (14, o_goto 18), (17, o_k 0 18), (18, o_ir true)]
theorem ts_X7_in_0 (sx : QX) : ∀ q ∈ t_X7_in_0, q_Snd sx RX7 cX7_in 6 (some .boolean) q.1 q.2 := List.forall_mem_cons.mpr ⟨s_lload_n d_X7_in_0 rfl, List.forall_mem_cons.mpr ⟨s_lload_n d_X7_in_1 rfl, List.forall_mem_cons.mpr ⟨s_lcmp d_X7_in_2, List.forall_mem_cons.mpr ⟨s_if_lt d_X7_in_3 (by decide), List.forall_mem_cons.mpr ⟨s_lload_n d_X7_in_6 rfl, List.forall_mem_cons.mpr ⟨s_lload d_X7_in_7, List.forall_mem_cons.mpr ⟨s_lcmp d_X7_in_9, List.forall_mem_cons.mpr ⟨s_if_gt d_X7_in_10 (by decide), List.forall_mem_cons.mpr ⟨s_iconst d_X7_in_13 rfl, List.forall_mem_cons.mpr ⟨s_goto d_X7_in_14 (by decide), List.forall_mem_cons.mpr ⟨s_iconst d_X7_in_17 rfl, List.forall_mem_cons.mpr ⟨s_zr d_X7_in_18 rfl, fun _ h => absurd h List.not_mem_nil⟩⟩⟩⟩⟩⟩⟩⟩⟩⟩⟩⟩
def t_X7_in (pc : Nat) : Option QO := q_look (t_X7_in_0) pc
theorem ts_X7_in (sx : QX) (pc : Nat) : ∀ o, t_X7_in pc = some o → q_Snd sx RX7 cX7_in 6 (some .boolean) pc o := by
  unfold t_X7_in
  exact q_look_all (ts_X7_in_0 sx)
theorem d_X7_has_0 : decode cX7_has 0 = .ok (.iload_n 0, 1) := by decide +kernel
theorem d_X7_has_1 : decode cX7_has 1 = .ok (.iload_n 1, 1) := by decide +kernel
theorem d_X7_has_2 : decode cX7_has 2 = .ok (.ishr, 1) := by decide +kernel
theorem d_X7_has_3 : decode cX7_has 3 = .ok (.iconst 1, 1) := by decide +kernel
theorem d_X7_has_4 : decode cX7_has 4 = .ok (.iand, 1) := by decide +kernel
theorem d_X7_has_5 : decode cX7_has 5 = .ok (.iconst 1, 1) := by decide +kernel
theorem d_X7_has_6 : decode cX7_has 6 = .ok (.if_icmp .ne 7, 3) := by decide +kernel
theorem d_X7_has_9 : decode cX7_has 9 = .ok (.iconst 1, 1) := by decide +kernel
theorem d_X7_has_10 : decode cX7_has 10 = .ok (.goto 4, 3) := by decide +kernel
theorem d_X7_has_13 : decode cX7_has 13 = .ok (.iconst 0, 1) := by decide +kernel
theorem d_X7_has_14 : decode cX7_has 14 = .ok (.ireturn, 1) := by decide +kernel
def t_X7_has_0 : List (Nat × QO) := [(0, o_il 0 1), (1, o_il 1 2), (2, o_b (fun x y => x >>> (y &&& 31)) 3), (3, o_k 1 4), (4, o_b (fun x y => x &&& y) 5), (5, o_k 1 6), (6, o_ic (fun x y => decide (x ≠ y)) 13 9), (9, o_k 1 10), (10, o_goto 14), (13, o_k 0 14), (14, o_ir true)]
theorem ts_X7_has_0 (sx : QX) : ∀ q ∈ t_X7_has_0, q_Snd sx RX7 cX7_has 2 (some .boolean) q.1 q.2 := List.forall_mem_cons.mpr ⟨s_iload_n d_X7_has_0 rfl, List.forall_mem_cons.mpr ⟨s_iload_n d_X7_has_1 rfl, List.forall_mem_cons.mpr ⟨s_ishr d_X7_has_2, List.forall_mem_cons.mpr ⟨s_iconst d_X7_has_3 rfl, List.forall_mem_cons.mpr ⟨s_iand d_X7_has_4, List.forall_mem_cons.mpr ⟨s_iconst d_X7_has_5 rfl, List.forall_mem_cons.mpr ⟨s_ic_ne d_X7_has_6 (by decide), List.forall_mem_cons.mpr ⟨s_iconst d_X7_has_9 rfl, List.forall_mem_cons.mpr ⟨s_goto d_X7_has_10 (by decide), List.forall_mem_cons.mpr ⟨s_iconst d_X7_has_13 rfl, List.forall_mem_cons.mpr ⟨s_zr d_X7_has_14 rfl, fun _ h => absurd h List.not_mem_nil⟩⟩⟩⟩⟩⟩⟩⟩⟩⟩⟩
def t_X7_has (pc : Nat) : Option QO := q_look (t_X7_has_0) pc
theorem ts_X7_has (sx : QX) (pc : Nat) : ∀ o, t_X7_has pc = some o → q_Snd sx RX7 cX7_has 2 (some .boolean) pc o := by
  unfold t_X7_has
  exact q_look_all (ts_X7_has_0 sx)
theorem d_X7_ones_0 : decode cX7_ones 0 = .ok (.iconst 0, 1) := by decide +kernel
theorem d_X7_ones_1 : decode cX7_ones 1 = .ok (.istore_n 1, 1) := by decide +kernel
theorem d_X7_ones_2 : decode cX7_ones 2 = .ok (.iconst 0, 1) := by decide +kernel
theorem d_X7_ones_3 : decode cX7_ones 3 = .ok (.istore_n 2, 1) := by decide +kernel
theorem d_X7_ones_4 : decode cX7_ones 4 = .ok (.iload_n 2, 1) := by decide +kernel
theorem d_X7_ones_5 : decode cX7_ones 5 = .ok (.bipush 6, 2) := by decide +kernel
theorem d_X7_ones_7 : decode cX7_ones 7 = .ok (.if_icmp .ge 17, 3) := by decide +kernel
theorem d_X7_ones_10 : decode cX7_ones 10 = .ok (.iload_n 1, 1) := by decide +kernel
theorem d_X7_ones_11 : decode cX7_ones 11 = .ok (.iload_n 0, 1) := by decide +kernel
theorem d_X7_ones_12 : decode cX7_ones 12 = .ok (.iload_n 2, 1) := by decide +kernel
theorem d_X7_ones_13 : decode cX7_ones 13 = .ok (.ishr, 1) := by decide +kernel
theorem d_X7_ones_14 : decode cX7_ones 14 = .ok (.iconst 1, 1) := by decide +kernel
theorem d_X7_ones_15 : decode cX7_ones 15 = .ok (.iand, 1) := by decide +kernel
theorem d_X7_ones_16 : decode cX7_ones 16 = .ok (.iadd, 1) := by decide +kernel
theorem d_X7_ones_17 : decode cX7_ones 17 = .ok (.istore_n 1, 1) := by decide +kernel
theorem d_X7_ones_18 : decode cX7_ones 18 = .ok (.iinc 2 1, 3) := by decide +kernel
theorem d_X7_ones_21 : decode cX7_ones 21 = .ok (.goto (-17), 3) := by decide +kernel
theorem d_X7_ones_24 : decode cX7_ones 24 = .ok (.iload_n 1, 1) := by decide +kernel
theorem d_X7_ones_25 : decode cX7_ones 25 = .ok (.ireturn, 1) := by decide +kernel
def t_X7_ones_0 : List (Nat × QO) := [(0, o_k 0 1), (1, o_is 1 2), (2, o_k 0 3), (3, o_is 2 4), (4, o_il 2 5), (5, o_k 6 7), (7, o_ic (fun x y => decide (y ≤ x)) 24 10), (10, o_il 1 11), (11, o_il 0 12), (12, o_il 2 13), (13, o_b (fun x y => x >>> (y &&& 31)) 14), (14, o_k 1 15)]
theorem ts_X7_ones_0 (sx : QX) : ∀ q ∈ t_X7_ones_0, q_Snd sx RX7 cX7_ones 3 (some .int) q.1 q.2 := List.forall_mem_cons.mpr ⟨s_iconst d_X7_ones_0 rfl, List.forall_mem_cons.mpr ⟨s_istore_n d_X7_ones_1 rfl (by decide), List.forall_mem_cons.mpr ⟨s_iconst d_X7_ones_2 rfl, List.forall_mem_cons.mpr ⟨s_istore_n d_X7_ones_3 rfl (by decide), List.forall_mem_cons.mpr ⟨s_iload_n d_X7_ones_4 rfl, List.forall_mem_cons.mpr ⟨s_bipush d_X7_ones_5 rfl, List.forall_mem_cons.mpr ⟨s_ic_ge d_X7_ones_7 (by decide), List.forall_mem_cons.mpr ⟨s_iload_n d_X7_ones_10 rfl, List.forall_mem_cons.mpr ⟨s_iload_n d_X7_ones_11 rfl, List.forall_mem_cons.mpr ⟨s_iload_n d_X7_ones_12 rfl, List.forall_mem_cons.mpr ⟨s_ishr d_X7_ones_13, List.forall_mem_cons.mpr ⟨s_iconst d_X7_ones_14 rfl, fun _ h => absurd h List.not_mem_nil⟩⟩⟩⟩⟩⟩⟩⟩⟩⟩⟩⟩
def t_X7_ones_1 : List (Nat × QO) := [(15, o_b (fun x y => x &&& y) 16), (16, o_b (fun x y => x + y) 17), (17, o_is 1 18), (18, o_inc 2 1 21), (21, o_goto 4), (24, o_il 1 25), (25, o_ir false)]
theorem ts_X7_ones_1 (sx : QX) : ∀ q ∈ t_X7_ones_1, q_Snd sx RX7 cX7_ones 3 (some .int) q.1 q.2 := List.forall_mem_cons.mpr ⟨s_iand d_X7_ones_15, List.forall_mem_cons.mpr ⟨s_iadd d_X7_ones_16, List.forall_mem_cons.mpr ⟨s_istore_n d_X7_ones_17 rfl (by decide), List.forall_mem_cons.mpr ⟨s_iinc d_X7_ones_18 rfl (by decide), List.forall_mem_cons.mpr ⟨s_goto d_X7_ones_21 (by decide), List.forall_mem_cons.mpr ⟨s_iload_n d_X7_ones_24 rfl, List.forall_mem_cons.mpr ⟨s_ir d_X7_ones_25 rfl, fun _ h => absurd h List.not_mem_nil⟩⟩⟩⟩⟩⟩⟩
def t_X7_ones (pc : Nat) : Option QO := cond (Nat.ble pc 14) (q_look (t_X7_ones_0) pc) (q_look (t_X7_ones_1) pc)
theorem ts_X7_ones (sx : QX) (pc : Nat) : ∀ o, t_X7_ones pc = some o → q_Snd sx RX7 cX7_ones 3 (some .int) pc o := by
  unfold t_X7_ones
  exact q_cb (q_look_all (ts_X7_ones_0 sx)) (q_look_all (ts_X7_ones_1 sx))
theorem d_X7_copy_0 : decode cX7_copy 0 = .ok (.iconst 0, 1) := by decide +kernel
theorem d_X7_copy_1 : decode cX7_copy 1 = .ok (.istore_n 3, 1) := by decide +kernel
theorem d_X7_copy_2 : decode cX7_copy 2 = .ok (.iload_n 3, 1) := by decide +kernel
theorem d_X7_copy_3 : decode cX7_copy 3 = .ok (.bipush 83, 2) := by decide +kernel
theorem d_X7_copy_5 : decode cX7_copy 5 = .ok (.if_icmp .ge 25, 3) := by decide +kernel
theorem d_X7_copy_8 : decode cX7_copy 8 = .ok (.aload_n 0, 1) := by decide +kernel
theorem d_X7_copy_9 : decode cX7_copy 9 = .ok (.getfield 7, 3) := by decide +kernel
theorem d_X7_copy_12 : decode cX7_copy 12 = .ok (.iload_n 2, 1) := by decide +kernel
theorem d_X7_copy_13 : decode cX7_copy 13 = .ok (.iload_n 3, 1) := by decide +kernel
theorem d_X7_copy_14 : decode cX7_copy 14 = .ok (.iadd, 1) := by decide +kernel
theorem d_X7_copy_15 : decode cX7_copy 15 = .ok (.aload_n 0, 1) := by decide +kernel
theorem d_X7_copy_16 : decode cX7_copy 16 = .ok (.getfield 7, 3) := by decide +kernel
theorem d_X7_copy_19 : decode cX7_copy 19 = .ok (.iload_n 1, 1) := by decide +kernel
theorem d_X7_copy_20 : decode cX7_copy 20 = .ok (.iload_n 3, 1) := by decide +kernel
theorem d_X7_copy_21 : decode cX7_copy 21 = .ok (.iadd, 1) := by decide +kernel
theorem d_X7_copy_22 : decode cX7_copy 22 = .ok (.iaload, 1) := by decide +kernel
theorem d_X7_copy_23 : decode cX7_copy 23 = .ok (.iastore, 1) := by decide +kernel
theorem d_X7_copy_24 : decode cX7_copy 24 = .ok (.iinc 3 1, 3) := by decide +kernel
theorem d_X7_copy_27 : decode cX7_copy 27 = .ok (.goto (-25), 3) := by decide +kernel
theorem d_X7_copy_30 : decode cX7_copy 30 = .ok (.return_, 1) := by decide +kernel
def t_X7_copy_0 : List (Nat × QO) := [(0, o_k 0 1), (1, o_is 3 2), (2, o_il 3 3), (3, o_k 83 5), (5, o_ic (fun x y => decide (y ≤ x)) 30 8), (8, o_al 0 9), (9, o_gf 7 0 12), (12, o_il 2 13), (13, o_il 3 14), (14, o_b (fun x y => x + y) 15), (15, o_al 0 16), (16, o_gf 7 0 19)]
theorem ts_X7_copy_0 (sx : QX) : ∀ q ∈ t_X7_copy_0, q_Snd sx RX7 cX7_copy 4 none q.1 q.2 := List.forall_mem_cons.mpr ⟨s_iconst d_X7_copy_0 rfl, List.forall_mem_cons.mpr ⟨s_istore_n d_X7_copy_1 rfl (by decide), List.forall_mem_cons.mpr ⟨s_iload_n d_X7_copy_2 rfl, List.forall_mem_cons.mpr ⟨s_bipush d_X7_copy_3 rfl, List.forall_mem_cons.mpr ⟨s_ic_ge d_X7_copy_5 (by decide), List.forall_mem_cons.mpr ⟨s_aload_n d_X7_copy_8 rfl, List.forall_mem_cons.mpr ⟨s_gf d_X7_copy_9 rfl (by decide) n_X7 in_X7 rfl k_4_29, List.forall_mem_cons.mpr ⟨s_iload_n d_X7_copy_12 rfl, List.forall_mem_cons.mpr ⟨s_iload_n d_X7_copy_13 rfl, List.forall_mem_cons.mpr ⟨s_iadd d_X7_copy_14, List.forall_mem_cons.mpr ⟨s_aload_n d_X7_copy_15 rfl, List.forall_mem_cons.mpr ⟨s_gf d_X7_copy_16 rfl (by decide) n_X7 in_X7 rfl k_4_29, fun _ h => absurd h List.not_mem_nil⟩⟩⟩⟩⟩⟩⟩⟩⟩⟩⟩⟩
def t_X7_copy_1 : List (Nat × QO) := [(19, o_il 1 20), (20, o_il 3 21), (21, o_b (fun x y => x + y) 22), (22, o_iald 23), (23, o_iast 24), (24, o_inc 3 1 27), (27, o_goto 2), (30, o_vr)]
theorem ts_X7_copy_1 (sx : QX) : ∀ q ∈ t_X7_copy_1, q_Snd sx RX7 cX7_copy 4 none q.1 q.2 := List.forall_mem_cons.mpr ⟨s_iload_n d_X7_copy_19 rfl, List.forall_mem_cons.mpr ⟨s_iload_n d_X7_copy_20 rfl, List.forall_mem_cons.mpr ⟨s_iadd d_X7_copy_21, List.forall_mem_cons.mpr ⟨s_iald d_X7_copy_22, List.forall_mem_cons.mpr ⟨s_iast d_X7_copy_23, List.forall_mem_cons.mpr ⟨s_iinc d_X7_copy_24 rfl (by decide), List.forall_mem_cons.mpr ⟨s_goto d_X7_copy_27 (by decide), List.forall_mem_cons.mpr ⟨s_vr d_X7_copy_30 rfl, fun _ h => absurd h List.not_mem_nil⟩⟩⟩⟩⟩⟩⟩⟩
def t_X7_copy (pc : Nat) : Option QO := cond (Nat.ble pc 16) (q_look (t_X7_copy_0) pc) (q_look (t_X7_copy_1) pc)
theorem ts_X7_copy (sx : QX) (pc : Nat) : ∀ o, t_X7_copy pc = some o → q_Snd sx RX7 cX7_copy 4 none pc o := by
  unfold t_X7_copy
  exact q_cb (q_look_all (ts_X7_copy_0 sx)) (q_look_all (ts_X7_copy_1 sx))
theorem d_X7_isBlock_0 : decode cX7_isBlock 0 = .ok (.iload_n 1, 1) := by decide +kernel
theorem d_X7_isBlock_1 : decode cX7_isBlock 1 = .ok (.i2l, 1) := by decide +kernel
theorem d_X7_isBlock_2 : decode cX7_isBlock 2 = .ok (.lconst 0, 1) := by decide +kernel
theorem d_X7_isBlock_3 : decode cX7_isBlock 3 = .ok (.aload_n 0, 1) := by decide +kernel
theorem d_X7_isBlock_4 : decode cX7_isBlock 4 = .ok (.getfield 82, 3) := by decide +kernel
theorem d_X7_isBlock_7 : decode cX7_isBlock 7 = .ok (.iconst 1, 1) := by decide +kernel
theorem d_X7_isBlock_8 : decode cX7_isBlock 8 = .ok (.isub, 1) := by decide +kernel
theorem d_X7_isBlock_9 : decode cX7_isBlock 9 = .ok (.i2l, 1) := by decide +kernel
theorem d_X7_isBlock_10 : decode cX7_isBlock 10 = .ok (.invokestatic 85, 3) := by decide +kernel
theorem d_X7_isBlock_13 : decode cX7_isBlock 13 = .ok (.ireturn, 1) := by decide +kernel
def t_X7_isBlock_0 : List (Nat × QO) := [(0, o_il 1 1), (1, o_i2l 2), (2, o_kl 0 3), (3, o_al 0 4), (4, o_gf 7 3 7), (7, o_k 1 8), (8, o_b (fun x y => x - y) 9), (9, o_i2l 10), (10, o_cS 1 102 6 3 13), (13, o_ir true)]
theorem ts_X7_isBlock_0 (sx : QX) : ∀ q ∈ t_X7_isBlock_0, q_Snd sx RX7 cX7_isBlock 2 (some .boolean) q.1 q.2 := List.forall_mem_cons.mpr ⟨s_iload_n d_X7_isBlock_0 rfl, List.forall_mem_cons.mpr ⟨s_i2l d_X7_isBlock_1, List.forall_mem_cons.mpr ⟨s_lconst d_X7_isBlock_2 rfl, List.forall_mem_cons.mpr ⟨s_aload_n d_X7_isBlock_3 rfl, List.forall_mem_cons.mpr ⟨s_gf d_X7_isBlock_4 rfl (by decide) n_X7 in_X7 rfl k_4_32, List.forall_mem_cons.mpr ⟨s_iconst d_X7_isBlock_7 rfl, List.forall_mem_cons.mpr ⟨s_isub d_X7_isBlock_8, List.forall_mem_cons.mpr ⟨s_i2l d_X7_isBlock_9, List.forall_mem_cons.mpr ⟨s_cS rfl d_X7_isBlock_10 k_4_126 k_4_127 k_1_12 k_4_128 ⟨by decide, by decide⟩ (by decide +kernel) (by decide), List.forall_mem_cons.mpr ⟨s_zr d_X7_isBlock_13 rfl, fun _ h => absurd h List.not_mem_nil⟩⟩⟩⟩⟩⟩⟩⟩⟩⟩
def t_X7_isBlock (pc : Nat) : Option QO := q_look (t_X7_isBlock_0) pc
theorem ts_X7_isBlock (sx : QX) (pc : Nat) : ∀ o, t_X7_isBlock pc = some o → q_Snd sx RX7 cX7_isBlock 2 (some .boolean) pc o := by
  unfold t_X7_isBlock
  exact q_look_all (ts_X7_isBlock_0 sx)
theorem d_X7_isWord_0 : decode cX7_isWord 0 = .ok (.iload_n 1, 1) := by decide +kernel
theorem d_X7_isWord_1 : decode cX7_isWord 1 = .ok (.i2l, 1) := by decide +kernel
theorem d_X7_isWord_2 : decode cX7_isWord 2 = .ok (.lconst 0, 1) := by decide +kernel
theorem d_X7_isWord_3 : decode cX7_isWord 3 = .ok (.aload_n 0, 1) := by decide +kernel
theorem d_X7_isWord_4 : decode cX7_isWord 4 = .ok (.getfield 89, 3) := by decide +kernel
theorem d_X7_isWord_7 : decode cX7_isWord 7 = .ok (.iconst 1, 1) := by decide +kernel
theorem d_X7_isWord_8 : decode cX7_isWord 8 = .ok (.isub, 1) := by decide +kernel
theorem d_X7_isWord_9 : decode cX7_isWord 9 = .ok (.i2l, 1) := by decide +kernel
theorem d_X7_isWord_10 : decode cX7_isWord 10 = .ok (.invokestatic 85, 3) := by decide +kernel
theorem d_X7_isWord_13 : decode cX7_isWord 13 = .ok (.ireturn, 1) := by decide +kernel
def t_X7_isWord_0 : List (Nat × QO) := [(0, o_il 1 1), (1, o_i2l 2), (2, o_kl 0 3), (3, o_al 0 4), (4, o_gf 7 6 7), (7, o_k 1 8), (8, o_b (fun x y => x - y) 9), (9, o_i2l 10), (10, o_cS 1 102 6 3 13), (13, o_ir true)]
theorem ts_X7_isWord_0 (sx : QX) : ∀ q ∈ t_X7_isWord_0, q_Snd sx RX7 cX7_isWord 2 (some .boolean) q.1 q.2 := List.forall_mem_cons.mpr ⟨s_iload_n d_X7_isWord_0 rfl, List.forall_mem_cons.mpr ⟨s_i2l d_X7_isWord_1, List.forall_mem_cons.mpr ⟨s_lconst d_X7_isWord_2 rfl, List.forall_mem_cons.mpr ⟨s_aload_n d_X7_isWord_3 rfl, List.forall_mem_cons.mpr ⟨s_gf d_X7_isWord_4 rfl (by decide) n_X7 in_X7 rfl k_4_35, List.forall_mem_cons.mpr ⟨s_iconst d_X7_isWord_7 rfl, List.forall_mem_cons.mpr ⟨s_isub d_X7_isWord_8, List.forall_mem_cons.mpr ⟨s_i2l d_X7_isWord_9, List.forall_mem_cons.mpr ⟨s_cS rfl d_X7_isWord_10 k_4_126 k_4_127 k_1_12 k_4_128 ⟨by decide, by decide⟩ (by decide +kernel) (by decide), List.forall_mem_cons.mpr ⟨s_zr d_X7_isWord_13 rfl, fun _ h => absurd h List.not_mem_nil⟩⟩⟩⟩⟩⟩⟩⟩⟩⟩
def t_X7_isWord (pc : Nat) : Option QO := q_look (t_X7_isWord_0) pc
theorem ts_X7_isWord (sx : QX) (pc : Nat) : ∀ o, t_X7_isWord pc = some o → q_Snd sx RX7 cX7_isWord 2 (some .boolean) pc o := by
  unfold t_X7_isWord
  exact q_look_all (ts_X7_isWord_0 sx)
theorem d_X7_isSpeaker_0 : decode cX7_isSpeaker 0 = .ok (.iload_n 1, 1) := by decide +kernel
theorem d_X7_isSpeaker_1 : decode cX7_isSpeaker 1 = .ok (.i2l, 1) := by decide +kernel
theorem d_X7_isSpeaker_2 : decode cX7_isSpeaker 2 = .ok (.lconst 0, 1) := by decide +kernel
theorem d_X7_isSpeaker_3 : decode cX7_isSpeaker 3 = .ok (.aload_n 0, 1) := by decide +kernel
theorem d_X7_isSpeaker_4 : decode cX7_isSpeaker 4 = .ok (.getfield 92, 3) := by decide +kernel
theorem d_X7_isSpeaker_7 : decode cX7_isSpeaker 7 = .ok (.iconst 1, 1) := by decide +kernel
theorem d_X7_isSpeaker_8 : decode cX7_isSpeaker 8 = .ok (.isub, 1) := by decide +kernel
theorem d_X7_isSpeaker_9 : decode cX7_isSpeaker 9 = .ok (.i2l, 1) := by decide +kernel
theorem d_X7_isSpeaker_10 : decode cX7_isSpeaker 10 = .ok (.invokestatic 85, 3) := by decide +kernel
theorem d_X7_isSpeaker_13 : decode cX7_isSpeaker 13 = .ok (.ireturn, 1) := by decide +kernel
def t_X7_isSpeaker_0 : List (Nat × QO) := [(0, o_il 1 1), (1, o_i2l 2), (2, o_kl 0 3), (3, o_al 0 4), (4, o_gf 7 8 7), (7, o_k 1 8), (8, o_b (fun x y => x - y) 9), (9, o_i2l 10), (10, o_cS 1 102 6 3 13), (13, o_ir true)]
theorem ts_X7_isSpeaker_0 (sx : QX) : ∀ q ∈ t_X7_isSpeaker_0, q_Snd sx RX7 cX7_isSpeaker 2 (some .boolean) q.1 q.2 := List.forall_mem_cons.mpr ⟨s_iload_n d_X7_isSpeaker_0 rfl, List.forall_mem_cons.mpr ⟨s_i2l d_X7_isSpeaker_1, List.forall_mem_cons.mpr ⟨s_lconst d_X7_isSpeaker_2 rfl, List.forall_mem_cons.mpr ⟨s_aload_n d_X7_isSpeaker_3 rfl, List.forall_mem_cons.mpr ⟨s_gf d_X7_isSpeaker_4 rfl (by decide) n_X7 in_X7 rfl k_4_37, List.forall_mem_cons.mpr ⟨s_iconst d_X7_isSpeaker_7 rfl, List.forall_mem_cons.mpr ⟨s_isub d_X7_isSpeaker_8, List.forall_mem_cons.mpr ⟨s_i2l d_X7_isSpeaker_9, List.forall_mem_cons.mpr ⟨s_cS rfl d_X7_isSpeaker_10 k_4_126 k_4_127 k_1_12 k_4_128 ⟨by decide, by decide⟩ (by decide +kernel) (by decide), List.forall_mem_cons.mpr ⟨s_zr d_X7_isSpeaker_13 rfl, fun _ h => absurd h List.not_mem_nil⟩⟩⟩⟩⟩⟩⟩⟩⟩⟩
def t_X7_isSpeaker (pc : Nat) : Option QO := q_look (t_X7_isSpeaker_0) pc
theorem ts_X7_isSpeaker (sx : QX) (pc : Nat) : ∀ o, t_X7_isSpeaker pc = some o → q_Snd sx RX7 cX7_isSpeaker 2 (some .boolean) pc o := by
  unfold t_X7_isSpeaker
  exact q_look_all (ts_X7_isSpeaker_0 sx)
theorem d_X7_starts_0 : decode cX7_starts 0 = .ok (.aload_n 0, 1) := by decide +kernel
theorem d_X7_starts_1 : decode cX7_starts 1 = .ok (.iconst 0, 1) := by decide +kernel
theorem d_X7_starts_2 : decode cX7_starts 2 = .ok (.putfield 95, 3) := by decide +kernel
theorem d_X7_starts_5 : decode cX7_starts 5 = .ok (.aload_n 0, 1) := by decide +kernel
theorem d_X7_starts_6 : decode cX7_starts 6 = .ok (.iconst 0, 1) := by decide +kernel
theorem d_X7_starts_7 : decode cX7_starts 7 = .ok (.putfield 98, 3) := by decide +kernel
theorem d_X7_starts_10 : decode cX7_starts 10 = .ok (.aload_n 0, 1) := by decide +kernel
theorem d_X7_starts_11 : decode cX7_starts 11 = .ok (.iconst 0, 1) := by decide +kernel
theorem d_X7_starts_12 : decode cX7_starts 12 = .ok (.putfield 101, 3) := by decide +kernel
theorem d_X7_starts_15 : decode cX7_starts 15 = .ok (.aload_n 0, 1) := by decide +kernel
theorem d_X7_starts_16 : decode cX7_starts 16 = .ok (.iconst 1, 1) := by decide +kernel
theorem d_X7_starts_17 : decode cX7_starts 17 = .ok (.putfield 75, 3) := by decide +kernel
theorem d_X7_starts_20 : decode cX7_starts 20 = .ok (.iconst 0, 1) := by decide +kernel
theorem d_X7_starts_21 : decode cX7_starts 21 = .ok (.istore_n 1, 1) := by decide +kernel
theorem d_X7_starts_22 : decode cX7_starts 22 = .ok (.iload_n 1, 1) := by decide +kernel
theorem d_X7_starts_23 : decode cX7_starts 23 = .ok (.bipush 24, 2) := by decide +kernel
theorem d_X7_starts_25 : decode cX7_starts 25 = .ok (.if_icmp .ge 17, 3) := by decide +kernel
theorem d_X7_starts_28 : decode cX7_starts 28 = .ok (.aload_n 0, 1) := by decide +kernel
theorem d_X7_starts_29 : decode cX7_starts 29 = .ok (.getfield 40, 3) := by decide +kernel
theorem d_X7_starts_32 : decode cX7_starts 32 = .ok (.iload_n 1, 1) := by decide +kernel
theorem d_X7_starts_33 : decode cX7_starts 33 = .ok (.bipush (-4), 2) := by decide +kernel
theorem d_X7_starts_35 : decode cX7_starts 35 = .ok (.iastore, 1) := by decide +kernel
theorem d_X7_starts_36 : decode cX7_starts 36 = .ok (.iinc 1 1, 3) := by decide +kernel
theorem d_X7_starts_39 : decode cX7_starts 39 = .ok (.goto (-17), 3) := by decide +kernel
theorem d_X7_starts_42 : decode cX7_starts 42 = .ok (.return_, 1) := by decide +kernel
def t_X7_starts_0 : List (Nat × QO) := [(0, o_al 0 1), (1, o_k 0 2), (2, o_pf 7 16 5), (5, o_al 0 6), (6, o_k 0 7), (7, o_pf 7 18 10), (10, o_al 0 11), (11, o_k 0 12), (12, o_pf 7 20 15), (15, o_al 0 16), (16, o_k 1 17), (17, o_pf 7 22 20)]
theorem ts_X7_starts_0 (sx : QX) : ∀ q ∈ t_X7_starts_0, q_Snd sx RX7 cX7_starts 2 none q.1 q.2 := List.forall_mem_cons.mpr ⟨s_aload_n d_X7_starts_0 rfl, List.forall_mem_cons.mpr ⟨s_iconst d_X7_starts_1 rfl, List.forall_mem_cons.mpr ⟨s_pf tyX7 d_X7_starts_2 rfl (by decide) n_X7 in_X7 rfl k_4_45 tyX7_ok nmX7 rfl rfl, List.forall_mem_cons.mpr ⟨s_aload_n d_X7_starts_5 rfl, List.forall_mem_cons.mpr ⟨s_iconst d_X7_starts_6 rfl, List.forall_mem_cons.mpr ⟨s_pf tyX7 d_X7_starts_7 rfl (by decide) n_X7 in_X7 rfl k_4_47 tyX7_ok nmX7 rfl rfl, List.forall_mem_cons.mpr ⟨s_aload_n d_X7_starts_10 rfl, List.forall_mem_cons.mpr ⟨s_iconst d_X7_starts_11 rfl, List.forall_mem_cons.mpr ⟨s_pf tyX7 d_X7_starts_12 rfl (by decide) n_X7 in_X7 rfl k_4_49 tyX7_ok nmX7 rfl rfl, List.forall_mem_cons.mpr ⟨s_aload_n d_X7_starts_15 rfl, List.forall_mem_cons.mpr ⟨s_iconst d_X7_starts_16 rfl, List.forall_mem_cons.mpr ⟨s_pf tyX7 d_X7_starts_17 rfl (by decide) n_X7 in_X7 rfl k_4_51 tyX7_ok nmX7 rfl rfl, fun _ h => absurd h List.not_mem_nil⟩⟩⟩⟩⟩⟩⟩⟩⟩⟩⟩⟩
def t_X7_starts_1 : List (Nat × QO) := [(20, o_k 0 21), (21, o_is 1 22), (22, o_il 1 23), (23, o_k 24 25), (25, o_ic (fun x y => decide (y ≤ x)) 42 28), (28, o_al 0 29), (29, o_gf 7 23 32), (32, o_il 1 33), (33, o_k (-4) 35), (35, o_iast 36), (36, o_inc 1 1 39), (39, o_goto 22)]
theorem ts_X7_starts_1 (sx : QX) : ∀ q ∈ t_X7_starts_1, q_Snd sx RX7 cX7_starts 2 none q.1 q.2 := List.forall_mem_cons.mpr ⟨s_iconst d_X7_starts_20 rfl, List.forall_mem_cons.mpr ⟨s_istore_n d_X7_starts_21 rfl (by decide), List.forall_mem_cons.mpr ⟨s_iload_n d_X7_starts_22 rfl, List.forall_mem_cons.mpr ⟨s_bipush d_X7_starts_23 rfl, List.forall_mem_cons.mpr ⟨s_ic_ge d_X7_starts_25 (by decide), List.forall_mem_cons.mpr ⟨s_aload_n d_X7_starts_28 rfl, List.forall_mem_cons.mpr ⟨s_gf d_X7_starts_29 rfl (by decide) n_X7 in_X7 rfl k_4_52, List.forall_mem_cons.mpr ⟨s_iload_n d_X7_starts_32 rfl, List.forall_mem_cons.mpr ⟨s_bipush d_X7_starts_33 rfl, List.forall_mem_cons.mpr ⟨s_iast d_X7_starts_35, List.forall_mem_cons.mpr ⟨s_iinc d_X7_starts_36 rfl (by decide), List.forall_mem_cons.mpr ⟨s_goto d_X7_starts_39 (by decide), fun _ h => absurd h List.not_mem_nil⟩⟩⟩⟩⟩⟩⟩⟩⟩⟩⟩⟩
def t_X7_starts_2 : List (Nat × QO) := [(42, o_vr)]
theorem ts_X7_starts_2 (sx : QX) : ∀ q ∈ t_X7_starts_2, q_Snd sx RX7 cX7_starts 2 none q.1 q.2 := List.forall_mem_cons.mpr ⟨s_vr d_X7_starts_42 rfl, fun _ h => absurd h List.not_mem_nil⟩
def t_X7_starts (pc : Nat) : Option QO := cond (Nat.ble pc 17) (q_look (t_X7_starts_0) pc) (cond (Nat.ble pc 39) (q_look (t_X7_starts_1) pc) (q_look (t_X7_starts_2) pc))
theorem ts_X7_starts (sx : QX) (pc : Nat) : ∀ o, t_X7_starts pc = some o → q_Snd sx RX7 cX7_starts 2 none pc o := by
  unfold t_X7_starts
  exact q_cb (q_look_all (ts_X7_starts_0 sx)) (q_cb (q_look_all (ts_X7_starts_1 sx)) (q_look_all (ts_X7_starts_2 sx)))
theorem d_X7_addsBlock_0 : decode cX7_addsBlock 0 = .ok (.aload_n 0, 1) := by decide +kernel
theorem d_X7_addsBlock_1 : decode cX7_addsBlock 1 = .ok (.getfield 31, 3) := by decide +kernel
theorem d_X7_addsBlock_4 : decode cX7_addsBlock 4 = .ok (.iconst 2, 1) := by decide +kernel
theorem d_X7_addsBlock_5 : decode cX7_addsBlock 5 = .ok (.aload_n 0, 1) := by decide +kernel
theorem d_X7_addsBlock_6 : decode cX7_addsBlock 6 = .ok (.getfield 95, 3) := by decide +kernel
theorem d_X7_addsBlock_9 : decode cX7_addsBlock 9 = .ok (.imul, 1) := by decide +kernel
theorem d_X7_addsBlock_10 : decode cX7_addsBlock 10 = .ok (.iload_n 1, 1) := by decide +kernel
theorem d_X7_addsBlock_11 : decode cX7_addsBlock 11 = .ok (.iastore, 1) := by decide +kernel
theorem d_X7_addsBlock_12 : decode cX7_addsBlock 12 = .ok (.aload_n 0, 1) := by decide +kernel
theorem d_X7_addsBlock_13 : decode cX7_addsBlock 13 = .ok (.getfield 31, 3) := by decide +kernel
theorem d_X7_addsBlock_16 : decode cX7_addsBlock 16 = .ok (.iconst 2, 1) := by decide +kernel
theorem d_X7_addsBlock_17 : decode cX7_addsBlock 17 = .ok (.aload_n 0, 1) := by decide +kernel
theorem d_X7_addsBlock_18 : decode cX7_addsBlock 18 = .ok (.getfield 95, 3) := by decide +kernel
theorem d_X7_addsBlock_21 : decode cX7_addsBlock 21 = .ok (.imul, 1) := by decide +kernel
theorem d_X7_addsBlock_22 : decode cX7_addsBlock 22 = .ok (.iconst 1, 1) := by decide +kernel
theorem d_X7_addsBlock_23 : decode cX7_addsBlock 23 = .ok (.iadd, 1) := by decide +kernel
theorem d_X7_addsBlock_24 : decode cX7_addsBlock 24 = .ok (.iload_n 2, 1) := by decide +kernel
theorem d_X7_addsBlock_25 : decode cX7_addsBlock 25 = .ok (.iastore, 1) := by decide +kernel
theorem d_X7_addsBlock_26 : decode cX7_addsBlock 26 = .ok (.aload_n 0, 1) := by decide +kernel
theorem d_X7_addsBlock_27 : decode cX7_addsBlock 27 = .ok (.dup, 1) := by decide +kernel
theorem d_X7_addsBlock_28 : decode cX7_addsBlock 28 = .ok (.getfield 95, 3) := by decide +kernel
theorem d_X7_addsBlock_31 : decode cX7_addsBlock 31 = .ok (.iconst 1, 1) := by decide +kernel
theorem d_X7_addsBlock_32 : decode cX7_addsBlock 32 = .ok (.iadd, 1) := by decide +kernel
theorem d_X7_addsBlock_33 : decode cX7_addsBlock 33 = .ok (.putfield 95, 3) := by decide +kernel
theorem d_X7_addsBlock_36 : decode cX7_addsBlock 36 = .ok (.return_, 1) := by decide +kernel
def t_X7_addsBlock_0 : List (Nat × QO) := [(0, o_al 0 1), (1, o_gf 7 17 4), (4, o_k 2 5), (5, o_al 0 6), (6, o_gf 7 16 9), (9, o_b (fun x y => x * y) 10), (10, o_il 1 11), (11, o_iast 12), (12, o_al 0 13), (13, o_gf 7 17 16), (16, o_k 2 17), (17, o_al 0 18)]
theorem ts_X7_addsBlock_0 (sx : QX) : ∀ q ∈ t_X7_addsBlock_0, q_Snd sx RX7 cX7_addsBlock 3 none q.1 q.2 := List.forall_mem_cons.mpr ⟨s_aload_n d_X7_addsBlock_0 rfl, List.forall_mem_cons.mpr ⟨s_gf d_X7_addsBlock_1 rfl (by decide) n_X7 in_X7 rfl k_4_46, List.forall_mem_cons.mpr ⟨s_iconst d_X7_addsBlock_4 rfl, List.forall_mem_cons.mpr ⟨s_aload_n d_X7_addsBlock_5 rfl, List.forall_mem_cons.mpr ⟨s_gf d_X7_addsBlock_6 rfl (by decide) n_X7 in_X7 rfl k_4_45, List.forall_mem_cons.mpr ⟨s_imul d_X7_addsBlock_9, List.forall_mem_cons.mpr ⟨s_iload_n d_X7_addsBlock_10 rfl, List.forall_mem_cons.mpr ⟨s_iast d_X7_addsBlock_11, List.forall_mem_cons.mpr ⟨s_aload_n d_X7_addsBlock_12 rfl, List.forall_mem_cons.mpr ⟨s_gf d_X7_addsBlock_13 rfl (by decide) n_X7 in_X7 rfl k_4_46, List.forall_mem_cons.mpr ⟨s_iconst d_X7_addsBlock_16 rfl, List.forall_mem_cons.mpr ⟨s_aload_n d_X7_addsBlock_17 rfl, fun _ h => absurd h List.not_mem_nil⟩⟩⟩⟩⟩⟩⟩⟩⟩⟩⟩⟩
def t_X7_addsBlock_1 : List (Nat × QO) := [(18, o_gf 7 16 21), (21, o_b (fun x y => x * y) 22), (22, o_k 1 23), (23, o_b (fun x y => x + y) 24), (24, o_il 2 25), (25, o_iast 26), (26, o_al 0 27), (27, o_dup 28), (28, o_gf 7 16 31), (31, o_k 1 32), (32, o_b (fun x y => x + y) 33), (33, o_pf 7 16 36)]
theorem ts_X7_addsBlock_1 (sx : QX) : ∀ q ∈ t_X7_addsBlock_1, q_Snd sx RX7 cX7_addsBlock 3 none q.1 q.2 := List.forall_mem_cons.mpr ⟨s_gf d_X7_addsBlock_18 rfl (by decide) n_X7 in_X7 rfl k_4_45, List.forall_mem_cons.mpr ⟨s_imul d_X7_addsBlock_21, List.forall_mem_cons.mpr ⟨s_iconst d_X7_addsBlock_22 rfl, List.forall_mem_cons.mpr ⟨s_iadd d_X7_addsBlock_23, List.forall_mem_cons.mpr ⟨s_iload_n d_X7_addsBlock_24 rfl, List.forall_mem_cons.mpr ⟨s_iast d_X7_addsBlock_25, List.forall_mem_cons.mpr ⟨s_aload_n d_X7_addsBlock_26 rfl, List.forall_mem_cons.mpr ⟨s_dup d_X7_addsBlock_27, List.forall_mem_cons.mpr ⟨s_gf d_X7_addsBlock_28 rfl (by decide) n_X7 in_X7 rfl k_4_45, List.forall_mem_cons.mpr ⟨s_iconst d_X7_addsBlock_31 rfl, List.forall_mem_cons.mpr ⟨s_iadd d_X7_addsBlock_32, List.forall_mem_cons.mpr ⟨s_pf tyX7 d_X7_addsBlock_33 rfl (by decide) n_X7 in_X7 rfl k_4_45 tyX7_ok nmX7 rfl rfl, fun _ h => absurd h List.not_mem_nil⟩⟩⟩⟩⟩⟩⟩⟩⟩⟩⟩⟩
def t_X7_addsBlock_2 : List (Nat × QO) := [(36, o_vr)]
theorem ts_X7_addsBlock_2 (sx : QX) : ∀ q ∈ t_X7_addsBlock_2, q_Snd sx RX7 cX7_addsBlock 3 none q.1 q.2 := List.forall_mem_cons.mpr ⟨s_vr d_X7_addsBlock_36 rfl, fun _ h => absurd h List.not_mem_nil⟩
def t_X7_addsBlock (pc : Nat) : Option QO := cond (Nat.ble pc 17) (q_look (t_X7_addsBlock_0) pc) (cond (Nat.ble pc 33) (q_look (t_X7_addsBlock_1) pc) (q_look (t_X7_addsBlock_2) pc))
theorem ts_X7_addsBlock (sx : QX) (pc : Nat) : ∀ o, t_X7_addsBlock pc = some o → q_Snd sx RX7 cX7_addsBlock 3 none pc o := by
  unfold t_X7_addsBlock
  exact q_cb (q_look_all (ts_X7_addsBlock_0 sx)) (q_cb (q_look_all (ts_X7_addsBlock_1 sx)) (q_look_all (ts_X7_addsBlock_2 sx)))
theorem d_X7_addsWord_0 : decode cX7_addsWord 0 = .ok (.aload_n 0, 1) := by decide +kernel
theorem d_X7_addsWord_1 : decode cX7_addsWord 1 = .ok (.getfield 34, 3) := by decide +kernel
theorem d_X7_addsWord_4 : decode cX7_addsWord 4 = .ok (.aload_n 0, 1) := by decide +kernel
theorem d_X7_addsWord_5 : decode cX7_addsWord 5 = .ok (.getfield 98, 3) := by decide +kernel
theorem d_X7_addsWord_8 : decode cX7_addsWord 8 = .ok (.iload_n 1, 1) := by decide +kernel
theorem d_X7_addsWord_9 : decode cX7_addsWord 9 = .ok (.iastore, 1) := by decide +kernel
theorem d_X7_addsWord_10 : decode cX7_addsWord 10 = .ok (.aload_n 0, 1) := by decide +kernel
theorem d_X7_addsWord_11 : decode cX7_addsWord 11 = .ok (.dup, 1) := by decide +kernel
theorem d_X7_addsWord_12 : decode cX7_addsWord 12 = .ok (.getfield 98, 3) := by decide +kernel
theorem d_X7_addsWord_15 : decode cX7_addsWord 15 = .ok (.iconst 1, 1) := by decide +kernel
theorem d_X7_addsWord_16 : decode cX7_addsWord 16 = .ok (.iadd, 1) := by decide +kernel
theorem d_X7_addsWord_17 : decode cX7_addsWord 17 = .ok (.putfield 98, 3) := by decide +kernel
theorem d_X7_addsWord_20 : decode cX7_addsWord 20 = .ok (.return_, 1) := by decide +kernel
def t_X7_addsWord_0 : List (Nat × QO) := [(0, o_al 0 1), (1, o_gf 7 19 4), (4, o_al 0 5), (5, o_gf 7 18 8), (8, o_il 1 9), (9, o_iast 10), (10, o_al 0 11), (11, o_dup 12), (12, o_gf 7 18 15), (15, o_k 1 16), (16, o_b (fun x y => x + y) 17), (17, o_pf 7 18 20)]
theorem ts_X7_addsWord_0 (sx : QX) : ∀ q ∈ t_X7_addsWord_0, q_Snd sx RX7 cX7_addsWord 2 none q.1 q.2 := List.forall_mem_cons.mpr ⟨s_aload_n d_X7_addsWord_0 rfl, List.forall_mem_cons.mpr ⟨s_gf d_X7_addsWord_1 rfl (by decide) n_X7 in_X7 rfl k_4_48, List.forall_mem_cons.mpr ⟨s_aload_n d_X7_addsWord_4 rfl, List.forall_mem_cons.mpr ⟨s_gf d_X7_addsWord_5 rfl (by decide) n_X7 in_X7 rfl k_4_47, List.forall_mem_cons.mpr ⟨s_iload_n d_X7_addsWord_8 rfl, List.forall_mem_cons.mpr ⟨s_iast d_X7_addsWord_9, List.forall_mem_cons.mpr ⟨s_aload_n d_X7_addsWord_10 rfl, List.forall_mem_cons.mpr ⟨s_dup d_X7_addsWord_11, List.forall_mem_cons.mpr ⟨s_gf d_X7_addsWord_12 rfl (by decide) n_X7 in_X7 rfl k_4_47, List.forall_mem_cons.mpr ⟨s_iconst d_X7_addsWord_15 rfl, List.forall_mem_cons.mpr ⟨s_iadd d_X7_addsWord_16, List.forall_mem_cons.mpr ⟨s_pf tyX7 d_X7_addsWord_17 rfl (by decide) n_X7 in_X7 rfl k_4_47 tyX7_ok nmX7 rfl rfl, fun _ h => absurd h List.not_mem_nil⟩⟩⟩⟩⟩⟩⟩⟩⟩⟩⟩⟩
def t_X7_addsWord_1 : List (Nat × QO) := [(20, o_vr)]
theorem ts_X7_addsWord_1 (sx : QX) : ∀ q ∈ t_X7_addsWord_1, q_Snd sx RX7 cX7_addsWord 2 none q.1 q.2 := List.forall_mem_cons.mpr ⟨s_vr d_X7_addsWord_20 rfl, fun _ h => absurd h List.not_mem_nil⟩
def t_X7_addsWord (pc : Nat) : Option QO := cond (Nat.ble pc 17) (q_look (t_X7_addsWord_0) pc) (q_look (t_X7_addsWord_1) pc)
theorem ts_X7_addsWord (sx : QX) (pc : Nat) : ∀ o, t_X7_addsWord pc = some o → q_Snd sx RX7 cX7_addsWord 2 none pc o := by
  unfold t_X7_addsWord
  exact q_cb (q_look_all (ts_X7_addsWord_0 sx)) (q_look_all (ts_X7_addsWord_1 sx))
theorem d_X7_addsSpeaker_0 : decode cX7_addsSpeaker 0 = .ok (.aload_n 0, 1) := by decide +kernel
theorem d_X7_addsSpeaker_1 : decode cX7_addsSpeaker 1 = .ok (.getfield 37, 3) := by decide +kernel
theorem d_X7_addsSpeaker_4 : decode cX7_addsSpeaker 4 = .ok (.iconst 2, 1) := by decide +kernel
theorem d_X7_addsSpeaker_5 : decode cX7_addsSpeaker 5 = .ok (.aload_n 0, 1) := by decide +kernel
theorem d_X7_addsSpeaker_6 : decode cX7_addsSpeaker 6 = .ok (.getfield 101, 3) := by decide +kernel
theorem d_X7_addsSpeaker_9 : decode cX7_addsSpeaker 9 = .ok (.imul, 1) := by decide +kernel
theorem d_X7_addsSpeaker_10 : decode cX7_addsSpeaker 10 = .ok (.iload_n 1, 1) := by decide +kernel
theorem d_X7_addsSpeaker_11 : decode cX7_addsSpeaker 11 = .ok (.iastore, 1) := by decide +kernel
theorem d_X7_addsSpeaker_12 : decode cX7_addsSpeaker 12 = .ok (.aload_n 0, 1) := by decide +kernel
theorem d_X7_addsSpeaker_13 : decode cX7_addsSpeaker 13 = .ok (.getfield 37, 3) := by decide +kernel
theorem d_X7_addsSpeaker_16 : decode cX7_addsSpeaker 16 = .ok (.iconst 2, 1) := by decide +kernel
theorem d_X7_addsSpeaker_17 : decode cX7_addsSpeaker 17 = .ok (.aload_n 0, 1) := by decide +kernel
theorem d_X7_addsSpeaker_18 : decode cX7_addsSpeaker 18 = .ok (.getfield 101, 3) := by decide +kernel
theorem d_X7_addsSpeaker_21 : decode cX7_addsSpeaker 21 = .ok (.imul, 1) := by decide +kernel
theorem d_X7_addsSpeaker_22 : decode cX7_addsSpeaker 22 = .ok (.iconst 1, 1) := by decide +kernel
theorem d_X7_addsSpeaker_23 : decode cX7_addsSpeaker 23 = .ok (.iadd, 1) := by decide +kernel
theorem d_X7_addsSpeaker_24 : decode cX7_addsSpeaker 24 = .ok (.iload_n 2, 1) := by decide +kernel
theorem d_X7_addsSpeaker_25 : decode cX7_addsSpeaker 25 = .ok (.iastore, 1) := by decide +kernel
theorem d_X7_addsSpeaker_26 : decode cX7_addsSpeaker 26 = .ok (.aload_n 0, 1) := by decide +kernel
theorem d_X7_addsSpeaker_27 : decode cX7_addsSpeaker 27 = .ok (.dup, 1) := by decide +kernel
theorem d_X7_addsSpeaker_28 : decode cX7_addsSpeaker 28 = .ok (.getfield 101, 3) := by decide +kernel
theorem d_X7_addsSpeaker_31 : decode cX7_addsSpeaker 31 = .ok (.iconst 1, 1) := by decide +kernel
theorem d_X7_addsSpeaker_32 : decode cX7_addsSpeaker 32 = .ok (.iadd, 1) := by decide +kernel
theorem d_X7_addsSpeaker_33 : decode cX7_addsSpeaker 33 = .ok (.putfield 101, 3) := by decide +kernel
theorem d_X7_addsSpeaker_36 : decode cX7_addsSpeaker 36 = .ok (.return_, 1) := by decide +kernel
def t_X7_addsSpeaker_0 : List (Nat × QO) := [(0, o_al 0 1), (1, o_gf 7 21 4), (4, o_k 2 5), (5, o_al 0 6), (6, o_gf 7 20 9), (9, o_b (fun x y => x * y) 10), (10, o_il 1 11), (11, o_iast 12), (12, o_al 0 13), (13, o_gf 7 21 16), (16, o_k 2 17), (17, o_al 0 18)]
theorem ts_X7_addsSpeaker_0 (sx : QX) : ∀ q ∈ t_X7_addsSpeaker_0, q_Snd sx RX7 cX7_addsSpeaker 3 none q.1 q.2 := List.forall_mem_cons.mpr ⟨s_aload_n d_X7_addsSpeaker_0 rfl, List.forall_mem_cons.mpr ⟨s_gf d_X7_addsSpeaker_1 rfl (by decide) n_X7 in_X7 rfl k_4_50, List.forall_mem_cons.mpr ⟨s_iconst d_X7_addsSpeaker_4 rfl, List.forall_mem_cons.mpr ⟨s_aload_n d_X7_addsSpeaker_5 rfl, List.forall_mem_cons.mpr ⟨s_gf d_X7_addsSpeaker_6 rfl (by decide) n_X7 in_X7 rfl k_4_49, List.forall_mem_cons.mpr ⟨s_imul d_X7_addsSpeaker_9, List.forall_mem_cons.mpr ⟨s_iload_n d_X7_addsSpeaker_10 rfl, List.forall_mem_cons.mpr ⟨s_iast d_X7_addsSpeaker_11, List.forall_mem_cons.mpr ⟨s_aload_n d_X7_addsSpeaker_12 rfl, List.forall_mem_cons.mpr ⟨s_gf d_X7_addsSpeaker_13 rfl (by decide) n_X7 in_X7 rfl k_4_50, List.forall_mem_cons.mpr ⟨s_iconst d_X7_addsSpeaker_16 rfl, List.forall_mem_cons.mpr ⟨s_aload_n d_X7_addsSpeaker_17 rfl, fun _ h => absurd h List.not_mem_nil⟩⟩⟩⟩⟩⟩⟩⟩⟩⟩⟩⟩
def t_X7_addsSpeaker_1 : List (Nat × QO) := [(18, o_gf 7 20 21), (21, o_b (fun x y => x * y) 22), (22, o_k 1 23), (23, o_b (fun x y => x + y) 24), (24, o_il 2 25), (25, o_iast 26), (26, o_al 0 27), (27, o_dup 28), (28, o_gf 7 20 31), (31, o_k 1 32), (32, o_b (fun x y => x + y) 33), (33, o_pf 7 20 36)]
theorem ts_X7_addsSpeaker_1 (sx : QX) : ∀ q ∈ t_X7_addsSpeaker_1, q_Snd sx RX7 cX7_addsSpeaker 3 none q.1 q.2 := List.forall_mem_cons.mpr ⟨s_gf d_X7_addsSpeaker_18 rfl (by decide) n_X7 in_X7 rfl k_4_49, List.forall_mem_cons.mpr ⟨s_imul d_X7_addsSpeaker_21, List.forall_mem_cons.mpr ⟨s_iconst d_X7_addsSpeaker_22 rfl, List.forall_mem_cons.mpr ⟨s_iadd d_X7_addsSpeaker_23, List.forall_mem_cons.mpr ⟨s_iload_n d_X7_addsSpeaker_24 rfl, List.forall_mem_cons.mpr ⟨s_iast d_X7_addsSpeaker_25, List.forall_mem_cons.mpr ⟨s_aload_n d_X7_addsSpeaker_26 rfl, List.forall_mem_cons.mpr ⟨s_dup d_X7_addsSpeaker_27, List.forall_mem_cons.mpr ⟨s_gf d_X7_addsSpeaker_28 rfl (by decide) n_X7 in_X7 rfl k_4_49, List.forall_mem_cons.mpr ⟨s_iconst d_X7_addsSpeaker_31 rfl, List.forall_mem_cons.mpr ⟨s_iadd d_X7_addsSpeaker_32, List.forall_mem_cons.mpr ⟨s_pf tyX7 d_X7_addsSpeaker_33 rfl (by decide) n_X7 in_X7 rfl k_4_49 tyX7_ok nmX7 rfl rfl, fun _ h => absurd h List.not_mem_nil⟩⟩⟩⟩⟩⟩⟩⟩⟩⟩⟩⟩
def t_X7_addsSpeaker_2 : List (Nat × QO) := [(36, o_vr)]
theorem ts_X7_addsSpeaker_2 (sx : QX) : ∀ q ∈ t_X7_addsSpeaker_2, q_Snd sx RX7 cX7_addsSpeaker 3 none q.1 q.2 := List.forall_mem_cons.mpr ⟨s_vr d_X7_addsSpeaker_36 rfl, fun _ h => absurd h List.not_mem_nil⟩
def t_X7_addsSpeaker (pc : Nat) : Option QO := cond (Nat.ble pc 17) (q_look (t_X7_addsSpeaker_0) pc) (cond (Nat.ble pc 33) (q_look (t_X7_addsSpeaker_1) pc) (q_look (t_X7_addsSpeaker_2) pc))
theorem ts_X7_addsSpeaker (sx : QX) (pc : Nat) : ∀ o, t_X7_addsSpeaker pc = some o → q_Snd sx RX7 cX7_addsSpeaker 3 none pc o := by
  unfold t_X7_addsSpeaker
  exact q_cb (q_look_all (ts_X7_addsSpeaker_0 sx)) (q_cb (q_look_all (ts_X7_addsSpeaker_1 sx)) (q_look_all (ts_X7_addsSpeaker_2 sx)))
theorem d_X7_begins_0 : decode cX7_begins 0 = .ok (.aload_n 0, 1) := by decide +kernel
theorem d_X7_begins_1 : decode cX7_begins 1 = .ok (.aload_n 0, 1) := by decide +kernel
theorem d_X7_begins_2 : decode cX7_begins 2 = .ok (.getfield 95, 3) := by decide +kernel
theorem d_X7_begins_5 : decode cX7_begins 5 = .ok (.putfield 82, 3) := by decide +kernel
theorem d_X7_begins_8 : decode cX7_begins 8 = .ok (.aload_n 0, 1) := by decide +kernel
theorem d_X7_begins_9 : decode cX7_begins 9 = .ok (.aload_n 0, 1) := by decide +kernel
theorem d_X7_begins_10 : decode cX7_begins 10 = .ok (.getfield 98, 3) := by decide +kernel
theorem d_X7_begins_13 : decode cX7_begins 13 = .ok (.putfield 89, 3) := by decide +kernel
theorem d_X7_begins_16 : decode cX7_begins 16 = .ok (.aload_n 0, 1) := by decide +kernel
theorem d_X7_begins_17 : decode cX7_begins 17 = .ok (.aload_n 0, 1) := by decide +kernel
theorem d_X7_begins_18 : decode cX7_begins 18 = .ok (.getfield 101, 3) := by decide +kernel
theorem d_X7_begins_21 : decode cX7_begins 21 = .ok (.putfield 92, 3) := by decide +kernel
theorem d_X7_begins_24 : decode cX7_begins 24 = .ok (.aload_n 0, 1) := by decide +kernel
theorem d_X7_begins_25 : decode cX7_begins 25 = .ok (.aload_n 0, 1) := by decide +kernel
theorem d_X7_begins_26 : decode cX7_begins 26 = .ok (.getfield 75, 3) := by decide +kernel
theorem d_X7_begins_29 : decode cX7_begins 29 = .ok (.putfield 104, 3) := by decide +kernel
theorem d_X7_begins_32 : decode cX7_begins 32 = .ok (.iconst 0, 1) := by decide +kernel
theorem d_X7_begins_33 : decode cX7_begins 33 = .ok (.istore_n 1, 1) := by decide +kernel
theorem d_X7_begins_34 : decode cX7_begins 34 = .ok (.iload_n 1, 1) := by decide +kernel
theorem d_X7_begins_35 : decode cX7_begins 35 = .ok (.bipush 83, 2) := by decide +kernel
theorem d_X7_begins_37 : decode cX7_begins 37 = .ok (.if_icmp .ge 16, 3) := by decide +kernel
theorem d_X7_begins_40 : decode cX7_begins 40 = .ok (.aload_n 0, 1) := by decide +kernel
theorem d_X7_begins_41 : decode cX7_begins 41 = .ok (.getfield 7, 3) := by decide +kernel
theorem d_X7_begins_44 : decode cX7_begins 44 = .ok (.iload_n 1, 1) := by decide +kernel
theorem d_X7_begins_45 : decode cX7_begins 45 = .ok (.iconst 0, 1) := by decide +kernel
theorem d_X7_begins_46 : decode cX7_begins 46 = .ok (.iastore, 1) := by decide +kernel
theorem d_X7_begins_47 : decode cX7_begins 47 = .ok (.iinc 1 1, 3) := by decide +kernel
theorem d_X7_begins_50 : decode cX7_begins 50 = .ok (.goto (-16), 3) := by decide +kernel
theorem d_X7_begins_53 : decode cX7_begins 53 = .ok (.iconst 0, 1) := by decide +kernel
theorem d_X7_begins_54 : decode cX7_begins 54 = .ok (.istore_n 1, 1) := by decide +kernel
theorem d_X7_begins_55 : decode cX7_begins 55 = .ok (.iload_n 1, 1) := by decide +kernel
theorem d_X7_begins_56 : decode cX7_begins 56 = .ok (.bipush 6, 2) := by decide +kernel
theorem d_X7_begins_58 : decode cX7_begins 58 = .ok (.if_icmp .ge 20, 3) := by decide +kernel
theorem d_X7_begins_61 : decode cX7_begins 61 = .ok (.aload_n 0, 1) := by decide +kernel
theorem d_X7_begins_62 : decode cX7_begins 62 = .ok (.getfield 7, 3) := by decide +kernel
theorem d_X7_begins_65 : decode cX7_begins 65 = .ok (.bipush 13, 2) := by decide +kernel
theorem d_X7_begins_67 : decode cX7_begins 67 = .ok (.iload_n 1, 1) := by decide +kernel
theorem d_X7_begins_68 : decode cX7_begins 68 = .ok (.iadd, 1) := by decide +kernel
theorem d_X7_begins_69 : decode cX7_begins 69 = .ok (.bipush (-4), 2) := by decide +kernel
theorem d_X7_begins_71 : decode cX7_begins 71 = .ok (.iastore, 1) := by decide +kernel
theorem d_X7_begins_72 : decode cX7_begins 72 = .ok (.iinc 1 1, 3) := by decide +kernel
theorem d_X7_begins_75 : decode cX7_begins 75 = .ok (.goto (-20), 3) := by decide +kernel
theorem d_X7_begins_78 : decode cX7_begins 78 = .ok (.iconst 0, 1) := by decide +kernel
theorem d_X7_begins_79 : decode cX7_begins 79 = .ok (.istore_n 1, 1) := by decide +kernel
theorem d_X7_begins_80 : decode cX7_begins 80 = .ok (.iload_n 1, 1) := by decide +kernel
theorem d_X7_begins_81 : decode cX7_begins 81 = .ok (.aload_n 0, 1) := by decide +kernel
theorem d_X7_begins_82 : decode cX7_begins 82 = .ok (.getfield 82, 3) := by decide +kernel
theorem d_X7_begins_85 : decode cX7_begins 85 = .ok (.if_icmp .ge 39, 3) := by decide +kernel
theorem d_X7_begins_88 : decode cX7_begins 88 = .ok (.aload_n 0, 1) := by decide +kernel
theorem d_X7_begins_89 : decode cX7_begins 89 = .ok (.getfield 13, 3) := by decide +kernel
theorem d_X7_begins_92 : decode cX7_begins 92 = .ok (.iload_n 1, 1) := by decide +kernel
theorem d_X7_begins_93 : decode cX7_begins 93 = .ok (.aload_n 0, 1) := by decide +kernel
theorem d_X7_begins_94 : decode cX7_begins 94 = .ok (.getfield 31, 3) := by decide +kernel
theorem d_X7_begins_97 : decode cX7_begins 97 = .ok (.iconst 2, 1) := by decide +kernel
theorem d_X7_begins_98 : decode cX7_begins 98 = .ok (.iload_n 1, 1) := by decide +kernel
theorem d_X7_begins_99 : decode cX7_begins 99 = .ok (.imul, 1) := by decide +kernel
theorem d_X7_begins_100 : decode cX7_begins 100 = .ok (.iaload, 1) := by decide +kernel
theorem d_X7_begins_101 : decode cX7_begins 101 = .ok (.iastore, 1) := by decide +kernel
theorem d_X7_begins_102 : decode cX7_begins 102 = .ok (.aload_n 0, 1) := by decide +kernel
theorem d_X7_begins_103 : decode cX7_begins 103 = .ok (.getfield 16, 3) := by decide +kernel
theorem d_X7_begins_106 : decode cX7_begins 106 = .ok (.iload_n 1, 1) := by decide +kernel
theorem d_X7_begins_107 : decode cX7_begins 107 = .ok (.aload_n 0, 1) := by decide +kernel
theorem d_X7_begins_108 : decode cX7_begins 108 = .ok (.getfield 31, 3) := by decide +kernel
theorem d_X7_begins_111 : decode cX7_begins 111 = .ok (.iconst 2, 1) := by decide +kernel
theorem d_X7_begins_112 : decode cX7_begins 112 = .ok (.iload_n 1, 1) := by decide +kernel
theorem d_X7_begins_113 : decode cX7_begins 113 = .ok (.imul, 1) := by decide +kernel
theorem d_X7_begins_114 : decode cX7_begins 114 = .ok (.iconst 1, 1) := by decide +kernel
theorem d_X7_begins_115 : decode cX7_begins 115 = .ok (.iadd, 1) := by decide +kernel
theorem d_X7_begins_116 : decode cX7_begins 116 = .ok (.iaload, 1) := by decide +kernel
theorem d_X7_begins_117 : decode cX7_begins 117 = .ok (.iastore, 1) := by decide +kernel
theorem d_X7_begins_118 : decode cX7_begins 118 = .ok (.iinc 1 1, 3) := by decide +kernel
theorem d_X7_begins_121 : decode cX7_begins 121 = .ok (.goto (-41), 3) := by decide +kernel
theorem d_X7_begins_124 : decode cX7_begins 124 = .ok (.iconst 0, 1) := by decide +kernel
theorem d_X7_begins_125 : decode cX7_begins 125 = .ok (.istore_n 1, 1) := by decide +kernel
theorem d_X7_begins_126 : decode cX7_begins 126 = .ok (.iload_n 1, 1) := by decide +kernel
theorem d_X7_begins_127 : decode cX7_begins 127 = .ok (.aload_n 0, 1) := by decide +kernel
theorem d_X7_begins_128 : decode cX7_begins 128 = .ok (.getfield 89, 3) := by decide +kernel
theorem d_X7_begins_131 : decode cX7_begins 131 = .ok (.if_icmp .ge 21, 3) := by decide +kernel
theorem d_X7_begins_134 : decode cX7_begins 134 = .ok (.aload_n 0, 1) := by decide +kernel
theorem d_X7_begins_135 : decode cX7_begins 135 = .ok (.getfield 19, 3) := by decide +kernel
theorem d_X7_begins_138 : decode cX7_begins 138 = .ok (.iload_n 1, 1) := by decide +kernel
theorem d_X7_begins_139 : decode cX7_begins 139 = .ok (.aload_n 0, 1) := by decide +kernel
theorem d_X7_begins_140 : decode cX7_begins 140 = .ok (.getfield 34, 3) := by decide +kernel
theorem d_X7_begins_143 : decode cX7_begins 143 = .ok (.iload_n 1, 1) := by decide +kernel
theorem d_X7_begins_144 : decode cX7_begins 144 = .ok (.iaload, 1) := by decide +kernel
theorem d_X7_begins_145 : decode cX7_begins 145 = .ok (.iastore, 1) := by decide +kernel
theorem d_X7_begins_146 : decode cX7_begins 146 = .ok (.iinc 1 1, 3) := by decide +kernel
theorem d_X7_begins_149 : decode cX7_begins 149 = .ok (.goto (-23), 3) := by decide +kernel
theorem d_X7_begins_152 : decode cX7_begins 152 = .ok (.iconst 0, 1) := by decide +kernel
theorem d_X7_begins_153 : decode cX7_begins 153 = .ok (.istore_n 1, 1) := by decide +kernel
theorem d_X7_begins_154 : decode cX7_begins 154 = .ok (.iload_n 1, 1) := by decide +kernel
theorem d_X7_begins_155 : decode cX7_begins 155 = .ok (.aload_n 0, 1) := by decide +kernel
theorem d_X7_begins_156 : decode cX7_begins 156 = .ok (.getfield 92, 3) := by decide +kernel
theorem d_X7_begins_159 : decode cX7_begins 159 = .ok (.if_icmp .ge 54, 3) := by decide +kernel
theorem d_X7_begins_162 : decode cX7_begins 162 = .ok (.aload_n 0, 1) := by decide +kernel
theorem d_X7_begins_163 : decode cX7_begins 163 = .ok (.getfield 22, 3) := by decide +kernel
theorem d_X7_begins_166 : decode cX7_begins 166 = .ok (.iload_n 1, 1) := by decide +kernel
theorem d_X7_begins_167 : decode cX7_begins 167 = .ok (.aload_n 0, 1) := by decide +kernel
theorem d_X7_begins_168 : decode cX7_begins 168 = .ok (.getfield 37, 3) := by decide +kernel
theorem d_X7_begins_171 : decode cX7_begins 171 = .ok (.iconst 2, 1) := by decide +kernel
theorem d_X7_begins_172 : decode cX7_begins 172 = .ok (.iload_n 1, 1) := by decide +kernel
theorem d_X7_begins_173 : decode cX7_begins 173 = .ok (.imul, 1) := by decide +kernel
theorem d_X7_begins_174 : decode cX7_begins 174 = .ok (.iaload, 1) := by decide +kernel
theorem d_X7_begins_175 : decode cX7_begins 175 = .ok (.iastore, 1) := by decide +kernel
theorem d_X7_begins_176 : decode cX7_begins 176 = .ok (.aload_n 0, 1) := by decide +kernel
theorem d_X7_begins_177 : decode cX7_begins 177 = .ok (.getfield 25, 3) := by decide +kernel
theorem d_X7_begins_180 : decode cX7_begins 180 = .ok (.iload_n 1, 1) := by decide +kernel
theorem d_X7_begins_181 : decode cX7_begins 181 = .ok (.aload_n 0, 1) := by decide +kernel
theorem d_X7_begins_182 : decode cX7_begins 182 = .ok (.getfield 37, 3) := by decide +kernel
theorem d_X7_begins_185 : decode cX7_begins 185 = .ok (.iconst 2, 1) := by decide +kernel
theorem d_X7_begins_186 : decode cX7_begins 186 = .ok (.iload_n 1, 1) := by decide +kernel
theorem d_X7_begins_187 : decode cX7_begins 187 = .ok (.imul, 1) := by decide +kernel
theorem d_X7_begins_188 : decode cX7_begins 188 = .ok (.iconst 1, 1) := by decide +kernel
theorem d_X7_begins_189 : decode cX7_begins 189 = .ok (.iadd, 1) := by decide +kernel
theorem d_X7_begins_190 : decode cX7_begins 190 = .ok (.iaload, 1) := by decide +kernel
theorem d_X7_begins_191 : decode cX7_begins 191 = .ok (.iastore, 1) := by decide +kernel
theorem d_X7_begins_192 : decode cX7_begins 192 = .ok (.aload_n 0, 1) := by decide +kernel
theorem d_X7_begins_193 : decode cX7_begins 193 = .ok (.getfield 7, 3) := by decide +kernel
theorem d_X7_begins_196 : decode cX7_begins 196 = .ok (.bipush 79, 2) := by decide +kernel
theorem d_X7_begins_198 : decode cX7_begins 198 = .ok (.iload_n 1, 1) := by decide +kernel
theorem d_X7_begins_199 : decode cX7_begins 199 = .ok (.iadd, 1) := by decide +kernel
theorem d_X7_begins_200 : decode cX7_begins 200 = .ok (.aload_n 0, 1) := by decide +kernel
theorem d_X7_begins_201 : decode cX7_begins 201 = .ok (.getfield 25, 3) := by decide +kernel
theorem d_X7_begins_204 : decode cX7_begins 204 = .ok (.iload_n 1, 1) := by decide +kernel
theorem d_X7_begins_205 : decode cX7_begins 205 = .ok (.iaload, 1) := by decide +kernel
theorem d_X7_begins_206 : decode cX7_begins 206 = .ok (.iastore, 1) := by decide +kernel
theorem d_X7_begins_207 : decode cX7_begins 207 = .ok (.iinc 1 1, 3) := by decide +kernel
theorem d_X7_begins_210 : decode cX7_begins 210 = .ok (.goto (-56), 3) := by decide +kernel
theorem d_X7_begins_213 : decode cX7_begins 213 = .ok (.iconst 0, 1) := by decide +kernel
theorem d_X7_begins_214 : decode cX7_begins 214 = .ok (.istore_n 1, 1) := by decide +kernel
theorem d_X7_begins_215 : decode cX7_begins 215 = .ok (.iload_n 1, 1) := by decide +kernel
theorem d_X7_begins_216 : decode cX7_begins 216 = .ok (.bipush 24, 2) := by decide +kernel
theorem d_X7_begins_218 : decode cX7_begins 218 = .ok (.if_icmp .ge 24, 3) := by decide +kernel
theorem d_X7_begins_221 : decode cX7_begins 221 = .ok (.aload_n 0, 1) := by decide +kernel
theorem d_X7_begins_222 : decode cX7_begins 222 = .ok (.getfield 7, 3) := by decide +kernel
theorem d_X7_begins_225 : decode cX7_begins 225 = .ok (.bipush 55, 2) := by decide +kernel
theorem d_X7_begins_227 : decode cX7_begins 227 = .ok (.iload_n 1, 1) := by decide +kernel
theorem d_X7_begins_228 : decode cX7_begins 228 = .ok (.iadd, 1) := by decide +kernel
theorem d_X7_begins_229 : decode cX7_begins 229 = .ok (.aload_n 0, 1) := by decide +kernel
theorem d_X7_begins_230 : decode cX7_begins 230 = .ok (.getfield 40, 3) := by decide +kernel
theorem d_X7_begins_233 : decode cX7_begins 233 = .ok (.iload_n 1, 1) := by decide +kernel
theorem d_X7_begins_234 : decode cX7_begins 234 = .ok (.iaload, 1) := by decide +kernel
theorem d_X7_begins_235 : decode cX7_begins 235 = .ok (.iastore, 1) := by decide +kernel
theorem d_X7_begins_236 : decode cX7_begins 236 = .ok (.iinc 1 1, 3) := by decide +kernel
theorem d_X7_begins_239 : decode cX7_begins 239 = .ok (.goto (-24), 3) := by decide +kernel
theorem d_X7_begins_242 : decode cX7_begins 242 = .ok (.aload_n 0, 1) := by decide +kernel
theorem d_X7_begins_243 : decode cX7_begins 243 = .ok (.iconst 0, 1) := by decide +kernel
theorem d_X7_begins_244 : decode cX7_begins 244 = .ok (.putfield 107, 3) := by decide +kernel
theorem d_X7_begins_247 : decode cX7_begins 247 = .ok (.aload_n 0, 1) := by decide +kernel
theorem d_X7_begins_248 : decode cX7_begins 248 = .ok (.iconst 0, 1) := by decide +kernel
theorem d_X7_begins_249 : decode cX7_begins 249 = .ok (.putfield 110, 3) := by decide +kernel
theorem d_X7_begins_252 : decode cX7_begins 252 = .ok (.return_, 1) := by decide +kernel
def t_X7_begins_0 : List (Nat × QO) := [(0, o_al 0 1), (1, o_al 0 2), (2, o_gf 7 16 5), (5, o_pf 7 3 8), (8, o_al 0 9), (9, o_al 0 10), (10, o_gf 7 18 13), (13, o_pf 7 6 16), (16, o_al 0 17), (17, o_al 0 18), (18, o_gf 7 20 21), (21, o_pf 7 8 24)]
theorem ts_X7_begins_0 (sx : QX) : ∀ q ∈ t_X7_begins_0, q_Snd sx RX7 cX7_begins 2 none q.1 q.2 := List.forall_mem_cons.mpr ⟨s_aload_n d_X7_begins_0 rfl, List.forall_mem_cons.mpr ⟨s_aload_n d_X7_begins_1 rfl, List.forall_mem_cons.mpr ⟨s_gf d_X7_begins_2 rfl (by decide) n_X7 in_X7 rfl k_4_45, List.forall_mem_cons.mpr ⟨s_pf tyX7 d_X7_begins_5 rfl (by decide) n_X7 in_X7 rfl k_4_32 tyX7_ok nmX7 rfl rfl, List.forall_mem_cons.mpr ⟨s_aload_n d_X7_begins_8 rfl, List.forall_mem_cons.mpr ⟨s_aload_n d_X7_begins_9 rfl, List.forall_mem_cons.mpr ⟨s_gf d_X7_begins_10 rfl (by decide) n_X7 in_X7 rfl k_4_47, List.forall_mem_cons.mpr ⟨s_pf tyX7 d_X7_begins_13 rfl (by decide) n_X7 in_X7 rfl k_4_35 tyX7_ok nmX7 rfl rfl, List.forall_mem_cons.mpr ⟨s_aload_n d_X7_begins_16 rfl, List.forall_mem_cons.mpr ⟨s_aload_n d_X7_begins_17 rfl, List.forall_mem_cons.mpr ⟨s_gf d_X7_begins_18 rfl (by decide) n_X7 in_X7 rfl k_4_49, List.forall_mem_cons.mpr ⟨s_pf tyX7 d_X7_begins_21 rfl (by decide) n_X7 in_X7 rfl k_4_37 tyX7_ok nmX7 rfl rfl, fun _ h => absurd h List.not_mem_nil⟩⟩⟩⟩⟩⟩⟩⟩⟩⟩⟩⟩
def t_X7_begins_1 : List (Nat × QO) := [(24, o_al 0 25), (25, o_al 0 26), (26, o_gf 7 22 29), (29, o_pf 7 11 32), (32, o_k 0 33), (33, o_is 1 34), (34, o_il 1 35), (35, o_k 83 37), (37, o_ic (fun x y => decide (y ≤ x)) 53 40), (40, o_al 0 41), (41, o_gf 7 0 44), (44, o_il 1 45)]
theorem ts_X7_begins_1 (sx : QX) : ∀ q ∈ t_X7_begins_1, q_Snd sx RX7 cX7_begins 2 none q.1 q.2 := List.forall_mem_cons.mpr ⟨s_aload_n d_X7_begins_24 rfl, List.forall_mem_cons.mpr ⟨s_aload_n d_X7_begins_25 rfl, List.forall_mem_cons.mpr ⟨s_gf d_X7_begins_26 rfl (by decide) n_X7 in_X7 rfl k_4_51, List.forall_mem_cons.mpr ⟨s_pf tyX7 d_X7_begins_29 rfl (by decide) n_X7 in_X7 rfl k_4_40 tyX7_ok nmX7 rfl rfl, List.forall_mem_cons.mpr ⟨s_iconst d_X7_begins_32 rfl, List.forall_mem_cons.mpr ⟨s_istore_n d_X7_begins_33 rfl (by decide), List.forall_mem_cons.mpr ⟨s_iload_n d_X7_begins_34 rfl, List.forall_mem_cons.mpr ⟨s_bipush d_X7_begins_35 rfl, List.forall_mem_cons.mpr ⟨s_ic_ge d_X7_begins_37 (by decide), List.forall_mem_cons.mpr ⟨s_aload_n d_X7_begins_40 rfl, List.forall_mem_cons.mpr ⟨s_gf d_X7_begins_41 rfl (by decide) n_X7 in_X7 rfl k_4_29, List.forall_mem_cons.mpr ⟨s_iload_n d_X7_begins_44 rfl, fun _ h => absurd h List.not_mem_nil⟩⟩⟩⟩⟩⟩⟩⟩⟩⟩⟩⟩
def t_X7_begins_2 : List (Nat × QO) := [(45, o_k 0 46), (46, o_iast 47), (47, o_inc 1 1 50), (50, o_goto 34), (53, o_k 0 54), (54, o_is 1 55), (55, o_il 1 56), (56, o_k 6 58), (58, o_ic (fun x y => decide (y ≤ x)) 78 61), (61, o_al 0 62), (62, o_gf 7 0 65), (65, o_k 13 67)]
theorem ts_X7_begins_2 (sx : QX) : ∀ q ∈ t_X7_begins_2, q_Snd sx RX7 cX7_begins 2 none q.1 q.2 := List.forall_mem_cons.mpr ⟨s_iconst d_X7_begins_45 rfl, List.forall_mem_cons.mpr ⟨s_iast d_X7_begins_46, List.forall_mem_cons.mpr ⟨s_iinc d_X7_begins_47 rfl (by decide), List.forall_mem_cons.mpr ⟨s_goto d_X7_begins_50 (by decide), List.forall_mem_cons.mpr ⟨s_iconst d_X7_begins_53 rfl, List.forall_mem_cons.mpr ⟨s_istore_n d_X7_begins_54 rfl (by decide), List.forall_mem_cons.mpr ⟨s_iload_n d_X7_begins_55 rfl, List.forall_mem_cons.mpr ⟨s_bipush d_X7_begins_56 rfl, List.forall_mem_cons.mpr ⟨s_ic_ge d_X7_begins_58 (by decide), List.forall_mem_cons.mpr ⟨s_aload_n d_X7_begins_61 rfl, List.forall_mem_cons.mpr ⟨s_gf d_X7_begins_62 rfl (by decide) n_X7 in_X7 rfl k_4_29, List.forall_mem_cons.mpr ⟨s_bipush d_X7_begins_65 rfl, fun _ h => absurd h List.not_mem_nil⟩⟩⟩⟩⟩⟩⟩⟩⟩⟩⟩⟩
def t_X7_begins_3 : List (Nat × QO) := [(67, o_il 1 68), (68, o_b (fun x y => x + y) 69), (69, o_k (-4) 71), (71, o_iast 72), (72, o_inc 1 1 75), (75, o_goto 55), (78, o_k 0 79), (79, o_is 1 80), (80, o_il 1 81), (81, o_al 0 82), (82, o_gf 7 3 85), (85, o_ic (fun x y => decide (y ≤ x)) 124 88)]
theorem ts_X7_begins_3 (sx : QX) : ∀ q ∈ t_X7_begins_3, q_Snd sx RX7 cX7_begins 2 none q.1 q.2 := List.forall_mem_cons.mpr ⟨s_iload_n d_X7_begins_67 rfl, List.forall_mem_cons.mpr ⟨s_iadd d_X7_begins_68, List.forall_mem_cons.mpr ⟨s_bipush d_X7_begins_69 rfl, List.forall_mem_cons.mpr ⟨s_iast d_X7_begins_71, List.forall_mem_cons.mpr ⟨s_iinc d_X7_begins_72 rfl (by decide), List.forall_mem_cons.mpr ⟨s_goto d_X7_begins_75 (by decide), List.forall_mem_cons.mpr ⟨s_iconst d_X7_begins_78 rfl, List.forall_mem_cons.mpr ⟨s_istore_n d_X7_begins_79 rfl (by decide), List.forall_mem_cons.mpr ⟨s_iload_n d_X7_begins_80 rfl, List.forall_mem_cons.mpr ⟨s_aload_n d_X7_begins_81 rfl, List.forall_mem_cons.mpr ⟨s_gf d_X7_begins_82 rfl (by decide) n_X7 in_X7 rfl k_4_32, List.forall_mem_cons.mpr ⟨s_ic_ge d_X7_begins_85 (by decide), fun _ h => absurd h List.not_mem_nil⟩⟩⟩⟩⟩⟩⟩⟩⟩⟩⟩⟩
def t_X7_begins_4 : List (Nat × QO) := [(88, o_al 0 89), (89, o_gf 7 4 92), (92, o_il 1 93), (93, o_al 0 94), (94, o_gf 7 17 97), (97, o_k 2 98), (98, o_il 1 99), (99, o_b (fun x y => x * y) 100), (100, o_iald 101), (101, o_iast 102), (102, o_al 0 103), (103, o_gf 7 5 106)]
theorem ts_X7_begins_4 (sx : QX) : ∀ q ∈ t_X7_begins_4, q_Snd sx RX7 cX7_begins 2 none q.1 q.2 := List.forall_mem_cons.mpr ⟨s_aload_n d_X7_begins_88 rfl, List.forall_mem_cons.mpr ⟨s_gf d_X7_begins_89 rfl (by decide) n_X7 in_X7 rfl k_4_33, List.forall_mem_cons.mpr ⟨s_iload_n d_X7_begins_92 rfl, List.forall_mem_cons.mpr ⟨s_aload_n d_X7_begins_93 rfl, List.forall_mem_cons.mpr ⟨s_gf d_X7_begins_94 rfl (by decide) n_X7 in_X7 rfl k_4_46, List.forall_mem_cons.mpr ⟨s_iconst d_X7_begins_97 rfl, List.forall_mem_cons.mpr ⟨s_iload_n d_X7_begins_98 rfl, List.forall_mem_cons.mpr ⟨s_imul d_X7_begins_99, List.forall_mem_cons.mpr ⟨s_iald d_X7_begins_100, List.forall_mem_cons.mpr ⟨s_iast d_X7_begins_101, List.forall_mem_cons.mpr ⟨s_aload_n d_X7_begins_102 rfl, List.forall_mem_cons.mpr ⟨s_gf d_X7_begins_103 rfl (by decide) n_X7 in_X7 rfl k_4_34, fun _ h => absurd h List.not_mem_nil⟩⟩⟩⟩⟩⟩⟩⟩⟩⟩⟩⟩
def t_X7_begins_5 : List (Nat × QO) := [(106, o_il 1 107), (107, o_al 0 108), (108, o_gf 7 17 111), (111, o_k 2 112), (112, o_il 1 113), (113, o_b (fun x y => x * y) 114), (114, o_k 1 115), (115, o_b (fun x y => x + y) 116), (116, o_iald 117), (117, o_iast 118), (118, o_inc 1 1 121), (121, o_goto 80)]
theorem ts_X7_begins_5 (sx : QX) : ∀ q ∈ t_X7_begins_5, q_Snd sx RX7 cX7_begins 2 none q.1 q.2 := List.forall_mem_cons.mpr ⟨s_iload_n d_X7_begins_106 rfl, List.forall_mem_cons.mpr ⟨s_aload_n d_X7_begins_107 rfl, List.forall_mem_cons.mpr ⟨s_gf d_X7_begins_108 rfl (by decide) n_X7 in_X7 rfl k_4_46, List.forall_mem_cons.mpr ⟨s_iconst d_X7_begins_111 rfl, List.forall_mem_cons.mpr ⟨s_iload_n d_X7_begins_112 rfl, List.forall_mem_cons.mpr ⟨s_imul d_X7_begins_113, List.forall_mem_cons.mpr ⟨s_iconst d_X7_begins_114 rfl, List.forall_mem_cons.mpr ⟨s_iadd d_X7_begins_115, List.forall_mem_cons.mpr ⟨s_iald d_X7_begins_116, List.forall_mem_cons.mpr ⟨s_iast d_X7_begins_117, List.forall_mem_cons.mpr ⟨s_iinc d_X7_begins_118 rfl (by decide), List.forall_mem_cons.mpr ⟨s_goto d_X7_begins_121 (by decide), fun _ h => absurd h List.not_mem_nil⟩⟩⟩⟩⟩⟩⟩⟩⟩⟩⟩⟩
def t_X7_begins_6 : List (Nat × QO) := [(124, o_k 0 125), (125, o_is 1 126), (126, o_il 1 127), (127, o_al 0 128), (128, o_gf 7 6 131), (131, o_ic (fun x y => decide (y ≤ x)) 152 134), (134, o_al 0 135), (135, o_gf 7 7 138), (138, o_il 1 139), (139, o_al 0 140), (140, o_gf 7 19 143), (143, o_il 1 144)]
theorem ts_X7_begins_6 (sx : QX) : ∀ q ∈ t_X7_begins_6, q_Snd sx RX7 cX7_begins 2 none q.1 q.2 := List.forall_mem_cons.mpr ⟨s_iconst d_X7_begins_124 rfl, List.forall_mem_cons.mpr ⟨s_istore_n d_X7_begins_125 rfl (by decide), List.forall_mem_cons.mpr ⟨s_iload_n d_X7_begins_126 rfl, List.forall_mem_cons.mpr ⟨s_aload_n d_X7_begins_127 rfl, List.forall_mem_cons.mpr ⟨s_gf d_X7_begins_128 rfl (by decide) n_X7 in_X7 rfl k_4_35, List.forall_mem_cons.mpr ⟨s_ic_ge d_X7_begins_131 (by decide), List.forall_mem_cons.mpr ⟨s_aload_n d_X7_begins_134 rfl, List.forall_mem_cons.mpr ⟨s_gf d_X7_begins_135 rfl (by decide) n_X7 in_X7 rfl k_4_36, List.forall_mem_cons.mpr ⟨s_iload_n d_X7_begins_138 rfl, List.forall_mem_cons.mpr ⟨s_aload_n d_X7_begins_139 rfl, List.forall_mem_cons.mpr ⟨s_gf d_X7_begins_140 rfl (by decide) n_X7 in_X7 rfl k_4_48, List.forall_mem_cons.mpr ⟨s_iload_n d_X7_begins_143 rfl, fun _ h => absurd h List.not_mem_nil⟩⟩⟩⟩⟩⟩⟩⟩⟩⟩⟩⟩
def t_X7_begins_7 : List (Nat × QO) := [(144, o_iald 145), (145, o_iast 146), (146, o_inc 1 1 149), (149, o_goto 126), (152, o_k 0 153), (153, o_is 1 154), (154, o_il 1 155), (155, o_al 0 156), (156, o_gf 7 8 159), (159, o_ic (fun x y => decide (y ≤ x)) 213 162), (162, o_al 0 163), (163, o_gf 7 9 166)]
theorem ts_X7_begins_7 (sx : QX) : ∀ q ∈ t_X7_begins_7, q_Snd sx RX7 cX7_begins 2 none q.1 q.2 := List.forall_mem_cons.mpr ⟨s_iald d_X7_begins_144, List.forall_mem_cons.mpr ⟨s_iast d_X7_begins_145, List.forall_mem_cons.mpr ⟨s_iinc d_X7_begins_146 rfl (by decide), List.forall_mem_cons.mpr ⟨s_goto d_X7_begins_149 (by decide), List.forall_mem_cons.mpr ⟨s_iconst d_X7_begins_152 rfl, List.forall_mem_cons.mpr ⟨s_istore_n d_X7_begins_153 rfl (by decide), List.forall_mem_cons.mpr ⟨s_iload_n d_X7_begins_154 rfl, List.forall_mem_cons.mpr ⟨s_aload_n d_X7_begins_155 rfl, List.forall_mem_cons.mpr ⟨s_gf d_X7_begins_156 rfl (by decide) n_X7 in_X7 rfl k_4_37, List.forall_mem_cons.mpr ⟨s_ic_ge d_X7_begins_159 (by decide), List.forall_mem_cons.mpr ⟨s_aload_n d_X7_begins_162 rfl, List.forall_mem_cons.mpr ⟨s_gf d_X7_begins_163 rfl (by decide) n_X7 in_X7 rfl k_4_38, fun _ h => absurd h List.not_mem_nil⟩⟩⟩⟩⟩⟩⟩⟩⟩⟩⟩⟩
def t_X7_begins_8 : List (Nat × QO) := [(166, o_il 1 167), (167, o_al 0 168), (168, o_gf 7 21 171), (171, o_k 2 172), (172, o_il 1 173), (173, o_b (fun x y => x * y) 174), (174, o_iald 175), (175, o_iast 176), (176, o_al 0 177), (177, o_gf 7 10 180), (180, o_il 1 181), (181, o_al 0 182)]
theorem ts_X7_begins_8 (sx : QX) : ∀ q ∈ t_X7_begins_8, q_Snd sx RX7 cX7_begins 2 none q.1 q.2 := List.forall_mem_cons.mpr ⟨s_iload_n d_X7_begins_166 rfl, List.forall_mem_cons.mpr ⟨s_aload_n d_X7_begins_167 rfl, List.forall_mem_cons.mpr ⟨s_gf d_X7_begins_168 rfl (by decide) n_X7 in_X7 rfl k_4_50, List.forall_mem_cons.mpr ⟨s_iconst d_X7_begins_171 rfl, List.forall_mem_cons.mpr ⟨s_iload_n d_X7_begins_172 rfl, List.forall_mem_cons.mpr ⟨s_imul d_X7_begins_173, List.forall_mem_cons.mpr ⟨s_iald d_X7_begins_174, List.forall_mem_cons.mpr ⟨s_iast d_X7_begins_175, List.forall_mem_cons.mpr ⟨s_aload_n d_X7_begins_176 rfl, List.forall_mem_cons.mpr ⟨s_gf d_X7_begins_177 rfl (by decide) n_X7 in_X7 rfl k_4_39, List.forall_mem_cons.mpr ⟨s_iload_n d_X7_begins_180 rfl, List.forall_mem_cons.mpr ⟨s_aload_n d_X7_begins_181 rfl, fun _ h => absurd h List.not_mem_nil⟩⟩⟩⟩⟩⟩⟩⟩⟩⟩⟩⟩
def t_X7_begins_9 : List (Nat × QO) := [(182, o_gf 7 21 185), (185, o_k 2 186), (186, o_il 1 187), (187, o_b (fun x y => x * y) 188), (188, o_k 1 189), (189, o_b (fun x y => x + y) 190), (190, o_iald 191), (191, o_iast 192), (192, o_al 0 193), (193, o_gf 7 0 196), (196, o_k 79 198), (198, o_il 1 199)]
theorem ts_X7_begins_9 (sx : QX) : ∀ q ∈ t_X7_begins_9, q_Snd sx RX7 cX7_begins 2 none q.1 q.2 := List.forall_mem_cons.mpr ⟨s_gf d_X7_begins_182 rfl (by decide) n_X7 in_X7 rfl k_4_50, List.forall_mem_cons.mpr ⟨s_iconst d_X7_begins_185 rfl, List.forall_mem_cons.mpr ⟨s_iload_n d_X7_begins_186 rfl, List.forall_mem_cons.mpr ⟨s_imul d_X7_begins_187, List.forall_mem_cons.mpr ⟨s_iconst d_X7_begins_188 rfl, List.forall_mem_cons.mpr ⟨s_iadd d_X7_begins_189, List.forall_mem_cons.mpr ⟨s_iald d_X7_begins_190, List.forall_mem_cons.mpr ⟨s_iast d_X7_begins_191, List.forall_mem_cons.mpr ⟨s_aload_n d_X7_begins_192 rfl, List.forall_mem_cons.mpr ⟨s_gf d_X7_begins_193 rfl (by decide) n_X7 in_X7 rfl k_4_29, List.forall_mem_cons.mpr ⟨s_bipush d_X7_begins_196 rfl, List.forall_mem_cons.mpr ⟨s_iload_n d_X7_begins_198 rfl, fun _ h => absurd h List.not_mem_nil⟩⟩⟩⟩⟩⟩⟩⟩⟩⟩⟩⟩
def t_X7_begins_10 : List (Nat × QO) := [(199, o_b (fun x y => x + y) 200), (200, o_al 0 201), (201, o_gf 7 10 204), (204, o_il 1 205), (205, o_iald 206), (206, o_iast 207), (207, o_inc 1 1 210), (210, o_goto 154), (213, o_k 0 214), (214, o_is 1 215), (215, o_il 1 216), (216, o_k 24 218)]
theorem ts_X7_begins_10 (sx : QX) : ∀ q ∈ t_X7_begins_10, q_Snd sx RX7 cX7_begins 2 none q.1 q.2 := List.forall_mem_cons.mpr ⟨s_iadd d_X7_begins_199, List.forall_mem_cons.mpr ⟨s_aload_n d_X7_begins_200 rfl, List.forall_mem_cons.mpr ⟨s_gf d_X7_begins_201 rfl (by decide) n_X7 in_X7 rfl k_4_39, List.forall_mem_cons.mpr ⟨s_iload_n d_X7_begins_204 rfl, List.forall_mem_cons.mpr ⟨s_iald d_X7_begins_205, List.forall_mem_cons.mpr ⟨s_iast d_X7_begins_206, List.forall_mem_cons.mpr ⟨s_iinc d_X7_begins_207 rfl (by decide), List.forall_mem_cons.mpr ⟨s_goto d_X7_begins_210 (by decide), List.forall_mem_cons.mpr ⟨s_iconst d_X7_begins_213 rfl, List.forall_mem_cons.mpr ⟨s_istore_n d_X7_begins_214 rfl (by decide), List.forall_mem_cons.mpr ⟨s_iload_n d_X7_begins_215 rfl, List.forall_mem_cons.mpr ⟨s_bipush d_X7_begins_216 rfl, fun _ h => absurd h List.not_mem_nil⟩⟩⟩⟩⟩⟩⟩⟩⟩⟩⟩⟩
def t_X7_begins_11 : List (Nat × QO) := [(218, o_ic (fun x y => decide (y ≤ x)) 242 221), (221, o_al 0 222), (222, o_gf 7 0 225), (225, o_k 55 227), (227, o_il 1 228), (228, o_b (fun x y => x + y) 229), (229, o_al 0 230), (230, o_gf 7 23 233), (233, o_il 1 234), (234, o_iald 235), (235, o_iast 236), (236, o_inc 1 1 239)]
theorem ts_X7_begins_11 (sx : QX) : ∀ q ∈ t_X7_begins_11, q_Snd sx RX7 cX7_begins 2 none q.1 q.2 := List.forall_mem_cons.mpr ⟨s_ic_ge d_X7_begins_218 (by decide), List.forall_mem_cons.mpr ⟨s_aload_n d_X7_begins_221 rfl, List.forall_mem_cons.mpr ⟨s_gf d_X7_begins_222 rfl (by decide) n_X7 in_X7 rfl k_4_29, List.forall_mem_cons.mpr ⟨s_bipush d_X7_begins_225 rfl, List.forall_mem_cons.mpr ⟨s_iload_n d_X7_begins_227 rfl, List.forall_mem_cons.mpr ⟨s_iadd d_X7_begins_228, List.forall_mem_cons.mpr ⟨s_aload_n d_X7_begins_229 rfl, List.forall_mem_cons.mpr ⟨s_gf d_X7_begins_230 rfl (by decide) n_X7 in_X7 rfl k_4_52, List.forall_mem_cons.mpr ⟨s_iload_n d_X7_begins_233 rfl, List.forall_mem_cons.mpr ⟨s_iald d_X7_begins_234, List.forall_mem_cons.mpr ⟨s_iast d_X7_begins_235, List.forall_mem_cons.mpr ⟨s_iinc d_X7_begins_236 rfl (by decide), fun _ h => absurd h List.not_mem_nil⟩⟩⟩⟩⟩⟩⟩⟩⟩⟩⟩⟩
def t_X7_begins_12 : List (Nat × QO) := [(239, o_goto 215), (242, o_al 0 243), (243, o_k 0 244), (244, o_pf 7 1 247), (247, o_al 0 248), (248, o_k 0 249), (249, o_pf 7 2 252), (252, o_vr)]
theorem ts_X7_begins_12 (sx : QX) : ∀ q ∈ t_X7_begins_12, q_Snd sx RX7 cX7_begins 2 none q.1 q.2 := List.forall_mem_cons.mpr ⟨s_goto d_X7_begins_239 (by decide), List.forall_mem_cons.mpr ⟨s_aload_n d_X7_begins_242 rfl, List.forall_mem_cons.mpr ⟨s_iconst d_X7_begins_243 rfl, List.forall_mem_cons.mpr ⟨s_pf tyX7 d_X7_begins_244 rfl (by decide) n_X7 in_X7 rfl k_4_30 tyX7_ok nmX7 rfl rfl, List.forall_mem_cons.mpr ⟨s_aload_n d_X7_begins_247 rfl, List.forall_mem_cons.mpr ⟨s_iconst d_X7_begins_248 rfl, List.forall_mem_cons.mpr ⟨s_pf tyX7 d_X7_begins_249 rfl (by decide) n_X7 in_X7 rfl k_4_31 tyX7_ok nmX7 rfl rfl, List.forall_mem_cons.mpr ⟨s_vr d_X7_begins_252 rfl, fun _ h => absurd h List.not_mem_nil⟩⟩⟩⟩⟩⟩⟩⟩
def t_X7_begins (pc : Nat) : Option QO := cond (Nat.ble pc 121) (cond (Nat.ble pc 65) (cond (Nat.ble pc 21) (q_look (t_X7_begins_0) pc) (cond (Nat.ble pc 44) (q_look (t_X7_begins_1) pc) (q_look (t_X7_begins_2) pc))) (cond (Nat.ble pc 85) (q_look (t_X7_begins_3) pc) (cond (Nat.ble pc 103) (q_look (t_X7_begins_4) pc) (q_look (t_X7_begins_5) pc)))) (cond (Nat.ble pc 181) (cond (Nat.ble pc 143) (q_look (t_X7_begins_6) pc) (cond (Nat.ble pc 163) (q_look (t_X7_begins_7) pc) (q_look (t_X7_begins_8) pc))) (cond (Nat.ble pc 216) (cond (Nat.ble pc 198) (q_look (t_X7_begins_9) pc) (q_look (t_X7_begins_10) pc)) (cond (Nat.ble pc 236) (q_look (t_X7_begins_11) pc) (q_look (t_X7_begins_12) pc))))
theorem ts_X7_begins (sx : QX) (pc : Nat) : ∀ o, t_X7_begins pc = some o → q_Snd sx RX7 cX7_begins 2 none pc o := by
  unfold t_X7_begins
  exact q_cb (q_cb (q_cb (q_look_all (ts_X7_begins_0 sx)) (q_cb (q_look_all (ts_X7_begins_1 sx)) (q_look_all (ts_X7_begins_2 sx)))) (q_cb (q_look_all (ts_X7_begins_3 sx)) (q_cb (q_look_all (ts_X7_begins_4 sx)) (q_look_all (ts_X7_begins_5 sx))))) (q_cb (q_cb (q_look_all (ts_X7_begins_6 sx)) (q_cb (q_look_all (ts_X7_begins_7 sx)) (q_look_all (ts_X7_begins_8 sx)))) (q_cb (q_cb (q_look_all (ts_X7_begins_9 sx)) (q_look_all (ts_X7_begins_10 sx))) (q_cb (q_look_all (ts_X7_begins_11 sx)) (q_look_all (ts_X7_begins_12 sx)))))
theorem d_X7_write_0 : decode cX7_write 0 = .ok (.iload_n 1, 1) := by decide +kernel
theorem d_X7_write_1 : decode cX7_write 1 = .ok (.i2l, 1) := by decide +kernel
theorem d_X7_write_2 : decode cX7_write 2 = .ok (.ldc2_w 113, 3) := by decide +kernel
theorem d_X7_write_5 : decode cX7_write 5 = .ok (.ldc2_w 115, 3) := by decide +kernel
theorem d_X7_write_8 : decode cX7_write 8 = .ok (.invokestatic 85, 3) := by decide +kernel
theorem d_X7_write_11 : decode cX7_write 11 = .ok (.ifCond .ne 5, 3) := by decide +kernel
theorem d_X7_write_14 : decode cX7_write 14 = .ok (.iconst (-1), 1) := by decide +kernel
theorem d_X7_write_15 : decode cX7_write 15 = .ok (.ireturn, 1) := by decide +kernel
theorem d_X7_write_16 : decode cX7_write 16 = .ok (.aload_n 0, 1) := by decide +kernel
theorem d_X7_write_17 : decode cX7_write 17 = .ok (.getfield 117, 3) := by decide +kernel
theorem d_X7_write_20 : decode cX7_write 20 = .ok (.sipush 200, 3) := by decide +kernel
theorem d_X7_write_23 : decode cX7_write 23 = .ok (.if_icmp .ne 6, 3) := by decide +kernel
theorem d_X7_write_26 : decode cX7_write 26 = .ok (.bipush (-3), 2) := by decide +kernel
theorem d_X7_write_28 : decode cX7_write 28 = .ok (.ireturn, 1) := by decide +kernel
theorem d_X7_write_29 : decode cX7_write 29 = .ok (.aload_n 0, 1) := by decide +kernel
theorem d_X7_write_30 : decode cX7_write 30 = .ok (.getfield 28, 3) := by decide +kernel
theorem d_X7_write_33 : decode cX7_write 33 = .ok (.aload_n 0, 1) := by decide +kernel
theorem d_X7_write_34 : decode cX7_write 34 = .ok (.getfield 117, 3) := by decide +kernel
theorem d_X7_write_37 : decode cX7_write 37 = .ok (.iload_n 1, 1) := by decide +kernel
theorem d_X7_write_38 : decode cX7_write 38 = .ok (.iastore, 1) := by decide +kernel
theorem d_X7_write_39 : decode cX7_write 39 = .ok (.aload_n 0, 1) := by decide +kernel
theorem d_X7_write_40 : decode cX7_write 40 = .ok (.dup, 1) := by decide +kernel
theorem d_X7_write_41 : decode cX7_write 41 = .ok (.getfield 117, 3) := by decide +kernel
theorem d_X7_write_44 : decode cX7_write 44 = .ok (.iconst 1, 1) := by decide +kernel
theorem d_X7_write_45 : decode cX7_write 45 = .ok (.iadd, 1) := by decide +kernel
theorem d_X7_write_46 : decode cX7_write 46 = .ok (.putfield 117, 3) := by decide +kernel
theorem d_X7_write_49 : decode cX7_write 49 = .ok (.aload_n 0, 1) := by decide +kernel
theorem d_X7_write_50 : decode cX7_write 50 = .ok (.getfield 117, 3) := by decide +kernel
theorem d_X7_write_53 : decode cX7_write 53 = .ok (.ireturn, 1) := by decide +kernel
def t_X7_write_0 : List (Nat × QO) := [(0, o_il 1 1), (1, o_i2l 2), (2, o_kl 32 5), (5, o_kl 126 8), (8, o_cS 1 102 6 3 11), (11, o_if (fun x => decide (x ≠ 0)) 16 14), (14, o_k (-1) 15), (15, o_ir false), (16, o_al 0 17), (17, o_gf 7 13 20), (20, o_k 200 23), (23, o_ic (fun x y => decide (x ≠ y)) 29 26)]
theorem ts_X7_write_0 (sx : QX) : ∀ q ∈ t_X7_write_0, q_Snd sx RX7 cX7_write 2 (some .int) q.1 q.2 := List.forall_mem_cons.mpr ⟨s_iload_n d_X7_write_0 rfl, List.forall_mem_cons.mpr ⟨s_i2l d_X7_write_1, List.forall_mem_cons.mpr ⟨s_ldc2 d_X7_write_2 k_4_124, List.forall_mem_cons.mpr ⟨s_ldc2 d_X7_write_5 k_4_125, List.forall_mem_cons.mpr ⟨s_cS rfl d_X7_write_8 k_4_126 k_4_127 k_1_12 k_4_128 ⟨by decide, by decide⟩ (by decide +kernel) (by decide), List.forall_mem_cons.mpr ⟨s_if_ne d_X7_write_11 (by decide), List.forall_mem_cons.mpr ⟨s_iconst d_X7_write_14 rfl, List.forall_mem_cons.mpr ⟨s_ir d_X7_write_15 rfl, List.forall_mem_cons.mpr ⟨s_aload_n d_X7_write_16 rfl, List.forall_mem_cons.mpr ⟨s_gf d_X7_write_17 rfl (by decide) n_X7 in_X7 rfl k_4_42, List.forall_mem_cons.mpr ⟨s_sipush d_X7_write_20 rfl, List.forall_mem_cons.mpr ⟨s_ic_ne d_X7_write_23 (by decide), fun _ h => absurd h List.not_mem_nil⟩⟩⟩⟩⟩⟩⟩⟩⟩⟩⟩⟩
def t_X7_write_1 : List (Nat × QO) := [(26, o_k (-3) 28), (28, o_ir false), (29, o_al 0 30), (30, o_gf 7 12 33), (33, o_al 0 34), (34, o_gf 7 13 37), (37, o_il 1 38), (38, o_iast 39), (39, o_al 0 40), (40, o_dup 41), (41, o_gf 7 13 44), (44, o_k 1 45)]
theorem ts_X7_write_1 (sx : QX) : ∀ q ∈ t_X7_write_1, q_Snd sx RX7 cX7_write 2 (some .int) q.1 q.2 := List.forall_mem_cons.mpr ⟨s_bipush d_X7_write_26 rfl, List.forall_mem_cons.mpr ⟨s_ir d_X7_write_28 rfl, List.forall_mem_cons.mpr ⟨s_aload_n d_X7_write_29 rfl, List.forall_mem_cons.mpr ⟨s_gf d_X7_write_30 rfl (by decide) n_X7 in_X7 rfl k_4_41, List.forall_mem_cons.mpr ⟨s_aload_n d_X7_write_33 rfl, List.forall_mem_cons.mpr ⟨s_gf d_X7_write_34 rfl (by decide) n_X7 in_X7 rfl k_4_42, List.forall_mem_cons.mpr ⟨s_iload_n d_X7_write_37 rfl, List.forall_mem_cons.mpr ⟨s_iast d_X7_write_38, List.forall_mem_cons.mpr ⟨s_aload_n d_X7_write_39 rfl, List.forall_mem_cons.mpr ⟨s_dup d_X7_write_40, List.forall_mem_cons.mpr ⟨s_gf d_X7_write_41 rfl (by decide) n_X7 in_X7 rfl k_4_42, List.forall_mem_cons.mpr ⟨s_iconst d_X7_write_44 rfl, fun _ h => absurd h List.not_mem_nil⟩⟩⟩⟩⟩⟩⟩⟩⟩⟩⟩⟩
def t_X7_write_2 : List (Nat × QO) := [(45, o_b (fun x y => x + y) 46), (46, o_pf 7 13 49), (49, o_al 0 50), (50, o_gf 7 13 53), (53, o_ir false)]
theorem ts_X7_write_2 (sx : QX) : ∀ q ∈ t_X7_write_2, q_Snd sx RX7 cX7_write 2 (some .int) q.1 q.2 := List.forall_mem_cons.mpr ⟨s_iadd d_X7_write_45, List.forall_mem_cons.mpr ⟨s_pf tyX7 d_X7_write_46 rfl (by decide) n_X7 in_X7 rfl k_4_42 tyX7_ok nmX7 rfl rfl, List.forall_mem_cons.mpr ⟨s_aload_n d_X7_write_49 rfl, List.forall_mem_cons.mpr ⟨s_gf d_X7_write_50 rfl (by decide) n_X7 in_X7 rfl k_4_42, List.forall_mem_cons.mpr ⟨s_ir d_X7_write_53 rfl, fun _ h => absurd h List.not_mem_nil⟩⟩⟩⟩⟩
def t_X7_write (pc : Nat) : Option QO := cond (Nat.ble pc 23) (q_look (t_X7_write_0) pc) (cond (Nat.ble pc 44) (q_look (t_X7_write_1) pc) (q_look (t_X7_write_2) pc))
theorem ts_X7_write (sx : QX) (pc : Nat) : ∀ o, t_X7_write pc = some o → q_Snd sx RX7 cX7_write 2 (some .int) pc o := by
  unfold t_X7_write
  exact q_cb (q_look_all (ts_X7_write_0 sx)) (q_cb (q_look_all (ts_X7_write_1 sx)) (q_look_all (ts_X7_write_2 sx)))
theorem d_X7_wipe_0 : decode cX7_wipe 0 = .ok (.aload_n 0, 1) := by decide +kernel
theorem d_X7_wipe_1 : decode cX7_wipe 1 = .ok (.getfield 117, 3) := by decide +kernel
theorem d_X7_wipe_4 : decode cX7_wipe 4 = .ok (.istore_n 1, 1) := by decide +kernel
theorem d_X7_wipe_5 : decode cX7_wipe 5 = .ok (.aload_n 0, 1) := by decide +kernel
theorem d_X7_wipe_6 : decode cX7_wipe 6 = .ok (.iconst 0, 1) := by decide +kernel
theorem d_X7_wipe_7 : decode cX7_wipe 7 = .ok (.putfield 117, 3) := by decide +kernel
theorem d_X7_wipe_10 : decode cX7_wipe 10 = .ok (.iload_n 1, 1) := by decide +kernel
theorem d_X7_wipe_11 : decode cX7_wipe 11 = .ok (.ireturn, 1) := by decide +kernel
def t_X7_wipe_0 : List (Nat × QO) := [(0, o_al 0 1), (1, o_gf 7 13 4), (4, o_is 1 5), (5, o_al 0 6), (6, o_k 0 7), (7, o_pf 7 13 10), (10, o_il 1 11), (11, o_ir false)]
theorem ts_X7_wipe_0 (sx : QX) : ∀ q ∈ t_X7_wipe_0, q_Snd sx RX7 cX7_wipe 2 (some .int) q.1 q.2 := List.forall_mem_cons.mpr ⟨s_aload_n d_X7_wipe_0 rfl, List.forall_mem_cons.mpr ⟨s_gf d_X7_wipe_1 rfl (by decide) n_X7 in_X7 rfl k_4_42, List.forall_mem_cons.mpr ⟨s_istore_n d_X7_wipe_4 rfl (by decide), List.forall_mem_cons.mpr ⟨s_aload_n d_X7_wipe_5 rfl, List.forall_mem_cons.mpr ⟨s_iconst d_X7_wipe_6 rfl, List.forall_mem_cons.mpr ⟨s_pf tyX7 d_X7_wipe_7 rfl (by decide) n_X7 in_X7 rfl k_4_42 tyX7_ok nmX7 rfl rfl, List.forall_mem_cons.mpr ⟨s_iload_n d_X7_wipe_10 rfl, List.forall_mem_cons.mpr ⟨s_ir d_X7_wipe_11 rfl, fun _ h => absurd h List.not_mem_nil⟩⟩⟩⟩⟩⟩⟩⟩
def t_X7_wipe (pc : Nat) : Option QO := q_look (t_X7_wipe_0) pc
theorem ts_X7_wipe (sx : QX) (pc : Nat) : ∀ o, t_X7_wipe pc = some o → q_Snd sx RX7 cX7_wipe 2 (some .int) pc o := by
  unfold t_X7_wipe
  exact q_look_all (ts_X7_wipe_0 sx)
theorem d_X7_letterAt_0 : decode cX7_letterAt 0 = .ok (.iload_n 1, 1) := by decide +kernel
theorem d_X7_letterAt_1 : decode cX7_letterAt 1 = .ok (.aload_n 0, 1) := by decide +kernel
theorem d_X7_letterAt_2 : decode cX7_letterAt 2 = .ok (.getfield 117, 3) := by decide +kernel
theorem d_X7_letterAt_5 : decode cX7_letterAt 5 = .ok (.if_icmp .ge 12, 3) := by decide +kernel
theorem d_X7_letterAt_8 : decode cX7_letterAt 8 = .ok (.aload_n 0, 1) := by decide +kernel
theorem d_X7_letterAt_9 : decode cX7_letterAt 9 = .ok (.getfield 28, 3) := by decide +kernel
theorem d_X7_letterAt_12 : decode cX7_letterAt 12 = .ok (.iload_n 1, 1) := by decide +kernel
theorem d_X7_letterAt_13 : decode cX7_letterAt 13 = .ok (.iaload, 1) := by decide +kernel
theorem d_X7_letterAt_14 : decode cX7_letterAt 14 = .ok (.goto 4, 3) := by decide +kernel
theorem d_X7_letterAt_17 : decode cX7_letterAt 17 = .ok (.iconst (-1), 1) := by decide +kernel
theorem d_X7_letterAt_18 : decode cX7_letterAt 18 = .ok (.ireturn, 1) := by decide +kernel
def t_X7_letterAt_0 : List (Nat × QO) := [(0, o_il 1 1), (1, o_al 0 2), (2, o_gf 7 13 5), (5, o_ic (fun x y => decide (y ≤ x)) 17 8), (8, o_al 0 9), (9, o_gf 7 12 12), (12, o_il 1 13), (13, o_iald 14), (14, o_goto 18), (17, o_k (-1) 18), (18, o_ir false)]
theorem ts_X7_letterAt_0 (sx : QX) : ∀ q ∈ t_X7_letterAt_0, q_Snd sx RX7 cX7_letterAt 2 (some .int) q.1 q.2 := List.forall_mem_cons.mpr ⟨s_iload_n d_X7_letterAt_0 rfl, List.forall_mem_cons.mpr ⟨s_aload_n d_X7_letterAt_1 rfl, List.forall_mem_cons.mpr ⟨s_gf d_X7_letterAt_2 rfl (by decide) n_X7 in_X7 rfl k_4_42, List.forall_mem_cons.mpr ⟨s_ic_ge d_X7_letterAt_5 (by decide), List.forall_mem_cons.mpr ⟨s_aload_n d_X7_letterAt_8 rfl, List.forall_mem_cons.mpr ⟨s_gf d_X7_letterAt_9 rfl (by decide) n_X7 in_X7 rfl k_4_41, List.forall_mem_cons.mpr ⟨s_iload_n d_X7_letterAt_12 rfl, List.forall_mem_cons.mpr ⟨s_iald d_X7_letterAt_13, List.forall_mem_cons.mpr ⟨s_goto d_X7_letterAt_14 (by decide), List.forall_mem_cons.mpr ⟨s_iconst d_X7_letterAt_17 rfl, List.forall_mem_cons.mpr ⟨s_ir d_X7_letterAt_18 rfl, fun _ h => absurd h List.not_mem_nil⟩⟩⟩⟩⟩⟩⟩⟩⟩⟩⟩
def t_X7_letterAt (pc : Nat) : Option QO := q_look (t_X7_letterAt_0) pc
theorem ts_X7_letterAt (sx : QX) (pc : Nat) : ∀ o, t_X7_letterAt pc = some o → q_Snd sx RX7 cX7_letterAt 2 (some .int) pc o := by
  unfold t_X7_letterAt
  exact q_look_all (ts_X7_letterAt_0 sx)
theorem d_X7_takesNumber_0 : decode cX7_takesNumber 0 = .ok (.aload_n 0, 1) := by decide +kernel
theorem d_X7_takesNumber_1 : decode cX7_takesNumber 1 = .ok (.getfield 120, 3) := by decide +kernel
theorem d_X7_takesNumber_4 : decode cX7_takesNumber 4 = .ok (.istore 4, 2) := by decide +kernel
theorem d_X7_takesNumber_6 : decode cX7_takesNumber 6 = .ok (.aload_n 0, 1) := by decide +kernel
theorem d_X7_takesNumber_7 : decode cX7_takesNumber 7 = .ok (.iconst 0, 1) := by decide +kernel
theorem d_X7_takesNumber_8 : decode cX7_takesNumber 8 = .ok (.putfield 123, 3) := by decide +kernel
theorem d_X7_takesNumber_11 : decode cX7_takesNumber 11 = .ok (.aload_n 0, 1) := by decide +kernel
theorem d_X7_takesNumber_12 : decode cX7_takesNumber 12 = .ok (.getfield 120, 3) := by decide +kernel
theorem d_X7_takesNumber_15 : decode cX7_takesNumber 15 = .ok (.iload 4, 2) := by decide +kernel
theorem d_X7_takesNumber_17 : decode cX7_takesNumber 17 = .ok (.isub, 1) := by decide +kernel
theorem d_X7_takesNumber_18 : decode cX7_takesNumber 18 = .ok (.iconst 2, 1) := by decide +kernel
theorem d_X7_takesNumber_19 : decode cX7_takesNumber 19 = .ok (.if_icmp .ge 60, 3) := by decide +kernel
theorem d_X7_takesNumber_22 : decode cX7_takesNumber 22 = .ok (.aload_n 0, 1) := by decide +kernel
theorem d_X7_takesNumber_23 : decode cX7_takesNumber 23 = .ok (.aload_n 0, 1) := by decide +kernel
theorem d_X7_takesNumber_24 : decode cX7_takesNumber 24 = .ok (.getfield 120, 3) := by decide +kernel
theorem d_X7_takesNumber_27 : decode cX7_takesNumber 27 = .ok (.invokevirtual 126, 3) := by decide +kernel
theorem d_X7_takesNumber_30 : decode cX7_takesNumber 30 = .ok (.i2l, 1) := by decide +kernel
theorem d_X7_takesNumber_31 : decode cX7_takesNumber 31 = .ok (.ldc2_w 130, 3) := by decide +kernel
theorem d_X7_takesNumber_34 : decode cX7_takesNumber 34 = .ok (.ldc2_w 132, 3) := by decide +kernel
theorem d_X7_takesNumber_37 : decode cX7_takesNumber 37 = .ok (.invokestatic 85, 3) := by decide +kernel
theorem d_X7_takesNumber_40 : decode cX7_takesNumber 40 = .ok (.ifCond .eq 39, 3) := by decide +kernel
theorem d_X7_takesNumber_43 : decode cX7_takesNumber 43 = .ok (.aload_n 0, 1) := by decide +kernel
theorem d_X7_takesNumber_44 : decode cX7_takesNumber 44 = .ok (.bipush 10, 2) := by decide +kernel
theorem d_X7_takesNumber_46 : decode cX7_takesNumber 46 = .ok (.aload_n 0, 1) := by decide +kernel
theorem d_X7_takesNumber_47 : decode cX7_takesNumber 47 = .ok (.getfield 123, 3) := by decide +kernel
theorem d_X7_takesNumber_50 : decode cX7_takesNumber 50 = .ok (.imul, 1) := by decide +kernel
theorem d_X7_takesNumber_51 : decode cX7_takesNumber 51 = .ok (.aload_n 0, 1) := by decide +kernel
theorem d_X7_takesNumber_52 : decode cX7_takesNumber 52 = .ok (.aload_n 0, 1) := by decide +kernel
theorem d_X7_takesNumber_53 : decode cX7_takesNumber 53 = .ok (.getfield 120, 3) := by decide +kernel
theorem d_X7_takesNumber_56 : decode cX7_takesNumber 56 = .ok (.invokevirtual 126, 3) := by decide +kernel
theorem d_X7_takesNumber_59 : decode cX7_takesNumber 59 = .ok (.iadd, 1) := by decide +kernel
theorem d_X7_takesNumber_60 : decode cX7_takesNumber 60 = .ok (.bipush 48, 2) := by decide +kernel
theorem d_X7_takesNumber_62 : decode cX7_takesNumber 62 = .ok (.isub, 1) := by decide +kernel
theorem d_X7_takesNumber_63 : decode cX7_takesNumber 63 = .ok (.putfield 123, 3) := by decide +kernel
theorem d_X7_takesNumber_66 : decode cX7_takesNumber 66 = .ok (.aload_n 0, 1) := by decide +kernel
theorem d_X7_takesNumber_67 : decode cX7_takesNumber 67 = .ok (.dup, 1) := by decide +kernel
theorem d_X7_takesNumber_68 : decode cX7_takesNumber 68 = .ok (.getfield 120, 3) := by decide +kernel
theorem d_X7_takesNumber_71 : decode cX7_takesNumber 71 = .ok (.iconst 1, 1) := by decide +kernel
theorem d_X7_takesNumber_72 : decode cX7_takesNumber 72 = .ok (.iadd, 1) := by decide +kernel
theorem d_X7_takesNumber_73 : decode cX7_takesNumber 73 = .ok (.putfield 120, 3) := by decide +kernel
theorem d_X7_takesNumber_76 : decode cX7_takesNumber 76 = .ok (.goto (-65), 3) := by decide +kernel
theorem d_X7_takesNumber_79 : decode cX7_takesNumber 79 = .ok (.aload_n 0, 1) := by decide +kernel
theorem d_X7_takesNumber_80 : decode cX7_takesNumber 80 = .ok (.getfield 120, 3) := by decide +kernel
theorem d_X7_takesNumber_83 : decode cX7_takesNumber 83 = .ok (.iload 4, 2) := by decide +kernel
theorem d_X7_takesNumber_85 : decode cX7_takesNumber 85 = .ok (.if_icmp .eq 30, 3) := by decide +kernel
theorem d_X7_takesNumber_88 : decode cX7_takesNumber 88 = .ok (.aload_n 0, 1) := by decide +kernel
theorem d_X7_takesNumber_89 : decode cX7_takesNumber 89 = .ok (.getfield 123, 3) := by decide +kernel
theorem d_X7_takesNumber_92 : decode cX7_takesNumber 92 = .ok (.i2l, 1) := by decide +kernel
theorem d_X7_takesNumber_93 : decode cX7_takesNumber 93 = .ok (.iload_n 1, 1) := by decide +kernel
theorem d_X7_takesNumber_94 : decode cX7_takesNumber 94 = .ok (.i2l, 1) := by decide +kernel
theorem d_X7_takesNumber_95 : decode cX7_takesNumber 95 = .ok (.iload_n 2, 1) := by decide +kernel
theorem d_X7_takesNumber_96 : decode cX7_takesNumber 96 = .ok (.i2l, 1) := by decide +kernel
theorem d_X7_takesNumber_97 : decode cX7_takesNumber 97 = .ok (.invokestatic 85, 3) := by decide +kernel
theorem d_X7_takesNumber_100 : decode cX7_takesNumber 100 = .ok (.ifCond .eq 15, 3) := by decide +kernel
theorem d_X7_takesNumber_103 : decode cX7_takesNumber 103 = .ok (.aload_n 0, 1) := by decide +kernel
theorem d_X7_takesNumber_104 : decode cX7_takesNumber 104 = .ok (.aload_n 0, 1) := by decide +kernel
theorem d_X7_takesNumber_105 : decode cX7_takesNumber 105 = .ok (.getfield 120, 3) := by decide +kernel
theorem d_X7_takesNumber_108 : decode cX7_takesNumber 108 = .ok (.invokevirtual 126, 3) := by decide +kernel
theorem d_X7_takesNumber_111 : decode cX7_takesNumber 111 = .ok (.iload_n 3, 1) := by decide +kernel
theorem d_X7_takesNumber_112 : decode cX7_takesNumber 112 = .ok (.if_icmp .eq 5, 3) := by decide +kernel
theorem d_X7_takesNumber_115 : decode cX7_takesNumber 115 = .ok (.iconst 0, 1) := by decide +kernel
theorem d_X7_takesNumber_116 : decode cX7_takesNumber 116 = .ok (.ireturn, 1) := by decide +kernel
theorem d_X7_takesNumber_117 : decode cX7_takesNumber 117 = .ok (.aload_n 0, 1) := by decide +kernel
theorem d_X7_takesNumber_118 : decode cX7_takesNumber 118 = .ok (.dup, 1) := by decide +kernel
theorem d_X7_takesNumber_119 : decode cX7_takesNumber 119 = .ok (.getfield 120, 3) := by decide +kernel
theorem d_X7_takesNumber_122 : decode cX7_takesNumber 122 = .ok (.iconst 1, 1) := by decide +kernel
theorem d_X7_takesNumber_123 : decode cX7_takesNumber 123 = .ok (.iadd, 1) := by decide +kernel
theorem d_X7_takesNumber_124 : decode cX7_takesNumber 124 = .ok (.putfield 120, 3) := by decide +kernel
theorem d_X7_takesNumber_127 : decode cX7_takesNumber 127 = .ok (.iconst 1, 1) := by decide +kernel
theorem d_X7_takesNumber_128 : decode cX7_takesNumber 128 = .ok (.ireturn, 1) := by decide +kernel
def t_X7_takesNumber_0 : List (Nat × QO) := [(0, o_al 0 1), (1, o_gf 7 14 4), (4, o_is 4 6), (6, o_al 0 7), (7, o_k 0 8), (8, o_pf 7 15 11), (11, o_al 0 12), (12, o_gf 7 14 15), (15, o_il 4 17), (17, o_b (fun x y => x - y) 18), (18, o_k 2 19), (19, o_ic (fun x y => decide (y ≤ x)) 79 22)]
theorem ts_X7_takesNumber_0 (sx : QX) : ∀ q ∈ t_X7_takesNumber_0, q_Snd sx RX7 cX7_takesNumber 5 (some .boolean) q.1 q.2 := List.forall_mem_cons.mpr ⟨s_aload_n d_X7_takesNumber_0 rfl, List.forall_mem_cons.mpr ⟨s_gf d_X7_takesNumber_1 rfl (by decide) n_X7 in_X7 rfl k_4_43, List.forall_mem_cons.mpr ⟨s_istore d_X7_takesNumber_4 (by decide), List.forall_mem_cons.mpr ⟨s_aload_n d_X7_takesNumber_6 rfl, List.forall_mem_cons.mpr ⟨s_iconst d_X7_takesNumber_7 rfl, List.forall_mem_cons.mpr ⟨s_pf tyX7 d_X7_takesNumber_8 rfl (by decide) n_X7 in_X7 rfl k_4_44 tyX7_ok nmX7 rfl rfl, List.forall_mem_cons.mpr ⟨s_aload_n d_X7_takesNumber_11 rfl, List.forall_mem_cons.mpr ⟨s_gf d_X7_takesNumber_12 rfl (by decide) n_X7 in_X7 rfl k_4_43, List.forall_mem_cons.mpr ⟨s_iload d_X7_takesNumber_15, List.forall_mem_cons.mpr ⟨s_isub d_X7_takesNumber_17, List.forall_mem_cons.mpr ⟨s_iconst d_X7_takesNumber_18 rfl, List.forall_mem_cons.mpr ⟨s_ic_ge d_X7_takesNumber_19 (by decide), fun _ h => absurd h List.not_mem_nil⟩⟩⟩⟩⟩⟩⟩⟩⟩⟩⟩⟩
def t_X7_takesNumber_1 : List (Nat × QO) := [(22, o_al 0 23), (23, o_al 0 24), (24, o_gf 7 14 27), (27, o_cV 1 7 116 2 2 30), (30, o_i2l 31), (31, o_kl 48 34), (34, o_kl 57 37), (37, o_cS 1 102 6 3 40), (40, o_if (fun x => decide (x = 0)) 79 43), (43, o_al 0 44), (44, o_k 10 46), (46, o_al 0 47)]
theorem ts_X7_takesNumber_1 (sx : QX) : ∀ q ∈ t_X7_takesNumber_1, q_Snd sx RX7 cX7_takesNumber 5 (some .boolean) q.1 q.2 := List.forall_mem_cons.mpr ⟨s_aload_n d_X7_takesNumber_22 rfl, List.forall_mem_cons.mpr ⟨s_aload_n d_X7_takesNumber_23 rfl, List.forall_mem_cons.mpr ⟨s_gf d_X7_takesNumber_24 rfl (by decide) n_X7 in_X7 rfl k_4_43, List.forall_mem_cons.mpr ⟨s_cV (T := TX7) (N := 30) rfl d_X7_takesNumber_27 rfl k_4_145 k_4_147 k_0_25 k_1_12 k_4_148 ⟨by decide, by decide⟩ (by decide +kernel) (by decide), List.forall_mem_cons.mpr ⟨s_i2l d_X7_takesNumber_30, List.forall_mem_cons.mpr ⟨s_ldc2 d_X7_takesNumber_31 k_4_157, List.forall_mem_cons.mpr ⟨s_ldc2 d_X7_takesNumber_34 k_4_158, List.forall_mem_cons.mpr ⟨s_cS rfl d_X7_takesNumber_37 k_4_126 k_4_127 k_1_12 k_4_128 ⟨by decide, by decide⟩ (by decide +kernel) (by decide), List.forall_mem_cons.mpr ⟨s_if_eq d_X7_takesNumber_40 (by decide), List.forall_mem_cons.mpr ⟨s_aload_n d_X7_takesNumber_43 rfl, List.forall_mem_cons.mpr ⟨s_bipush d_X7_takesNumber_44 rfl, List.forall_mem_cons.mpr ⟨s_aload_n d_X7_takesNumber_46 rfl, fun _ h => absurd h List.not_mem_nil⟩⟩⟩⟩⟩⟩⟩⟩⟩⟩⟩⟩
def t_X7_takesNumber_2 : List (Nat × QO) := [(47, o_gf 7 15 50), (50, o_b (fun x y => x * y) 51), (51, o_al 0 52), (52, o_al 0 53), (53, o_gf 7 14 56), (56, o_cV 1 7 116 2 2 59), (59, o_b (fun x y => x + y) 60), (60, o_k 48 62), (62, o_b (fun x y => x - y) 63), (63, o_pf 7 15 66), (66, o_al 0 67), (67, o_dup 68)]
theorem ts_X7_takesNumber_2 (sx : QX) : ∀ q ∈ t_X7_takesNumber_2, q_Snd sx RX7 cX7_takesNumber 5 (some .boolean) q.1 q.2 := List.forall_mem_cons.mpr ⟨s_gf d_X7_takesNumber_47 rfl (by decide) n_X7 in_X7 rfl k_4_44, List.forall_mem_cons.mpr ⟨s_imul d_X7_takesNumber_50, List.forall_mem_cons.mpr ⟨s_aload_n d_X7_takesNumber_51 rfl, List.forall_mem_cons.mpr ⟨s_aload_n d_X7_takesNumber_52 rfl, List.forall_mem_cons.mpr ⟨s_gf d_X7_takesNumber_53 rfl (by decide) n_X7 in_X7 rfl k_4_43, List.forall_mem_cons.mpr ⟨s_cV (T := TX7) (N := 30) rfl d_X7_takesNumber_56 rfl k_4_145 k_4_147 k_0_25 k_1_12 k_4_148 ⟨by decide, by decide⟩ (by decide +kernel) (by decide), List.forall_mem_cons.mpr ⟨s_iadd d_X7_takesNumber_59, List.forall_mem_cons.mpr ⟨s_bipush d_X7_takesNumber_60 rfl, List.forall_mem_cons.mpr ⟨s_isub d_X7_takesNumber_62, List.forall_mem_cons.mpr ⟨s_pf tyX7 d_X7_takesNumber_63 rfl (by decide) n_X7 in_X7 rfl k_4_44 tyX7_ok nmX7 rfl rfl, List.forall_mem_cons.mpr ⟨s_aload_n d_X7_takesNumber_66 rfl, List.forall_mem_cons.mpr ⟨s_dup d_X7_takesNumber_67, fun _ h => absurd h List.not_mem_nil⟩⟩⟩⟩⟩⟩⟩⟩⟩⟩⟩⟩
def t_X7_takesNumber_3 : List (Nat × QO) := [(68, o_gf 7 14 71), (71, o_k 1 72), (72, o_b (fun x y => x + y) 73), (73, o_pf 7 14 76), (76, o_goto 11), (79, o_al 0 80), (80, o_gf 7 14 83), (83, o_il 4 85), (85, o_ic (fun x y => decide (x = y)) 115 88), (88, o_al 0 89), (89, o_gf 7 15 92), (92, o_i2l 93)]
theorem ts_X7_takesNumber_3 (sx : QX) : ∀ q ∈ t_X7_takesNumber_3, q_Snd sx RX7 cX7_takesNumber 5 (some .boolean) q.1 q.2 := List.forall_mem_cons.mpr ⟨s_gf d_X7_takesNumber_68 rfl (by decide) n_X7 in_X7 rfl k_4_43, List.forall_mem_cons.mpr ⟨s_iconst d_X7_takesNumber_71 rfl, List.forall_mem_cons.mpr ⟨s_iadd d_X7_takesNumber_72, List.forall_mem_cons.mpr ⟨s_pf tyX7 d_X7_takesNumber_73 rfl (by decide) n_X7 in_X7 rfl k_4_43 tyX7_ok nmX7 rfl rfl, List.forall_mem_cons.mpr ⟨s_goto d_X7_takesNumber_76 (by decide), List.forall_mem_cons.mpr ⟨s_aload_n d_X7_takesNumber_79 rfl, List.forall_mem_cons.mpr ⟨s_gf d_X7_takesNumber_80 rfl (by decide) n_X7 in_X7 rfl k_4_43, List.forall_mem_cons.mpr ⟨s_iload d_X7_takesNumber_83, List.forall_mem_cons.mpr ⟨s_ic_eq d_X7_takesNumber_85 (by decide), List.forall_mem_cons.mpr ⟨s_aload_n d_X7_takesNumber_88 rfl, List.forall_mem_cons.mpr ⟨s_gf d_X7_takesNumber_89 rfl (by decide) n_X7 in_X7 rfl k_4_44, List.forall_mem_cons.mpr ⟨s_i2l d_X7_takesNumber_92, fun _ h => absurd h List.not_mem_nil⟩⟩⟩⟩⟩⟩⟩⟩⟩⟩⟩⟩
def t_X7_takesNumber_4 : List (Nat × QO) := [(93, o_il 1 94), (94, o_i2l 95), (95, o_il 2 96), (96, o_i2l 97), (97, o_cS 1 102 6 3 100), (100, o_if (fun x => decide (x = 0)) 115 103), (103, o_al 0 104), (104, o_al 0 105), (105, o_gf 7 14 108), (108, o_cV 1 7 116 2 2 111), (111, o_il 3 112), (112, o_ic (fun x y => decide (x = y)) 117 115)]
theorem ts_X7_takesNumber_4 (sx : QX) : ∀ q ∈ t_X7_takesNumber_4, q_Snd sx RX7 cX7_takesNumber 5 (some .boolean) q.1 q.2 := List.forall_mem_cons.mpr ⟨s_iload_n d_X7_takesNumber_93 rfl, List.forall_mem_cons.mpr ⟨s_i2l d_X7_takesNumber_94, List.forall_mem_cons.mpr ⟨s_iload_n d_X7_takesNumber_95 rfl, List.forall_mem_cons.mpr ⟨s_i2l d_X7_takesNumber_96, List.forall_mem_cons.mpr ⟨s_cS rfl d_X7_takesNumber_97 k_4_126 k_4_127 k_1_12 k_4_128 ⟨by decide, by decide⟩ (by decide +kernel) (by decide), List.forall_mem_cons.mpr ⟨s_if_eq d_X7_takesNumber_100 (by decide), List.forall_mem_cons.mpr ⟨s_aload_n d_X7_takesNumber_103 rfl, List.forall_mem_cons.mpr ⟨s_aload_n d_X7_takesNumber_104 rfl, List.forall_mem_cons.mpr ⟨s_gf d_X7_takesNumber_105 rfl (by decide) n_X7 in_X7 rfl k_4_43, List.forall_mem_cons.mpr ⟨s_cV (T := TX7) (N := 30) rfl d_X7_takesNumber_108 rfl k_4_145 k_4_147 k_0_25 k_1_12 k_4_148 ⟨by decide, by decide⟩ (by decide +kernel) (by decide), List.forall_mem_cons.mpr ⟨s_iload_n d_X7_takesNumber_111 rfl, List.forall_mem_cons.mpr ⟨s_ic_eq d_X7_takesNumber_112 (by decide), fun _ h => absurd h List.not_mem_nil⟩⟩⟩⟩⟩⟩⟩⟩⟩⟩⟩⟩
def t_X7_takesNumber_5 : List (Nat × QO) := [(115, o_k 0 116), (116, o_ir true), (117, o_al 0 118), (118, o_dup 119), (119, o_gf 7 14 122), (122, o_k 1 123), (123, o_b (fun x y => x + y) 124), (124, o_pf 7 14 127), (127, o_k 1 128), (128, o_ir true)]
theorem ts_X7_takesNumber_5 (sx : QX) : ∀ q ∈ t_X7_takesNumber_5, q_Snd sx RX7 cX7_takesNumber 5 (some .boolean) q.1 q.2 := List.forall_mem_cons.mpr ⟨s_iconst d_X7_takesNumber_115 rfl, List.forall_mem_cons.mpr ⟨s_zr d_X7_takesNumber_116 rfl, List.forall_mem_cons.mpr ⟨s_aload_n d_X7_takesNumber_117 rfl, List.forall_mem_cons.mpr ⟨s_dup d_X7_takesNumber_118, List.forall_mem_cons.mpr ⟨s_gf d_X7_takesNumber_119 rfl (by decide) n_X7 in_X7 rfl k_4_43, List.forall_mem_cons.mpr ⟨s_iconst d_X7_takesNumber_122 rfl, List.forall_mem_cons.mpr ⟨s_iadd d_X7_takesNumber_123, List.forall_mem_cons.mpr ⟨s_pf tyX7 d_X7_takesNumber_124 rfl (by decide) n_X7 in_X7 rfl k_4_43 tyX7_ok nmX7 rfl rfl, List.forall_mem_cons.mpr ⟨s_iconst d_X7_takesNumber_127 rfl, List.forall_mem_cons.mpr ⟨s_zr d_X7_takesNumber_128 rfl, fun _ h => absurd h List.not_mem_nil⟩⟩⟩⟩⟩⟩⟩⟩⟩⟩
def t_X7_takesNumber (pc : Nat) : Option QO := cond (Nat.ble pc 67) (cond (Nat.ble pc 19) (q_look (t_X7_takesNumber_0) pc) (cond (Nat.ble pc 46) (q_look (t_X7_takesNumber_1) pc) (q_look (t_X7_takesNumber_2) pc))) (cond (Nat.ble pc 92) (q_look (t_X7_takesNumber_3) pc) (cond (Nat.ble pc 112) (q_look (t_X7_takesNumber_4) pc) (q_look (t_X7_takesNumber_5) pc)))
theorem ts_X7_takesNumber (sx : QX) (pc : Nat) : ∀ o, t_X7_takesNumber pc = some o → q_Snd sx RX7 cX7_takesNumber 5 (some .boolean) pc o := by
  unfold t_X7_takesNumber
  exact q_cb (q_cb (q_look_all (ts_X7_takesNumber_0 sx)) (q_cb (q_look_all (ts_X7_takesNumber_1 sx)) (q_look_all (ts_X7_takesNumber_2 sx)))) (q_cb (q_look_all (ts_X7_takesNumber_3 sx)) (q_cb (q_look_all (ts_X7_takesNumber_4 sx)) (q_look_all (ts_X7_takesNumber_5 sx))))
theorem d_X7_takesBlock_0 : decode cX7_takesBlock 0 = .ok (.aload_n 0, 1) := by decide +kernel
theorem d_X7_takesBlock_1 : decode cX7_takesBlock 1 = .ok (.getfield 95, 3) := by decide +kernel
theorem d_X7_takesBlock_4 : decode cX7_takesBlock 4 = .ok (.bipush 6, 2) := by decide +kernel
theorem d_X7_takesBlock_6 : decode cX7_takesBlock 6 = .ok (.if_icmp .eq 14, 3) := by decide +kernel
theorem d_X7_takesBlock_9 : decode cX7_takesBlock 9 = .ok (.aload_n 0, 1) := by decide +kernel
theorem d_X7_takesBlock_10 : decode cX7_takesBlock 10 = .ok (.iconst 0, 1) := by decide +kernel
theorem d_X7_takesBlock_11 : decode cX7_takesBlock 11 = .ok (.iconst 3, 1) := by decide +kernel
theorem d_X7_takesBlock_12 : decode cX7_takesBlock 12 = .ok (.bipush 44, 2) := by decide +kernel
theorem d_X7_takesBlock_14 : decode cX7_takesBlock 14 = .ok (.invokevirtual 134, 3) := by decide +kernel
theorem d_X7_takesBlock_17 : decode cX7_takesBlock 17 = .ok (.ifCond .ne 5, 3) := by decide +kernel
theorem d_X7_takesBlock_20 : decode cX7_takesBlock 20 = .ok (.iconst 0, 1) := by decide +kernel
theorem d_X7_takesBlock_21 : decode cX7_takesBlock 21 = .ok (.ireturn, 1) := by decide +kernel
theorem d_X7_takesBlock_22 : decode cX7_takesBlock 22 = .ok (.aload_n 0, 1) := by decide +kernel
theorem d_X7_takesBlock_23 : decode cX7_takesBlock 23 = .ok (.getfield 123, 3) := by decide +kernel
theorem d_X7_takesBlock_26 : decode cX7_takesBlock 26 = .ok (.istore_n 1, 1) := by decide +kernel
theorem d_X7_takesBlock_27 : decode cX7_takesBlock 27 = .ok (.aload_n 0, 1) := by decide +kernel
theorem d_X7_takesBlock_28 : decode cX7_takesBlock 28 = .ok (.iconst 1, 1) := by decide +kernel
theorem d_X7_takesBlock_29 : decode cX7_takesBlock 29 = .ok (.bipush 60, 2) := by decide +kernel
theorem d_X7_takesBlock_31 : decode cX7_takesBlock 31 = .ok (.bipush 59, 2) := by decide +kernel
theorem d_X7_takesBlock_33 : decode cX7_takesBlock 33 = .ok (.invokevirtual 134, 3) := by decide +kernel
theorem d_X7_takesBlock_36 : decode cX7_takesBlock 36 = .ok (.ifCond .ne 5, 3) := by decide +kernel
theorem d_X7_takesBlock_39 : decode cX7_takesBlock 39 = .ok (.iconst 0, 1) := by decide +kernel
theorem d_X7_takesBlock_40 : decode cX7_takesBlock 40 = .ok (.ireturn, 1) := by decide +kernel
theorem d_X7_takesBlock_41 : decode cX7_takesBlock 41 = .ok (.aload_n 0, 1) := by decide +kernel
theorem d_X7_takesBlock_42 : decode cX7_takesBlock 42 = .ok (.iload_n 1, 1) := by decide +kernel
theorem d_X7_takesBlock_43 : decode cX7_takesBlock 43 = .ok (.aload_n 0, 1) := by decide +kernel
theorem d_X7_takesBlock_44 : decode cX7_takesBlock 44 = .ok (.getfield 123, 3) := by decide +kernel
theorem d_X7_takesBlock_47 : decode cX7_takesBlock 47 = .ok (.invokevirtual 64, 3) := by decide +kernel
theorem d_X7_takesBlock_50 : decode cX7_takesBlock 50 = .ok (.iconst 1, 1) := by decide +kernel
theorem d_X7_takesBlock_51 : decode cX7_takesBlock 51 = .ok (.ireturn, 1) := by decide +kernel
def t_X7_takesBlock_0 : List (Nat × QO) := [(0, o_al 0 1), (1, o_gf 7 16 4), (4, o_k 6 6), (6, o_ic (fun x y => decide (x = y)) 20 9), (9, o_al 0 10), (10, o_k 0 11), (11, o_k 3 12), (12, o_k 44 14), (14, o_cV 1 7 117 5 4 17), (17, o_if (fun x => decide (x ≠ 0)) 22 20), (20, o_k 0 21), (21, o_ir true)]
theorem ts_X7_takesBlock_0 (sx : QX) : ∀ q ∈ t_X7_takesBlock_0, q_Snd sx RX7 cX7_takesBlock 2 (some .boolean) q.1 q.2 := List.forall_mem_cons.mpr ⟨s_aload_n d_X7_takesBlock_0 rfl, List.forall_mem_cons.mpr ⟨s_gf d_X7_takesBlock_1 rfl (by decide) n_X7 in_X7 rfl k_4_45, List.forall_mem_cons.mpr ⟨s_bipush d_X7_takesBlock_4 rfl, List.forall_mem_cons.mpr ⟨s_ic_eq d_X7_takesBlock_6 (by decide), List.forall_mem_cons.mpr ⟨s_aload_n d_X7_takesBlock_9 rfl, List.forall_mem_cons.mpr ⟨s_iconst d_X7_takesBlock_10 rfl, List.forall_mem_cons.mpr ⟨s_iconst d_X7_takesBlock_11 rfl, List.forall_mem_cons.mpr ⟨s_bipush d_X7_takesBlock_12 rfl, List.forall_mem_cons.mpr ⟨s_cV (T := TX7) (N := 30) rfl d_X7_takesBlock_14 rfl k_4_153 k_4_155 k_0_27 k_1_12 k_4_156 ⟨by decide, by decide⟩ (by decide +kernel) (by decide), List.forall_mem_cons.mpr ⟨s_if_ne d_X7_takesBlock_17 (by decide), List.forall_mem_cons.mpr ⟨s_iconst d_X7_takesBlock_20 rfl, List.forall_mem_cons.mpr ⟨s_zr d_X7_takesBlock_21 rfl, fun _ h => absurd h List.not_mem_nil⟩⟩⟩⟩⟩⟩⟩⟩⟩⟩⟩⟩
def t_X7_takesBlock_1 : List (Nat × QO) := [(22, o_al 0 23), (23, o_gf 7 15 26), (26, o_is 1 27), (27, o_al 0 28), (28, o_k 1 29), (29, o_k 60 31), (31, o_k 59 33), (33, o_cV 1 7 117 5 4 36), (36, o_if (fun x => decide (x ≠ 0)) 41 39), (39, o_k 0 40), (40, o_ir true), (41, o_al 0 42)]
theorem ts_X7_takesBlock_1 (sx : QX) : ∀ q ∈ t_X7_takesBlock_1, q_Snd sx RX7 cX7_takesBlock 2 (some .boolean) q.1 q.2 := List.forall_mem_cons.mpr ⟨s_aload_n d_X7_takesBlock_22 rfl, List.forall_mem_cons.mpr ⟨s_gf d_X7_takesBlock_23 rfl (by decide) n_X7 in_X7 rfl k_4_44, List.forall_mem_cons.mpr ⟨s_istore_n d_X7_takesBlock_26 rfl (by decide), List.forall_mem_cons.mpr ⟨s_aload_n d_X7_takesBlock_27 rfl, List.forall_mem_cons.mpr ⟨s_iconst d_X7_takesBlock_28 rfl, List.forall_mem_cons.mpr ⟨s_bipush d_X7_takesBlock_29 rfl, List.forall_mem_cons.mpr ⟨s_bipush d_X7_takesBlock_31 rfl, List.forall_mem_cons.mpr ⟨s_cV (T := TX7) (N := 30) rfl d_X7_takesBlock_33 rfl k_4_153 k_4_155 k_0_27 k_1_12 k_4_156 ⟨by decide, by decide⟩ (by decide +kernel) (by decide), List.forall_mem_cons.mpr ⟨s_if_ne d_X7_takesBlock_36 (by decide), List.forall_mem_cons.mpr ⟨s_iconst d_X7_takesBlock_39 rfl, List.forall_mem_cons.mpr ⟨s_zr d_X7_takesBlock_40 rfl, List.forall_mem_cons.mpr ⟨s_aload_n d_X7_takesBlock_41 rfl, fun _ h => absurd h List.not_mem_nil⟩⟩⟩⟩⟩⟩⟩⟩⟩⟩⟩⟩
def t_X7_takesBlock_2 : List (Nat × QO) := [(42, o_il 1 43), (43, o_al 0 44), (44, o_gf 7 15 47), (47, o_cV 0 7 110 3 3 50), (50, o_k 1 51), (51, o_ir true)]
theorem ts_X7_takesBlock_2 (sx : QX) : ∀ q ∈ t_X7_takesBlock_2, q_Snd sx RX7 cX7_takesBlock 2 (some .boolean) q.1 q.2 := List.forall_mem_cons.mpr ⟨s_iload_n d_X7_takesBlock_42 rfl, List.forall_mem_cons.mpr ⟨s_aload_n d_X7_takesBlock_43 rfl, List.forall_mem_cons.mpr ⟨s_gf d_X7_takesBlock_44 rfl (by decide) n_X7 in_X7 rfl k_4_44, List.forall_mem_cons.mpr ⟨s_cV (T := TX7) (N := 30) rfl d_X7_takesBlock_47 rfl k_4_13 k_4_15 k_0_19 k_1_12 k_4_16 ⟨by decide, by decide⟩ (by decide +kernel) (by decide), List.forall_mem_cons.mpr ⟨s_iconst d_X7_takesBlock_50 rfl, List.forall_mem_cons.mpr ⟨s_zr d_X7_takesBlock_51 rfl, fun _ h => absurd h List.not_mem_nil⟩⟩⟩⟩⟩⟩
def t_X7_takesBlock (pc : Nat) : Option QO := cond (Nat.ble pc 21) (q_look (t_X7_takesBlock_0) pc) (cond (Nat.ble pc 41) (q_look (t_X7_takesBlock_1) pc) (q_look (t_X7_takesBlock_2) pc))
theorem ts_X7_takesBlock (sx : QX) (pc : Nat) : ∀ o, t_X7_takesBlock pc = some o → q_Snd sx RX7 cX7_takesBlock 2 (some .boolean) pc o := by
  unfold t_X7_takesBlock
  exact q_cb (q_look_all (ts_X7_takesBlock_0 sx)) (q_cb (q_look_all (ts_X7_takesBlock_1 sx)) (q_look_all (ts_X7_takesBlock_2 sx)))
theorem d_X7_takesWord_0 : decode cX7_takesWord 0 = .ok (.aload_n 0, 1) := by decide +kernel
theorem d_X7_takesWord_1 : decode cX7_takesWord 1 = .ok (.getfield 98, 3) := by decide +kernel
theorem d_X7_takesWord_4 : decode cX7_takesWord 4 = .ok (.bipush 6, 2) := by decide +kernel
theorem d_X7_takesWord_6 : decode cX7_takesWord 6 = .ok (.if_icmp .eq 15, 3) := by decide +kernel
theorem d_X7_takesWord_9 : decode cX7_takesWord 9 = .ok (.aload_n 0, 1) := by decide +kernel
theorem d_X7_takesWord_10 : decode cX7_takesWord 10 = .ok (.iconst 1, 1) := by decide +kernel
theorem d_X7_takesWord_11 : decode cX7_takesWord 11 = .ok (.bipush 20, 2) := by decide +kernel
theorem d_X7_takesWord_13 : decode cX7_takesWord 13 = .ok (.bipush 59, 2) := by decide +kernel
theorem d_X7_takesWord_15 : decode cX7_takesWord 15 = .ok (.invokevirtual 134, 3) := by decide +kernel
theorem d_X7_takesWord_18 : decode cX7_takesWord 18 = .ok (.ifCond .ne 5, 3) := by decide +kernel
theorem d_X7_takesWord_21 : decode cX7_takesWord 21 = .ok (.iconst 0, 1) := by decide +kernel
theorem d_X7_takesWord_22 : decode cX7_takesWord 22 = .ok (.ireturn, 1) := by decide +kernel
theorem d_X7_takesWord_23 : decode cX7_takesWord 23 = .ok (.aload_n 0, 1) := by decide +kernel
theorem d_X7_takesWord_24 : decode cX7_takesWord 24 = .ok (.aload_n 0, 1) := by decide +kernel
theorem d_X7_takesWord_25 : decode cX7_takesWord 25 = .ok (.getfield 123, 3) := by decide +kernel
theorem d_X7_takesWord_28 : decode cX7_takesWord 28 = .ok (.invokevirtual 68, 3) := by decide +kernel
theorem d_X7_takesWord_31 : decode cX7_takesWord 31 = .ok (.iconst 1, 1) := by decide +kernel
theorem d_X7_takesWord_32 : decode cX7_takesWord 32 = .ok (.ireturn, 1) := by decide +kernel
def t_X7_takesWord_0 : List (Nat × QO) := [(0, o_al 0 1), (1, o_gf 7 18 4), (4, o_k 6 6), (6, o_ic (fun x y => decide (x = y)) 21 9), (9, o_al 0 10), (10, o_k 1 11), (11, o_k 20 13), (13, o_k 59 15), (15, o_cV 1 7 117 5 4 18), (18, o_if (fun x => decide (x ≠ 0)) 23 21), (21, o_k 0 22), (22, o_ir true)]
theorem ts_X7_takesWord_0 (sx : QX) : ∀ q ∈ t_X7_takesWord_0, q_Snd sx RX7 cX7_takesWord 1 (some .boolean) q.1 q.2 := List.forall_mem_cons.mpr ⟨s_aload_n d_X7_takesWord_0 rfl, List.forall_mem_cons.mpr ⟨s_gf d_X7_takesWord_1 rfl (by decide) n_X7 in_X7 rfl k_4_47, List.forall_mem_cons.mpr ⟨s_bipush d_X7_takesWord_4 rfl, List.forall_mem_cons.mpr ⟨s_ic_eq d_X7_takesWord_6 (by decide), List.forall_mem_cons.mpr ⟨s_aload_n d_X7_takesWord_9 rfl, List.forall_mem_cons.mpr ⟨s_iconst d_X7_takesWord_10 rfl, List.forall_mem_cons.mpr ⟨s_bipush d_X7_takesWord_11 rfl, List.forall_mem_cons.mpr ⟨s_bipush d_X7_takesWord_13 rfl, List.forall_mem_cons.mpr ⟨s_cV (T := TX7) (N := 30) rfl d_X7_takesWord_15 rfl k_4_153 k_4_155 k_0_27 k_1_12 k_4_156 ⟨by decide, by decide⟩ (by decide +kernel) (by decide), List.forall_mem_cons.mpr ⟨s_if_ne d_X7_takesWord_18 (by decide), List.forall_mem_cons.mpr ⟨s_iconst d_X7_takesWord_21 rfl, List.forall_mem_cons.mpr ⟨s_zr d_X7_takesWord_22 rfl, fun _ h => absurd h List.not_mem_nil⟩⟩⟩⟩⟩⟩⟩⟩⟩⟩⟩⟩
def t_X7_takesWord_1 : List (Nat × QO) := [(23, o_al 0 24), (24, o_al 0 25), (25, o_gf 7 15 28), (28, o_cV 0 7 111 2 2 31), (31, o_k 1 32), (32, o_ir true)]
theorem ts_X7_takesWord_1 (sx : QX) : ∀ q ∈ t_X7_takesWord_1, q_Snd sx RX7 cX7_takesWord 1 (some .boolean) q.1 q.2 := List.forall_mem_cons.mpr ⟨s_aload_n d_X7_takesWord_23 rfl, List.forall_mem_cons.mpr ⟨s_aload_n d_X7_takesWord_24 rfl, List.forall_mem_cons.mpr ⟨s_gf d_X7_takesWord_25 rfl (by decide) n_X7 in_X7 rfl k_4_44, List.forall_mem_cons.mpr ⟨s_cV (T := TX7) (N := 30) rfl d_X7_takesWord_28 rfl k_4_17 k_4_19 k_0_20 k_1_12 k_4_20 ⟨by decide, by decide⟩ (by decide +kernel) (by decide), List.forall_mem_cons.mpr ⟨s_iconst d_X7_takesWord_31 rfl, List.forall_mem_cons.mpr ⟨s_zr d_X7_takesWord_32 rfl, fun _ h => absurd h List.not_mem_nil⟩⟩⟩⟩⟩⟩
def t_X7_takesWord (pc : Nat) : Option QO := cond (Nat.ble pc 22) (q_look (t_X7_takesWord_0) pc) (q_look (t_X7_takesWord_1) pc)
theorem ts_X7_takesWord (sx : QX) (pc : Nat) : ∀ o, t_X7_takesWord pc = some o → q_Snd sx RX7 cX7_takesWord 1 (some .boolean) pc o := by
  unfold t_X7_takesWord
  exact q_cb (q_look_all (ts_X7_takesWord_0 sx)) (q_look_all (ts_X7_takesWord_1 sx))
theorem d_X7_takesSpeaker_0 : decode cX7_takesSpeaker 0 = .ok (.aload_n 0, 1) := by decide +kernel
theorem d_X7_takesSpeaker_1 : decode cX7_takesSpeaker 1 = .ok (.getfield 101, 3) := by decide +kernel
theorem d_X7_takesSpeaker_4 : decode cX7_takesSpeaker 4 = .ok (.iconst 4, 1) := by decide +kernel
theorem d_X7_takesSpeaker_5 : decode cX7_takesSpeaker 5 = .ok (.if_icmp .eq 14, 3) := by decide +kernel
theorem d_X7_takesSpeaker_8 : decode cX7_takesSpeaker 8 = .ok (.aload_n 0, 1) := by decide +kernel
theorem d_X7_takesSpeaker_9 : decode cX7_takesSpeaker 9 = .ok (.iconst 0, 1) := by decide +kernel
theorem d_X7_takesSpeaker_10 : decode cX7_takesSpeaker 10 = .ok (.iconst 3, 1) := by decide +kernel
theorem d_X7_takesSpeaker_11 : decode cX7_takesSpeaker 11 = .ok (.bipush 44, 2) := by decide +kernel
theorem d_X7_takesSpeaker_13 : decode cX7_takesSpeaker 13 = .ok (.invokevirtual 134, 3) := by decide +kernel
theorem d_X7_takesSpeaker_16 : decode cX7_takesSpeaker 16 = .ok (.ifCond .ne 5, 3) := by decide +kernel
theorem d_X7_takesSpeaker_19 : decode cX7_takesSpeaker 19 = .ok (.iconst 0, 1) := by decide +kernel
theorem d_X7_takesSpeaker_20 : decode cX7_takesSpeaker 20 = .ok (.ireturn, 1) := by decide +kernel
theorem d_X7_takesSpeaker_21 : decode cX7_takesSpeaker 21 = .ok (.aload_n 0, 1) := by decide +kernel
theorem d_X7_takesSpeaker_22 : decode cX7_takesSpeaker 22 = .ok (.getfield 123, 3) := by decide +kernel
theorem d_X7_takesSpeaker_25 : decode cX7_takesSpeaker 25 = .ok (.istore_n 1, 1) := by decide +kernel
theorem d_X7_takesSpeaker_26 : decode cX7_takesSpeaker 26 = .ok (.aload_n 0, 1) := by decide +kernel
theorem d_X7_takesSpeaker_27 : decode cX7_takesSpeaker 27 = .ok (.iconst 1, 1) := by decide +kernel
theorem d_X7_takesSpeaker_28 : decode cX7_takesSpeaker 28 = .ok (.bipush 9, 2) := by decide +kernel
theorem d_X7_takesSpeaker_30 : decode cX7_takesSpeaker 30 = .ok (.bipush 59, 2) := by decide +kernel
theorem d_X7_takesSpeaker_32 : decode cX7_takesSpeaker 32 = .ok (.invokevirtual 134, 3) := by decide +kernel
theorem d_X7_takesSpeaker_35 : decode cX7_takesSpeaker 35 = .ok (.ifCond .ne 5, 3) := by decide +kernel
theorem d_X7_takesSpeaker_38 : decode cX7_takesSpeaker 38 = .ok (.iconst 0, 1) := by decide +kernel
theorem d_X7_takesSpeaker_39 : decode cX7_takesSpeaker 39 = .ok (.ireturn, 1) := by decide +kernel
theorem d_X7_takesSpeaker_40 : decode cX7_takesSpeaker 40 = .ok (.aload_n 0, 1) := by decide +kernel
theorem d_X7_takesSpeaker_41 : decode cX7_takesSpeaker 41 = .ok (.iload_n 1, 1) := by decide +kernel
theorem d_X7_takesSpeaker_42 : decode cX7_takesSpeaker 42 = .ok (.aload_n 0, 1) := by decide +kernel
theorem d_X7_takesSpeaker_43 : decode cX7_takesSpeaker 43 = .ok (.getfield 123, 3) := by decide +kernel
theorem d_X7_takesSpeaker_46 : decode cX7_takesSpeaker 46 = .ok (.invokevirtual 72, 3) := by decide +kernel
theorem d_X7_takesSpeaker_49 : decode cX7_takesSpeaker 49 = .ok (.iconst 1, 1) := by decide +kernel
theorem d_X7_takesSpeaker_50 : decode cX7_takesSpeaker 50 = .ok (.ireturn, 1) := by decide +kernel
def t_X7_takesSpeaker_0 : List (Nat × QO) := [(0, o_al 0 1), (1, o_gf 7 20 4), (4, o_k 4 5), (5, o_ic (fun x y => decide (x = y)) 19 8), (8, o_al 0 9), (9, o_k 0 10), (10, o_k 3 11), (11, o_k 44 13), (13, o_cV 1 7 117 5 4 16), (16, o_if (fun x => decide (x ≠ 0)) 21 19), (19, o_k 0 20), (20, o_ir true)]
theorem ts_X7_takesSpeaker_0 (sx : QX) : ∀ q ∈ t_X7_takesSpeaker_0, q_Snd sx RX7 cX7_takesSpeaker 2 (some .boolean) q.1 q.2 := List.forall_mem_cons.mpr ⟨s_aload_n d_X7_takesSpeaker_0 rfl, List.forall_mem_cons.mpr ⟨s_gf d_X7_takesSpeaker_1 rfl (by decide) n_X7 in_X7 rfl k_4_49, List.forall_mem_cons.mpr ⟨s_iconst d_X7_takesSpeaker_4 rfl, List.forall_mem_cons.mpr ⟨s_ic_eq d_X7_takesSpeaker_5 (by decide), List.forall_mem_cons.mpr ⟨s_aload_n d_X7_takesSpeaker_8 rfl, List.forall_mem_cons.mpr ⟨s_iconst d_X7_takesSpeaker_9 rfl, List.forall_mem_cons.mpr ⟨s_iconst d_X7_takesSpeaker_10 rfl, List.forall_mem_cons.mpr ⟨s_bipush d_X7_takesSpeaker_11 rfl, List.forall_mem_cons.mpr ⟨s_cV (T := TX7) (N := 30) rfl d_X7_takesSpeaker_13 rfl k_4_153 k_4_155 k_0_27 k_1_12 k_4_156 ⟨by decide, by decide⟩ (by decide +kernel) (by decide), List.forall_mem_cons.mpr ⟨s_if_ne d_X7_takesSpeaker_16 (by decide), List.forall_mem_cons.mpr ⟨s_iconst d_X7_takesSpeaker_19 rfl, List.forall_mem_cons.mpr ⟨s_zr d_X7_takesSpeaker_20 rfl, fun _ h => absurd h List.not_mem_nil⟩⟩⟩⟩⟩⟩⟩⟩⟩⟩⟩⟩
def t_X7_takesSpeaker_1 : List (Nat × QO) := [(21, o_al 0 22), (22, o_gf 7 15 25), (25, o_is 1 26), (26, o_al 0 27), (27, o_k 1 28), (28, o_k 9 30), (30, o_k 59 32), (32, o_cV 1 7 117 5 4 35), (35, o_if (fun x => decide (x ≠ 0)) 40 38), (38, o_k 0 39), (39, o_ir true), (40, o_al 0 41)]
theorem ts_X7_takesSpeaker_1 (sx : QX) : ∀ q ∈ t_X7_takesSpeaker_1, q_Snd sx RX7 cX7_takesSpeaker 2 (some .boolean) q.1 q.2 := List.forall_mem_cons.mpr ⟨s_aload_n d_X7_takesSpeaker_21 rfl, List.forall_mem_cons.mpr ⟨s_gf d_X7_takesSpeaker_22 rfl (by decide) n_X7 in_X7 rfl k_4_44, List.forall_mem_cons.mpr ⟨s_istore_n d_X7_takesSpeaker_25 rfl (by decide), List.forall_mem_cons.mpr ⟨s_aload_n d_X7_takesSpeaker_26 rfl, List.forall_mem_cons.mpr ⟨s_iconst d_X7_takesSpeaker_27 rfl, List.forall_mem_cons.mpr ⟨s_bipush d_X7_takesSpeaker_28 rfl, List.forall_mem_cons.mpr ⟨s_bipush d_X7_takesSpeaker_30 rfl, List.forall_mem_cons.mpr ⟨s_cV (T := TX7) (N := 30) rfl d_X7_takesSpeaker_32 rfl k_4_153 k_4_155 k_0_27 k_1_12 k_4_156 ⟨by decide, by decide⟩ (by decide +kernel) (by decide), List.forall_mem_cons.mpr ⟨s_if_ne d_X7_takesSpeaker_35 (by decide), List.forall_mem_cons.mpr ⟨s_iconst d_X7_takesSpeaker_38 rfl, List.forall_mem_cons.mpr ⟨s_zr d_X7_takesSpeaker_39 rfl, List.forall_mem_cons.mpr ⟨s_aload_n d_X7_takesSpeaker_40 rfl, fun _ h => absurd h List.not_mem_nil⟩⟩⟩⟩⟩⟩⟩⟩⟩⟩⟩⟩
def t_X7_takesSpeaker_2 : List (Nat × QO) := [(41, o_il 1 42), (42, o_al 0 43), (43, o_gf 7 15 46), (46, o_cV 0 7 112 3 3 49), (49, o_k 1 50), (50, o_ir true)]
theorem ts_X7_takesSpeaker_2 (sx : QX) : ∀ q ∈ t_X7_takesSpeaker_2, q_Snd sx RX7 cX7_takesSpeaker 2 (some .boolean) q.1 q.2 := List.forall_mem_cons.mpr ⟨s_iload_n d_X7_takesSpeaker_41 rfl, List.forall_mem_cons.mpr ⟨s_aload_n d_X7_takesSpeaker_42 rfl, List.forall_mem_cons.mpr ⟨s_gf d_X7_takesSpeaker_43 rfl (by decide) n_X7 in_X7 rfl k_4_44, List.forall_mem_cons.mpr ⟨s_cV (T := TX7) (N := 30) rfl d_X7_takesSpeaker_46 rfl k_4_21 k_4_23 k_0_21 k_1_12 k_4_24 ⟨by decide, by decide⟩ (by decide +kernel) (by decide), List.forall_mem_cons.mpr ⟨s_iconst d_X7_takesSpeaker_49 rfl, List.forall_mem_cons.mpr ⟨s_zr d_X7_takesSpeaker_50 rfl, fun _ h => absurd h List.not_mem_nil⟩⟩⟩⟩⟩⟩
def t_X7_takesSpeaker (pc : Nat) : Option QO := cond (Nat.ble pc 20) (q_look (t_X7_takesSpeaker_0) pc) (cond (Nat.ble pc 40) (q_look (t_X7_takesSpeaker_1) pc) (q_look (t_X7_takesSpeaker_2) pc))
theorem ts_X7_takesSpeaker (sx : QX) (pc : Nat) : ∀ o, t_X7_takesSpeaker pc = some o → q_Snd sx RX7 cX7_takesSpeaker 2 (some .boolean) pc o := by
  unfold t_X7_takesSpeaker
  exact q_cb (q_look_all (ts_X7_takesSpeaker_0 sx)) (q_cb (q_look_all (ts_X7_takesSpeaker_1 sx)) (q_look_all (ts_X7_takesSpeaker_2 sx)))
theorem d_X7_takesFrost_0 : decode cX7_takesFrost 0 = .ok (.aload_n 0, 1) := by decide +kernel
theorem d_X7_takesFrost_1 : decode cX7_takesFrost 1 = .ok (.iconst 0, 1) := by decide +kernel
theorem d_X7_takesFrost_2 : decode cX7_takesFrost 2 = .ok (.bipush 9, 2) := by decide +kernel
theorem d_X7_takesFrost_4 : decode cX7_takesFrost 4 = .ok (.bipush 59, 2) := by decide +kernel
theorem d_X7_takesFrost_6 : decode cX7_takesFrost 6 = .ok (.invokevirtual 134, 3) := by decide +kernel
theorem d_X7_takesFrost_9 : decode cX7_takesFrost 9 = .ok (.ifCond .ne 5, 3) := by decide +kernel
theorem d_X7_takesFrost_12 : decode cX7_takesFrost 12 = .ok (.iconst 0, 1) := by decide +kernel
theorem d_X7_takesFrost_13 : decode cX7_takesFrost 13 = .ok (.ireturn, 1) := by decide +kernel
theorem d_X7_takesFrost_14 : decode cX7_takesFrost 14 = .ok (.aload_n 0, 1) := by decide +kernel
theorem d_X7_takesFrost_15 : decode cX7_takesFrost 15 = .ok (.aload_n 0, 1) := by decide +kernel
theorem d_X7_takesFrost_16 : decode cX7_takesFrost 16 = .ok (.getfield 123, 3) := by decide +kernel
theorem d_X7_takesFrost_19 : decode cX7_takesFrost 19 = .ok (.putfield 75, 3) := by decide +kernel
theorem d_X7_takesFrost_22 : decode cX7_takesFrost 22 = .ok (.iconst 1, 1) := by decide +kernel
theorem d_X7_takesFrost_23 : decode cX7_takesFrost 23 = .ok (.ireturn, 1) := by decide +kernel
def t_X7_takesFrost_0 : List (Nat × QO) := [(0, o_al 0 1), (1, o_k 0 2), (2, o_k 9 4), (4, o_k 59 6), (6, o_cV 1 7 117 5 4 9), (9, o_if (fun x => decide (x ≠ 0)) 14 12), (12, o_k 0 13), (13, o_ir true), (14, o_al 0 15), (15, o_al 0 16), (16, o_gf 7 15 19), (19, o_pf 7 22 22)]
theorem ts_X7_takesFrost_0 (sx : QX) : ∀ q ∈ t_X7_takesFrost_0, q_Snd sx RX7 cX7_takesFrost 1 (some .boolean) q.1 q.2 := List.forall_mem_cons.mpr ⟨s_aload_n d_X7_takesFrost_0 rfl, List.forall_mem_cons.mpr ⟨s_iconst d_X7_takesFrost_1 rfl, List.forall_mem_cons.mpr ⟨s_bipush d_X7_takesFrost_2 rfl, List.forall_mem_cons.mpr ⟨s_bipush d_X7_takesFrost_4 rfl, List.forall_mem_cons.mpr ⟨s_cV (T := TX7) (N := 30) rfl d_X7_takesFrost_6 rfl k_4_153 k_4_155 k_0_27 k_1_12 k_4_156 ⟨by decide, by decide⟩ (by decide +kernel) (by decide), List.forall_mem_cons.mpr ⟨s_if_ne d_X7_takesFrost_9 (by decide), List.forall_mem_cons.mpr ⟨s_iconst d_X7_takesFrost_12 rfl, List.forall_mem_cons.mpr ⟨s_zr d_X7_takesFrost_13 rfl, List.forall_mem_cons.mpr ⟨s_aload_n d_X7_takesFrost_14 rfl, List.forall_mem_cons.mpr ⟨s_aload_n d_X7_takesFrost_15 rfl, List.forall_mem_cons.mpr ⟨s_gf d_X7_takesFrost_16 rfl (by decide) n_X7 in_X7 rfl k_4_44, List.forall_mem_cons.mpr ⟨s_pf tyX7 d_X7_takesFrost_19 rfl (by decide) n_X7 in_X7 rfl k_4_51 tyX7_ok nmX7 rfl rfl, fun _ h => absurd h List.not_mem_nil⟩⟩⟩⟩⟩⟩⟩⟩⟩⟩⟩⟩
def t_X7_takesFrost_1 : List (Nat × QO) := [(22, o_k 1 23), (23, o_ir true)]
theorem ts_X7_takesFrost_1 (sx : QX) : ∀ q ∈ t_X7_takesFrost_1, q_Snd sx RX7 cX7_takesFrost 1 (some .boolean) q.1 q.2 := List.forall_mem_cons.mpr ⟨s_iconst d_X7_takesFrost_22 rfl, List.forall_mem_cons.mpr ⟨s_zr d_X7_takesFrost_23 rfl, fun _ h => absurd h List.not_mem_nil⟩⟩
def t_X7_takesFrost (pc : Nat) : Option QO := cond (Nat.ble pc 19) (q_look (t_X7_takesFrost_0) pc) (q_look (t_X7_takesFrost_1) pc)
theorem ts_X7_takesFrost (sx : QX) (pc : Nat) : ∀ o, t_X7_takesFrost pc = some o → q_Snd sx RX7 cX7_takesFrost 1 (some .boolean) pc o := by
  unfold t_X7_takesFrost
  exact q_cb (q_look_all (ts_X7_takesFrost_0 sx)) (q_look_all (ts_X7_takesFrost_1 sx))
theorem d_X7_takesPromise_0 : decode cX7_takesPromise 0 = .ok (.aload_n 0, 1) := by decide +kernel
theorem d_X7_takesPromise_1 : decode cX7_takesPromise 1 = .ok (.iconst 0, 1) := by decide +kernel
theorem d_X7_takesPromise_2 : decode cX7_takesPromise 2 = .ok (.aload_n 0, 1) := by decide +kernel
theorem d_X7_takesPromise_3 : decode cX7_takesPromise 3 = .ok (.getfield 101, 3) := by decide +kernel
theorem d_X7_takesPromise_6 : decode cX7_takesPromise 6 = .ok (.iconst 1, 1) := by decide +kernel
theorem d_X7_takesPromise_7 : decode cX7_takesPromise 7 = .ok (.isub, 1) := by decide +kernel
theorem d_X7_takesPromise_8 : decode cX7_takesPromise 8 = .ok (.bipush 44, 2) := by decide +kernel
theorem d_X7_takesPromise_10 : decode cX7_takesPromise 10 = .ok (.invokevirtual 134, 3) := by decide +kernel
theorem d_X7_takesPromise_13 : decode cX7_takesPromise 13 = .ok (.ifCond .ne 5, 3) := by decide +kernel
theorem d_X7_takesPromise_16 : decode cX7_takesPromise 16 = .ok (.iconst 0, 1) := by decide +kernel
theorem d_X7_takesPromise_17 : decode cX7_takesPromise 17 = .ok (.ireturn, 1) := by decide +kernel
theorem d_X7_takesPromise_18 : decode cX7_takesPromise 18 = .ok (.aload_n 0, 1) := by decide +kernel
theorem d_X7_takesPromise_19 : decode cX7_takesPromise 19 = .ok (.getfield 123, 3) := by decide +kernel
theorem d_X7_takesPromise_22 : decode cX7_takesPromise 22 = .ok (.istore_n 1, 1) := by decide +kernel
theorem d_X7_takesPromise_23 : decode cX7_takesPromise 23 = .ok (.aload_n 0, 1) := by decide +kernel
theorem d_X7_takesPromise_24 : decode cX7_takesPromise 24 = .ok (.iconst 0, 1) := by decide +kernel
theorem d_X7_takesPromise_25 : decode cX7_takesPromise 25 = .ok (.aload_n 0, 1) := by decide +kernel
theorem d_X7_takesPromise_26 : decode cX7_takesPromise 26 = .ok (.getfield 95, 3) := by decide +kernel
theorem d_X7_takesPromise_29 : decode cX7_takesPromise 29 = .ok (.iconst 1, 1) := by decide +kernel
theorem d_X7_takesPromise_30 : decode cX7_takesPromise 30 = .ok (.isub, 1) := by decide +kernel
theorem d_X7_takesPromise_31 : decode cX7_takesPromise 31 = .ok (.bipush 44, 2) := by decide +kernel
theorem d_X7_takesPromise_33 : decode cX7_takesPromise 33 = .ok (.invokevirtual 134, 3) := by decide +kernel
theorem d_X7_takesPromise_36 : decode cX7_takesPromise 36 = .ok (.ifCond .ne 5, 3) := by decide +kernel
theorem d_X7_takesPromise_39 : decode cX7_takesPromise 39 = .ok (.iconst 0, 1) := by decide +kernel
theorem d_X7_takesPromise_40 : decode cX7_takesPromise 40 = .ok (.ireturn, 1) := by decide +kernel
theorem d_X7_takesPromise_41 : decode cX7_takesPromise 41 = .ok (.aload_n 0, 1) := by decide +kernel
theorem d_X7_takesPromise_42 : decode cX7_takesPromise 42 = .ok (.getfield 123, 3) := by decide +kernel
theorem d_X7_takesPromise_45 : decode cX7_takesPromise 45 = .ok (.istore_n 2, 1) := by decide +kernel
theorem d_X7_takesPromise_46 : decode cX7_takesPromise 46 = .ok (.aload_n 0, 1) := by decide +kernel
theorem d_X7_takesPromise_47 : decode cX7_takesPromise 47 = .ok (.iconst 0, 1) := by decide +kernel
theorem d_X7_takesPromise_48 : decode cX7_takesPromise 48 = .ok (.bipush 7, 2) := by decide +kernel
theorem d_X7_takesPromise_50 : decode cX7_takesPromise 50 = .ok (.bipush 59, 2) := by decide +kernel
theorem d_X7_takesPromise_52 : decode cX7_takesPromise 52 = .ok (.invokevirtual 134, 3) := by decide +kernel
theorem d_X7_takesPromise_55 : decode cX7_takesPromise 55 = .ok (.ifCond .ne 5, 3) := by decide +kernel
theorem d_X7_takesPromise_58 : decode cX7_takesPromise 58 = .ok (.iconst 0, 1) := by decide +kernel
theorem d_X7_takesPromise_59 : decode cX7_takesPromise 59 = .ok (.ireturn, 1) := by decide +kernel
theorem d_X7_takesPromise_60 : decode cX7_takesPromise 60 = .ok (.aload_n 0, 1) := by decide +kernel
theorem d_X7_takesPromise_61 : decode cX7_takesPromise 61 = .ok (.getfield 40, 3) := by decide +kernel
theorem d_X7_takesPromise_64 : decode cX7_takesPromise 64 = .ok (.bipush 6, 2) := by decide +kernel
theorem d_X7_takesPromise_66 : decode cX7_takesPromise 66 = .ok (.iload_n 1, 1) := by decide +kernel
theorem d_X7_takesPromise_67 : decode cX7_takesPromise 67 = .ok (.imul, 1) := by decide +kernel
theorem d_X7_takesPromise_68 : decode cX7_takesPromise 68 = .ok (.iload_n 2, 1) := by decide +kernel
theorem d_X7_takesPromise_69 : decode cX7_takesPromise 69 = .ok (.iadd, 1) := by decide +kernel
theorem d_X7_takesPromise_70 : decode cX7_takesPromise 70 = .ok (.aload_n 0, 1) := by decide +kernel
theorem d_X7_takesPromise_71 : decode cX7_takesPromise 71 = .ok (.getfield 123, 3) := by decide +kernel
theorem d_X7_takesPromise_74 : decode cX7_takesPromise 74 = .ok (.iastore, 1) := by decide +kernel
theorem d_X7_takesPromise_75 : decode cX7_takesPromise 75 = .ok (.iconst 1, 1) := by decide +kernel
theorem d_X7_takesPromise_76 : decode cX7_takesPromise 76 = .ok (.ireturn, 1) := by decide +kernel
def t_X7_takesPromise_0 : List (Nat × QO) := [(0, o_al 0 1), (1, o_k 0 2), (2, o_al 0 3), (3, o_gf 7 20 6), (6, o_k 1 7), (7, o_b (fun x y => x - y) 8), (8, o_k 44 10), (10, o_cV 1 7 117 5 4 13), (13, o_if (fun x => decide (x ≠ 0)) 18 16), (16, o_k 0 17), (17, o_ir true), (18, o_al 0 19)]
theorem ts_X7_takesPromise_0 (sx : QX) : ∀ q ∈ t_X7_takesPromise_0, q_Snd sx RX7 cX7_takesPromise 3 (some .boolean) q.1 q.2 := List.forall_mem_cons.mpr ⟨s_aload_n d_X7_takesPromise_0 rfl, List.forall_mem_cons.mpr ⟨s_iconst d_X7_takesPromise_1 rfl, List.forall_mem_cons.mpr ⟨s_aload_n d_X7_takesPromise_2 rfl, List.forall_mem_cons.mpr ⟨s_gf d_X7_takesPromise_3 rfl (by decide) n_X7 in_X7 rfl k_4_49, List.forall_mem_cons.mpr ⟨s_iconst d_X7_takesPromise_6 rfl, List.forall_mem_cons.mpr ⟨s_isub d_X7_takesPromise_7, List.forall_mem_cons.mpr ⟨s_bipush d_X7_takesPromise_8 rfl, List.forall_mem_cons.mpr ⟨s_cV (T := TX7) (N := 30) rfl d_X7_takesPromise_10 rfl k_4_153 k_4_155 k_0_27 k_1_12 k_4_156 ⟨by decide, by decide⟩ (by decide +kernel) (by decide), List.forall_mem_cons.mpr ⟨s_if_ne d_X7_takesPromise_13 (by decide), List.forall_mem_cons.mpr ⟨s_iconst d_X7_takesPromise_16 rfl, List.forall_mem_cons.mpr ⟨s_zr d_X7_takesPromise_17 rfl, List.forall_mem_cons.mpr ⟨s_aload_n d_X7_takesPromise_18 rfl, fun _ h => absurd h List.not_mem_nil⟩⟩⟩⟩⟩⟩⟩⟩⟩⟩⟩⟩
def t_X7_takesPromise_1 : List (Nat × QO) := [(19, o_gf 7 15 22), (22, o_is 1 23), (23, o_al 0 24), (24, o_k 0 25), (25, o_al 0 26), (26, o_gf 7 16 29), (29, o_k 1 30), (30, o_b (fun x y => x - y) 31), (31, o_k 44 33), (33, o_cV 1 7 117 5 4 36), (36, o_if (fun x => decide (x ≠ 0)) 41 39), (39, o_k 0 40)]
theorem ts_X7_takesPromise_1 (sx : QX) : ∀ q ∈ t_X7_takesPromise_1, q_Snd sx RX7 cX7_takesPromise 3 (some .boolean) q.1 q.2 := List.forall_mem_cons.mpr ⟨s_gf d_X7_takesPromise_19 rfl (by decide) n_X7 in_X7 rfl k_4_44, List.forall_mem_cons.mpr ⟨s_istore_n d_X7_takesPromise_22 rfl (by decide), List.forall_mem_cons.mpr ⟨s_aload_n d_X7_takesPromise_23 rfl, List.forall_mem_cons.mpr ⟨s_iconst d_X7_takesPromise_24 rfl, List.forall_mem_cons.mpr ⟨s_aload_n d_X7_takesPromise_25 rfl, List.forall_mem_cons.mpr ⟨s_gf d_X7_takesPromise_26 rfl (by decide) n_X7 in_X7 rfl k_4_45, List.forall_mem_cons.mpr ⟨s_iconst d_X7_takesPromise_29 rfl, List.forall_mem_cons.mpr ⟨s_isub d_X7_takesPromise_30, List.forall_mem_cons.mpr ⟨s_bipush d_X7_takesPromise_31 rfl, List.forall_mem_cons.mpr ⟨s_cV (T := TX7) (N := 30) rfl d_X7_takesPromise_33 rfl k_4_153 k_4_155 k_0_27 k_1_12 k_4_156 ⟨by decide, by decide⟩ (by decide +kernel) (by decide), List.forall_mem_cons.mpr ⟨s_if_ne d_X7_takesPromise_36 (by decide), List.forall_mem_cons.mpr ⟨s_iconst d_X7_takesPromise_39 rfl, fun _ h => absurd h List.not_mem_nil⟩⟩⟩⟩⟩⟩⟩⟩⟩⟩⟩⟩
def t_X7_takesPromise_2 : List (Nat × QO) := [(40, o_ir true), (41, o_al 0 42), (42, o_gf 7 15 45), (45, o_is 2 46), (46, o_al 0 47), (47, o_k 0 48), (48, o_k 7 50), (50, o_k 59 52), (52, o_cV 1 7 117 5 4 55), (55, o_if (fun x => decide (x ≠ 0)) 60 58), (58, o_k 0 59), (59, o_ir true)]
theorem ts_X7_takesPromise_2 (sx : QX) : ∀ q ∈ t_X7_takesPromise_2, q_Snd sx RX7 cX7_takesPromise 3 (some .boolean) q.1 q.2 := List.forall_mem_cons.mpr ⟨s_zr d_X7_takesPromise_40 rfl, List.forall_mem_cons.mpr ⟨s_aload_n d_X7_takesPromise_41 rfl, List.forall_mem_cons.mpr ⟨s_gf d_X7_takesPromise_42 rfl (by decide) n_X7 in_X7 rfl k_4_44, List.forall_mem_cons.mpr ⟨s_istore_n d_X7_takesPromise_45 rfl (by decide), List.forall_mem_cons.mpr ⟨s_aload_n d_X7_takesPromise_46 rfl, List.forall_mem_cons.mpr ⟨s_iconst d_X7_takesPromise_47 rfl, List.forall_mem_cons.mpr ⟨s_bipush d_X7_takesPromise_48 rfl, List.forall_mem_cons.mpr ⟨s_bipush d_X7_takesPromise_50 rfl, List.forall_mem_cons.mpr ⟨s_cV (T := TX7) (N := 30) rfl d_X7_takesPromise_52 rfl k_4_153 k_4_155 k_0_27 k_1_12 k_4_156 ⟨by decide, by decide⟩ (by decide +kernel) (by decide), List.forall_mem_cons.mpr ⟨s_if_ne d_X7_takesPromise_55 (by decide), List.forall_mem_cons.mpr ⟨s_iconst d_X7_takesPromise_58 rfl, List.forall_mem_cons.mpr ⟨s_zr d_X7_takesPromise_59 rfl, fun _ h => absurd h List.not_mem_nil⟩⟩⟩⟩⟩⟩⟩⟩⟩⟩⟩⟩
def t_X7_takesPromise_3 : List (Nat × QO) := [(60, o_al 0 61), (61, o_gf 7 23 64), (64, o_k 6 66), (66, o_il 1 67), (67, o_b (fun x y => x * y) 68), (68, o_il 2 69), (69, o_b (fun x y => x + y) 70), (70, o_al 0 71), (71, o_gf 7 15 74), (74, o_iast 75), (75, o_k 1 76), (76, o_ir true)]
theorem ts_X7_takesPromise_3 (sx : QX) : ∀ q ∈ t_X7_takesPromise_3, q_Snd sx RX7 cX7_takesPromise 3 (some .boolean) q.1 q.2 := List.forall_mem_cons.mpr ⟨s_aload_n d_X7_takesPromise_60 rfl, List.forall_mem_cons.mpr ⟨s_gf d_X7_takesPromise_61 rfl (by decide) n_X7 in_X7 rfl k_4_52, List.forall_mem_cons.mpr ⟨s_bipush d_X7_takesPromise_64 rfl, List.forall_mem_cons.mpr ⟨s_iload_n d_X7_takesPromise_66 rfl, List.forall_mem_cons.mpr ⟨s_imul d_X7_takesPromise_67, List.forall_mem_cons.mpr ⟨s_iload_n d_X7_takesPromise_68 rfl, List.forall_mem_cons.mpr ⟨s_iadd d_X7_takesPromise_69, List.forall_mem_cons.mpr ⟨s_aload_n d_X7_takesPromise_70 rfl, List.forall_mem_cons.mpr ⟨s_gf d_X7_takesPromise_71 rfl (by decide) n_X7 in_X7 rfl k_4_44, List.forall_mem_cons.mpr ⟨s_iast d_X7_takesPromise_74, List.forall_mem_cons.mpr ⟨s_iconst d_X7_takesPromise_75 rfl, List.forall_mem_cons.mpr ⟨s_zr d_X7_takesPromise_76 rfl, fun _ h => absurd h List.not_mem_nil⟩⟩⟩⟩⟩⟩⟩⟩⟩⟩⟩⟩
def t_X7_takesPromise (pc : Nat) : Option QO := cond (Nat.ble pc 39) (cond (Nat.ble pc 18) (q_look (t_X7_takesPromise_0) pc) (q_look (t_X7_takesPromise_1) pc)) (cond (Nat.ble pc 59) (q_look (t_X7_takesPromise_2) pc) (q_look (t_X7_takesPromise_3) pc))
theorem ts_X7_takesPromise (sx : QX) (pc : Nat) : ∀ o, t_X7_takesPromise pc = some o → q_Snd sx RX7 cX7_takesPromise 3 (some .boolean) pc o := by
  unfold t_X7_takesPromise
  exact q_cb (q_cb (q_look_all (ts_X7_takesPromise_0 sx)) (q_look_all (ts_X7_takesPromise_1 sx))) (q_cb (q_look_all (ts_X7_takesPromise_2 sx)) (q_look_all (ts_X7_takesPromise_3 sx)))
theorem d_X7_takesItem_0 : decode cX7_takesItem 0 = .ok (.aload_n 0, 1) := by decide +kernel
theorem d_X7_takesItem_1 : decode cX7_takesItem 1 = .ok (.aload_n 0, 1) := by decide +kernel
theorem d_X7_takesItem_2 : decode cX7_takesItem 2 = .ok (.getfield 120, 3) := by decide +kernel
theorem d_X7_takesItem_5 : decode cX7_takesItem 5 = .ok (.invokevirtual 126, 3) := by decide +kernel
theorem d_X7_takesItem_8 : decode cX7_takesItem 8 = .ok (.istore_n 1, 1) := by decide +kernel
theorem d_X7_takesItem_9 : decode cX7_takesItem 9 = .ok (.aload_n 0, 1) := by decide +kernel
theorem d_X7_takesItem_10 : decode cX7_takesItem 10 = .ok (.dup, 1) := by decide +kernel
theorem d_X7_takesItem_11 : decode cX7_takesItem 11 = .ok (.getfield 120, 3) := by decide +kernel
theorem d_X7_takesItem_14 : decode cX7_takesItem 14 = .ok (.iconst 1, 1) := by decide +kernel
theorem d_X7_takesItem_15 : decode cX7_takesItem 15 = .ok (.iadd, 1) := by decide +kernel
theorem d_X7_takesItem_16 : decode cX7_takesItem 16 = .ok (.putfield 120, 3) := by decide +kernel
theorem d_X7_takesItem_19 : decode cX7_takesItem 19 = .ok (.iload_n 1, 1) := by decide +kernel
theorem d_X7_takesItem_20 : decode cX7_takesItem 20 = .ok (.lookupswitch 77 #[(98, 52), (102, 67), (112, 72), (115, 62), (119, 57)], 52) := by decide +kernel
theorem d_X7_takesItem_72 : decode cX7_takesItem 72 = .ok (.aload_n 0, 1) := by decide +kernel
theorem d_X7_takesItem_73 : decode cX7_takesItem 73 = .ok (.invokevirtual 138, 3) := by decide +kernel
theorem d_X7_takesItem_76 : decode cX7_takesItem 76 = .ok (.ireturn, 1) := by decide +kernel
theorem d_X7_takesItem_77 : decode cX7_takesItem 77 = .ok (.aload_n 0, 1) := by decide +kernel
theorem d_X7_takesItem_78 : decode cX7_takesItem 78 = .ok (.invokevirtual 142, 3) := by decide +kernel
theorem d_X7_takesItem_81 : decode cX7_takesItem 81 = .ok (.ireturn, 1) := by decide +kernel
theorem d_X7_takesItem_82 : decode cX7_takesItem 82 = .ok (.aload_n 0, 1) := by decide +kernel
theorem d_X7_takesItem_83 : decode cX7_takesItem 83 = .ok (.invokevirtual 145, 3) := by decide +kernel
theorem d_X7_takesItem_86 : decode cX7_takesItem 86 = .ok (.ireturn, 1) := by decide +kernel
theorem d_X7_takesItem_87 : decode cX7_takesItem 87 = .ok (.aload_n 0, 1) := by decide +kernel
theorem d_X7_takesItem_88 : decode cX7_takesItem 88 = .ok (.invokevirtual 148, 3) := by decide +kernel
theorem d_X7_takesItem_91 : decode cX7_takesItem 91 = .ok (.ireturn, 1) := by decide +kernel
theorem d_X7_takesItem_92 : decode cX7_takesItem 92 = .ok (.aload_n 0, 1) := by decide +kernel
theorem d_X7_takesItem_93 : decode cX7_takesItem 93 = .ok (.invokevirtual 151, 3) := by decide +kernel
theorem d_X7_takesItem_96 : decode cX7_takesItem 96 = .ok (.ireturn, 1) := by decide +kernel
theorem d_X7_takesItem_97 : decode cX7_takesItem 97 = .ok (.iconst 0, 1) := by decide +kernel
theorem d_X7_takesItem_98 : decode cX7_takesItem 98 = .ok (.ireturn, 1) := by decide +kernel
def t_X7_takesItem_0 : List (Nat × QO) := [(0, o_al 0 1), (1, o_al 0 2), (2, o_gf 7 14 5), (5, o_cV 1 7 116 2 2 8), (8, o_is 1 9), (9, o_al 0 10), (10, o_dup 11), (11, o_gf 7 14 14), (14, o_k 1 15), (15, o_b (fun x y => x + y) 16), (16, o_pf 7 14 19), (19, o_il 1 20)]
theorem ts_X7_takesItem_0 (sx : QX) : ∀ q ∈ t_X7_takesItem_0, q_Snd sx RX7 cX7_takesItem 2 (some .boolean) q.1 q.2 := List.forall_mem_cons.mpr ⟨s_aload_n d_X7_takesItem_0 rfl, List.forall_mem_cons.mpr ⟨s_aload_n d_X7_takesItem_1 rfl, List.forall_mem_cons.mpr ⟨s_gf d_X7_takesItem_2 rfl (by decide) n_X7 in_X7 rfl k_4_43, List.forall_mem_cons.mpr ⟨s_cV (T := TX7) (N := 30) rfl d_X7_takesItem_5 rfl k_4_145 k_4_147 k_0_25 k_1_12 k_4_148 ⟨by decide, by decide⟩ (by decide +kernel) (by decide), List.forall_mem_cons.mpr ⟨s_istore_n d_X7_takesItem_8 rfl (by decide), List.forall_mem_cons.mpr ⟨s_aload_n d_X7_takesItem_9 rfl, List.forall_mem_cons.mpr ⟨s_dup d_X7_takesItem_10, List.forall_mem_cons.mpr ⟨s_gf d_X7_takesItem_11 rfl (by decide) n_X7 in_X7 rfl k_4_43, List.forall_mem_cons.mpr ⟨s_iconst d_X7_takesItem_14 rfl, List.forall_mem_cons.mpr ⟨s_iadd d_X7_takesItem_15, List.forall_mem_cons.mpr ⟨s_pf tyX7 d_X7_takesItem_16 rfl (by decide) n_X7 in_X7 rfl k_4_43 tyX7_ok nmX7 rfl rfl, List.forall_mem_cons.mpr ⟨s_iload_n d_X7_takesItem_19 rfl, fun _ h => absurd h List.not_mem_nil⟩⟩⟩⟩⟩⟩⟩⟩⟩⟩⟩⟩
def t_X7_takesItem_1 : List (Nat × QO) := [(20, o_sw [(98, 72), (102, 87), (112, 92), (115, 82), (119, 77)] 97), (72, o_al 0 73), (73, o_cV 1 7 118 2 1 76), (76, o_ir true), (77, o_al 0 78), (78, o_cV 1 7 119 1 1 81), (81, o_ir true), (82, o_al 0 83), (83, o_cV 1 7 120 2 1 86), (86, o_ir true), (87, o_al 0 88), (88, o_cV 1 7 121 1 1 91)]
theorem ts_X7_takesItem_1 (sx : QX) : ∀ q ∈ t_X7_takesItem_1, q_Snd sx RX7 cX7_takesItem 2 (some .boolean) q.1 q.2 := List.forall_mem_cons.mpr ⟨s_lsw d_X7_takesItem_20 (by decide +kernel) (by decide +kernel) (by decide), List.forall_mem_cons.mpr ⟨s_aload_n d_X7_takesItem_72 rfl, List.forall_mem_cons.mpr ⟨s_cV (T := TX7) (N := 30) rfl d_X7_takesItem_73 rfl k_4_149 k_4_151 k_0_26 k_1_12 k_4_152 ⟨by decide, by decide⟩ (by decide +kernel) (by decide), List.forall_mem_cons.mpr ⟨s_zr d_X7_takesItem_76 rfl, List.forall_mem_cons.mpr ⟨s_aload_n d_X7_takesItem_77 rfl, List.forall_mem_cons.mpr ⟨s_cV (T := TX7) (N := 30) rfl d_X7_takesItem_78 rfl k_4_159 k_4_161 k_0_28 k_1_12 k_4_162 ⟨by decide, by decide⟩ (by decide +kernel) (by decide), List.forall_mem_cons.mpr ⟨s_zr d_X7_takesItem_81 rfl, List.forall_mem_cons.mpr ⟨s_aload_n d_X7_takesItem_82 rfl, List.forall_mem_cons.mpr ⟨s_cV (T := TX7) (N := 30) rfl d_X7_takesItem_83 rfl k_4_163 k_4_165 k_0_29 k_1_12 k_4_166 ⟨by decide, by decide⟩ (by decide +kernel) (by decide), List.forall_mem_cons.mpr ⟨s_zr d_X7_takesItem_86 rfl, List.forall_mem_cons.mpr ⟨s_aload_n d_X7_takesItem_87 rfl, List.forall_mem_cons.mpr ⟨s_cV (T := TX7) (N := 30) rfl d_X7_takesItem_88 rfl k_4_167 k_4_169 k_0_30 k_1_12 k_4_170 ⟨by decide, by decide⟩ (by decide +kernel) (by decide), fun _ h => absurd h List.not_mem_nil⟩⟩⟩⟩⟩⟩⟩⟩⟩⟩⟩⟩
def t_X7_takesItem_2 : List (Nat × QO) := [(91, o_ir true), (92, o_al 0 93), (93, o_cV 1 7 122 3 1 96), (96, o_ir true), (97, o_k 0 98), (98, o_ir true)]
theorem ts_X7_takesItem_2 (sx : QX) : ∀ q ∈ t_X7_takesItem_2, q_Snd sx RX7 cX7_takesItem 2 (some .boolean) q.1 q.2 := List.forall_mem_cons.mpr ⟨s_zr d_X7_takesItem_91 rfl, List.forall_mem_cons.mpr ⟨s_aload_n d_X7_takesItem_92 rfl, List.forall_mem_cons.mpr ⟨s_cV (T := TX7) (N := 30) rfl d_X7_takesItem_93 rfl k_4_171 k_4_173 k_0_31 k_1_12 k_4_174 ⟨by decide, by decide⟩ (by decide +kernel) (by decide), List.forall_mem_cons.mpr ⟨s_zr d_X7_takesItem_96 rfl, List.forall_mem_cons.mpr ⟨s_iconst d_X7_takesItem_97 rfl, List.forall_mem_cons.mpr ⟨s_zr d_X7_takesItem_98 rfl, fun _ h => absurd h List.not_mem_nil⟩⟩⟩⟩⟩⟩
def t_X7_takesItem (pc : Nat) : Option QO := cond (Nat.ble pc 19) (q_look (t_X7_takesItem_0) pc) (cond (Nat.ble pc 88) (q_look (t_X7_takesItem_1) pc) (q_look (t_X7_takesItem_2) pc))
theorem ts_X7_takesItem (sx : QX) (pc : Nat) : ∀ o, t_X7_takesItem pc = some o → q_Snd sx RX7 cX7_takesItem 2 (some .boolean) pc o := by
  unfold t_X7_takesItem
  exact q_cb (q_look_all (ts_X7_takesItem_0 sx)) (q_cb (q_look_all (ts_X7_takesItem_1 sx)) (q_look_all (ts_X7_takesItem_2 sx)))
theorem d_X7_faultOf_0 : decode cX7_faultOf 0 = .ok (.aload_n 0, 1) := by decide +kernel
theorem d_X7_faultOf_1 : decode cX7_faultOf 1 = .ok (.invokevirtual 61, 3) := by decide +kernel
theorem d_X7_faultOf_4 : decode cX7_faultOf 4 = .ok (.aload_n 0, 1) := by decide +kernel
theorem d_X7_faultOf_5 : decode cX7_faultOf 5 = .ok (.iconst 0, 1) := by decide +kernel
theorem d_X7_faultOf_6 : decode cX7_faultOf 6 = .ok (.putfield 120, 3) := by decide +kernel
theorem d_X7_faultOf_9 : decode cX7_faultOf 9 = .ok (.aload_n 0, 1) := by decide +kernel
theorem d_X7_faultOf_10 : decode cX7_faultOf 10 = .ok (.getfield 120, 3) := by decide +kernel
theorem d_X7_faultOf_13 : decode cX7_faultOf 13 = .ok (.aload_n 0, 1) := by decide +kernel
theorem d_X7_faultOf_14 : decode cX7_faultOf 14 = .ok (.getfield 117, 3) := by decide +kernel
theorem d_X7_faultOf_17 : decode cX7_faultOf 17 = .ok (.if_icmp .ge 20, 3) := by decide +kernel
theorem d_X7_faultOf_20 : decode cX7_faultOf 20 = .ok (.aload_n 0, 1) := by decide +kernel
theorem d_X7_faultOf_21 : decode cX7_faultOf 21 = .ok (.getfield 120, 3) := by decide +kernel
theorem d_X7_faultOf_24 : decode cX7_faultOf 24 = .ok (.istore_n 1, 1) := by decide +kernel
theorem d_X7_faultOf_25 : decode cX7_faultOf 25 = .ok (.aload_n 0, 1) := by decide +kernel
theorem d_X7_faultOf_26 : decode cX7_faultOf 26 = .ok (.invokevirtual 154, 3) := by decide +kernel
theorem d_X7_faultOf_29 : decode cX7_faultOf 29 = .ok (.ifCond .ne 5, 3) := by decide +kernel
theorem d_X7_faultOf_32 : decode cX7_faultOf 32 = .ok (.iload_n 1, 1) := by decide +kernel
theorem d_X7_faultOf_33 : decode cX7_faultOf 33 = .ok (.ireturn, 1) := by decide +kernel
theorem d_X7_faultOf_34 : decode cX7_faultOf 34 = .ok (.goto (-25), 3) := by decide +kernel
theorem d_X7_faultOf_37 : decode cX7_faultOf 37 = .ok (.bipush (-4), 2) := by decide +kernel
theorem d_X7_faultOf_39 : decode cX7_faultOf 39 = .ok (.ireturn, 1) := by decide +kernel
def t_X7_faultOf_0 : List (Nat × QO) := [(0, o_al 0 1), (1, o_cV 0 7 109 2 1 4), (4, o_al 0 5), (5, o_k 0 6), (6, o_pf 7 14 9), (9, o_al 0 10), (10, o_gf 7 14 13), (13, o_al 0 14), (14, o_gf 7 13 17), (17, o_ic (fun x y => decide (y ≤ x)) 37 20), (20, o_al 0 21), (21, o_gf 7 14 24)]
theorem ts_X7_faultOf_0 (sx : QX) : ∀ q ∈ t_X7_faultOf_0, q_Snd sx RX7 cX7_faultOf 2 (some .int) q.1 q.2 := List.forall_mem_cons.mpr ⟨s_aload_n d_X7_faultOf_0 rfl, List.forall_mem_cons.mpr ⟨s_cV (T := TX7) (N := 30) rfl d_X7_faultOf_1 rfl k_4_9 k_4_11 k_0_18 k_1_12 k_4_12 ⟨by decide, by decide⟩ (by decide +kernel) (by decide), List.forall_mem_cons.mpr ⟨s_aload_n d_X7_faultOf_4 rfl, List.forall_mem_cons.mpr ⟨s_iconst d_X7_faultOf_5 rfl, List.forall_mem_cons.mpr ⟨s_pf tyX7 d_X7_faultOf_6 rfl (by decide) n_X7 in_X7 rfl k_4_43 tyX7_ok nmX7 rfl rfl, List.forall_mem_cons.mpr ⟨s_aload_n d_X7_faultOf_9 rfl, List.forall_mem_cons.mpr ⟨s_gf d_X7_faultOf_10 rfl (by decide) n_X7 in_X7 rfl k_4_43, List.forall_mem_cons.mpr ⟨s_aload_n d_X7_faultOf_13 rfl, List.forall_mem_cons.mpr ⟨s_gf d_X7_faultOf_14 rfl (by decide) n_X7 in_X7 rfl k_4_42, List.forall_mem_cons.mpr ⟨s_ic_ge d_X7_faultOf_17 (by decide), List.forall_mem_cons.mpr ⟨s_aload_n d_X7_faultOf_20 rfl, List.forall_mem_cons.mpr ⟨s_gf d_X7_faultOf_21 rfl (by decide) n_X7 in_X7 rfl k_4_43, fun _ h => absurd h List.not_mem_nil⟩⟩⟩⟩⟩⟩⟩⟩⟩⟩⟩⟩
def t_X7_faultOf_1 : List (Nat × QO) := [(24, o_is 1 25), (25, o_al 0 26), (26, o_cV 1 7 123 2 1 29), (29, o_if (fun x => decide (x ≠ 0)) 34 32), (32, o_il 1 33), (33, o_ir false), (34, o_goto 9), (37, o_k (-4) 39), (39, o_ir false)]
theorem ts_X7_faultOf_1 (sx : QX) : ∀ q ∈ t_X7_faultOf_1, q_Snd sx RX7 cX7_faultOf 2 (some .int) q.1 q.2 := List.forall_mem_cons.mpr ⟨s_istore_n d_X7_faultOf_24 rfl (by decide), List.forall_mem_cons.mpr ⟨s_aload_n d_X7_faultOf_25 rfl, List.forall_mem_cons.mpr ⟨s_cV (T := TX7) (N := 30) rfl d_X7_faultOf_26 rfl k_4_141 k_4_143 k_0_24 k_1_12 k_4_144 ⟨by decide, by decide⟩ (by decide +kernel) (by decide), List.forall_mem_cons.mpr ⟨s_if_ne d_X7_faultOf_29 (by decide), List.forall_mem_cons.mpr ⟨s_iload_n d_X7_faultOf_32 rfl, List.forall_mem_cons.mpr ⟨s_ir d_X7_faultOf_33 rfl, List.forall_mem_cons.mpr ⟨s_goto d_X7_faultOf_34 (by decide), List.forall_mem_cons.mpr ⟨s_bipush d_X7_faultOf_37 rfl, List.forall_mem_cons.mpr ⟨s_ir d_X7_faultOf_39 rfl, fun _ h => absurd h List.not_mem_nil⟩⟩⟩⟩⟩⟩⟩⟩⟩
def t_X7_faultOf (pc : Nat) : Option QO := cond (Nat.ble pc 21) (q_look (t_X7_faultOf_0) pc) (q_look (t_X7_faultOf_1) pc)
theorem ts_X7_faultOf (sx : QX) (pc : Nat) : ∀ o, t_X7_faultOf pc = some o → q_Snd sx RX7 cX7_faultOf 2 (some .int) pc o := by
  unfold t_X7_faultOf
  exact q_cb (q_look_all (ts_X7_faultOf_0 sx)) (q_look_all (ts_X7_faultOf_1 sx))
theorem d_X7_fault_0 : decode cX7_fault 0 = .ok (.aload_n 0, 1) := by decide +kernel
theorem d_X7_fault_1 : decode cX7_fault 1 = .ok (.invokevirtual 157, 3) := by decide +kernel
theorem d_X7_fault_4 : decode cX7_fault 4 = .ok (.ireturn, 1) := by decide +kernel
def t_X7_fault_0 : List (Nat × QO) := [(0, o_al 0 1), (1, o_cV 1 7 124 2 1 4), (4, o_ir false)]
theorem ts_X7_fault_0 (sx : QX) : ∀ q ∈ t_X7_fault_0, q_Snd sx RX7 cX7_fault 1 (some .int) q.1 q.2 := List.forall_mem_cons.mpr ⟨s_aload_n d_X7_fault_0 rfl, List.forall_mem_cons.mpr ⟨s_cV (T := TX7) (N := 30) rfl d_X7_fault_1 rfl k_4_137 k_4_139 k_0_23 k_1_12 k_4_140 ⟨by decide, by decide⟩ (by decide +kernel) (by decide), List.forall_mem_cons.mpr ⟨s_ir d_X7_fault_4 rfl, fun _ h => absurd h List.not_mem_nil⟩⟩⟩
def t_X7_fault (pc : Nat) : Option QO := q_look (t_X7_fault_0) pc
theorem ts_X7_fault (sx : QX) (pc : Nat) : ∀ o, t_X7_fault pc = some o → q_Snd sx RX7 cX7_fault 1 (some .int) pc o := by
  unfold t_X7_fault
  exact q_look_all (ts_X7_fault_0 sx)
theorem d_X7_lay_0 : decode cX7_lay 0 = .ok (.aload_n 0, 1) := by decide +kernel
theorem d_X7_lay_1 : decode cX7_lay 1 = .ok (.invokevirtual 157, 3) := by decide +kernel
theorem d_X7_lay_4 : decode cX7_lay 4 = .ok (.bipush (-4), 2) := by decide +kernel
theorem d_X7_lay_6 : decode cX7_lay 6 = .ok (.if_icmp .ne 24, 3) := by decide +kernel
theorem d_X7_lay_9 : decode cX7_lay 9 = .ok (.aload_n 0, 1) := by decide +kernel
theorem d_X7_lay_10 : decode cX7_lay 10 = .ok (.getfield 95, 3) := by decide +kernel
theorem d_X7_lay_13 : decode cX7_lay 13 = .ok (.ifCond .eq 17, 3) := by decide +kernel
theorem d_X7_lay_16 : decode cX7_lay 16 = .ok (.aload_n 0, 1) := by decide +kernel
theorem d_X7_lay_17 : decode cX7_lay 17 = .ok (.getfield 98, 3) := by decide +kernel
theorem d_X7_lay_20 : decode cX7_lay 20 = .ok (.ifCond .eq 10, 3) := by decide +kernel
theorem d_X7_lay_23 : decode cX7_lay 23 = .ok (.aload_n 0, 1) := by decide +kernel
theorem d_X7_lay_24 : decode cX7_lay 24 = .ok (.getfield 101, 3) := by decide +kernel
theorem d_X7_lay_27 : decode cX7_lay 27 = .ok (.ifCond .ne 6, 3) := by decide +kernel
theorem d_X7_lay_30 : decode cX7_lay 30 = .ok (.bipush (-2), 2) := by decide +kernel
theorem d_X7_lay_32 : decode cX7_lay 32 = .ok (.ireturn, 1) := by decide +kernel
theorem d_X7_lay_33 : decode cX7_lay 33 = .ok (.aload_n 0, 1) := by decide +kernel
theorem d_X7_lay_34 : decode cX7_lay 34 = .ok (.invokevirtual 79, 3) := by decide +kernel
theorem d_X7_lay_37 : decode cX7_lay 37 = .ok (.aload_n 0, 1) := by decide +kernel
theorem d_X7_lay_38 : decode cX7_lay 38 = .ok (.getfield 82, 3) := by decide +kernel
theorem d_X7_lay_41 : decode cX7_lay 41 = .ok (.ireturn, 1) := by decide +kernel
def t_X7_lay_0 : List (Nat × QO) := [(0, o_al 0 1), (1, o_cV 1 7 124 2 1 4), (4, o_k (-4) 6), (6, o_ic (fun x y => decide (x ≠ y)) 30 9), (9, o_al 0 10), (10, o_gf 7 16 13), (13, o_if (fun x => decide (x = 0)) 30 16), (16, o_al 0 17), (17, o_gf 7 18 20), (20, o_if (fun x => decide (x = 0)) 30 23), (23, o_al 0 24), (24, o_gf 7 20 27)]
theorem ts_X7_lay_0 (sx : QX) : ∀ q ∈ t_X7_lay_0, q_Snd sx RX7 cX7_lay 1 (some .int) q.1 q.2 := List.forall_mem_cons.mpr ⟨s_aload_n d_X7_lay_0 rfl, List.forall_mem_cons.mpr ⟨s_cV (T := TX7) (N := 30) rfl d_X7_lay_1 rfl k_4_137 k_4_139 k_0_23 k_1_12 k_4_140 ⟨by decide, by decide⟩ (by decide +kernel) (by decide), List.forall_mem_cons.mpr ⟨s_bipush d_X7_lay_4 rfl, List.forall_mem_cons.mpr ⟨s_ic_ne d_X7_lay_6 (by decide), List.forall_mem_cons.mpr ⟨s_aload_n d_X7_lay_9 rfl, List.forall_mem_cons.mpr ⟨s_gf d_X7_lay_10 rfl (by decide) n_X7 in_X7 rfl k_4_45, List.forall_mem_cons.mpr ⟨s_if_eq d_X7_lay_13 (by decide), List.forall_mem_cons.mpr ⟨s_aload_n d_X7_lay_16 rfl, List.forall_mem_cons.mpr ⟨s_gf d_X7_lay_17 rfl (by decide) n_X7 in_X7 rfl k_4_47, List.forall_mem_cons.mpr ⟨s_if_eq d_X7_lay_20 (by decide), List.forall_mem_cons.mpr ⟨s_aload_n d_X7_lay_23 rfl, List.forall_mem_cons.mpr ⟨s_gf d_X7_lay_24 rfl (by decide) n_X7 in_X7 rfl k_4_49, fun _ h => absurd h List.not_mem_nil⟩⟩⟩⟩⟩⟩⟩⟩⟩⟩⟩⟩
def t_X7_lay_1 : List (Nat × QO) := [(27, o_if (fun x => decide (x ≠ 0)) 33 30), (30, o_k (-2) 32), (32, o_ir false), (33, o_al 0 34), (34, o_cV 0 7 113 2 1 37), (37, o_al 0 38), (38, o_gf 7 3 41), (41, o_ir false)]
theorem ts_X7_lay_1 (sx : QX) : ∀ q ∈ t_X7_lay_1, q_Snd sx RX7 cX7_lay 1 (some .int) q.1 q.2 := List.forall_mem_cons.mpr ⟨s_if_ne d_X7_lay_27 (by decide), List.forall_mem_cons.mpr ⟨s_bipush d_X7_lay_30 rfl, List.forall_mem_cons.mpr ⟨s_ir d_X7_lay_32 rfl, List.forall_mem_cons.mpr ⟨s_aload_n d_X7_lay_33 rfl, List.forall_mem_cons.mpr ⟨s_cV (T := TX7) (N := 30) rfl d_X7_lay_34 rfl k_4_25 k_4_27 k_0_22 k_1_12 k_4_28 ⟨by decide, by decide⟩ (by decide +kernel) (by decide), List.forall_mem_cons.mpr ⟨s_aload_n d_X7_lay_37 rfl, List.forall_mem_cons.mpr ⟨s_gf d_X7_lay_38 rfl (by decide) n_X7 in_X7 rfl k_4_32, List.forall_mem_cons.mpr ⟨s_ir d_X7_lay_41 rfl, fun _ h => absurd h List.not_mem_nil⟩⟩⟩⟩⟩⟩⟩⟩
def t_X7_lay (pc : Nat) : Option QO := cond (Nat.ble pc 24) (q_look (t_X7_lay_0) pc) (q_look (t_X7_lay_1) pc)
theorem ts_X7_lay (sx : QX) (pc : Nat) : ∀ o, t_X7_lay pc = some o → q_Snd sx RX7 cX7_lay 1 (some .int) pc o := by
  unfold t_X7_lay
  exact q_cb (q_look_all (ts_X7_lay_0 sx)) (q_look_all (ts_X7_lay_1 sx))
theorem d_X7_block_0 : decode cX7_block 0 = .ok (.aload_n 0, 1) := by decide +kernel
theorem d_X7_block_1 : decode cX7_block 1 = .ok (.iload_n 1, 1) := by decide +kernel
theorem d_X7_block_2 : decode cX7_block 2 = .ok (.invokevirtual 161, 3) := by decide +kernel
theorem d_X7_block_5 : decode cX7_block 5 = .ok (.ifCond .ne 5, 3) := by decide +kernel
theorem d_X7_block_8 : decode cX7_block 8 = .ok (.iconst (-1), 1) := by decide +kernel
theorem d_X7_block_9 : decode cX7_block 9 = .ok (.ireturn, 1) := by decide +kernel
theorem d_X7_block_10 : decode cX7_block 10 = .ok (.iload_n 2, 1) := by decide +kernel
theorem d_X7_block_11 : decode cX7_block 11 = .ok (.tableswitch 76 0 4 #[33, 40, 47, 56, 66], 33) := by decide +kernel
theorem d_X7_block_44 : decode cX7_block 44 = .ok (.aload_n 0, 1) := by decide +kernel
theorem d_X7_block_45 : decode cX7_block 45 = .ok (.getfield 13, 3) := by decide +kernel
theorem d_X7_block_48 : decode cX7_block 48 = .ok (.iload_n 1, 1) := by decide +kernel
theorem d_X7_block_49 : decode cX7_block 49 = .ok (.iaload, 1) := by decide +kernel
theorem d_X7_block_50 : decode cX7_block 50 = .ok (.ireturn, 1) := by decide +kernel
theorem d_X7_block_51 : decode cX7_block 51 = .ok (.aload_n 0, 1) := by decide +kernel
theorem d_X7_block_52 : decode cX7_block 52 = .ok (.getfield 16, 3) := by decide +kernel
theorem d_X7_block_55 : decode cX7_block 55 = .ok (.iload_n 1, 1) := by decide +kernel
theorem d_X7_block_56 : decode cX7_block 56 = .ok (.iaload, 1) := by decide +kernel
theorem d_X7_block_57 : decode cX7_block 57 = .ok (.ireturn, 1) := by decide +kernel
theorem d_X7_block_58 : decode cX7_block 58 = .ok (.aload_n 0, 1) := by decide +kernel
theorem d_X7_block_59 : decode cX7_block 59 = .ok (.getfield 7, 3) := by decide +kernel
theorem d_X7_block_62 : decode cX7_block 62 = .ok (.iconst 1, 1) := by decide +kernel
theorem d_X7_block_63 : decode cX7_block 63 = .ok (.iload_n 1, 1) := by decide +kernel
theorem d_X7_block_64 : decode cX7_block 64 = .ok (.iadd, 1) := by decide +kernel
theorem d_X7_block_65 : decode cX7_block 65 = .ok (.iaload, 1) := by decide +kernel
theorem d_X7_block_66 : decode cX7_block 66 = .ok (.ireturn, 1) := by decide +kernel
theorem d_X7_block_67 : decode cX7_block 67 = .ok (.aload_n 0, 1) := by decide +kernel
theorem d_X7_block_68 : decode cX7_block 68 = .ok (.getfield 7, 3) := by decide +kernel
theorem d_X7_block_71 : decode cX7_block 71 = .ok (.bipush 7, 2) := by decide +kernel
theorem d_X7_block_73 : decode cX7_block 73 = .ok (.iload_n 1, 1) := by decide +kernel
theorem d_X7_block_74 : decode cX7_block 74 = .ok (.iadd, 1) := by decide +kernel
theorem d_X7_block_75 : decode cX7_block 75 = .ok (.iaload, 1) := by decide +kernel
theorem d_X7_block_76 : decode cX7_block 76 = .ok (.ireturn, 1) := by decide +kernel
theorem d_X7_block_77 : decode cX7_block 77 = .ok (.aload_n 0, 1) := by decide +kernel
theorem d_X7_block_78 : decode cX7_block 78 = .ok (.getfield 7, 3) := by decide +kernel
theorem d_X7_block_81 : decode cX7_block 81 = .ok (.bipush 13, 2) := by decide +kernel
theorem d_X7_block_83 : decode cX7_block 83 = .ok (.iload_n 1, 1) := by decide +kernel
theorem d_X7_block_84 : decode cX7_block 84 = .ok (.iadd, 1) := by decide +kernel
theorem d_X7_block_85 : decode cX7_block 85 = .ok (.iaload, 1) := by decide +kernel
theorem d_X7_block_86 : decode cX7_block 86 = .ok (.ireturn, 1) := by decide +kernel
theorem d_X7_block_87 : decode cX7_block 87 = .ok (.iconst (-1), 1) := by decide +kernel
theorem d_X7_block_88 : decode cX7_block 88 = .ok (.ireturn, 1) := by decide +kernel
def t_X7_block_0 : List (Nat × QO) := [(0, o_al 0 1), (1, o_il 1 2), (2, o_cV 1 7 106 2 2 5), (5, o_if (fun x => decide (x ≠ 0)) 10 8), (8, o_k (-1) 9), (9, o_ir false), (10, o_il 2 11), (11, o_sw [(0, 44), (1, 51), (2, 58), (3, 67), (4, 77)] 87), (44, o_al 0 45), (45, o_gf 7 4 48), (48, o_il 1 49), (49, o_iald 50)]
theorem ts_X7_block_0 (sx : QX) : ∀ q ∈ t_X7_block_0, q_Snd sx RX7 cX7_block 3 (some .int) q.1 q.2 := List.forall_mem_cons.mpr ⟨s_aload_n d_X7_block_0 rfl, List.forall_mem_cons.mpr ⟨s_iload_n d_X7_block_1 rfl, List.forall_mem_cons.mpr ⟨s_cV (T := TX7) (N := 30) rfl d_X7_block_2 rfl k_4_183 k_4_185 k_0_32 k_1_12 k_4_186 ⟨by decide, by decide⟩ (by decide +kernel) (by decide), List.forall_mem_cons.mpr ⟨s_if_ne d_X7_block_5 (by decide), List.forall_mem_cons.mpr ⟨s_iconst d_X7_block_8 rfl, List.forall_mem_cons.mpr ⟨s_ir d_X7_block_9 rfl, List.forall_mem_cons.mpr ⟨s_iload_n d_X7_block_10 rfl, List.forall_mem_cons.mpr ⟨s_tsw d_X7_block_11 (by decide +kernel) (by decide) (by decide), List.forall_mem_cons.mpr ⟨s_aload_n d_X7_block_44 rfl, List.forall_mem_cons.mpr ⟨s_gf d_X7_block_45 rfl (by decide) n_X7 in_X7 rfl k_4_33, List.forall_mem_cons.mpr ⟨s_iload_n d_X7_block_48 rfl, List.forall_mem_cons.mpr ⟨s_iald d_X7_block_49, fun _ h => absurd h List.not_mem_nil⟩⟩⟩⟩⟩⟩⟩⟩⟩⟩⟩⟩
def t_X7_block_1 : List (Nat × QO) := [(50, o_ir false), (51, o_al 0 52), (52, o_gf 7 5 55), (55, o_il 1 56), (56, o_iald 57), (57, o_ir false), (58, o_al 0 59), (59, o_gf 7 0 62), (62, o_k 1 63), (63, o_il 1 64), (64, o_b (fun x y => x + y) 65), (65, o_iald 66)]
theorem ts_X7_block_1 (sx : QX) : ∀ q ∈ t_X7_block_1, q_Snd sx RX7 cX7_block 3 (some .int) q.1 q.2 := List.forall_mem_cons.mpr ⟨s_ir d_X7_block_50 rfl, List.forall_mem_cons.mpr ⟨s_aload_n d_X7_block_51 rfl, List.forall_mem_cons.mpr ⟨s_gf d_X7_block_52 rfl (by decide) n_X7 in_X7 rfl k_4_34, List.forall_mem_cons.mpr ⟨s_iload_n d_X7_block_55 rfl, List.forall_mem_cons.mpr ⟨s_iald d_X7_block_56, List.forall_mem_cons.mpr ⟨s_ir d_X7_block_57 rfl, List.forall_mem_cons.mpr ⟨s_aload_n d_X7_block_58 rfl, List.forall_mem_cons.mpr ⟨s_gf d_X7_block_59 rfl (by decide) n_X7 in_X7 rfl k_4_29, List.forall_mem_cons.mpr ⟨s_iconst d_X7_block_62 rfl, List.forall_mem_cons.mpr ⟨s_iload_n d_X7_block_63 rfl, List.forall_mem_cons.mpr ⟨s_iadd d_X7_block_64, List.forall_mem_cons.mpr ⟨s_iald d_X7_block_65, fun _ h => absurd h List.not_mem_nil⟩⟩⟩⟩⟩⟩⟩⟩⟩⟩⟩⟩
def t_X7_block_2 : List (Nat × QO) := [(66, o_ir false), (67, o_al 0 68), (68, o_gf 7 0 71), (71, o_k 7 73), (73, o_il 1 74), (74, o_b (fun x y => x + y) 75), (75, o_iald 76), (76, o_ir false), (77, o_al 0 78), (78, o_gf 7 0 81), (81, o_k 13 83), (83, o_il 1 84)]
theorem ts_X7_block_2 (sx : QX) : ∀ q ∈ t_X7_block_2, q_Snd sx RX7 cX7_block 3 (some .int) q.1 q.2 := List.forall_mem_cons.mpr ⟨s_ir d_X7_block_66 rfl, List.forall_mem_cons.mpr ⟨s_aload_n d_X7_block_67 rfl, List.forall_mem_cons.mpr ⟨s_gf d_X7_block_68 rfl (by decide) n_X7 in_X7 rfl k_4_29, List.forall_mem_cons.mpr ⟨s_bipush d_X7_block_71 rfl, List.forall_mem_cons.mpr ⟨s_iload_n d_X7_block_73 rfl, List.forall_mem_cons.mpr ⟨s_iadd d_X7_block_74, List.forall_mem_cons.mpr ⟨s_iald d_X7_block_75, List.forall_mem_cons.mpr ⟨s_ir d_X7_block_76 rfl, List.forall_mem_cons.mpr ⟨s_aload_n d_X7_block_77 rfl, List.forall_mem_cons.mpr ⟨s_gf d_X7_block_78 rfl (by decide) n_X7 in_X7 rfl k_4_29, List.forall_mem_cons.mpr ⟨s_bipush d_X7_block_81 rfl, List.forall_mem_cons.mpr ⟨s_iload_n d_X7_block_83 rfl, fun _ h => absurd h List.not_mem_nil⟩⟩⟩⟩⟩⟩⟩⟩⟩⟩⟩⟩
def t_X7_block_3 : List (Nat × QO) := [(84, o_b (fun x y => x + y) 85), (85, o_iald 86), (86, o_ir false), (87, o_k (-1) 88), (88, o_ir false)]
theorem ts_X7_block_3 (sx : QX) : ∀ q ∈ t_X7_block_3, q_Snd sx RX7 cX7_block 3 (some .int) q.1 q.2 := List.forall_mem_cons.mpr ⟨s_iadd d_X7_block_84, List.forall_mem_cons.mpr ⟨s_iald d_X7_block_85, List.forall_mem_cons.mpr ⟨s_ir d_X7_block_86 rfl, List.forall_mem_cons.mpr ⟨s_iconst d_X7_block_87 rfl, List.forall_mem_cons.mpr ⟨s_ir d_X7_block_88 rfl, fun _ h => absurd h List.not_mem_nil⟩⟩⟩⟩⟩
def t_X7_block (pc : Nat) : Option QO := cond (Nat.ble pc 65) (cond (Nat.ble pc 49) (q_look (t_X7_block_0) pc) (q_look (t_X7_block_1) pc)) (cond (Nat.ble pc 83) (q_look (t_X7_block_2) pc) (q_look (t_X7_block_3) pc))
theorem ts_X7_block (sx : QX) (pc : Nat) : ∀ o, t_X7_block pc = some o → q_Snd sx RX7 cX7_block 3 (some .int) pc o := by
  unfold t_X7_block
  exact q_cb (q_cb (q_look_all (ts_X7_block_0 sx)) (q_look_all (ts_X7_block_1 sx))) (q_cb (q_look_all (ts_X7_block_2 sx)) (q_look_all (ts_X7_block_3 sx)))
theorem d_X7_word_0 : decode cX7_word 0 = .ok (.aload_n 0, 1) := by decide +kernel
theorem d_X7_word_1 : decode cX7_word 1 = .ok (.iload_n 1, 1) := by decide +kernel
theorem d_X7_word_2 : decode cX7_word 2 = .ok (.invokevirtual 165, 3) := by decide +kernel
theorem d_X7_word_5 : decode cX7_word 5 = .ok (.ifCond .eq 12, 3) := by decide +kernel
theorem d_X7_word_8 : decode cX7_word 8 = .ok (.aload_n 0, 1) := by decide +kernel
theorem d_X7_word_9 : decode cX7_word 9 = .ok (.getfield 19, 3) := by decide +kernel
theorem d_X7_word_12 : decode cX7_word 12 = .ok (.iload_n 1, 1) := by decide +kernel
theorem d_X7_word_13 : decode cX7_word 13 = .ok (.iaload, 1) := by decide +kernel
theorem d_X7_word_14 : decode cX7_word 14 = .ok (.goto 4, 3) := by decide +kernel
theorem d_X7_word_17 : decode cX7_word 17 = .ok (.iconst (-1), 1) := by decide +kernel
theorem d_X7_word_18 : decode cX7_word 18 = .ok (.ireturn, 1) := by decide +kernel
def t_X7_word_0 : List (Nat × QO) := [(0, o_al 0 1), (1, o_il 1 2), (2, o_cV 1 7 107 2 2 5), (5, o_if (fun x => decide (x = 0)) 17 8), (8, o_al 0 9), (9, o_gf 7 7 12), (12, o_il 1 13), (13, o_iald 14), (14, o_goto 18), (17, o_k (-1) 18), (18, o_ir false)]
theorem ts_X7_word_0 (sx : QX) : ∀ q ∈ t_X7_word_0, q_Snd sx RX7 cX7_word 2 (some .int) q.1 q.2 := List.forall_mem_cons.mpr ⟨s_aload_n d_X7_word_0 rfl, List.forall_mem_cons.mpr ⟨s_iload_n d_X7_word_1 rfl, List.forall_mem_cons.mpr ⟨s_cV (T := TX7) (N := 30) rfl d_X7_word_2 rfl k_4_191 k_4_193 k_0_33 k_1_12 k_4_194 ⟨by decide, by decide⟩ (by decide +kernel) (by decide), List.forall_mem_cons.mpr ⟨s_if_eq d_X7_word_5 (by decide), List.forall_mem_cons.mpr ⟨s_aload_n d_X7_word_8 rfl, List.forall_mem_cons.mpr ⟨s_gf d_X7_word_9 rfl (by decide) n_X7 in_X7 rfl k_4_36, List.forall_mem_cons.mpr ⟨s_iload_n d_X7_word_12 rfl, List.forall_mem_cons.mpr ⟨s_iald d_X7_word_13, List.forall_mem_cons.mpr ⟨s_goto d_X7_word_14 (by decide), List.forall_mem_cons.mpr ⟨s_iconst d_X7_word_17 rfl, List.forall_mem_cons.mpr ⟨s_ir d_X7_word_18 rfl, fun _ h => absurd h List.not_mem_nil⟩⟩⟩⟩⟩⟩⟩⟩⟩⟩⟩
def t_X7_word (pc : Nat) : Option QO := q_look (t_X7_word_0) pc
theorem ts_X7_word (sx : QX) (pc : Nat) : ∀ o, t_X7_word pc = some o → q_Snd sx RX7 cX7_word 2 (some .int) pc o := by
  unfold t_X7_word
  exact q_look_all (ts_X7_word_0 sx)
theorem d_X7_speaker_0 : decode cX7_speaker 0 = .ok (.aload_n 0, 1) := by decide +kernel
theorem d_X7_speaker_1 : decode cX7_speaker 1 = .ok (.iload_n 1, 1) := by decide +kernel
theorem d_X7_speaker_2 : decode cX7_speaker 2 = .ok (.invokevirtual 168, 3) := by decide +kernel
theorem d_X7_speaker_5 : decode cX7_speaker 5 = .ok (.ifCond .ne 5, 3) := by decide +kernel
theorem d_X7_speaker_8 : decode cX7_speaker 8 = .ok (.iconst (-1), 1) := by decide +kernel
theorem d_X7_speaker_9 : decode cX7_speaker 9 = .ok (.ireturn, 1) := by decide +kernel
theorem d_X7_speaker_10 : decode cX7_speaker 10 = .ok (.iload_n 2, 1) := by decide +kernel
theorem d_X7_speaker_11 : decode cX7_speaker 11 = .ok (.ifCond .ne 12, 3) := by decide +kernel
theorem d_X7_speaker_14 : decode cX7_speaker 14 = .ok (.aload_n 0, 1) := by decide +kernel
theorem d_X7_speaker_15 : decode cX7_speaker 15 = .ok (.getfield 22, 3) := by decide +kernel
theorem d_X7_speaker_18 : decode cX7_speaker 18 = .ok (.iload_n 1, 1) := by decide +kernel
theorem d_X7_speaker_19 : decode cX7_speaker 19 = .ok (.iaload, 1) := by decide +kernel
theorem d_X7_speaker_20 : decode cX7_speaker 20 = .ok (.goto 35, 3) := by decide +kernel
theorem d_X7_speaker_23 : decode cX7_speaker 23 = .ok (.iload_n 2, 1) := by decide +kernel
theorem d_X7_speaker_24 : decode cX7_speaker 24 = .ok (.iconst 1, 1) := by decide +kernel
theorem d_X7_speaker_25 : decode cX7_speaker 25 = .ok (.if_icmp .ne 12, 3) := by decide +kernel
theorem d_X7_speaker_28 : decode cX7_speaker 28 = .ok (.aload_n 0, 1) := by decide +kernel
theorem d_X7_speaker_29 : decode cX7_speaker 29 = .ok (.getfield 25, 3) := by decide +kernel
theorem d_X7_speaker_32 : decode cX7_speaker 32 = .ok (.iload_n 1, 1) := by decide +kernel
theorem d_X7_speaker_33 : decode cX7_speaker 33 = .ok (.iaload, 1) := by decide +kernel
theorem d_X7_speaker_34 : decode cX7_speaker 34 = .ok (.goto 21, 3) := by decide +kernel
theorem d_X7_speaker_37 : decode cX7_speaker 37 = .ok (.iload_n 2, 1) := by decide +kernel
theorem d_X7_speaker_38 : decode cX7_speaker 38 = .ok (.iconst 2, 1) := by decide +kernel
theorem d_X7_speaker_39 : decode cX7_speaker 39 = .ok (.if_icmp .ne 15, 3) := by decide +kernel
theorem d_X7_speaker_42 : decode cX7_speaker 42 = .ok (.aload_n 0, 1) := by decide +kernel
theorem d_X7_speaker_43 : decode cX7_speaker 43 = .ok (.getfield 7, 3) := by decide +kernel
theorem d_X7_speaker_46 : decode cX7_speaker 46 = .ok (.bipush 79, 2) := by decide +kernel
theorem d_X7_speaker_48 : decode cX7_speaker 48 = .ok (.iload_n 1, 1) := by decide +kernel
theorem d_X7_speaker_49 : decode cX7_speaker 49 = .ok (.iadd, 1) := by decide +kernel
theorem d_X7_speaker_50 : decode cX7_speaker 50 = .ok (.iaload, 1) := by decide +kernel
theorem d_X7_speaker_51 : decode cX7_speaker 51 = .ok (.goto 4, 3) := by decide +kernel
theorem d_X7_speaker_54 : decode cX7_speaker 54 = .ok (.iconst (-1), 1) := by decide +kernel
theorem d_X7_speaker_55 : decode cX7_speaker 55 = .ok (.ireturn, 1) := by decide +kernel
def t_X7_speaker_0 : List (Nat × QO) := [(0, o_al 0 1), (1, o_il 1 2), (2, o_cV 1 7 108 2 2 5), (5, o_if (fun x => decide (x ≠ 0)) 10 8), (8, o_k (-1) 9), (9, o_ir false), (10, o_il 2 11), (11, o_if (fun x => decide (x ≠ 0)) 23 14), (14, o_al 0 15), (15, o_gf 7 9 18), (18, o_il 1 19), (19, o_iald 20)]
theorem ts_X7_speaker_0 (sx : QX) : ∀ q ∈ t_X7_speaker_0, q_Snd sx RX7 cX7_speaker 3 (some .int) q.1 q.2 := List.forall_mem_cons.mpr ⟨s_aload_n d_X7_speaker_0 rfl, List.forall_mem_cons.mpr ⟨s_iload_n d_X7_speaker_1 rfl, List.forall_mem_cons.mpr ⟨s_cV (T := TX7) (N := 30) rfl d_X7_speaker_2 rfl k_4_199 k_4_201 k_0_34 k_1_12 k_4_202 ⟨by decide, by decide⟩ (by decide +kernel) (by decide), List.forall_mem_cons.mpr ⟨s_if_ne d_X7_speaker_5 (by decide), List.forall_mem_cons.mpr ⟨s_iconst d_X7_speaker_8 rfl, List.forall_mem_cons.mpr ⟨s_ir d_X7_speaker_9 rfl, List.forall_mem_cons.mpr ⟨s_iload_n d_X7_speaker_10 rfl, List.forall_mem_cons.mpr ⟨s_if_ne d_X7_speaker_11 (by decide), List.forall_mem_cons.mpr ⟨s_aload_n d_X7_speaker_14 rfl, List.forall_mem_cons.mpr ⟨s_gf d_X7_speaker_15 rfl (by decide) n_X7 in_X7 rfl k_4_38, List.forall_mem_cons.mpr ⟨s_iload_n d_X7_speaker_18 rfl, List.forall_mem_cons.mpr ⟨s_iald d_X7_speaker_19, fun _ h => absurd h List.not_mem_nil⟩⟩⟩⟩⟩⟩⟩⟩⟩⟩⟩⟩
def t_X7_speaker_1 : List (Nat × QO) := [(20, o_goto 55), (23, o_il 2 24), (24, o_k 1 25), (25, o_ic (fun x y => decide (x ≠ y)) 37 28), (28, o_al 0 29), (29, o_gf 7 10 32), (32, o_il 1 33), (33, o_iald 34), (34, o_goto 55), (37, o_il 2 38), (38, o_k 2 39), (39, o_ic (fun x y => decide (x ≠ y)) 54 42)]
theorem ts_X7_speaker_1 (sx : QX) : ∀ q ∈ t_X7_speaker_1, q_Snd sx RX7 cX7_speaker 3 (some .int) q.1 q.2 := List.forall_mem_cons.mpr ⟨s_goto d_X7_speaker_20 (by decide), List.forall_mem_cons.mpr ⟨s_iload_n d_X7_speaker_23 rfl, List.forall_mem_cons.mpr ⟨s_iconst d_X7_speaker_24 rfl, List.forall_mem_cons.mpr ⟨s_ic_ne d_X7_speaker_25 (by decide), List.forall_mem_cons.mpr ⟨s_aload_n d_X7_speaker_28 rfl, List.forall_mem_cons.mpr ⟨s_gf d_X7_speaker_29 rfl (by decide) n_X7 in_X7 rfl k_4_39, List.forall_mem_cons.mpr ⟨s_iload_n d_X7_speaker_32 rfl, List.forall_mem_cons.mpr ⟨s_iald d_X7_speaker_33, List.forall_mem_cons.mpr ⟨s_goto d_X7_speaker_34 (by decide), List.forall_mem_cons.mpr ⟨s_iload_n d_X7_speaker_37 rfl, List.forall_mem_cons.mpr ⟨s_iconst d_X7_speaker_38 rfl, List.forall_mem_cons.mpr ⟨s_ic_ne d_X7_speaker_39 (by decide), fun _ h => absurd h List.not_mem_nil⟩⟩⟩⟩⟩⟩⟩⟩⟩⟩⟩⟩
def t_X7_speaker_2 : List (Nat × QO) := [(42, o_al 0 43), (43, o_gf 7 0 46), (46, o_k 79 48), (48, o_il 1 49), (49, o_b (fun x y => x + y) 50), (50, o_iald 51), (51, o_goto 55), (54, o_k (-1) 55), (55, o_ir false)]
theorem ts_X7_speaker_2 (sx : QX) : ∀ q ∈ t_X7_speaker_2, q_Snd sx RX7 cX7_speaker 3 (some .int) q.1 q.2 := List.forall_mem_cons.mpr ⟨s_aload_n d_X7_speaker_42 rfl, List.forall_mem_cons.mpr ⟨s_gf d_X7_speaker_43 rfl (by decide) n_X7 in_X7 rfl k_4_29, List.forall_mem_cons.mpr ⟨s_bipush d_X7_speaker_46 rfl, List.forall_mem_cons.mpr ⟨s_iload_n d_X7_speaker_48 rfl, List.forall_mem_cons.mpr ⟨s_iadd d_X7_speaker_49, List.forall_mem_cons.mpr ⟨s_iald d_X7_speaker_50, List.forall_mem_cons.mpr ⟨s_goto d_X7_speaker_51 (by decide), List.forall_mem_cons.mpr ⟨s_iconst d_X7_speaker_54 rfl, List.forall_mem_cons.mpr ⟨s_ir d_X7_speaker_55 rfl, fun _ h => absurd h List.not_mem_nil⟩⟩⟩⟩⟩⟩⟩⟩⟩
def t_X7_speaker (pc : Nat) : Option QO := cond (Nat.ble pc 19) (q_look (t_X7_speaker_0) pc) (cond (Nat.ble pc 39) (q_look (t_X7_speaker_1) pc) (q_look (t_X7_speaker_2) pc))
theorem ts_X7_speaker (sx : QX) (pc : Nat) : ∀ o, t_X7_speaker pc = some o → q_Snd sx RX7 cX7_speaker 3 (some .int) pc o := by
  unfold t_X7_speaker
  exact q_cb (q_look_all (ts_X7_speaker_0 sx)) (q_cb (q_look_all (ts_X7_speaker_1 sx)) (q_look_all (ts_X7_speaker_2 sx)))
theorem d_X7_heard_0 : decode cX7_heard 0 = .ok (.aload_n 0, 1) := by decide +kernel
theorem d_X7_heard_1 : decode cX7_heard 1 = .ok (.iload_n 1, 1) := by decide +kernel
theorem d_X7_heard_2 : decode cX7_heard 2 = .ok (.invokevirtual 161, 3) := by decide +kernel
theorem d_X7_heard_5 : decode cX7_heard 5 = .ok (.ifCond .eq 28, 3) := by decide +kernel
theorem d_X7_heard_8 : decode cX7_heard 8 = .ok (.aload_n 0, 1) := by decide +kernel
theorem d_X7_heard_9 : decode cX7_heard 9 = .ok (.iload_n 2, 1) := by decide +kernel
theorem d_X7_heard_10 : decode cX7_heard 10 = .ok (.invokevirtual 165, 3) := by decide +kernel
theorem d_X7_heard_13 : decode cX7_heard 13 = .ok (.ifCond .eq 20, 3) := by decide +kernel
theorem d_X7_heard_16 : decode cX7_heard 16 = .ok (.aload_n 0, 1) := by decide +kernel
theorem d_X7_heard_17 : decode cX7_heard 17 = .ok (.getfield 7, 3) := by decide +kernel
theorem d_X7_heard_20 : decode cX7_heard 20 = .ok (.bipush 19, 2) := by decide +kernel
theorem d_X7_heard_22 : decode cX7_heard 22 = .ok (.bipush 6, 2) := by decide +kernel
theorem d_X7_heard_24 : decode cX7_heard 24 = .ok (.iload_n 1, 1) := by decide +kernel
theorem d_X7_heard_25 : decode cX7_heard 25 = .ok (.imul, 1) := by decide +kernel
theorem d_X7_heard_26 : decode cX7_heard 26 = .ok (.iadd, 1) := by decide +kernel
theorem d_X7_heard_27 : decode cX7_heard 27 = .ok (.iload_n 2, 1) := by decide +kernel
theorem d_X7_heard_28 : decode cX7_heard 28 = .ok (.iadd, 1) := by decide +kernel
theorem d_X7_heard_29 : decode cX7_heard 29 = .ok (.iaload, 1) := by decide +kernel
theorem d_X7_heard_30 : decode cX7_heard 30 = .ok (.goto 4, 3) := by decide +kernel
theorem d_X7_heard_33 : decode cX7_heard 33 = .ok (.iconst (-1), 1) := by decide +kernel
theorem d_X7_heard_34 : decode cX7_heard 34 = .ok (.ireturn, 1) := by decide +kernel
def t_X7_heard_0 : List (Nat × QO) := [(0, o_al 0 1), (1, o_il 1 2), (2, o_cV 1 7 106 2 2 5), (5, o_if (fun x => decide (x = 0)) 33 8), (8, o_al 0 9), (9, o_il 2 10), (10, o_cV 1 7 107 2 2 13), (13, o_if (fun x => decide (x = 0)) 33 16), (16, o_al 0 17), (17, o_gf 7 0 20), (20, o_k 19 22), (22, o_k 6 24)]
theorem ts_X7_heard_0 (sx : QX) : ∀ q ∈ t_X7_heard_0, q_Snd sx RX7 cX7_heard 3 (some .int) q.1 q.2 := List.forall_mem_cons.mpr ⟨s_aload_n d_X7_heard_0 rfl, List.forall_mem_cons.mpr ⟨s_iload_n d_X7_heard_1 rfl, List.forall_mem_cons.mpr ⟨s_cV (T := TX7) (N := 30) rfl d_X7_heard_2 rfl k_4_183 k_4_185 k_0_32 k_1_12 k_4_186 ⟨by decide, by decide⟩ (by decide +kernel) (by decide), List.forall_mem_cons.mpr ⟨s_if_eq d_X7_heard_5 (by decide), List.forall_mem_cons.mpr ⟨s_aload_n d_X7_heard_8 rfl, List.forall_mem_cons.mpr ⟨s_iload_n d_X7_heard_9 rfl, List.forall_mem_cons.mpr ⟨s_cV (T := TX7) (N := 30) rfl d_X7_heard_10 rfl k_4_191 k_4_193 k_0_33 k_1_12 k_4_194 ⟨by decide, by decide⟩ (by decide +kernel) (by decide), List.forall_mem_cons.mpr ⟨s_if_eq d_X7_heard_13 (by decide), List.forall_mem_cons.mpr ⟨s_aload_n d_X7_heard_16 rfl, List.forall_mem_cons.mpr ⟨s_gf d_X7_heard_17 rfl (by decide) n_X7 in_X7 rfl k_4_29, List.forall_mem_cons.mpr ⟨s_bipush d_X7_heard_20 rfl, List.forall_mem_cons.mpr ⟨s_bipush d_X7_heard_22 rfl, fun _ h => absurd h List.not_mem_nil⟩⟩⟩⟩⟩⟩⟩⟩⟩⟩⟩⟩
def t_X7_heard_1 : List (Nat × QO) := [(24, o_il 1 25), (25, o_b (fun x y => x * y) 26), (26, o_b (fun x y => x + y) 27), (27, o_il 2 28), (28, o_b (fun x y => x + y) 29), (29, o_iald 30), (30, o_goto 34), (33, o_k (-1) 34), (34, o_ir false)]
theorem ts_X7_heard_1 (sx : QX) : ∀ q ∈ t_X7_heard_1, q_Snd sx RX7 cX7_heard 3 (some .int) q.1 q.2 := List.forall_mem_cons.mpr ⟨s_iload_n d_X7_heard_24 rfl, List.forall_mem_cons.mpr ⟨s_imul d_X7_heard_25, List.forall_mem_cons.mpr ⟨s_iadd d_X7_heard_26, List.forall_mem_cons.mpr ⟨s_iload_n d_X7_heard_27 rfl, List.forall_mem_cons.mpr ⟨s_iadd d_X7_heard_28, List.forall_mem_cons.mpr ⟨s_iald d_X7_heard_29, List.forall_mem_cons.mpr ⟨s_goto d_X7_heard_30 (by decide), List.forall_mem_cons.mpr ⟨s_iconst d_X7_heard_33 rfl, List.forall_mem_cons.mpr ⟨s_ir d_X7_heard_34 rfl, fun _ h => absurd h List.not_mem_nil⟩⟩⟩⟩⟩⟩⟩⟩⟩
def t_X7_heard (pc : Nat) : Option QO := cond (Nat.ble pc 22) (q_look (t_X7_heard_0) pc) (q_look (t_X7_heard_1) pc)
theorem ts_X7_heard (sx : QX) (pc : Nat) : ∀ o, t_X7_heard pc = some o → q_Snd sx RX7 cX7_heard 3 (some .int) pc o := by
  unfold t_X7_heard
  exact q_cb (q_look_all (ts_X7_heard_0 sx)) (q_look_all (ts_X7_heard_1 sx))
theorem d_X7_promised_0 : decode cX7_promised 0 = .ok (.aload_n 0, 1) := by decide +kernel
theorem d_X7_promised_1 : decode cX7_promised 1 = .ok (.iload_n 1, 1) := by decide +kernel
theorem d_X7_promised_2 : decode cX7_promised 2 = .ok (.invokevirtual 168, 3) := by decide +kernel
theorem d_X7_promised_5 : decode cX7_promised 5 = .ok (.ifCond .eq 28, 3) := by decide +kernel
theorem d_X7_promised_8 : decode cX7_promised 8 = .ok (.aload_n 0, 1) := by decide +kernel
theorem d_X7_promised_9 : decode cX7_promised 9 = .ok (.iload_n 2, 1) := by decide +kernel
theorem d_X7_promised_10 : decode cX7_promised 10 = .ok (.invokevirtual 161, 3) := by decide +kernel
theorem d_X7_promised_13 : decode cX7_promised 13 = .ok (.ifCond .eq 20, 3) := by decide +kernel
theorem d_X7_promised_16 : decode cX7_promised 16 = .ok (.aload_n 0, 1) := by decide +kernel
theorem d_X7_promised_17 : decode cX7_promised 17 = .ok (.getfield 7, 3) := by decide +kernel
theorem d_X7_promised_20 : decode cX7_promised 20 = .ok (.bipush 55, 2) := by decide +kernel
theorem d_X7_promised_22 : decode cX7_promised 22 = .ok (.bipush 6, 2) := by decide +kernel
theorem d_X7_promised_24 : decode cX7_promised 24 = .ok (.iload_n 1, 1) := by decide +kernel
theorem d_X7_promised_25 : decode cX7_promised 25 = .ok (.imul, 1) := by decide +kernel
theorem d_X7_promised_26 : decode cX7_promised 26 = .ok (.iadd, 1) := by decide +kernel
theorem d_X7_promised_27 : decode cX7_promised 27 = .ok (.iload_n 2, 1) := by decide +kernel
theorem d_X7_promised_28 : decode cX7_promised 28 = .ok (.iadd, 1) := by decide +kernel
theorem d_X7_promised_29 : decode cX7_promised 29 = .ok (.iaload, 1) := by decide +kernel
theorem d_X7_promised_30 : decode cX7_promised 30 = .ok (.goto 4, 3) := by decide +kernel
theorem d_X7_promised_33 : decode cX7_promised 33 = .ok (.iconst (-1), 1) := by decide +kernel
theorem d_X7_promised_34 : decode cX7_promised 34 = .ok (.ireturn, 1) := by decide +kernel
def t_X7_promised_0 : List (Nat × QO) := [(0, o_al 0 1), (1, o_il 1 2), (2, o_cV 1 7 108 2 2 5), (5, o_if (fun x => decide (x = 0)) 33 8), (8, o_al 0 9), (9, o_il 2 10), (10, o_cV 1 7 106 2 2 13), (13, o_if (fun x => decide (x = 0)) 33 16), (16, o_al 0 17), (17, o_gf 7 0 20), (20, o_k 55 22), (22, o_k 6 24)]
theorem ts_X7_promised_0 (sx : QX) : ∀ q ∈ t_X7_promised_0, q_Snd sx RX7 cX7_promised 3 (some .int) q.1 q.2 := List.forall_mem_cons.mpr ⟨s_aload_n d_X7_promised_0 rfl, List.forall_mem_cons.mpr ⟨s_iload_n d_X7_promised_1 rfl, List.forall_mem_cons.mpr ⟨s_cV (T := TX7) (N := 30) rfl d_X7_promised_2 rfl k_4_199 k_4_201 k_0_34 k_1_12 k_4_202 ⟨by decide, by decide⟩ (by decide +kernel) (by decide), List.forall_mem_cons.mpr ⟨s_if_eq d_X7_promised_5 (by decide), List.forall_mem_cons.mpr ⟨s_aload_n d_X7_promised_8 rfl, List.forall_mem_cons.mpr ⟨s_iload_n d_X7_promised_9 rfl, List.forall_mem_cons.mpr ⟨s_cV (T := TX7) (N := 30) rfl d_X7_promised_10 rfl k_4_183 k_4_185 k_0_32 k_1_12 k_4_186 ⟨by decide, by decide⟩ (by decide +kernel) (by decide), List.forall_mem_cons.mpr ⟨s_if_eq d_X7_promised_13 (by decide), List.forall_mem_cons.mpr ⟨s_aload_n d_X7_promised_16 rfl, List.forall_mem_cons.mpr ⟨s_gf d_X7_promised_17 rfl (by decide) n_X7 in_X7 rfl k_4_29, List.forall_mem_cons.mpr ⟨s_bipush d_X7_promised_20 rfl, List.forall_mem_cons.mpr ⟨s_bipush d_X7_promised_22 rfl, fun _ h => absurd h List.not_mem_nil⟩⟩⟩⟩⟩⟩⟩⟩⟩⟩⟩⟩
def t_X7_promised_1 : List (Nat × QO) := [(24, o_il 1 25), (25, o_b (fun x y => x * y) 26), (26, o_b (fun x y => x + y) 27), (27, o_il 2 28), (28, o_b (fun x y => x + y) 29), (29, o_iald 30), (30, o_goto 34), (33, o_k (-1) 34), (34, o_ir false)]
theorem ts_X7_promised_1 (sx : QX) : ∀ q ∈ t_X7_promised_1, q_Snd sx RX7 cX7_promised 3 (some .int) q.1 q.2 := List.forall_mem_cons.mpr ⟨s_iload_n d_X7_promised_24 rfl, List.forall_mem_cons.mpr ⟨s_imul d_X7_promised_25, List.forall_mem_cons.mpr ⟨s_iadd d_X7_promised_26, List.forall_mem_cons.mpr ⟨s_iload_n d_X7_promised_27 rfl, List.forall_mem_cons.mpr ⟨s_iadd d_X7_promised_28, List.forall_mem_cons.mpr ⟨s_iald d_X7_promised_29, List.forall_mem_cons.mpr ⟨s_goto d_X7_promised_30 (by decide), List.forall_mem_cons.mpr ⟨s_iconst d_X7_promised_33 rfl, List.forall_mem_cons.mpr ⟨s_ir d_X7_promised_34 rfl, fun _ h => absurd h List.not_mem_nil⟩⟩⟩⟩⟩⟩⟩⟩⟩
def t_X7_promised (pc : Nat) : Option QO := cond (Nat.ble pc 22) (q_look (t_X7_promised_0) pc) (q_look (t_X7_promised_1) pc)
theorem ts_X7_promised (sx : QX) (pc : Nat) : ∀ o, t_X7_promised pc = some o → q_Snd sx RX7 cX7_promised 3 (some .int) pc o := by
  unfold t_X7_promised
  exact q_cb (q_look_all (ts_X7_promised_0 sx)) (q_look_all (ts_X7_promised_1 sx))
theorem d_X7_byKind_0 : decode cX7_byKind 0 = .ok (.aload_n 0, 1) := by decide +kernel
theorem d_X7_byKind_1 : decode cX7_byKind 1 = .ok (.getfield 13, 3) := by decide +kernel
theorem d_X7_byKind_4 : decode cX7_byKind 4 = .ok (.iload_n 1, 1) := by decide +kernel
theorem d_X7_byKind_5 : decode cX7_byKind 5 = .ok (.iaload, 1) := by decide +kernel
theorem d_X7_byKind_6 : decode cX7_byKind 6 = .ok (.tableswitch 89 1 3 #[26, 50, 73], 26) := by decide +kernel
theorem d_X7_byKind_32 : decode cX7_byKind 32 = .ok (.iload_n 2, 1) := by decide +kernel
theorem d_X7_byKind_33 : decode cX7_byKind 33 = .ok (.ifCond .ne 14, 3) := by decide +kernel
theorem d_X7_byKind_36 : decode cX7_byKind 36 = .ok (.iconst 2, 1) := by decide +kernel
theorem d_X7_byKind_37 : decode cX7_byKind 37 = .ok (.aload_n 0, 1) := by decide +kernel
theorem d_X7_byKind_38 : decode cX7_byKind 38 = .ok (.getfield 19, 3) := by decide +kernel
theorem d_X7_byKind_41 : decode cX7_byKind 41 = .ok (.iload_n 2, 1) := by decide +kernel
theorem d_X7_byKind_42 : decode cX7_byKind 42 = .ok (.iaload, 1) := by decide +kernel
theorem d_X7_byKind_43 : decode cX7_byKind 43 = .ok (.imul, 1) := by decide +kernel
theorem d_X7_byKind_44 : decode cX7_byKind 44 = .ok (.goto 11, 3) := by decide +kernel
theorem d_X7_byKind_47 : decode cX7_byKind 47 = .ok (.aload_n 0, 1) := by decide +kernel
theorem d_X7_byKind_48 : decode cX7_byKind 48 = .ok (.getfield 19, 3) := by decide +kernel
theorem d_X7_byKind_51 : decode cX7_byKind 51 = .ok (.iload_n 2, 1) := by decide +kernel
theorem d_X7_byKind_52 : decode cX7_byKind 52 = .ok (.iaload, 1) := by decide +kernel
theorem d_X7_byKind_53 : decode cX7_byKind 53 = .ok (.iconst 2, 1) := by decide +kernel
theorem d_X7_byKind_54 : decode cX7_byKind 54 = .ok (.idiv, 1) := by decide +kernel
theorem d_X7_byKind_55 : decode cX7_byKind 55 = .ok (.ireturn, 1) := by decide +kernel
theorem d_X7_byKind_56 : decode cX7_byKind 56 = .ok (.iload_n 2, 1) := by decide +kernel
theorem d_X7_byKind_57 : decode cX7_byKind 57 = .ok (.iconst 1, 1) := by decide +kernel
theorem d_X7_byKind_58 : decode cX7_byKind 58 = .ok (.if_icmp .ne 14, 3) := by decide +kernel
theorem d_X7_byKind_61 : decode cX7_byKind 61 = .ok (.iconst 3, 1) := by decide +kernel
theorem d_X7_byKind_62 : decode cX7_byKind 62 = .ok (.aload_n 0, 1) := by decide +kernel
theorem d_X7_byKind_63 : decode cX7_byKind 63 = .ok (.getfield 19, 3) := by decide +kernel
theorem d_X7_byKind_66 : decode cX7_byKind 66 = .ok (.iload_n 2, 1) := by decide +kernel
theorem d_X7_byKind_67 : decode cX7_byKind 67 = .ok (.iaload, 1) := by decide +kernel
theorem d_X7_byKind_68 : decode cX7_byKind 68 = .ok (.imul, 1) := by decide +kernel
theorem d_X7_byKind_69 : decode cX7_byKind 69 = .ok (.goto 9, 3) := by decide +kernel
theorem d_X7_byKind_72 : decode cX7_byKind 72 = .ok (.aload_n 0, 1) := by decide +kernel
theorem d_X7_byKind_73 : decode cX7_byKind 73 = .ok (.getfield 19, 3) := by decide +kernel
theorem d_X7_byKind_76 : decode cX7_byKind 76 = .ok (.iload_n 2, 1) := by decide +kernel
theorem d_X7_byKind_77 : decode cX7_byKind 77 = .ok (.iaload, 1) := by decide +kernel
theorem d_X7_byKind_78 : decode cX7_byKind 78 = .ok (.ireturn, 1) := by decide +kernel
theorem d_X7_byKind_79 : decode cX7_byKind 79 = .ok (.iload_n 2, 1) := by decide +kernel
theorem d_X7_byKind_80 : decode cX7_byKind 80 = .ok (.iconst 2, 1) := by decide +kernel
theorem d_X7_byKind_81 : decode cX7_byKind 81 = .ok (.if_icmp .ne 7, 3) := by decide +kernel
theorem d_X7_byKind_84 : decode cX7_byKind 84 = .ok (.iconst 0, 1) := by decide +kernel
theorem d_X7_byKind_85 : decode cX7_byKind 85 = .ok (.goto 9, 3) := by decide +kernel
theorem d_X7_byKind_88 : decode cX7_byKind 88 = .ok (.aload_n 0, 1) := by decide +kernel
theorem d_X7_byKind_89 : decode cX7_byKind 89 = .ok (.getfield 19, 3) := by decide +kernel
theorem d_X7_byKind_92 : decode cX7_byKind 92 = .ok (.iload_n 2, 1) := by decide +kernel
theorem d_X7_byKind_93 : decode cX7_byKind 93 = .ok (.iaload, 1) := by decide +kernel
theorem d_X7_byKind_94 : decode cX7_byKind 94 = .ok (.ireturn, 1) := by decide +kernel
theorem d_X7_byKind_95 : decode cX7_byKind 95 = .ok (.aload_n 0, 1) := by decide +kernel
theorem d_X7_byKind_96 : decode cX7_byKind 96 = .ok (.getfield 19, 3) := by decide +kernel
theorem d_X7_byKind_99 : decode cX7_byKind 99 = .ok (.iload_n 2, 1) := by decide +kernel
theorem d_X7_byKind_100 : decode cX7_byKind 100 = .ok (.iaload, 1) := by decide +kernel
theorem d_X7_byKind_101 : decode cX7_byKind 101 = .ok (.ireturn, 1) := by decide +kernel
def t_X7_byKind_0 : List (Nat × QO) := [(0, o_al 0 1), (1, o_gf 7 4 4), (4, o_il 1 5), (5, o_iald 6), (6, o_sw [(1, 32), (2, 56), (3, 79)] 95), (32, o_il 2 33), (33, o_if (fun x => decide (x ≠ 0)) 47 36), (36, o_k 2 37), (37, o_al 0 38), (38, o_gf 7 7 41), (41, o_il 2 42), (42, o_iald 43)]
theorem ts_X7_byKind_0 (sx : QX) : ∀ q ∈ t_X7_byKind_0, q_Snd sx RX7 cX7_byKind 3 (some .int) q.1 q.2 := List.forall_mem_cons.mpr ⟨s_aload_n d_X7_byKind_0 rfl, List.forall_mem_cons.mpr ⟨s_gf d_X7_byKind_1 rfl (by decide) n_X7 in_X7 rfl k_4_33, List.forall_mem_cons.mpr ⟨s_iload_n d_X7_byKind_4 rfl, List.forall_mem_cons.mpr ⟨s_iald d_X7_byKind_5, List.forall_mem_cons.mpr ⟨s_tsw d_X7_byKind_6 (by decide +kernel) (by decide) (by decide), List.forall_mem_cons.mpr ⟨s_iload_n d_X7_byKind_32 rfl, List.forall_mem_cons.mpr ⟨s_if_ne d_X7_byKind_33 (by decide), List.forall_mem_cons.mpr ⟨s_iconst d_X7_byKind_36 rfl, List.forall_mem_cons.mpr ⟨s_aload_n d_X7_byKind_37 rfl, List.forall_mem_cons.mpr ⟨s_gf d_X7_byKind_38 rfl (by decide) n_X7 in_X7 rfl k_4_36, List.forall_mem_cons.mpr ⟨s_iload_n d_X7_byKind_41 rfl, List.forall_mem_cons.mpr ⟨s_iald d_X7_byKind_42, fun _ h => absurd h List.not_mem_nil⟩⟩⟩⟩⟩⟩⟩⟩⟩⟩⟩⟩
def t_X7_byKind_1 : List (Nat × QO) := [(43, o_b (fun x y => x * y) 44), (44, o_goto 55), (47, o_al 0 48), (48, o_gf 7 7 51), (51, o_il 2 52), (52, o_iald 53), (53, o_k 2 54), (54, o_bz (fun x y => x / y) 55), (55, o_ir false), (56, o_il 2 57), (57, o_k 1 58), (58, o_ic (fun x y => decide (x ≠ y)) 72 61)]
theorem ts_X7_byKind_1 (sx : QX) : ∀ q ∈ t_X7_byKind_1, q_Snd sx RX7 cX7_byKind 3 (some .int) q.1 q.2 := List.forall_mem_cons.mpr ⟨s_imul d_X7_byKind_43, List.forall_mem_cons.mpr ⟨s_goto d_X7_byKind_44 (by decide), List.forall_mem_cons.mpr ⟨s_aload_n d_X7_byKind_47 rfl, List.forall_mem_cons.mpr ⟨s_gf d_X7_byKind_48 rfl (by decide) n_X7 in_X7 rfl k_4_36, List.forall_mem_cons.mpr ⟨s_iload_n d_X7_byKind_51 rfl, List.forall_mem_cons.mpr ⟨s_iald d_X7_byKind_52, List.forall_mem_cons.mpr ⟨s_iconst d_X7_byKind_53 rfl, List.forall_mem_cons.mpr ⟨s_idiv d_X7_byKind_54, List.forall_mem_cons.mpr ⟨s_ir d_X7_byKind_55 rfl, List.forall_mem_cons.mpr ⟨s_iload_n d_X7_byKind_56 rfl, List.forall_mem_cons.mpr ⟨s_iconst d_X7_byKind_57 rfl, List.forall_mem_cons.mpr ⟨s_ic_ne d_X7_byKind_58 (by decide), fun _ h => absurd h List.not_mem_nil⟩⟩⟩⟩⟩⟩⟩⟩⟩⟩⟩⟩
def t_X7_byKind_2 : List (Nat × QO) := [(61, o_k 3 62), (62, o_al 0 63), (63, o_gf 7 7 66), (66, o_il 2 67), (67, o_iald 68), (68, o_b (fun x y => x * y) 69), (69, o_goto 78), (72, o_al 0 73), (73, o_gf 7 7 76), (76, o_il 2 77), (77, o_iald 78), (78, o_ir false)]
theorem ts_X7_byKind_2 (sx : QX) : ∀ q ∈ t_X7_byKind_2, q_Snd sx RX7 cX7_byKind 3 (some .int) q.1 q.2 := List.forall_mem_cons.mpr ⟨s_iconst d_X7_byKind_61 rfl, List.forall_mem_cons.mpr ⟨s_aload_n d_X7_byKind_62 rfl, List.forall_mem_cons.mpr ⟨s_gf d_X7_byKind_63 rfl (by decide) n_X7 in_X7 rfl k_4_36, List.forall_mem_cons.mpr ⟨s_iload_n d_X7_byKind_66 rfl, List.forall_mem_cons.mpr ⟨s_iald d_X7_byKind_67, List.forall_mem_cons.mpr ⟨s_imul d_X7_byKind_68, List.forall_mem_cons.mpr ⟨s_goto d_X7_byKind_69 (by decide), List.forall_mem_cons.mpr ⟨s_aload_n d_X7_byKind_72 rfl, List.forall_mem_cons.mpr ⟨s_gf d_X7_byKind_73 rfl (by decide) n_X7 in_X7 rfl k_4_36, List.forall_mem_cons.mpr ⟨s_iload_n d_X7_byKind_76 rfl, List.forall_mem_cons.mpr ⟨s_iald d_X7_byKind_77, List.forall_mem_cons.mpr ⟨s_ir d_X7_byKind_78 rfl, fun _ h => absurd h List.not_mem_nil⟩⟩⟩⟩⟩⟩⟩⟩⟩⟩⟩⟩
def t_X7_byKind_3 : List (Nat × QO) := [(79, o_il 2 80), (80, o_k 2 81), (81, o_ic (fun x y => decide (x ≠ y)) 88 84), (84, o_k 0 85), (85, o_goto 94), (88, o_al 0 89), (89, o_gf 7 7 92), (92, o_il 2 93), (93, o_iald 94), (94, o_ir false), (95, o_al 0 96), (96, o_gf 7 7 99)]
theorem ts_X7_byKind_3 (sx : QX) : ∀ q ∈ t_X7_byKind_3, q_Snd sx RX7 cX7_byKind 3 (some .int) q.1 q.2 := List.forall_mem_cons.mpr ⟨s_iload_n d_X7_byKind_79 rfl, List.forall_mem_cons.mpr ⟨s_iconst d_X7_byKind_80 rfl, List.forall_mem_cons.mpr ⟨s_ic_ne d_X7_byKind_81 (by decide), List.forall_mem_cons.mpr ⟨s_iconst d_X7_byKind_84 rfl, List.forall_mem_cons.mpr ⟨s_goto d_X7_byKind_85 (by decide), List.forall_mem_cons.mpr ⟨s_aload_n d_X7_byKind_88 rfl, List.forall_mem_cons.mpr ⟨s_gf d_X7_byKind_89 rfl (by decide) n_X7 in_X7 rfl k_4_36, List.forall_mem_cons.mpr ⟨s_iload_n d_X7_byKind_92 rfl, List.forall_mem_cons.mpr ⟨s_iald d_X7_byKind_93, List.forall_mem_cons.mpr ⟨s_ir d_X7_byKind_94 rfl, List.forall_mem_cons.mpr ⟨s_aload_n d_X7_byKind_95 rfl, List.forall_mem_cons.mpr ⟨s_gf d_X7_byKind_96 rfl (by decide) n_X7 in_X7 rfl k_4_36, fun _ h => absurd h List.not_mem_nil⟩⟩⟩⟩⟩⟩⟩⟩⟩⟩⟩⟩
def t_X7_byKind_4 : List (Nat × QO) := [(99, o_il 2 100), (100, o_iald 101), (101, o_ir false)]
theorem ts_X7_byKind_4 (sx : QX) : ∀ q ∈ t_X7_byKind_4, q_Snd sx RX7 cX7_byKind 3 (some .int) q.1 q.2 := List.forall_mem_cons.mpr ⟨s_iload_n d_X7_byKind_99 rfl, List.forall_mem_cons.mpr ⟨s_iald d_X7_byKind_100, List.forall_mem_cons.mpr ⟨s_ir d_X7_byKind_101 rfl, fun _ h => absurd h List.not_mem_nil⟩⟩⟩
def t_X7_byKind (pc : Nat) : Option QO := cond (Nat.ble pc 58) (cond (Nat.ble pc 42) (q_look (t_X7_byKind_0) pc) (q_look (t_X7_byKind_1) pc)) (cond (Nat.ble pc 78) (q_look (t_X7_byKind_2) pc) (cond (Nat.ble pc 96) (q_look (t_X7_byKind_3) pc) (q_look (t_X7_byKind_4) pc)))
theorem ts_X7_byKind (sx : QX) (pc : Nat) : ∀ o, t_X7_byKind pc = some o → q_Snd sx RX7 cX7_byKind 3 (some .int) pc o := by
  unfold t_X7_byKind
  exact q_cb (q_cb (q_look_all (ts_X7_byKind_0 sx)) (q_look_all (ts_X7_byKind_1 sx))) (q_cb (q_look_all (ts_X7_byKind_2 sx)) (q_cb (q_look_all (ts_X7_byKind_3 sx)) (q_look_all (ts_X7_byKind_4 sx))))
theorem d_X7_less_0 : decode cX7_less 0 = .ok (.iload_n 0, 1) := by decide +kernel
theorem d_X7_less_1 : decode cX7_less 1 = .ok (.iload_n 1, 1) := by decide +kernel
theorem d_X7_less_2 : decode cX7_less 2 = .ok (.if_icmp .ge 7, 3) := by decide +kernel
theorem d_X7_less_5 : decode cX7_less 5 = .ok (.iconst 0, 1) := by decide +kernel
theorem d_X7_less_6 : decode cX7_less 6 = .ok (.goto 6, 3) := by decide +kernel
theorem d_X7_less_9 : decode cX7_less 9 = .ok (.iload_n 0, 1) := by decide +kernel
theorem d_X7_less_10 : decode cX7_less 10 = .ok (.iload_n 1, 1) := by decide +kernel
theorem d_X7_less_11 : decode cX7_less 11 = .ok (.isub, 1) := by decide +kernel
theorem d_X7_less_12 : decode cX7_less 12 = .ok (.ireturn, 1) := by decide +kernel
def t_X7_less_0 : List (Nat × QO) := [(0, o_il 0 1), (1, o_il 1 2), (2, o_ic (fun x y => decide (y ≤ x)) 9 5), (5, o_k 0 6), (6, o_goto 12), (9, o_il 0 10), (10, o_il 1 11), (11, o_b (fun x y => x - y) 12), (12, o_ir false)]
theorem ts_X7_less_0 (sx : QX) : ∀ q ∈ t_X7_less_0, q_Snd sx RX7 cX7_less 2 (some .int) q.1 q.2 := List.forall_mem_cons.mpr ⟨s_iload_n d_X7_less_0 rfl, List.forall_mem_cons.mpr ⟨s_iload_n d_X7_less_1 rfl, List.forall_mem_cons.mpr ⟨s_ic_ge d_X7_less_2 (by decide), List.forall_mem_cons.mpr ⟨s_iconst d_X7_less_5 rfl, List.forall_mem_cons.mpr ⟨s_goto d_X7_less_6 (by decide), List.forall_mem_cons.mpr ⟨s_iload_n d_X7_less_9 rfl, List.forall_mem_cons.mpr ⟨s_iload_n d_X7_less_10 rfl, List.forall_mem_cons.mpr ⟨s_isub d_X7_less_11, List.forall_mem_cons.mpr ⟨s_ir d_X7_less_12 rfl, fun _ h => absurd h List.not_mem_nil⟩⟩⟩⟩⟩⟩⟩⟩⟩
def t_X7_less (pc : Nat) : Option QO := q_look (t_X7_less_0) pc
theorem ts_X7_less (sx : QX) (pc : Nat) : ∀ o, t_X7_less pc = some o → q_Snd sx RX7 cX7_less 2 (some .int) pc o := by
  unfold t_X7_less
  exact q_look_all (ts_X7_less_0 sx)
theorem d_X7_heardOf_0 : decode cX7_heardOf 0 = .ok (.aload_n 0, 1) := by decide +kernel
theorem d_X7_heardOf_1 : decode cX7_heardOf 1 = .ok (.getfield 7, 3) := by decide +kernel
theorem d_X7_heardOf_4 : decode cX7_heardOf 4 = .ok (.iload_n 1, 1) := by decide +kernel
theorem d_X7_heardOf_5 : decode cX7_heardOf 5 = .ok (.bipush 19, 2) := by decide +kernel
theorem d_X7_heardOf_7 : decode cX7_heardOf 7 = .ok (.iadd, 1) := by decide +kernel
theorem d_X7_heardOf_8 : decode cX7_heardOf 8 = .ok (.bipush 6, 2) := by decide +kernel
theorem d_X7_heardOf_10 : decode cX7_heardOf 10 = .ok (.iload_n 2, 1) := by decide +kernel
theorem d_X7_heardOf_11 : decode cX7_heardOf 11 = .ok (.imul, 1) := by decide +kernel
theorem d_X7_heardOf_12 : decode cX7_heardOf 12 = .ok (.iadd, 1) := by decide +kernel
theorem d_X7_heardOf_13 : decode cX7_heardOf 13 = .ok (.iload_n 3, 1) := by decide +kernel
theorem d_X7_heardOf_14 : decode cX7_heardOf 14 = .ok (.iadd, 1) := by decide +kernel
theorem d_X7_heardOf_15 : decode cX7_heardOf 15 = .ok (.iaload, 1) := by decide +kernel
theorem d_X7_heardOf_16 : decode cX7_heardOf 16 = .ok (.ireturn, 1) := by decide +kernel
def t_X7_heardOf_0 : List (Nat × QO) := [(0, o_al 0 1), (1, o_gf 7 0 4), (4, o_il 1 5), (5, o_k 19 7), (7, o_b (fun x y => x + y) 8), (8, o_k 6 10), (10, o_il 2 11), (11, o_b (fun x y => x * y) 12), (12, o_b (fun x y => x + y) 13), (13, o_il 3 14), (14, o_b (fun x y => x + y) 15), (15, o_iald 16)]
theorem ts_X7_heardOf_0 (sx : QX) : ∀ q ∈ t_X7_heardOf_0, q_Snd sx RX7 cX7_heardOf 4 (some .int) q.1 q.2 := List.forall_mem_cons.mpr ⟨s_aload_n d_X7_heardOf_0 rfl, List.forall_mem_cons.mpr ⟨s_gf d_X7_heardOf_1 rfl (by decide) n_X7 in_X7 rfl k_4_29, List.forall_mem_cons.mpr ⟨s_iload_n d_X7_heardOf_4 rfl, List.forall_mem_cons.mpr ⟨s_bipush d_X7_heardOf_5 rfl, List.forall_mem_cons.mpr ⟨s_iadd d_X7_heardOf_7, List.forall_mem_cons.mpr ⟨s_bipush d_X7_heardOf_8 rfl, List.forall_mem_cons.mpr ⟨s_iload_n d_X7_heardOf_10 rfl, List.forall_mem_cons.mpr ⟨s_imul d_X7_heardOf_11, List.forall_mem_cons.mpr ⟨s_iadd d_X7_heardOf_12, List.forall_mem_cons.mpr ⟨s_iload_n d_X7_heardOf_13 rfl, List.forall_mem_cons.mpr ⟨s_iadd d_X7_heardOf_14, List.forall_mem_cons.mpr ⟨s_iald d_X7_heardOf_15, fun _ h => absurd h List.not_mem_nil⟩⟩⟩⟩⟩⟩⟩⟩⟩⟩⟩⟩
def t_X7_heardOf_1 : List (Nat × QO) := [(16, o_ir false)]
theorem ts_X7_heardOf_1 (sx : QX) : ∀ q ∈ t_X7_heardOf_1, q_Snd sx RX7 cX7_heardOf 4 (some .int) q.1 q.2 := List.forall_mem_cons.mpr ⟨s_ir d_X7_heardOf_16 rfl, fun _ h => absurd h List.not_mem_nil⟩
def t_X7_heardOf (pc : Nat) : Option QO := cond (Nat.ble pc 15) (q_look (t_X7_heardOf_0) pc) (q_look (t_X7_heardOf_1) pc)
theorem ts_X7_heardOf (sx : QX) (pc : Nat) : ∀ o, t_X7_heardOf pc = some o → q_Snd sx RX7 cX7_heardOf 4 (some .int) pc o := by
  unfold t_X7_heardOf
  exact q_cb (q_look_all (ts_X7_heardOf_0 sx)) (q_look_all (ts_X7_heardOf_1 sx))
theorem d_X7_spoken_0 : decode cX7_spoken 0 = .ok (.aload_n 0, 1) := by decide +kernel
theorem d_X7_spoken_1 : decode cX7_spoken 1 = .ok (.iload_n 2, 1) := by decide +kernel
theorem d_X7_spoken_2 : decode cX7_spoken 2 = .ok (.iload_n 3, 1) := by decide +kernel
theorem d_X7_spoken_3 : decode cX7_spoken 3 = .ok (.invokevirtual 171, 3) := by decide +kernel
theorem d_X7_spoken_6 : decode cX7_spoken 6 = .ok (.istore 4, 2) := by decide +kernel
theorem d_X7_spoken_8 : decode cX7_spoken 8 = .ok (.aload_n 0, 1) := by decide +kernel
theorem d_X7_spoken_9 : decode cX7_spoken 9 = .ok (.getfield 22, 3) := by decide +kernel
theorem d_X7_spoken_12 : decode cX7_spoken 12 = .ok (.iload_n 1, 1) := by decide +kernel
theorem d_X7_spoken_13 : decode cX7_spoken 13 = .ok (.iaload, 1) := by decide +kernel
theorem d_X7_spoken_14 : decode cX7_spoken 14 = .ok (.tableswitch 66 1 3 #[26, 31, 52], 26) := by decide +kernel
theorem d_X7_spoken_40 : decode cX7_spoken 40 = .ok (.iconst 2, 1) := by decide +kernel
theorem d_X7_spoken_41 : decode cX7_spoken 41 = .ok (.iload 4, 2) := by decide +kernel
theorem d_X7_spoken_43 : decode cX7_spoken 43 = .ok (.imul, 1) := by decide +kernel
theorem d_X7_spoken_44 : decode cX7_spoken 44 = .ok (.ireturn, 1) := by decide +kernel
theorem d_X7_spoken_45 : decode cX7_spoken 45 = .ok (.aload_n 0, 1) := by decide +kernel
theorem d_X7_spoken_46 : decode cX7_spoken 46 = .ok (.getfield 16, 3) := by decide +kernel
theorem d_X7_spoken_49 : decode cX7_spoken 49 = .ok (.iload_n 2, 1) := by decide +kernel
theorem d_X7_spoken_50 : decode cX7_spoken 50 = .ok (.iaload, 1) := by decide +kernel
theorem d_X7_spoken_51 : decode cX7_spoken 51 = .ok (.bipush 10, 2) := by decide +kernel
theorem d_X7_spoken_53 : decode cX7_spoken 53 = .ok (.if_icmp .gt 10, 3) := by decide +kernel
theorem d_X7_spoken_56 : decode cX7_spoken 56 = .ok (.iload 4, 2) := by decide +kernel
theorem d_X7_spoken_58 : decode cX7_spoken 58 = .ok (.iconst 4, 1) := by decide +kernel
theorem d_X7_spoken_59 : decode cX7_spoken 59 = .ok (.iadd, 1) := by decide +kernel
theorem d_X7_spoken_60 : decode cX7_spoken 60 = .ok (.goto 5, 3) := by decide +kernel
theorem d_X7_spoken_63 : decode cX7_spoken 63 = .ok (.iload 4, 2) := by decide +kernel
theorem d_X7_spoken_65 : decode cX7_spoken 65 = .ok (.ireturn, 1) := by decide +kernel
theorem d_X7_spoken_66 : decode cX7_spoken 66 = .ok (.iload_n 3, 1) := by decide +kernel
theorem d_X7_spoken_67 : decode cX7_spoken 67 = .ok (.ifCond .ne 10, 3) := by decide +kernel
theorem d_X7_spoken_70 : decode cX7_spoken 70 = .ok (.iload 4, 2) := by decide +kernel
theorem d_X7_spoken_72 : decode cX7_spoken 72 = .ok (.iconst 3, 1) := by decide +kernel
theorem d_X7_spoken_73 : decode cX7_spoken 73 = .ok (.iadd, 1) := by decide +kernel
theorem d_X7_spoken_74 : decode cX7_spoken 74 = .ok (.goto 5, 3) := by decide +kernel
theorem d_X7_spoken_77 : decode cX7_spoken 77 = .ok (.iload 4, 2) := by decide +kernel
theorem d_X7_spoken_79 : decode cX7_spoken 79 = .ok (.ireturn, 1) := by decide +kernel
theorem d_X7_spoken_80 : decode cX7_spoken 80 = .ok (.iload 4, 2) := by decide +kernel
theorem d_X7_spoken_82 : decode cX7_spoken 82 = .ok (.ireturn, 1) := by decide +kernel
def t_X7_spoken_0 : List (Nat × QO) := [(0, o_al 0 1), (1, o_il 2 2), (2, o_il 3 3), (3, o_cV 1 7 132 3 3 6), (6, o_is 4 8), (8, o_al 0 9), (9, o_gf 7 9 12), (12, o_il 1 13), (13, o_iald 14), (14, o_sw [(1, 40), (2, 45), (3, 66)] 80), (40, o_k 2 41), (41, o_il 4 43)]
theorem ts_X7_spoken_0 (sx : QX) : ∀ q ∈ t_X7_spoken_0, q_Snd sx RX7 cX7_spoken 5 (some .int) q.1 q.2 := List.forall_mem_cons.mpr ⟨s_aload_n d_X7_spoken_0 rfl, List.forall_mem_cons.mpr ⟨s_iload_n d_X7_spoken_1 rfl, List.forall_mem_cons.mpr ⟨s_iload_n d_X7_spoken_2 rfl, List.forall_mem_cons.mpr ⟨s_cV (T := TX7) (N := 30) rfl d_X7_spoken_3 rfl k_4_223 k_4_225 k_0_37 k_1_12 k_4_226 ⟨by decide, by decide⟩ (by decide +kernel) (by decide), List.forall_mem_cons.mpr ⟨s_istore d_X7_spoken_6 (by decide), List.forall_mem_cons.mpr ⟨s_aload_n d_X7_spoken_8 rfl, List.forall_mem_cons.mpr ⟨s_gf d_X7_spoken_9 rfl (by decide) n_X7 in_X7 rfl k_4_38, List.forall_mem_cons.mpr ⟨s_iload_n d_X7_spoken_12 rfl, List.forall_mem_cons.mpr ⟨s_iald d_X7_spoken_13, List.forall_mem_cons.mpr ⟨s_tsw d_X7_spoken_14 (by decide +kernel) (by decide) (by decide), List.forall_mem_cons.mpr ⟨s_iconst d_X7_spoken_40 rfl, List.forall_mem_cons.mpr ⟨s_iload d_X7_spoken_41, fun _ h => absurd h List.not_mem_nil⟩⟩⟩⟩⟩⟩⟩⟩⟩⟩⟩⟩
def t_X7_spoken_1 : List (Nat × QO) := [(43, o_b (fun x y => x * y) 44), (44, o_ir false), (45, o_al 0 46), (46, o_gf 7 5 49), (49, o_il 2 50), (50, o_iald 51), (51, o_k 10 53), (53, o_ic (fun x y => decide (y < x)) 63 56), (56, o_il 4 58), (58, o_k 4 59), (59, o_b (fun x y => x + y) 60), (60, o_goto 65)]
theorem ts_X7_spoken_1 (sx : QX) : ∀ q ∈ t_X7_spoken_1, q_Snd sx RX7 cX7_spoken 5 (some .int) q.1 q.2 := List.forall_mem_cons.mpr ⟨s_imul d_X7_spoken_43, List.forall_mem_cons.mpr ⟨s_ir d_X7_spoken_44 rfl, List.forall_mem_cons.mpr ⟨s_aload_n d_X7_spoken_45 rfl, List.forall_mem_cons.mpr ⟨s_gf d_X7_spoken_46 rfl (by decide) n_X7 in_X7 rfl k_4_34, List.forall_mem_cons.mpr ⟨s_iload_n d_X7_spoken_49 rfl, List.forall_mem_cons.mpr ⟨s_iald d_X7_spoken_50, List.forall_mem_cons.mpr ⟨s_bipush d_X7_spoken_51 rfl, List.forall_mem_cons.mpr ⟨s_ic_gt d_X7_spoken_53 (by decide), List.forall_mem_cons.mpr ⟨s_iload d_X7_spoken_56, List.forall_mem_cons.mpr ⟨s_iconst d_X7_spoken_58 rfl, List.forall_mem_cons.mpr ⟨s_iadd d_X7_spoken_59, List.forall_mem_cons.mpr ⟨s_goto d_X7_spoken_60 (by decide), fun _ h => absurd h List.not_mem_nil⟩⟩⟩⟩⟩⟩⟩⟩⟩⟩⟩⟩
def t_X7_spoken_2 : List (Nat × QO) := [(63, o_il 4 65), (65, o_ir false), (66, o_il 3 67), (67, o_if (fun x => decide (x ≠ 0)) 77 70), (70, o_il 4 72), (72, o_k 3 73), (73, o_b (fun x y => x + y) 74), (74, o_goto 79), (77, o_il 4 79), (79, o_ir false), (80, o_il 4 82), (82, o_ir false)]
theorem ts_X7_spoken_2 (sx : QX) : ∀ q ∈ t_X7_spoken_2, q_Snd sx RX7 cX7_spoken 5 (some .int) q.1 q.2 := List.forall_mem_cons.mpr ⟨s_iload d_X7_spoken_63, List.forall_mem_cons.mpr ⟨s_ir d_X7_spoken_65 rfl, List.forall_mem_cons.mpr ⟨s_iload_n d_X7_spoken_66 rfl, List.forall_mem_cons.mpr ⟨s_if_ne d_X7_spoken_67 (by decide), List.forall_mem_cons.mpr ⟨s_iload d_X7_spoken_70, List.forall_mem_cons.mpr ⟨s_iconst d_X7_spoken_72 rfl, List.forall_mem_cons.mpr ⟨s_iadd d_X7_spoken_73, List.forall_mem_cons.mpr ⟨s_goto d_X7_spoken_74 (by decide), List.forall_mem_cons.mpr ⟨s_iload d_X7_spoken_77, List.forall_mem_cons.mpr ⟨s_ir d_X7_spoken_79 rfl, List.forall_mem_cons.mpr ⟨s_iload d_X7_spoken_80, List.forall_mem_cons.mpr ⟨s_ir d_X7_spoken_82 rfl, fun _ h => absurd h List.not_mem_nil⟩⟩⟩⟩⟩⟩⟩⟩⟩⟩⟩⟩
def t_X7_spoken (pc : Nat) : Option QO := cond (Nat.ble pc 41) (q_look (t_X7_spoken_0) pc) (cond (Nat.ble pc 60) (q_look (t_X7_spoken_1) pc) (q_look (t_X7_spoken_2) pc))
theorem ts_X7_spoken (sx : QX) (pc : Nat) : ∀ o, t_X7_spoken pc = some o → q_Snd sx RX7 cX7_spoken 5 (some .int) pc o := by
  unfold t_X7_spoken
  exact q_cb (q_look_all (ts_X7_spoken_0 sx)) (q_cb (q_look_all (ts_X7_spoken_1 sx)) (q_look_all (ts_X7_spoken_2 sx)))
theorem d_X7_worthOf_0 : decode cX7_worthOf 0 = .ok (.aload_n 0, 1) := by decide +kernel
theorem d_X7_worthOf_1 : decode cX7_worthOf 1 = .ok (.iload_n 2, 1) := by decide +kernel
theorem d_X7_worthOf_2 : decode cX7_worthOf 2 = .ok (.iload_n 3, 1) := by decide +kernel
theorem d_X7_worthOf_3 : decode cX7_worthOf 3 = .ok (.iload 4, 2) := by decide +kernel
theorem d_X7_worthOf_5 : decode cX7_worthOf 5 = .ok (.invokevirtual 175, 3) := by decide +kernel
theorem d_X7_worthOf_8 : decode cX7_worthOf 8 = .ok (.aload_n 0, 1) := by decide +kernel
theorem d_X7_worthOf_9 : decode cX7_worthOf 9 = .ok (.iload_n 1, 1) := by decide +kernel
theorem d_X7_worthOf_10 : decode cX7_worthOf 10 = .ok (.iload_n 3, 1) := by decide +kernel
theorem d_X7_worthOf_11 : decode cX7_worthOf 11 = .ok (.iload 4, 2) := by decide +kernel
theorem d_X7_worthOf_13 : decode cX7_worthOf 13 = .ok (.invokevirtual 179, 3) := by decide +kernel
theorem d_X7_worthOf_16 : decode cX7_worthOf 16 = .ok (.invokestatic 182, 3) := by decide +kernel
theorem d_X7_worthOf_19 : decode cX7_worthOf 19 = .ok (.ireturn, 1) := by decide +kernel
def t_X7_worthOf_0 : List (Nat × QO) := [(0, o_al 0 1), (1, o_il 2 2), (2, o_il 3 3), (3, o_il 4 5), (5, o_cV 1 7 135 5 4 8), (8, o_al 0 9), (9, o_il 1 10), (10, o_il 3 11), (11, o_il 4 13), (13, o_cV 1 7 134 4 4 16), (16, o_cS 1 133 2 2 19), (19, o_ir false)]
theorem ts_X7_worthOf_0 (sx : QX) : ∀ q ∈ t_X7_worthOf_0, q_Snd sx RX7 cX7_worthOf 5 (some .int) q.1 q.2 := List.forall_mem_cons.mpr ⟨s_aload_n d_X7_worthOf_0 rfl, List.forall_mem_cons.mpr ⟨s_iload_n d_X7_worthOf_1 rfl, List.forall_mem_cons.mpr ⟨s_iload_n d_X7_worthOf_2 rfl, List.forall_mem_cons.mpr ⟨s_iload d_X7_worthOf_3, List.forall_mem_cons.mpr ⟨s_cV (T := TX7) (N := 30) rfl d_X7_worthOf_5 rfl k_4_219 k_4_221 k_0_36 k_1_12 k_4_222 ⟨by decide, by decide⟩ (by decide +kernel) (by decide), List.forall_mem_cons.mpr ⟨s_aload_n d_X7_worthOf_8 rfl, List.forall_mem_cons.mpr ⟨s_iload_n d_X7_worthOf_9 rfl, List.forall_mem_cons.mpr ⟨s_iload_n d_X7_worthOf_10 rfl, List.forall_mem_cons.mpr ⟨s_iload d_X7_worthOf_11, List.forall_mem_cons.mpr ⟨s_cV (T := TX7) (N := 30) rfl d_X7_worthOf_13 rfl k_4_227 k_4_229 k_0_38 k_1_12 k_4_230 ⟨by decide, by decide⟩ (by decide +kernel) (by decide), List.forall_mem_cons.mpr ⟨s_cS rfl d_X7_worthOf_16 k_4_231 k_4_232 k_1_12 k_4_233 ⟨by decide, by decide⟩ (by decide +kernel) (by decide), List.forall_mem_cons.mpr ⟨s_ir d_X7_worthOf_19 rfl, fun _ h => absurd h List.not_mem_nil⟩⟩⟩⟩⟩⟩⟩⟩⟩⟩⟩⟩
def t_X7_worthOf (pc : Nat) : Option QO := q_look (t_X7_worthOf_0) pc
theorem ts_X7_worthOf (sx : QX) (pc : Nat) : ∀ o, t_X7_worthOf pc = some o → q_Snd sx RX7 cX7_worthOf 5 (some .int) pc o := by
  unfold t_X7_worthOf
  exact q_look_all (ts_X7_worthOf_0 sx)
theorem d_X7_worth_0 : decode cX7_worth 0 = .ok (.aload_n 0, 1) := by decide +kernel
theorem d_X7_worth_1 : decode cX7_worth 1 = .ok (.iload_n 1, 1) := by decide +kernel
theorem d_X7_worth_2 : decode cX7_worth 2 = .ok (.invokevirtual 168, 3) := by decide +kernel
theorem d_X7_worth_5 : decode cX7_worth 5 = .ok (.ifCond .eq 30, 3) := by decide +kernel
theorem d_X7_worth_8 : decode cX7_worth 8 = .ok (.aload_n 0, 1) := by decide +kernel
theorem d_X7_worth_9 : decode cX7_worth 9 = .ok (.iload_n 2, 1) := by decide +kernel
theorem d_X7_worth_10 : decode cX7_worth 10 = .ok (.invokevirtual 161, 3) := by decide +kernel
theorem d_X7_worth_13 : decode cX7_worth 13 = .ok (.ifCond .eq 22, 3) := by decide +kernel
theorem d_X7_worth_16 : decode cX7_worth 16 = .ok (.aload_n 0, 1) := by decide +kernel
theorem d_X7_worth_17 : decode cX7_worth 17 = .ok (.iload_n 3, 1) := by decide +kernel
theorem d_X7_worth_18 : decode cX7_worth 18 = .ok (.invokevirtual 165, 3) := by decide +kernel
theorem d_X7_worth_21 : decode cX7_worth 21 = .ok (.ifCond .eq 14, 3) := by decide +kernel
theorem d_X7_worth_24 : decode cX7_worth 24 = .ok (.aload_n 0, 1) := by decide +kernel
theorem d_X7_worth_25 : decode cX7_worth 25 = .ok (.iconst 0, 1) := by decide +kernel
theorem d_X7_worth_26 : decode cX7_worth 26 = .ok (.iload_n 1, 1) := by decide +kernel
theorem d_X7_worth_27 : decode cX7_worth 27 = .ok (.iload_n 2, 1) := by decide +kernel
theorem d_X7_worth_28 : decode cX7_worth 28 = .ok (.iload_n 3, 1) := by decide +kernel
theorem d_X7_worth_29 : decode cX7_worth 29 = .ok (.invokevirtual 185, 3) := by decide +kernel
theorem d_X7_worth_32 : decode cX7_worth 32 = .ok (.goto 4, 3) := by decide +kernel
theorem d_X7_worth_35 : decode cX7_worth 35 = .ok (.iconst (-1), 1) := by decide +kernel
theorem d_X7_worth_36 : decode cX7_worth 36 = .ok (.ireturn, 1) := by decide +kernel
def t_X7_worth_0 : List (Nat × QO) := [(0, o_al 0 1), (1, o_il 1 2), (2, o_cV 1 7 108 2 2 5), (5, o_if (fun x => decide (x = 0)) 35 8), (8, o_al 0 9), (9, o_il 2 10), (10, o_cV 1 7 106 2 2 13), (13, o_if (fun x => decide (x = 0)) 35 16), (16, o_al 0 17), (17, o_il 3 18), (18, o_cV 1 7 107 2 2 21), (21, o_if (fun x => decide (x = 0)) 35 24)]
theorem ts_X7_worth_0 (sx : QX) : ∀ q ∈ t_X7_worth_0, q_Snd sx RX7 cX7_worth 4 (some .int) q.1 q.2 := List.forall_mem_cons.mpr ⟨s_aload_n d_X7_worth_0 rfl, List.forall_mem_cons.mpr ⟨s_iload_n d_X7_worth_1 rfl, List.forall_mem_cons.mpr ⟨s_cV (T := TX7) (N := 30) rfl d_X7_worth_2 rfl k_4_199 k_4_201 k_0_34 k_1_12 k_4_202 ⟨by decide, by decide⟩ (by decide +kernel) (by decide), List.forall_mem_cons.mpr ⟨s_if_eq d_X7_worth_5 (by decide), List.forall_mem_cons.mpr ⟨s_aload_n d_X7_worth_8 rfl, List.forall_mem_cons.mpr ⟨s_iload_n d_X7_worth_9 rfl, List.forall_mem_cons.mpr ⟨s_cV (T := TX7) (N := 30) rfl d_X7_worth_10 rfl k_4_183 k_4_185 k_0_32 k_1_12 k_4_186 ⟨by decide, by decide⟩ (by decide +kernel) (by decide), List.forall_mem_cons.mpr ⟨s_if_eq d_X7_worth_13 (by decide), List.forall_mem_cons.mpr ⟨s_aload_n d_X7_worth_16 rfl, List.forall_mem_cons.mpr ⟨s_iload_n d_X7_worth_17 rfl, List.forall_mem_cons.mpr ⟨s_cV (T := TX7) (N := 30) rfl d_X7_worth_18 rfl k_4_191 k_4_193 k_0_33 k_1_12 k_4_194 ⟨by decide, by decide⟩ (by decide +kernel) (by decide), List.forall_mem_cons.mpr ⟨s_if_eq d_X7_worth_21 (by decide), fun _ h => absurd h List.not_mem_nil⟩⟩⟩⟩⟩⟩⟩⟩⟩⟩⟩⟩
def t_X7_worth_1 : List (Nat × QO) := [(24, o_al 0 25), (25, o_k 0 26), (26, o_il 1 27), (27, o_il 2 28), (28, o_il 3 29), (29, o_cV 1 7 136 5 5 32), (32, o_goto 36), (35, o_k (-1) 36), (36, o_ir false)]
theorem ts_X7_worth_1 (sx : QX) : ∀ q ∈ t_X7_worth_1, q_Snd sx RX7 cX7_worth 4 (some .int) q.1 q.2 := List.forall_mem_cons.mpr ⟨s_aload_n d_X7_worth_24 rfl, List.forall_mem_cons.mpr ⟨s_iconst d_X7_worth_25 rfl, List.forall_mem_cons.mpr ⟨s_iload_n d_X7_worth_26 rfl, List.forall_mem_cons.mpr ⟨s_iload_n d_X7_worth_27 rfl, List.forall_mem_cons.mpr ⟨s_iload_n d_X7_worth_28 rfl, List.forall_mem_cons.mpr ⟨s_cV (T := TX7) (N := 30) rfl d_X7_worth_29 rfl k_4_215 k_4_217 k_0_35 k_1_12 k_4_218 ⟨by decide, by decide⟩ (by decide +kernel) (by decide), List.forall_mem_cons.mpr ⟨s_goto d_X7_worth_32 (by decide), List.forall_mem_cons.mpr ⟨s_iconst d_X7_worth_35 rfl, List.forall_mem_cons.mpr ⟨s_ir d_X7_worth_36 rfl, fun _ h => absurd h List.not_mem_nil⟩⟩⟩⟩⟩⟩⟩⟩⟩
def t_X7_worth (pc : Nat) : Option QO := cond (Nat.ble pc 21) (q_look (t_X7_worth_0) pc) (q_look (t_X7_worth_1) pc)
theorem ts_X7_worth (sx : QX) (pc : Nat) : ∀ o, t_X7_worth pc = some o → q_Snd sx RX7 cX7_worth 4 (some .int) pc o := by
  unfold t_X7_worth
  exact q_cb (q_look_all (ts_X7_worth_0 sx)) (q_look_all (ts_X7_worth_1 sx))
theorem d_X7_inBed_0 : decode cX7_inBed 0 = .ok (.iload_n 2, 1) := by decide +kernel
theorem d_X7_inBed_1 : decode cX7_inBed 1 = .ok (.i2l, 1) := by decide +kernel
theorem d_X7_inBed_2 : decode cX7_inBed 2 = .ok (.lconst 0, 1) := by decide +kernel
theorem d_X7_inBed_3 : decode cX7_inBed 3 = .ok (.aload_n 0, 1) := by decide +kernel
theorem d_X7_inBed_4 : decode cX7_inBed 4 = .ok (.getfield 82, 3) := by decide +kernel
theorem d_X7_inBed_7 : decode cX7_inBed 7 = .ok (.iconst 1, 1) := by decide +kernel
theorem d_X7_inBed_8 : decode cX7_inBed 8 = .ok (.isub, 1) := by decide +kernel
theorem d_X7_inBed_9 : decode cX7_inBed 9 = .ok (.i2l, 1) := by decide +kernel
theorem d_X7_inBed_10 : decode cX7_inBed 10 = .ok (.invokestatic 85, 3) := by decide +kernel
theorem d_X7_inBed_13 : decode cX7_inBed 13 = .ok (.ifCond .eq 21, 3) := by decide +kernel
theorem d_X7_inBed_16 : decode cX7_inBed 16 = .ok (.aload_n 0, 1) := by decide +kernel
theorem d_X7_inBed_17 : decode cX7_inBed 17 = .ok (.getfield 7, 3) := by decide +kernel
theorem d_X7_inBed_20 : decode cX7_inBed 20 = .ok (.iload_n 1, 1) := by decide +kernel
theorem d_X7_inBed_21 : decode cX7_inBed 21 = .ok (.bipush 7, 2) := by decide +kernel
theorem d_X7_inBed_23 : decode cX7_inBed 23 = .ok (.iadd, 1) := by decide +kernel
theorem d_X7_inBed_24 : decode cX7_inBed 24 = .ok (.iload_n 2, 1) := by decide +kernel
theorem d_X7_inBed_25 : decode cX7_inBed 25 = .ok (.iadd, 1) := by decide +kernel
theorem d_X7_inBed_26 : decode cX7_inBed 26 = .ok (.iaload, 1) := by decide +kernel
theorem d_X7_inBed_27 : decode cX7_inBed 27 = .ok (.ifCond .ne 7, 3) := by decide +kernel
theorem d_X7_inBed_30 : decode cX7_inBed 30 = .ok (.iconst 1, 1) := by decide +kernel
theorem d_X7_inBed_31 : decode cX7_inBed 31 = .ok (.goto 4, 3) := by decide +kernel
theorem d_X7_inBed_34 : decode cX7_inBed 34 = .ok (.iconst 0, 1) := by decide +kernel
theorem d_X7_inBed_35 : decode cX7_inBed 35 = .ok (.ireturn, 1) := by decide +kernel
def t_X7_inBed_0 : List (Nat × QO) := [(0, o_il 2 1), (1, o_i2l 2), (2, o_kl 0 3), (3, o_al 0 4), (4, o_gf 7 3 7), (7, o_k 1 8), (8, o_b (fun x y => x - y) 9), (9, o_i2l 10), (10, o_cS 1 102 6 3 13), (13, o_if (fun x => decide (x = 0)) 34 16), (16, o_al 0 17), (17, o_gf 7 0 20)]
theorem ts_X7_inBed_0 (sx : QX) : ∀ q ∈ t_X7_inBed_0, q_Snd sx RX7 cX7_inBed 3 (some .boolean) q.1 q.2 := List.forall_mem_cons.mpr ⟨s_iload_n d_X7_inBed_0 rfl, List.forall_mem_cons.mpr ⟨s_i2l d_X7_inBed_1, List.forall_mem_cons.mpr ⟨s_lconst d_X7_inBed_2 rfl, List.forall_mem_cons.mpr ⟨s_aload_n d_X7_inBed_3 rfl, List.forall_mem_cons.mpr ⟨s_gf d_X7_inBed_4 rfl (by decide) n_X7 in_X7 rfl k_4_32, List.forall_mem_cons.mpr ⟨s_iconst d_X7_inBed_7 rfl, List.forall_mem_cons.mpr ⟨s_isub d_X7_inBed_8, List.forall_mem_cons.mpr ⟨s_i2l d_X7_inBed_9, List.forall_mem_cons.mpr ⟨s_cS rfl d_X7_inBed_10 k_4_126 k_4_127 k_1_12 k_4_128 ⟨by decide, by decide⟩ (by decide +kernel) (by decide), List.forall_mem_cons.mpr ⟨s_if_eq d_X7_inBed_13 (by decide), List.forall_mem_cons.mpr ⟨s_aload_n d_X7_inBed_16 rfl, List.forall_mem_cons.mpr ⟨s_gf d_X7_inBed_17 rfl (by decide) n_X7 in_X7 rfl k_4_29, fun _ h => absurd h List.not_mem_nil⟩⟩⟩⟩⟩⟩⟩⟩⟩⟩⟩⟩
def t_X7_inBed_1 : List (Nat × QO) := [(20, o_il 1 21), (21, o_k 7 23), (23, o_b (fun x y => x + y) 24), (24, o_il 2 25), (25, o_b (fun x y => x + y) 26), (26, o_iald 27), (27, o_if (fun x => decide (x ≠ 0)) 34 30), (30, o_k 1 31), (31, o_goto 35), (34, o_k 0 35), (35, o_ir true)]
theorem ts_X7_inBed_1 (sx : QX) : ∀ q ∈ t_X7_inBed_1, q_Snd sx RX7 cX7_inBed 3 (some .boolean) q.1 q.2 := List.forall_mem_cons.mpr ⟨s_iload_n d_X7_inBed_20 rfl, List.forall_mem_cons.mpr ⟨s_bipush d_X7_inBed_21 rfl, List.forall_mem_cons.mpr ⟨s_iadd d_X7_inBed_23, List.forall_mem_cons.mpr ⟨s_iload_n d_X7_inBed_24 rfl, List.forall_mem_cons.mpr ⟨s_iadd d_X7_inBed_25, List.forall_mem_cons.mpr ⟨s_iald d_X7_inBed_26, List.forall_mem_cons.mpr ⟨s_if_ne d_X7_inBed_27 (by decide), List.forall_mem_cons.mpr ⟨s_iconst d_X7_inBed_30 rfl, List.forall_mem_cons.mpr ⟨s_goto d_X7_inBed_31 (by decide), List.forall_mem_cons.mpr ⟨s_iconst d_X7_inBed_34 rfl, List.forall_mem_cons.mpr ⟨s_zr d_X7_inBed_35 rfl, fun _ h => absurd h List.not_mem_nil⟩⟩⟩⟩⟩⟩⟩⟩⟩⟩⟩
def t_X7_inBed (pc : Nat) : Option QO := cond (Nat.ble pc 17) (q_look (t_X7_inBed_0) pc) (q_look (t_X7_inBed_1) pc)
theorem ts_X7_inBed (sx : QX) (pc : Nat) : ∀ o, t_X7_inBed pc = some o → q_Snd sx RX7 cX7_inBed 3 (some .boolean) pc o := by
  unfold t_X7_inBed
  exact q_cb (q_look_all (ts_X7_inBed_0 sx)) (q_look_all (ts_X7_inBed_1 sx))
theorem d_X7_hears_0 : decode cX7_hears 0 = .ok (.iload_n 2, 1) := by decide +kernel
theorem d_X7_hears_1 : decode cX7_hears 1 = .ok (.iload_n 3, 1) := by decide +kernel
theorem d_X7_hears_2 : decode cX7_hears 2 = .ok (.if_icmp .ge 9, 3) := by decide +kernel
theorem d_X7_hears_5 : decode cX7_hears 5 = .ok (.iload_n 3, 1) := by decide +kernel
theorem d_X7_hears_6 : decode cX7_hears 6 = .ok (.iload_n 2, 1) := by decide +kernel
theorem d_X7_hears_7 : decode cX7_hears 7 = .ok (.isub, 1) := by decide +kernel
theorem d_X7_hears_8 : decode cX7_hears 8 = .ok (.goto 6, 3) := by decide +kernel
theorem d_X7_hears_11 : decode cX7_hears 11 = .ok (.iload_n 2, 1) := by decide +kernel
theorem d_X7_hears_12 : decode cX7_hears 12 = .ok (.iload_n 3, 1) := by decide +kernel
theorem d_X7_hears_13 : decode cX7_hears 13 = .ok (.isub, 1) := by decide +kernel
theorem d_X7_hears_14 : decode cX7_hears 14 = .ok (.istore 4, 2) := by decide +kernel
theorem d_X7_hears_16 : decode cX7_hears 16 = .ok (.iload 4, 2) := by decide +kernel
theorem d_X7_hears_18 : decode cX7_hears 18 = .ok (.ifCond .eq 37, 3) := by decide +kernel
theorem d_X7_hears_21 : decode cX7_hears 21 = .ok (.aload_n 0, 1) := by decide +kernel
theorem d_X7_hears_22 : decode cX7_hears 22 = .ok (.iload_n 1, 1) := by decide +kernel
theorem d_X7_hears_23 : decode cX7_hears 23 = .ok (.iload_n 3, 1) := by decide +kernel
theorem d_X7_hears_24 : decode cX7_hears 24 = .ok (.invokevirtual 189, 3) := by decide +kernel
theorem d_X7_hears_27 : decode cX7_hears 27 = .ok (.ifCond .eq 32, 3) := by decide +kernel
theorem d_X7_hears_30 : decode cX7_hears 30 = .ok (.iload 4, 2) := by decide +kernel
theorem d_X7_hears_32 : decode cX7_hears 32 = .ok (.iconst 1, 1) := by decide +kernel
theorem d_X7_hears_33 : decode cX7_hears 33 = .ok (.if_icmp .eq 22, 3) := by decide +kernel
theorem d_X7_hears_36 : decode cX7_hears 36 = .ok (.iload 4, 2) := by decide +kernel
theorem d_X7_hears_38 : decode cX7_hears 38 = .ok (.iconst 2, 1) := by decide +kernel
theorem d_X7_hears_39 : decode cX7_hears 39 = .ok (.if_icmp .ne 20, 3) := by decide +kernel
theorem d_X7_hears_42 : decode cX7_hears 42 = .ok (.aload_n 0, 1) := by decide +kernel
theorem d_X7_hears_43 : decode cX7_hears 43 = .ok (.iload_n 1, 1) := by decide +kernel
theorem d_X7_hears_44 : decode cX7_hears 44 = .ok (.iload_n 2, 1) := by decide +kernel
theorem d_X7_hears_45 : decode cX7_hears 45 = .ok (.iload_n 3, 1) := by decide +kernel
theorem d_X7_hears_46 : decode cX7_hears 46 = .ok (.iadd, 1) := by decide +kernel
theorem d_X7_hears_47 : decode cX7_hears 47 = .ok (.iconst 2, 1) := by decide +kernel
theorem d_X7_hears_48 : decode cX7_hears 48 = .ok (.idiv, 1) := by decide +kernel
theorem d_X7_hears_49 : decode cX7_hears 49 = .ok (.invokevirtual 189, 3) := by decide +kernel
theorem d_X7_hears_52 : decode cX7_hears 52 = .ok (.ifCond .eq 7, 3) := by decide +kernel
theorem d_X7_hears_55 : decode cX7_hears 55 = .ok (.iconst 1, 1) := by decide +kernel
theorem d_X7_hears_56 : decode cX7_hears 56 = .ok (.goto 4, 3) := by decide +kernel
theorem d_X7_hears_59 : decode cX7_hears 59 = .ok (.iconst 0, 1) := by decide +kernel
theorem d_X7_hears_60 : decode cX7_hears 60 = .ok (.ireturn, 1) := by decide +kernel
def t_X7_hears_0 : List (Nat × QO) := [(0, o_il 2 1), (1, o_il 3 2), (2, o_ic (fun x y => decide (y ≤ x)) 11 5), (5, o_il 3 6), (6, o_il 2 7), (7, o_b (fun x y => x - y) 8), (8, o_goto 14), (11, o_il 2 12), (12, o_il 3 13), (13, o_b (fun x y => x - y) 14), (14, o_is 4 16), (16, o_il 4 18)]
theorem ts_X7_hears_0 (sx : QX) : ∀ q ∈ t_X7_hears_0, q_Snd sx RX7 cX7_hears 5 (some .boolean) q.1 q.2 := List.forall_mem_cons.mpr ⟨s_iload_n d_X7_hears_0 rfl, List.forall_mem_cons.mpr ⟨s_iload_n d_X7_hears_1 rfl, List.forall_mem_cons.mpr ⟨s_ic_ge d_X7_hears_2 (by decide), List.forall_mem_cons.mpr ⟨s_iload_n d_X7_hears_5 rfl, List.forall_mem_cons.mpr ⟨s_iload_n d_X7_hears_6 rfl, List.forall_mem_cons.mpr ⟨s_isub d_X7_hears_7, List.forall_mem_cons.mpr ⟨s_goto d_X7_hears_8 (by decide), List.forall_mem_cons.mpr ⟨s_iload_n d_X7_hears_11 rfl, List.forall_mem_cons.mpr ⟨s_iload_n d_X7_hears_12 rfl, List.forall_mem_cons.mpr ⟨s_isub d_X7_hears_13, List.forall_mem_cons.mpr ⟨s_istore d_X7_hears_14 (by decide), List.forall_mem_cons.mpr ⟨s_iload d_X7_hears_16, fun _ h => absurd h List.not_mem_nil⟩⟩⟩⟩⟩⟩⟩⟩⟩⟩⟩⟩
def t_X7_hears_1 : List (Nat × QO) := [(18, o_if (fun x => decide (x = 0)) 55 21), (21, o_al 0 22), (22, o_il 1 23), (23, o_il 3 24), (24, o_cV 1 7 138 3 3 27), (27, o_if (fun x => decide (x = 0)) 59 30), (30, o_il 4 32), (32, o_k 1 33), (33, o_ic (fun x y => decide (x = y)) 55 36), (36, o_il 4 38), (38, o_k 2 39), (39, o_ic (fun x y => decide (x ≠ y)) 59 42)]
theorem ts_X7_hears_1 (sx : QX) : ∀ q ∈ t_X7_hears_1, q_Snd sx RX7 cX7_hears 5 (some .boolean) q.1 q.2 := List.forall_mem_cons.mpr ⟨s_if_eq d_X7_hears_18 (by decide), List.forall_mem_cons.mpr ⟨s_aload_n d_X7_hears_21 rfl, List.forall_mem_cons.mpr ⟨s_iload_n d_X7_hears_22 rfl, List.forall_mem_cons.mpr ⟨s_iload_n d_X7_hears_23 rfl, List.forall_mem_cons.mpr ⟨s_cV (T := TX7) (N := 30) rfl d_X7_hears_24 rfl k_5_2 k_5_4 k_0_40 k_1_12 k_5_5 ⟨by decide, by decide⟩ (by decide +kernel) (by decide), List.forall_mem_cons.mpr ⟨s_if_eq d_X7_hears_27 (by decide), List.forall_mem_cons.mpr ⟨s_iload d_X7_hears_30, List.forall_mem_cons.mpr ⟨s_iconst d_X7_hears_32 rfl, List.forall_mem_cons.mpr ⟨s_ic_eq d_X7_hears_33 (by decide), List.forall_mem_cons.mpr ⟨s_iload d_X7_hears_36, List.forall_mem_cons.mpr ⟨s_iconst d_X7_hears_38 rfl, List.forall_mem_cons.mpr ⟨s_ic_ne d_X7_hears_39 (by decide), fun _ h => absurd h List.not_mem_nil⟩⟩⟩⟩⟩⟩⟩⟩⟩⟩⟩⟩
def t_X7_hears_2 : List (Nat × QO) := [(42, o_al 0 43), (43, o_il 1 44), (44, o_il 2 45), (45, o_il 3 46), (46, o_b (fun x y => x + y) 47), (47, o_k 2 48), (48, o_bz (fun x y => x / y) 49), (49, o_cV 1 7 138 3 3 52), (52, o_if (fun x => decide (x = 0)) 59 55), (55, o_k 1 56), (56, o_goto 60), (59, o_k 0 60)]
theorem ts_X7_hears_2 (sx : QX) : ∀ q ∈ t_X7_hears_2, q_Snd sx RX7 cX7_hears 5 (some .boolean) q.1 q.2 := List.forall_mem_cons.mpr ⟨s_aload_n d_X7_hears_42 rfl, List.forall_mem_cons.mpr ⟨s_iload_n d_X7_hears_43 rfl, List.forall_mem_cons.mpr ⟨s_iload_n d_X7_hears_44 rfl, List.forall_mem_cons.mpr ⟨s_iload_n d_X7_hears_45 rfl, List.forall_mem_cons.mpr ⟨s_iadd d_X7_hears_46, List.forall_mem_cons.mpr ⟨s_iconst d_X7_hears_47 rfl, List.forall_mem_cons.mpr ⟨s_idiv d_X7_hears_48, List.forall_mem_cons.mpr ⟨s_cV (T := TX7) (N := 30) rfl d_X7_hears_49 rfl k_5_2 k_5_4 k_0_40 k_1_12 k_5_5 ⟨by decide, by decide⟩ (by decide +kernel) (by decide), List.forall_mem_cons.mpr ⟨s_if_eq d_X7_hears_52 (by decide), List.forall_mem_cons.mpr ⟨s_iconst d_X7_hears_55 rfl, List.forall_mem_cons.mpr ⟨s_goto d_X7_hears_56 (by decide), List.forall_mem_cons.mpr ⟨s_iconst d_X7_hears_59 rfl, fun _ h => absurd h List.not_mem_nil⟩⟩⟩⟩⟩⟩⟩⟩⟩⟩⟩⟩
def t_X7_hears_3 : List (Nat × QO) := [(60, o_ir true)]
theorem ts_X7_hears_3 (sx : QX) : ∀ q ∈ t_X7_hears_3, q_Snd sx RX7 cX7_hears 5 (some .boolean) q.1 q.2 := List.forall_mem_cons.mpr ⟨s_zr d_X7_hears_60 rfl, fun _ h => absurd h List.not_mem_nil⟩
def t_X7_hears (pc : Nat) : Option QO := cond (Nat.ble pc 39) (cond (Nat.ble pc 16) (q_look (t_X7_hears_0) pc) (q_look (t_X7_hears_1) pc)) (cond (Nat.ble pc 59) (q_look (t_X7_hears_2) pc) (q_look (t_X7_hears_3) pc))
theorem ts_X7_hears (sx : QX) (pc : Nat) : ∀ o, t_X7_hears pc = some o → q_Snd sx RX7 cX7_hears 5 (some .boolean) pc o := by
  unfold t_X7_hears
  exact q_cb (q_cb (q_look_all (ts_X7_hears_0 sx)) (q_look_all (ts_X7_hears_1 sx))) (q_cb (q_look_all (ts_X7_hears_2 sx)) (q_look_all (ts_X7_hears_3 sx)))
theorem d_X7_comes_0 : decode cX7_comes 0 = .ok (.aload_n 0, 1) := by decide +kernel
theorem d_X7_comes_1 : decode cX7_comes 1 = .ok (.iload_n 1, 1) := by decide +kernel
theorem d_X7_comes_2 : decode cX7_comes 2 = .ok (.iload_n 2, 1) := by decide +kernel
theorem d_X7_comes_3 : decode cX7_comes 3 = .ok (.invokevirtual 189, 3) := by decide +kernel
theorem d_X7_comes_6 : decode cX7_comes 6 = .ok (.ifCond .eq 34, 3) := by decide +kernel
theorem d_X7_comes_9 : decode cX7_comes 9 = .ok (.aload_n 0, 1) := by decide +kernel
theorem d_X7_comes_10 : decode cX7_comes 10 = .ok (.getfield 7, 3) := by decide +kernel
theorem d_X7_comes_13 : decode cX7_comes 13 = .ok (.iload_n 1, 1) := by decide +kernel
theorem d_X7_comes_14 : decode cX7_comes 14 = .ok (.iconst 1, 1) := by decide +kernel
theorem d_X7_comes_15 : decode cX7_comes 15 = .ok (.iadd, 1) := by decide +kernel
theorem d_X7_comes_16 : decode cX7_comes 16 = .ok (.iload_n 2, 1) := by decide +kernel
theorem d_X7_comes_17 : decode cX7_comes 17 = .ok (.iadd, 1) := by decide +kernel
theorem d_X7_comes_18 : decode cX7_comes 18 = .ok (.iaload, 1) := by decide +kernel
theorem d_X7_comes_19 : decode cX7_comes 19 = .ok (.aload_n 0, 1) := by decide +kernel
theorem d_X7_comes_20 : decode cX7_comes 20 = .ok (.getfield 16, 3) := by decide +kernel
theorem d_X7_comes_23 : decode cX7_comes 23 = .ok (.iload_n 2, 1) := by decide +kernel
theorem d_X7_comes_24 : decode cX7_comes 24 = .ok (.iaload, 1) := by decide +kernel
theorem d_X7_comes_25 : decode cX7_comes 25 = .ok (.if_icmp .lt 15, 3) := by decide +kernel
theorem d_X7_comes_28 : decode cX7_comes 28 = .ok (.aload_n 0, 1) := by decide +kernel
theorem d_X7_comes_29 : decode cX7_comes 29 = .ok (.getfield 7, 3) := by decide +kernel
theorem d_X7_comes_32 : decode cX7_comes 32 = .ok (.iload_n 1, 1) := by decide +kernel
theorem d_X7_comes_33 : decode cX7_comes 33 = .ok (.bipush 7, 2) := by decide +kernel
theorem d_X7_comes_35 : decode cX7_comes 35 = .ok (.iadd, 1) := by decide +kernel
theorem d_X7_comes_36 : decode cX7_comes 36 = .ok (.iload_n 2, 1) := by decide +kernel
theorem d_X7_comes_37 : decode cX7_comes 37 = .ok (.iadd, 1) := by decide +kernel
theorem d_X7_comes_38 : decode cX7_comes 38 = .ok (.iconst 1, 1) := by decide +kernel
theorem d_X7_comes_39 : decode cX7_comes 39 = .ok (.iastore, 1) := by decide +kernel
theorem d_X7_comes_40 : decode cX7_comes 40 = .ok (.return_, 1) := by decide +kernel
def t_X7_comes_0 : List (Nat × QO) := [(0, o_al 0 1), (1, o_il 1 2), (2, o_il 2 3), (3, o_cV 1 7 138 3 3 6), (6, o_if (fun x => decide (x = 0)) 40 9), (9, o_al 0 10), (10, o_gf 7 0 13), (13, o_il 1 14), (14, o_k 1 15), (15, o_b (fun x y => x + y) 16), (16, o_il 2 17), (17, o_b (fun x y => x + y) 18)]
theorem ts_X7_comes_0 (sx : QX) : ∀ q ∈ t_X7_comes_0, q_Snd sx RX7 cX7_comes 3 none q.1 q.2 := List.forall_mem_cons.mpr ⟨s_aload_n d_X7_comes_0 rfl, List.forall_mem_cons.mpr ⟨s_iload_n d_X7_comes_1 rfl, List.forall_mem_cons.mpr ⟨s_iload_n d_X7_comes_2 rfl, List.forall_mem_cons.mpr ⟨s_cV (T := TX7) (N := 30) rfl d_X7_comes_3 rfl k_5_2 k_5_4 k_0_40 k_1_12 k_5_5 ⟨by decide, by decide⟩ (by decide +kernel) (by decide), List.forall_mem_cons.mpr ⟨s_if_eq d_X7_comes_6 (by decide), List.forall_mem_cons.mpr ⟨s_aload_n d_X7_comes_9 rfl, List.forall_mem_cons.mpr ⟨s_gf d_X7_comes_10 rfl (by decide) n_X7 in_X7 rfl k_4_29, List.forall_mem_cons.mpr ⟨s_iload_n d_X7_comes_13 rfl, List.forall_mem_cons.mpr ⟨s_iconst d_X7_comes_14 rfl, List.forall_mem_cons.mpr ⟨s_iadd d_X7_comes_15, List.forall_mem_cons.mpr ⟨s_iload_n d_X7_comes_16 rfl, List.forall_mem_cons.mpr ⟨s_iadd d_X7_comes_17, fun _ h => absurd h List.not_mem_nil⟩⟩⟩⟩⟩⟩⟩⟩⟩⟩⟩⟩
def t_X7_comes_1 : List (Nat × QO) := [(18, o_iald 19), (19, o_al 0 20), (20, o_gf 7 5 23), (23, o_il 2 24), (24, o_iald 25), (25, o_ic (fun x y => decide (x < y)) 40 28), (28, o_al 0 29), (29, o_gf 7 0 32), (32, o_il 1 33), (33, o_k 7 35), (35, o_b (fun x y => x + y) 36), (36, o_il 2 37)]
theorem ts_X7_comes_1 (sx : QX) : ∀ q ∈ t_X7_comes_1, q_Snd sx RX7 cX7_comes 3 none q.1 q.2 := List.forall_mem_cons.mpr ⟨s_iald d_X7_comes_18, List.forall_mem_cons.mpr ⟨s_aload_n d_X7_comes_19 rfl, List.forall_mem_cons.mpr ⟨s_gf d_X7_comes_20 rfl (by decide) n_X7 in_X7 rfl k_4_34, List.forall_mem_cons.mpr ⟨s_iload_n d_X7_comes_23 rfl, List.forall_mem_cons.mpr ⟨s_iald d_X7_comes_24, List.forall_mem_cons.mpr ⟨s_ic_lt d_X7_comes_25 (by decide), List.forall_mem_cons.mpr ⟨s_aload_n d_X7_comes_28 rfl, List.forall_mem_cons.mpr ⟨s_gf d_X7_comes_29 rfl (by decide) n_X7 in_X7 rfl k_4_29, List.forall_mem_cons.mpr ⟨s_iload_n d_X7_comes_32 rfl, List.forall_mem_cons.mpr ⟨s_bipush d_X7_comes_33 rfl, List.forall_mem_cons.mpr ⟨s_iadd d_X7_comes_35, List.forall_mem_cons.mpr ⟨s_iload_n d_X7_comes_36 rfl, fun _ h => absurd h List.not_mem_nil⟩⟩⟩⟩⟩⟩⟩⟩⟩⟩⟩⟩
def t_X7_comes_2 : List (Nat × QO) := [(37, o_b (fun x y => x + y) 38), (38, o_k 1 39), (39, o_iast 40), (40, o_vr)]
theorem ts_X7_comes_2 (sx : QX) : ∀ q ∈ t_X7_comes_2, q_Snd sx RX7 cX7_comes 3 none q.1 q.2 := List.forall_mem_cons.mpr ⟨s_iadd d_X7_comes_37, List.forall_mem_cons.mpr ⟨s_iconst d_X7_comes_38 rfl, List.forall_mem_cons.mpr ⟨s_iast d_X7_comes_39, List.forall_mem_cons.mpr ⟨s_vr d_X7_comes_40 rfl, fun _ h => absurd h List.not_mem_nil⟩⟩⟩⟩
def t_X7_comes (pc : Nat) : Option QO := cond (Nat.ble pc 17) (q_look (t_X7_comes_0) pc) (cond (Nat.ble pc 36) (q_look (t_X7_comes_1) pc) (q_look (t_X7_comes_2) pc))
theorem ts_X7_comes (sx : QX) (pc : Nat) : ∀ o, t_X7_comes pc = some o → q_Snd sx RX7 cX7_comes 3 none pc o := by
  unfold t_X7_comes
  exact q_cb (q_look_all (ts_X7_comes_0 sx)) (q_cb (q_look_all (ts_X7_comes_1 sx)) (q_look_all (ts_X7_comes_2 sx)))
theorem d_X7_says_0 : decode cX7_says 0 = .ok (.aload_n 0, 1) := by decide +kernel
theorem d_X7_says_1 : decode cX7_says 1 = .ok (.getfield 7, 3) := by decide +kernel
theorem d_X7_says_4 : decode cX7_says 4 = .ok (.iload_n 1, 1) := by decide +kernel
theorem d_X7_says_5 : decode cX7_says 5 = .ok (.bipush 79, 2) := by decide +kernel
theorem d_X7_says_7 : decode cX7_says 7 = .ok (.iadd, 1) := by decide +kernel
theorem d_X7_says_8 : decode cX7_says 8 = .ok (.iload_n 2, 1) := by decide +kernel
theorem d_X7_says_9 : decode cX7_says 9 = .ok (.iadd, 1) := by decide +kernel
theorem d_X7_says_10 : decode cX7_says 10 = .ok (.dup2, 1) := by decide +kernel
theorem d_X7_says_11 : decode cX7_says 11 = .ok (.iaload, 1) := by decide +kernel
theorem d_X7_says_12 : decode cX7_says 12 = .ok (.iconst 1, 1) := by decide +kernel
theorem d_X7_says_13 : decode cX7_says 13 = .ok (.isub, 1) := by decide +kernel
theorem d_X7_says_14 : decode cX7_says 14 = .ok (.iastore, 1) := by decide +kernel
theorem d_X7_says_15 : decode cX7_says 15 = .ok (.aload_n 0, 1) := by decide +kernel
theorem d_X7_says_16 : decode cX7_says 16 = .ok (.getfield 7, 3) := by decide +kernel
theorem d_X7_says_19 : decode cX7_says 19 = .ok (.iload_n 1, 1) := by decide +kernel
theorem d_X7_says_20 : decode cX7_says 20 = .ok (.iconst 1, 1) := by decide +kernel
theorem d_X7_says_21 : decode cX7_says 21 = .ok (.iadd, 1) := by decide +kernel
theorem d_X7_says_22 : decode cX7_says 22 = .ok (.iload_n 3, 1) := by decide +kernel
theorem d_X7_says_23 : decode cX7_says 23 = .ok (.iadd, 1) := by decide +kernel
theorem d_X7_says_24 : decode cX7_says 24 = .ok (.dup2, 1) := by decide +kernel
theorem d_X7_says_25 : decode cX7_says 25 = .ok (.iaload, 1) := by decide +kernel
theorem d_X7_says_26 : decode cX7_says 26 = .ok (.aload_n 0, 1) := by decide +kernel
theorem d_X7_says_27 : decode cX7_says 27 = .ok (.iload_n 1, 1) := by decide +kernel
theorem d_X7_says_28 : decode cX7_says 28 = .ok (.iload_n 2, 1) := by decide +kernel
theorem d_X7_says_29 : decode cX7_says 29 = .ok (.iload_n 3, 1) := by decide +kernel
theorem d_X7_says_30 : decode cX7_says 30 = .ok (.iload 4, 2) := by decide +kernel
theorem d_X7_says_32 : decode cX7_says 32 = .ok (.invokevirtual 185, 3) := by decide +kernel
theorem d_X7_says_35 : decode cX7_says 35 = .ok (.iadd, 1) := by decide +kernel
theorem d_X7_says_36 : decode cX7_says 36 = .ok (.iastore, 1) := by decide +kernel
theorem d_X7_says_37 : decode cX7_says 37 = .ok (.iconst 0, 1) := by decide +kernel
theorem d_X7_says_38 : decode cX7_says 38 = .ok (.istore 5, 2) := by decide +kernel
theorem d_X7_says_40 : decode cX7_says 40 = .ok (.iload 5, 2) := by decide +kernel
theorem d_X7_says_42 : decode cX7_says 42 = .ok (.aload_n 0, 1) := by decide +kernel
theorem d_X7_says_43 : decode cX7_says 43 = .ok (.getfield 82, 3) := by decide +kernel
theorem d_X7_says_46 : decode cX7_says 46 = .ok (.if_icmp .ge 42, 3) := by decide +kernel
theorem d_X7_says_49 : decode cX7_says 49 = .ok (.aload_n 0, 1) := by decide +kernel
theorem d_X7_says_50 : decode cX7_says 50 = .ok (.iload_n 1, 1) := by decide +kernel
theorem d_X7_says_51 : decode cX7_says 51 = .ok (.iload_n 3, 1) := by decide +kernel
theorem d_X7_says_52 : decode cX7_says 52 = .ok (.iload 5, 2) := by decide +kernel
theorem d_X7_says_54 : decode cX7_says 54 = .ok (.invokevirtual 193, 3) := by decide +kernel
theorem d_X7_says_57 : decode cX7_says 57 = .ok (.ifCond .eq 25, 3) := by decide +kernel
theorem d_X7_says_60 : decode cX7_says 60 = .ok (.aload_n 0, 1) := by decide +kernel
theorem d_X7_says_61 : decode cX7_says 61 = .ok (.getfield 7, 3) := by decide +kernel
theorem d_X7_says_64 : decode cX7_says 64 = .ok (.iload_n 1, 1) := by decide +kernel
theorem d_X7_says_65 : decode cX7_says 65 = .ok (.bipush 19, 2) := by decide +kernel
theorem d_X7_says_67 : decode cX7_says 67 = .ok (.iadd, 1) := by decide +kernel
theorem d_X7_says_68 : decode cX7_says 68 = .ok (.bipush 6, 2) := by decide +kernel
theorem d_X7_says_70 : decode cX7_says 70 = .ok (.iload 5, 2) := by decide +kernel
theorem d_X7_says_72 : decode cX7_says 72 = .ok (.imul, 1) := by decide +kernel
theorem d_X7_says_73 : decode cX7_says 73 = .ok (.iadd, 1) := by decide +kernel
theorem d_X7_says_74 : decode cX7_says 74 = .ok (.iload 4, 2) := by decide +kernel
theorem d_X7_says_76 : decode cX7_says 76 = .ok (.iadd, 1) := by decide +kernel
theorem d_X7_says_77 : decode cX7_says 77 = .ok (.dup2, 1) := by decide +kernel
theorem d_X7_says_78 : decode cX7_says 78 = .ok (.iaload, 1) := by decide +kernel
theorem d_X7_says_79 : decode cX7_says 79 = .ok (.iconst 1, 1) := by decide +kernel
theorem d_X7_says_80 : decode cX7_says 80 = .ok (.iadd, 1) := by decide +kernel
theorem d_X7_says_81 : decode cX7_says 81 = .ok (.iastore, 1) := by decide +kernel
theorem d_X7_says_82 : decode cX7_says 82 = .ok (.iinc 5 1, 3) := by decide +kernel
theorem d_X7_says_85 : decode cX7_says 85 = .ok (.goto (-45), 3) := by decide +kernel
theorem d_X7_says_88 : decode cX7_says 88 = .ok (.aload_n 0, 1) := by decide +kernel
theorem d_X7_says_89 : decode cX7_says 89 = .ok (.iload_n 1, 1) := by decide +kernel
theorem d_X7_says_90 : decode cX7_says 90 = .ok (.iload_n 3, 1) := by decide +kernel
theorem d_X7_says_91 : decode cX7_says 91 = .ok (.invokevirtual 196, 3) := by decide +kernel
theorem d_X7_says_94 : decode cX7_says 94 = .ok (.return_, 1) := by decide +kernel
def t_X7_says_0 : List (Nat × QO) := [(0, o_al 0 1), (1, o_gf 7 0 4), (4, o_il 1 5), (5, o_k 79 7), (7, o_b (fun x y => x + y) 8), (8, o_il 2 9), (9, o_b (fun x y => x + y) 10), (10, o_dup2 11), (11, o_iald 12), (12, o_k 1 13), (13, o_b (fun x y => x - y) 14), (14, o_iast 15)]
theorem ts_X7_says_0 (sx : QX) : ∀ q ∈ t_X7_says_0, q_Snd sx RX7 cX7_says 6 none q.1 q.2 := List.forall_mem_cons.mpr ⟨s_aload_n d_X7_says_0 rfl, List.forall_mem_cons.mpr ⟨s_gf d_X7_says_1 rfl (by decide) n_X7 in_X7 rfl k_4_29, List.forall_mem_cons.mpr ⟨s_iload_n d_X7_says_4 rfl, List.forall_mem_cons.mpr ⟨s_bipush d_X7_says_5 rfl, List.forall_mem_cons.mpr ⟨s_iadd d_X7_says_7, List.forall_mem_cons.mpr ⟨s_iload_n d_X7_says_8 rfl, List.forall_mem_cons.mpr ⟨s_iadd d_X7_says_9, List.forall_mem_cons.mpr ⟨s_dup2 d_X7_says_10, List.forall_mem_cons.mpr ⟨s_iald d_X7_says_11, List.forall_mem_cons.mpr ⟨s_iconst d_X7_says_12 rfl, List.forall_mem_cons.mpr ⟨s_isub d_X7_says_13, List.forall_mem_cons.mpr ⟨s_iast d_X7_says_14, fun _ h => absurd h List.not_mem_nil⟩⟩⟩⟩⟩⟩⟩⟩⟩⟩⟩⟩
def t_X7_says_1 : List (Nat × QO) := [(15, o_al 0 16), (16, o_gf 7 0 19), (19, o_il 1 20), (20, o_k 1 21), (21, o_b (fun x y => x + y) 22), (22, o_il 3 23), (23, o_b (fun x y => x + y) 24), (24, o_dup2 25), (25, o_iald 26), (26, o_al 0 27), (27, o_il 1 28), (28, o_il 2 29)]
theorem ts_X7_says_1 (sx : QX) : ∀ q ∈ t_X7_says_1, q_Snd sx RX7 cX7_says 6 none q.1 q.2 := List.forall_mem_cons.mpr ⟨s_aload_n d_X7_says_15 rfl, List.forall_mem_cons.mpr ⟨s_gf d_X7_says_16 rfl (by decide) n_X7 in_X7 rfl k_4_29, List.forall_mem_cons.mpr ⟨s_iload_n d_X7_says_19 rfl, List.forall_mem_cons.mpr ⟨s_iconst d_X7_says_20 rfl, List.forall_mem_cons.mpr ⟨s_iadd d_X7_says_21, List.forall_mem_cons.mpr ⟨s_iload_n d_X7_says_22 rfl, List.forall_mem_cons.mpr ⟨s_iadd d_X7_says_23, List.forall_mem_cons.mpr ⟨s_dup2 d_X7_says_24, List.forall_mem_cons.mpr ⟨s_iald d_X7_says_25, List.forall_mem_cons.mpr ⟨s_aload_n d_X7_says_26 rfl, List.forall_mem_cons.mpr ⟨s_iload_n d_X7_says_27 rfl, List.forall_mem_cons.mpr ⟨s_iload_n d_X7_says_28 rfl, fun _ h => absurd h List.not_mem_nil⟩⟩⟩⟩⟩⟩⟩⟩⟩⟩⟩⟩
def t_X7_says_2 : List (Nat × QO) := [(29, o_il 3 30), (30, o_il 4 32), (32, o_cV 1 7 136 5 5 35), (35, o_b (fun x y => x + y) 36), (36, o_iast 37), (37, o_k 0 38), (38, o_is 5 40), (40, o_il 5 42), (42, o_al 0 43), (43, o_gf 7 3 46), (46, o_ic (fun x y => decide (y ≤ x)) 88 49), (49, o_al 0 50)]
theorem ts_X7_says_2 (sx : QX) : ∀ q ∈ t_X7_says_2, q_Snd sx RX7 cX7_says 6 none q.1 q.2 := List.forall_mem_cons.mpr ⟨s_iload_n d_X7_says_29 rfl, List.forall_mem_cons.mpr ⟨s_iload d_X7_says_30, List.forall_mem_cons.mpr ⟨s_cV (T := TX7) (N := 30) rfl d_X7_says_32 rfl k_4_215 k_4_217 k_0_35 k_1_12 k_4_218 ⟨by decide, by decide⟩ (by decide +kernel) (by decide), List.forall_mem_cons.mpr ⟨s_iadd d_X7_says_35, List.forall_mem_cons.mpr ⟨s_iast d_X7_says_36, List.forall_mem_cons.mpr ⟨s_iconst d_X7_says_37 rfl, List.forall_mem_cons.mpr ⟨s_istore d_X7_says_38 (by decide), List.forall_mem_cons.mpr ⟨s_iload d_X7_says_40, List.forall_mem_cons.mpr ⟨s_aload_n d_X7_says_42 rfl, List.forall_mem_cons.mpr ⟨s_gf d_X7_says_43 rfl (by decide) n_X7 in_X7 rfl k_4_32, List.forall_mem_cons.mpr ⟨s_ic_ge d_X7_says_46 (by decide), List.forall_mem_cons.mpr ⟨s_aload_n d_X7_says_49 rfl, fun _ h => absurd h List.not_mem_nil⟩⟩⟩⟩⟩⟩⟩⟩⟩⟩⟩⟩
def t_X7_says_3 : List (Nat × QO) := [(50, o_il 1 51), (51, o_il 3 52), (52, o_il 5 54), (54, o_cV 1 7 139 5 4 57), (57, o_if (fun x => decide (x = 0)) 82 60), (60, o_al 0 61), (61, o_gf 7 0 64), (64, o_il 1 65), (65, o_k 19 67), (67, o_b (fun x y => x + y) 68), (68, o_k 6 70), (70, o_il 5 72)]
theorem ts_X7_says_3 (sx : QX) : ∀ q ∈ t_X7_says_3, q_Snd sx RX7 cX7_says 6 none q.1 q.2 := List.forall_mem_cons.mpr ⟨s_iload_n d_X7_says_50 rfl, List.forall_mem_cons.mpr ⟨s_iload_n d_X7_says_51 rfl, List.forall_mem_cons.mpr ⟨s_iload d_X7_says_52, List.forall_mem_cons.mpr ⟨s_cV (T := TX7) (N := 30) rfl d_X7_says_54 rfl k_5_18 k_5_20 k_0_44 k_1_12 k_5_21 ⟨by decide, by decide⟩ (by decide +kernel) (by decide), List.forall_mem_cons.mpr ⟨s_if_eq d_X7_says_57 (by decide), List.forall_mem_cons.mpr ⟨s_aload_n d_X7_says_60 rfl, List.forall_mem_cons.mpr ⟨s_gf d_X7_says_61 rfl (by decide) n_X7 in_X7 rfl k_4_29, List.forall_mem_cons.mpr ⟨s_iload_n d_X7_says_64 rfl, List.forall_mem_cons.mpr ⟨s_bipush d_X7_says_65 rfl, List.forall_mem_cons.mpr ⟨s_iadd d_X7_says_67, List.forall_mem_cons.mpr ⟨s_bipush d_X7_says_68 rfl, List.forall_mem_cons.mpr ⟨s_iload d_X7_says_70, fun _ h => absurd h List.not_mem_nil⟩⟩⟩⟩⟩⟩⟩⟩⟩⟩⟩⟩
def t_X7_says_4 : List (Nat × QO) := [(72, o_b (fun x y => x * y) 73), (73, o_b (fun x y => x + y) 74), (74, o_il 4 76), (76, o_b (fun x y => x + y) 77), (77, o_dup2 78), (78, o_iald 79), (79, o_k 1 80), (80, o_b (fun x y => x + y) 81), (81, o_iast 82), (82, o_inc 5 1 85), (85, o_goto 40), (88, o_al 0 89)]
theorem ts_X7_says_4 (sx : QX) : ∀ q ∈ t_X7_says_4, q_Snd sx RX7 cX7_says 6 none q.1 q.2 := List.forall_mem_cons.mpr ⟨s_imul d_X7_says_72, List.forall_mem_cons.mpr ⟨s_iadd d_X7_says_73, List.forall_mem_cons.mpr ⟨s_iload d_X7_says_74, List.forall_mem_cons.mpr ⟨s_iadd d_X7_says_76, List.forall_mem_cons.mpr ⟨s_dup2 d_X7_says_77, List.forall_mem_cons.mpr ⟨s_iald d_X7_says_78, List.forall_mem_cons.mpr ⟨s_iconst d_X7_says_79 rfl, List.forall_mem_cons.mpr ⟨s_iadd d_X7_says_80, List.forall_mem_cons.mpr ⟨s_iast d_X7_says_81, List.forall_mem_cons.mpr ⟨s_iinc d_X7_says_82 rfl (by decide), List.forall_mem_cons.mpr ⟨s_goto d_X7_says_85 (by decide), List.forall_mem_cons.mpr ⟨s_aload_n d_X7_says_88 rfl, fun _ h => absurd h List.not_mem_nil⟩⟩⟩⟩⟩⟩⟩⟩⟩⟩⟩⟩
def t_X7_says_5 : List (Nat × QO) := [(89, o_il 1 90), (90, o_il 3 91), (91, o_cV 0 7 140 3 3 94), (94, o_vr)]
theorem ts_X7_says_5 (sx : QX) : ∀ q ∈ t_X7_says_5, q_Snd sx RX7 cX7_says 6 none q.1 q.2 := List.forall_mem_cons.mpr ⟨s_iload_n d_X7_says_89 rfl, List.forall_mem_cons.mpr ⟨s_iload_n d_X7_says_90 rfl, List.forall_mem_cons.mpr ⟨s_cV (T := TX7) (N := 30) rfl d_X7_says_91 rfl k_5_22 k_5_24 k_0_45 k_1_12 k_5_25 ⟨by decide, by decide⟩ (by decide +kernel) (by decide), List.forall_mem_cons.mpr ⟨s_vr d_X7_says_94 rfl, fun _ h => absurd h List.not_mem_nil⟩⟩⟩⟩
def t_X7_says (pc : Nat) : Option QO := cond (Nat.ble pc 49) (cond (Nat.ble pc 14) (q_look (t_X7_says_0) pc) (cond (Nat.ble pc 28) (q_look (t_X7_says_1) pc) (q_look (t_X7_says_2) pc))) (cond (Nat.ble pc 70) (q_look (t_X7_says_3) pc) (cond (Nat.ble pc 88) (q_look (t_X7_says_4) pc) (q_look (t_X7_says_5) pc)))
theorem ts_X7_says (sx : QX) (pc : Nat) : ∀ o, t_X7_says pc = some o → q_Snd sx RX7 cX7_says 6 none pc o := by
  unfold t_X7_says
  exact q_cb (q_cb (q_look_all (ts_X7_says_0 sx)) (q_cb (q_look_all (ts_X7_says_1 sx)) (q_look_all (ts_X7_says_2 sx)))) (q_cb (q_look_all (ts_X7_says_3 sx)) (q_cb (q_look_all (ts_X7_says_4 sx)) (q_look_all (ts_X7_says_5 sx))))
theorem d_X7_passes_0 : decode cX7_passes 0 = .ok (.iconst 0, 1) := by decide +kernel
theorem d_X7_passes_1 : decode cX7_passes 1 = .ok (.istore_n 2, 1) := by decide +kernel
theorem d_X7_passes_2 : decode cX7_passes 2 = .ok (.iload_n 2, 1) := by decide +kernel
theorem d_X7_passes_3 : decode cX7_passes 3 = .ok (.aload_n 0, 1) := by decide +kernel
theorem d_X7_passes_4 : decode cX7_passes 4 = .ok (.getfield 82, 3) := by decide +kernel
theorem d_X7_passes_7 : decode cX7_passes 7 = .ok (.if_icmp .ge 60, 3) := by decide +kernel
theorem d_X7_passes_10 : decode cX7_passes 10 = .ok (.aload_n 0, 1) := by decide +kernel
theorem d_X7_passes_11 : decode cX7_passes 11 = .ok (.iload_n 1, 1) := by decide +kernel
theorem d_X7_passes_12 : decode cX7_passes 12 = .ok (.iload_n 2, 1) := by decide +kernel
theorem d_X7_passes_13 : decode cX7_passes 13 = .ok (.invokevirtual 189, 3) := by decide +kernel
theorem d_X7_passes_16 : decode cX7_passes 16 = .ok (.ifCond .eq 45, 3) := by decide +kernel
theorem d_X7_passes_19 : decode cX7_passes 19 = .ok (.aload_n 0, 1) := by decide +kernel
theorem d_X7_passes_20 : decode cX7_passes 20 = .ok (.getfield 7, 3) := by decide +kernel
theorem d_X7_passes_23 : decode cX7_passes 23 = .ok (.iload_n 1, 1) := by decide +kernel
theorem d_X7_passes_24 : decode cX7_passes 24 = .ok (.iconst 1, 1) := by decide +kernel
theorem d_X7_passes_25 : decode cX7_passes 25 = .ok (.iadd, 1) := by decide +kernel
theorem d_X7_passes_26 : decode cX7_passes 26 = .ok (.iload_n 2, 1) := by decide +kernel
theorem d_X7_passes_27 : decode cX7_passes 27 = .ok (.iadd, 1) := by decide +kernel
theorem d_X7_passes_28 : decode cX7_passes 28 = .ok (.dup2, 1) := by decide +kernel
theorem d_X7_passes_29 : decode cX7_passes 29 = .ok (.iaload, 1) := by decide +kernel
theorem d_X7_passes_30 : decode cX7_passes 30 = .ok (.aload_n 0, 1) := by decide +kernel
theorem d_X7_passes_31 : decode cX7_passes 31 = .ok (.getfield 13, 3) := by decide +kernel
theorem d_X7_passes_34 : decode cX7_passes 34 = .ok (.iload_n 2, 1) := by decide +kernel
theorem d_X7_passes_35 : decode cX7_passes 35 = .ok (.iaload, 1) := by decide +kernel
theorem d_X7_passes_36 : decode cX7_passes 36 = .ok (.iconst 2, 1) := by decide +kernel
theorem d_X7_passes_37 : decode cX7_passes 37 = .ok (.if_icmp .ne 12, 3) := by decide +kernel
theorem d_X7_passes_40 : decode cX7_passes 40 = .ok (.iconst 2, 1) := by decide +kernel
theorem d_X7_passes_41 : decode cX7_passes 41 = .ok (.aload_n 0, 1) := by decide +kernel
theorem d_X7_passes_42 : decode cX7_passes 42 = .ok (.getfield 104, 3) := by decide +kernel
theorem d_X7_passes_45 : decode cX7_passes 45 = .ok (.imul, 1) := by decide +kernel
theorem d_X7_passes_46 : decode cX7_passes 46 = .ok (.goto 7, 3) := by decide +kernel
theorem d_X7_passes_49 : decode cX7_passes 49 = .ok (.aload_n 0, 1) := by decide +kernel
theorem d_X7_passes_50 : decode cX7_passes 50 = .ok (.getfield 104, 3) := by decide +kernel
theorem d_X7_passes_53 : decode cX7_passes 53 = .ok (.iadd, 1) := by decide +kernel
theorem d_X7_passes_54 : decode cX7_passes 54 = .ok (.iastore, 1) := by decide +kernel
theorem d_X7_passes_55 : decode cX7_passes 55 = .ok (.aload_n 0, 1) := by decide +kernel
theorem d_X7_passes_56 : decode cX7_passes 56 = .ok (.iload_n 1, 1) := by decide +kernel
theorem d_X7_passes_57 : decode cX7_passes 57 = .ok (.iload_n 2, 1) := by decide +kernel
theorem d_X7_passes_58 : decode cX7_passes 58 = .ok (.invokevirtual 196, 3) := by decide +kernel
theorem d_X7_passes_61 : decode cX7_passes 61 = .ok (.iinc 2 1, 3) := by decide +kernel
theorem d_X7_passes_64 : decode cX7_passes 64 = .ok (.goto (-62), 3) := by decide +kernel
theorem d_X7_passes_67 : decode cX7_passes 67 = .ok (.iconst 0, 1) := by decide +kernel
theorem d_X7_passes_68 : decode cX7_passes 68 = .ok (.istore_n 2, 1) := by decide +kernel
theorem d_X7_passes_69 : decode cX7_passes 69 = .ok (.iload_n 2, 1) := by decide +kernel
theorem d_X7_passes_70 : decode cX7_passes 70 = .ok (.aload_n 0, 1) := by decide +kernel
theorem d_X7_passes_71 : decode cX7_passes 71 = .ok (.getfield 92, 3) := by decide +kernel
theorem d_X7_passes_74 : decode cX7_passes 74 = .ok (.if_icmp .ge 26, 3) := by decide +kernel
theorem d_X7_passes_77 : decode cX7_passes 77 = .ok (.aload_n 0, 1) := by decide +kernel
theorem d_X7_passes_78 : decode cX7_passes 78 = .ok (.getfield 7, 3) := by decide +kernel
theorem d_X7_passes_81 : decode cX7_passes 81 = .ok (.iload_n 1, 1) := by decide +kernel
theorem d_X7_passes_82 : decode cX7_passes 82 = .ok (.bipush 79, 2) := by decide +kernel
theorem d_X7_passes_84 : decode cX7_passes 84 = .ok (.iadd, 1) := by decide +kernel
theorem d_X7_passes_85 : decode cX7_passes 85 = .ok (.iload_n 2, 1) := by decide +kernel
theorem d_X7_passes_86 : decode cX7_passes 86 = .ok (.iadd, 1) := by decide +kernel
theorem d_X7_passes_87 : decode cX7_passes 87 = .ok (.aload_n 0, 1) := by decide +kernel
theorem d_X7_passes_88 : decode cX7_passes 88 = .ok (.getfield 25, 3) := by decide +kernel
theorem d_X7_passes_91 : decode cX7_passes 91 = .ok (.iload_n 2, 1) := by decide +kernel
theorem d_X7_passes_92 : decode cX7_passes 92 = .ok (.iaload, 1) := by decide +kernel
theorem d_X7_passes_93 : decode cX7_passes 93 = .ok (.iastore, 1) := by decide +kernel
theorem d_X7_passes_94 : decode cX7_passes 94 = .ok (.iinc 2 1, 3) := by decide +kernel
theorem d_X7_passes_97 : decode cX7_passes 97 = .ok (.goto (-28), 3) := by decide +kernel
theorem d_X7_passes_100 : decode cX7_passes 100 = .ok (.aload_n 0, 1) := by decide +kernel
theorem d_X7_passes_101 : decode cX7_passes 101 = .ok (.getfield 7, 3) := by decide +kernel
theorem d_X7_passes_104 : decode cX7_passes 104 = .ok (.iload_n 1, 1) := by decide +kernel
theorem d_X7_passes_105 : decode cX7_passes 105 = .ok (.iconst 0, 1) := by decide +kernel
theorem d_X7_passes_106 : decode cX7_passes 106 = .ok (.iadd, 1) := by decide +kernel
theorem d_X7_passes_107 : decode cX7_passes 107 = .ok (.dup2, 1) := by decide +kernel
theorem d_X7_passes_108 : decode cX7_passes 108 = .ok (.iaload, 1) := by decide +kernel
theorem d_X7_passes_109 : decode cX7_passes 109 = .ok (.iconst 1, 1) := by decide +kernel
theorem d_X7_passes_110 : decode cX7_passes 110 = .ok (.iadd, 1) := by decide +kernel
theorem d_X7_passes_111 : decode cX7_passes 111 = .ok (.iastore, 1) := by decide +kernel
theorem d_X7_passes_112 : decode cX7_passes 112 = .ok (.return_, 1) := by decide +kernel
def t_X7_passes_0 : List (Nat × QO) := [(0, o_k 0 1), (1, o_is 2 2), (2, o_il 2 3), (3, o_al 0 4), (4, o_gf 7 3 7), (7, o_ic (fun x y => decide (y ≤ x)) 67 10), (10, o_al 0 11), (11, o_il 1 12), (12, o_il 2 13), (13, o_cV 1 7 138 3 3 16), (16, o_if (fun x => decide (x = 0)) 61 19), (19, o_al 0 20)]
theorem ts_X7_passes_0 (sx : QX) : ∀ q ∈ t_X7_passes_0, q_Snd sx RX7 cX7_passes 3 none q.1 q.2 := List.forall_mem_cons.mpr ⟨s_iconst d_X7_passes_0 rfl, List.forall_mem_cons.mpr ⟨s_istore_n d_X7_passes_1 rfl (by decide), List.forall_mem_cons.mpr ⟨s_iload_n d_X7_passes_2 rfl, List.forall_mem_cons.mpr ⟨s_aload_n d_X7_passes_3 rfl, List.forall_mem_cons.mpr ⟨s_gf d_X7_passes_4 rfl (by decide) n_X7 in_X7 rfl k_4_32, List.forall_mem_cons.mpr ⟨s_ic_ge d_X7_passes_7 (by decide), List.forall_mem_cons.mpr ⟨s_aload_n d_X7_passes_10 rfl, List.forall_mem_cons.mpr ⟨s_iload_n d_X7_passes_11 rfl, List.forall_mem_cons.mpr ⟨s_iload_n d_X7_passes_12 rfl, List.forall_mem_cons.mpr ⟨s_cV (T := TX7) (N := 30) rfl d_X7_passes_13 rfl k_5_2 k_5_4 k_0_40 k_1_12 k_5_5 ⟨by decide, by decide⟩ (by decide +kernel) (by decide), List.forall_mem_cons.mpr ⟨s_if_eq d_X7_passes_16 (by decide), List.forall_mem_cons.mpr ⟨s_aload_n d_X7_passes_19 rfl, fun _ h => absurd h List.not_mem_nil⟩⟩⟩⟩⟩⟩⟩⟩⟩⟩⟩⟩
def t_X7_passes_1 : List (Nat × QO) := [(20, o_gf 7 0 23), (23, o_il 1 24), (24, o_k 1 25), (25, o_b (fun x y => x + y) 26), (26, o_il 2 27), (27, o_b (fun x y => x + y) 28), (28, o_dup2 29), (29, o_iald 30), (30, o_al 0 31), (31, o_gf 7 4 34), (34, o_il 2 35), (35, o_iald 36)]
theorem ts_X7_passes_1 (sx : QX) : ∀ q ∈ t_X7_passes_1, q_Snd sx RX7 cX7_passes 3 none q.1 q.2 := List.forall_mem_cons.mpr ⟨s_gf d_X7_passes_20 rfl (by decide) n_X7 in_X7 rfl k_4_29, List.forall_mem_cons.mpr ⟨s_iload_n d_X7_passes_23 rfl, List.forall_mem_cons.mpr ⟨s_iconst d_X7_passes_24 rfl, List.forall_mem_cons.mpr ⟨s_iadd d_X7_passes_25, List.forall_mem_cons.mpr ⟨s_iload_n d_X7_passes_26 rfl, List.forall_mem_cons.mpr ⟨s_iadd d_X7_passes_27, List.forall_mem_cons.mpr ⟨s_dup2 d_X7_passes_28, List.forall_mem_cons.mpr ⟨s_iald d_X7_passes_29, List.forall_mem_cons.mpr ⟨s_aload_n d_X7_passes_30 rfl, List.forall_mem_cons.mpr ⟨s_gf d_X7_passes_31 rfl (by decide) n_X7 in_X7 rfl k_4_33, List.forall_mem_cons.mpr ⟨s_iload_n d_X7_passes_34 rfl, List.forall_mem_cons.mpr ⟨s_iald d_X7_passes_35, fun _ h => absurd h List.not_mem_nil⟩⟩⟩⟩⟩⟩⟩⟩⟩⟩⟩⟩
def t_X7_passes_2 : List (Nat × QO) := [(36, o_k 2 37), (37, o_ic (fun x y => decide (x ≠ y)) 49 40), (40, o_k 2 41), (41, o_al 0 42), (42, o_gf 7 11 45), (45, o_b (fun x y => x * y) 46), (46, o_goto 53), (49, o_al 0 50), (50, o_gf 7 11 53), (53, o_b (fun x y => x + y) 54), (54, o_iast 55), (55, o_al 0 56)]
theorem ts_X7_passes_2 (sx : QX) : ∀ q ∈ t_X7_passes_2, q_Snd sx RX7 cX7_passes 3 none q.1 q.2 := List.forall_mem_cons.mpr ⟨s_iconst d_X7_passes_36 rfl, List.forall_mem_cons.mpr ⟨s_ic_ne d_X7_passes_37 (by decide), List.forall_mem_cons.mpr ⟨s_iconst d_X7_passes_40 rfl, List.forall_mem_cons.mpr ⟨s_aload_n d_X7_passes_41 rfl, List.forall_mem_cons.mpr ⟨s_gf d_X7_passes_42 rfl (by decide) n_X7 in_X7 rfl k_4_40, List.forall_mem_cons.mpr ⟨s_imul d_X7_passes_45, List.forall_mem_cons.mpr ⟨s_goto d_X7_passes_46 (by decide), List.forall_mem_cons.mpr ⟨s_aload_n d_X7_passes_49 rfl, List.forall_mem_cons.mpr ⟨s_gf d_X7_passes_50 rfl (by decide) n_X7 in_X7 rfl k_4_40, List.forall_mem_cons.mpr ⟨s_iadd d_X7_passes_53, List.forall_mem_cons.mpr ⟨s_iast d_X7_passes_54, List.forall_mem_cons.mpr ⟨s_aload_n d_X7_passes_55 rfl, fun _ h => absurd h List.not_mem_nil⟩⟩⟩⟩⟩⟩⟩⟩⟩⟩⟩⟩
def t_X7_passes_3 : List (Nat × QO) := [(56, o_il 1 57), (57, o_il 2 58), (58, o_cV 0 7 140 3 3 61), (61, o_inc 2 1 64), (64, o_goto 2), (67, o_k 0 68), (68, o_is 2 69), (69, o_il 2 70), (70, o_al 0 71), (71, o_gf 7 8 74), (74, o_ic (fun x y => decide (y ≤ x)) 100 77), (77, o_al 0 78)]
theorem ts_X7_passes_3 (sx : QX) : ∀ q ∈ t_X7_passes_3, q_Snd sx RX7 cX7_passes 3 none q.1 q.2 := List.forall_mem_cons.mpr ⟨s_iload_n d_X7_passes_56 rfl, List.forall_mem_cons.mpr ⟨s_iload_n d_X7_passes_57 rfl, List.forall_mem_cons.mpr ⟨s_cV (T := TX7) (N := 30) rfl d_X7_passes_58 rfl k_5_22 k_5_24 k_0_45 k_1_12 k_5_25 ⟨by decide, by decide⟩ (by decide +kernel) (by decide), List.forall_mem_cons.mpr ⟨s_iinc d_X7_passes_61 rfl (by decide), List.forall_mem_cons.mpr ⟨s_goto d_X7_passes_64 (by decide), List.forall_mem_cons.mpr ⟨s_iconst d_X7_passes_67 rfl, List.forall_mem_cons.mpr ⟨s_istore_n d_X7_passes_68 rfl (by decide), List.forall_mem_cons.mpr ⟨s_iload_n d_X7_passes_69 rfl, List.forall_mem_cons.mpr ⟨s_aload_n d_X7_passes_70 rfl, List.forall_mem_cons.mpr ⟨s_gf d_X7_passes_71 rfl (by decide) n_X7 in_X7 rfl k_4_37, List.forall_mem_cons.mpr ⟨s_ic_ge d_X7_passes_74 (by decide), List.forall_mem_cons.mpr ⟨s_aload_n d_X7_passes_77 rfl, fun _ h => absurd h List.not_mem_nil⟩⟩⟩⟩⟩⟩⟩⟩⟩⟩⟩⟩
def t_X7_passes_4 : List (Nat × QO) := [(78, o_gf 7 0 81), (81, o_il 1 82), (82, o_k 79 84), (84, o_b (fun x y => x + y) 85), (85, o_il 2 86), (86, o_b (fun x y => x + y) 87), (87, o_al 0 88), (88, o_gf 7 10 91), (91, o_il 2 92), (92, o_iald 93), (93, o_iast 94), (94, o_inc 2 1 97)]
theorem ts_X7_passes_4 (sx : QX) : ∀ q ∈ t_X7_passes_4, q_Snd sx RX7 cX7_passes 3 none q.1 q.2 := List.forall_mem_cons.mpr ⟨s_gf d_X7_passes_78 rfl (by decide) n_X7 in_X7 rfl k_4_29, List.forall_mem_cons.mpr ⟨s_iload_n d_X7_passes_81 rfl, List.forall_mem_cons.mpr ⟨s_bipush d_X7_passes_82 rfl, List.forall_mem_cons.mpr ⟨s_iadd d_X7_passes_84, List.forall_mem_cons.mpr ⟨s_iload_n d_X7_passes_85 rfl, List.forall_mem_cons.mpr ⟨s_iadd d_X7_passes_86, List.forall_mem_cons.mpr ⟨s_aload_n d_X7_passes_87 rfl, List.forall_mem_cons.mpr ⟨s_gf d_X7_passes_88 rfl (by decide) n_X7 in_X7 rfl k_4_39, List.forall_mem_cons.mpr ⟨s_iload_n d_X7_passes_91 rfl, List.forall_mem_cons.mpr ⟨s_iald d_X7_passes_92, List.forall_mem_cons.mpr ⟨s_iast d_X7_passes_93, List.forall_mem_cons.mpr ⟨s_iinc d_X7_passes_94 rfl (by decide), fun _ h => absurd h List.not_mem_nil⟩⟩⟩⟩⟩⟩⟩⟩⟩⟩⟩⟩
def t_X7_passes_5 : List (Nat × QO) := [(97, o_goto 69), (100, o_al 0 101), (101, o_gf 7 0 104), (104, o_il 1 105), (105, o_k 0 106), (106, o_b (fun x y => x + y) 107), (107, o_dup2 108), (108, o_iald 109), (109, o_k 1 110), (110, o_b (fun x y => x + y) 111), (111, o_iast 112), (112, o_vr)]
theorem ts_X7_passes_5 (sx : QX) : ∀ q ∈ t_X7_passes_5, q_Snd sx RX7 cX7_passes 3 none q.1 q.2 := List.forall_mem_cons.mpr ⟨s_goto d_X7_passes_97 (by decide), List.forall_mem_cons.mpr ⟨s_aload_n d_X7_passes_100 rfl, List.forall_mem_cons.mpr ⟨s_gf d_X7_passes_101 rfl (by decide) n_X7 in_X7 rfl k_4_29, List.forall_mem_cons.mpr ⟨s_iload_n d_X7_passes_104 rfl, List.forall_mem_cons.mpr ⟨s_iconst d_X7_passes_105 rfl, List.forall_mem_cons.mpr ⟨s_iadd d_X7_passes_106, List.forall_mem_cons.mpr ⟨s_dup2 d_X7_passes_107, List.forall_mem_cons.mpr ⟨s_iald d_X7_passes_108, List.forall_mem_cons.mpr ⟨s_iconst d_X7_passes_109 rfl, List.forall_mem_cons.mpr ⟨s_iadd d_X7_passes_110, List.forall_mem_cons.mpr ⟨s_iast d_X7_passes_111, List.forall_mem_cons.mpr ⟨s_vr d_X7_passes_112 rfl, fun _ h => absurd h List.not_mem_nil⟩⟩⟩⟩⟩⟩⟩⟩⟩⟩⟩⟩
def t_X7_passes (pc : Nat) : Option QO := cond (Nat.ble pc 55) (cond (Nat.ble pc 19) (q_look (t_X7_passes_0) pc) (cond (Nat.ble pc 35) (q_look (t_X7_passes_1) pc) (q_look (t_X7_passes_2) pc))) (cond (Nat.ble pc 77) (q_look (t_X7_passes_3) pc) (cond (Nat.ble pc 94) (q_look (t_X7_passes_4) pc) (q_look (t_X7_passes_5) pc)))
theorem ts_X7_passes (sx : QX) (pc : Nat) : ∀ o, t_X7_passes pc = some o → q_Snd sx RX7 cX7_passes 3 none pc o := by
  unfold t_X7_passes
  exact q_cb (q_cb (q_look_all (ts_X7_passes_0 sx)) (q_cb (q_look_all (ts_X7_passes_1 sx)) (q_look_all (ts_X7_passes_2 sx)))) (q_cb (q_look_all (ts_X7_passes_3 sx)) (q_cb (q_look_all (ts_X7_passes_4 sx)) (q_look_all (ts_X7_passes_5 sx))))
theorem d_X7_canSay_0 : decode cX7_canSay 0 = .ok (.aload_n 0, 1) := by decide +kernel
theorem d_X7_canSay_1 : decode cX7_canSay 1 = .ok (.getfield 7, 3) := by decide +kernel
theorem d_X7_canSay_4 : decode cX7_canSay 4 = .ok (.iload_n 1, 1) := by decide +kernel
theorem d_X7_canSay_5 : decode cX7_canSay 5 = .ok (.bipush 79, 2) := by decide +kernel
theorem d_X7_canSay_7 : decode cX7_canSay 7 = .ok (.iadd, 1) := by decide +kernel
theorem d_X7_canSay_8 : decode cX7_canSay 8 = .ok (.iload_n 2, 1) := by decide +kernel
theorem d_X7_canSay_9 : decode cX7_canSay 9 = .ok (.iadd, 1) := by decide +kernel
theorem d_X7_canSay_10 : decode cX7_canSay 10 = .ok (.iaload, 1) := by decide +kernel
theorem d_X7_canSay_11 : decode cX7_canSay 11 = .ok (.ifCond .le 16, 3) := by decide +kernel
theorem d_X7_canSay_14 : decode cX7_canSay 14 = .ok (.aload_n 0, 1) := by decide +kernel
theorem d_X7_canSay_15 : decode cX7_canSay 15 = .ok (.iload_n 1, 1) := by decide +kernel
theorem d_X7_canSay_16 : decode cX7_canSay 16 = .ok (.iload_n 3, 1) := by decide +kernel
theorem d_X7_canSay_17 : decode cX7_canSay 17 = .ok (.invokevirtual 189, 3) := by decide +kernel
theorem d_X7_canSay_20 : decode cX7_canSay 20 = .ok (.ifCond .eq 7, 3) := by decide +kernel
theorem d_X7_canSay_23 : decode cX7_canSay 23 = .ok (.iconst 1, 1) := by decide +kernel
theorem d_X7_canSay_24 : decode cX7_canSay 24 = .ok (.goto 4, 3) := by decide +kernel
theorem d_X7_canSay_27 : decode cX7_canSay 27 = .ok (.iconst 0, 1) := by decide +kernel
theorem d_X7_canSay_28 : decode cX7_canSay 28 = .ok (.ireturn, 1) := by decide +kernel
def t_X7_canSay_0 : List (Nat × QO) := [(0, o_al 0 1), (1, o_gf 7 0 4), (4, o_il 1 5), (5, o_k 79 7), (7, o_b (fun x y => x + y) 8), (8, o_il 2 9), (9, o_b (fun x y => x + y) 10), (10, o_iald 11), (11, o_if (fun x => decide (x ≤ 0)) 27 14), (14, o_al 0 15), (15, o_il 1 16), (16, o_il 3 17)]
theorem ts_X7_canSay_0 (sx : QX) : ∀ q ∈ t_X7_canSay_0, q_Snd sx RX7 cX7_canSay 4 (some .boolean) q.1 q.2 := List.forall_mem_cons.mpr ⟨s_aload_n d_X7_canSay_0 rfl, List.forall_mem_cons.mpr ⟨s_gf d_X7_canSay_1 rfl (by decide) n_X7 in_X7 rfl k_4_29, List.forall_mem_cons.mpr ⟨s_iload_n d_X7_canSay_4 rfl, List.forall_mem_cons.mpr ⟨s_bipush d_X7_canSay_5 rfl, List.forall_mem_cons.mpr ⟨s_iadd d_X7_canSay_7, List.forall_mem_cons.mpr ⟨s_iload_n d_X7_canSay_8 rfl, List.forall_mem_cons.mpr ⟨s_iadd d_X7_canSay_9, List.forall_mem_cons.mpr ⟨s_iald d_X7_canSay_10, List.forall_mem_cons.mpr ⟨s_if_le d_X7_canSay_11 (by decide), List.forall_mem_cons.mpr ⟨s_aload_n d_X7_canSay_14 rfl, List.forall_mem_cons.mpr ⟨s_iload_n d_X7_canSay_15 rfl, List.forall_mem_cons.mpr ⟨s_iload_n d_X7_canSay_16 rfl, fun _ h => absurd h List.not_mem_nil⟩⟩⟩⟩⟩⟩⟩⟩⟩⟩⟩⟩
def t_X7_canSay_1 : List (Nat × QO) := [(17, o_cV 1 7 138 3 3 20), (20, o_if (fun x => decide (x = 0)) 27 23), (23, o_k 1 24), (24, o_goto 28), (27, o_k 0 28), (28, o_ir true)]
theorem ts_X7_canSay_1 (sx : QX) : ∀ q ∈ t_X7_canSay_1, q_Snd sx RX7 cX7_canSay 4 (some .boolean) q.1 q.2 := List.forall_mem_cons.mpr ⟨s_cV (T := TX7) (N := 30) rfl d_X7_canSay_17 rfl k_5_2 k_5_4 k_0_40 k_1_12 k_5_5 ⟨by decide, by decide⟩ (by decide +kernel) (by decide), List.forall_mem_cons.mpr ⟨s_if_eq d_X7_canSay_20 (by decide), List.forall_mem_cons.mpr ⟨s_iconst d_X7_canSay_23 rfl, List.forall_mem_cons.mpr ⟨s_goto d_X7_canSay_24 (by decide), List.forall_mem_cons.mpr ⟨s_iconst d_X7_canSay_27 rfl, List.forall_mem_cons.mpr ⟨s_zr d_X7_canSay_28 rfl, fun _ h => absurd h List.not_mem_nil⟩⟩⟩⟩⟩⟩
def t_X7_canSay (pc : Nat) : Option QO := cond (Nat.ble pc 16) (q_look (t_X7_canSay_0) pc) (q_look (t_X7_canSay_1) pc)
theorem ts_X7_canSay (sx : QX) (pc : Nat) : ∀ o, t_X7_canSay pc = some o → q_Snd sx RX7 cX7_canSay 4 (some .boolean) pc o := by
  unfold t_X7_canSay
  exact q_cb (q_look_all (ts_X7_canSay_0 sx)) (q_look_all (ts_X7_canSay_1 sx))
theorem d_X7_isElse_0 : decode cX7_isElse 0 = .ok (.iconst 0, 1) := by decide +kernel
theorem d_X7_isElse_1 : decode cX7_isElse 1 = .ok (.istore 4, 2) := by decide +kernel
theorem d_X7_isElse_3 : decode cX7_isElse 3 = .ok (.iconst 0, 1) := by decide +kernel
theorem d_X7_isElse_4 : decode cX7_isElse 4 = .ok (.istore 5, 2) := by decide +kernel
theorem d_X7_isElse_6 : decode cX7_isElse 6 = .ok (.iload 5, 2) := by decide +kernel
theorem d_X7_isElse_8 : decode cX7_isElse 8 = .ok (.aload_n 0, 1) := by decide +kernel
theorem d_X7_isElse_9 : decode cX7_isElse 9 = .ok (.getfield 92, 3) := by decide +kernel
theorem d_X7_isElse_12 : decode cX7_isElse 12 = .ok (.if_icmp .ge 53, 3) := by decide +kernel
theorem d_X7_isElse_15 : decode cX7_isElse 15 = .ok (.aload_n 0, 1) := by decide +kernel
theorem d_X7_isElse_16 : decode cX7_isElse 16 = .ok (.getfield 7, 3) := by decide +kernel
theorem d_X7_isElse_19 : decode cX7_isElse 19 = .ok (.iload_n 1, 1) := by decide +kernel
theorem d_X7_isElse_20 : decode cX7_isElse 20 = .ok (.bipush 55, 2) := by decide +kernel
theorem d_X7_isElse_22 : decode cX7_isElse 22 = .ok (.iadd, 1) := by decide +kernel
theorem d_X7_isElse_23 : decode cX7_isElse 23 = .ok (.bipush 6, 2) := by decide +kernel
theorem d_X7_isElse_25 : decode cX7_isElse 25 = .ok (.iload 5, 2) := by decide +kernel
theorem d_X7_isElse_27 : decode cX7_isElse 27 = .ok (.imul, 1) := by decide +kernel
theorem d_X7_isElse_28 : decode cX7_isElse 28 = .ok (.iadd, 1) := by decide +kernel
theorem d_X7_isElse_29 : decode cX7_isElse 29 = .ok (.iload_n 2, 1) := by decide +kernel
theorem d_X7_isElse_30 : decode cX7_isElse 30 = .ok (.iadd, 1) := by decide +kernel
theorem d_X7_isElse_31 : decode cX7_isElse 31 = .ok (.iaload, 1) := by decide +kernel
theorem d_X7_isElse_32 : decode cX7_isElse 32 = .ok (.istore 6, 2) := by decide +kernel
theorem d_X7_isElse_34 : decode cX7_isElse 34 = .ok (.iload 4, 2) := by decide +kernel
theorem d_X7_isElse_36 : decode cX7_isElse 36 = .ok (.ifCond .ne 16, 3) := by decide +kernel
theorem d_X7_isElse_39 : decode cX7_isElse 39 = .ok (.iload 6, 2) := by decide +kernel
theorem d_X7_isElse_41 : decode cX7_isElse 41 = .ok (.bipush (-4), 2) := by decide +kernel
theorem d_X7_isElse_43 : decode cX7_isElse 43 = .ok (.if_icmp .eq 13, 3) := by decide +kernel
theorem d_X7_isElse_46 : decode cX7_isElse 46 = .ok (.iload 6, 2) := by decide +kernel
theorem d_X7_isElse_48 : decode cX7_isElse 48 = .ok (.iload_n 3, 1) := by decide +kernel
theorem d_X7_isElse_49 : decode cX7_isElse 49 = .ok (.if_icmp .eq 7, 3) := by decide +kernel
theorem d_X7_isElse_52 : decode cX7_isElse 52 = .ok (.iconst 1, 1) := by decide +kernel
theorem d_X7_isElse_53 : decode cX7_isElse 53 = .ok (.goto 4, 3) := by decide +kernel
theorem d_X7_isElse_56 : decode cX7_isElse 56 = .ok (.iconst 0, 1) := by decide +kernel
theorem d_X7_isElse_57 : decode cX7_isElse 57 = .ok (.istore 4, 2) := by decide +kernel
theorem d_X7_isElse_59 : decode cX7_isElse 59 = .ok (.iinc 5 1, 3) := by decide +kernel
theorem d_X7_isElse_62 : decode cX7_isElse 62 = .ok (.goto (-56), 3) := by decide +kernel
theorem d_X7_isElse_65 : decode cX7_isElse 65 = .ok (.iload 4, 2) := by decide +kernel
theorem d_X7_isElse_67 : decode cX7_isElse 67 = .ok (.ifCond .eq 17, 3) := by decide +kernel
theorem d_X7_isElse_70 : decode cX7_isElse 70 = .ok (.aload_n 0, 1) := by decide +kernel
theorem d_X7_isElse_71 : decode cX7_isElse 71 = .ok (.getfield 13, 3) := by decide +kernel
theorem d_X7_isElse_74 : decode cX7_isElse 74 = .ok (.iload_n 2, 1) := by decide +kernel
theorem d_X7_isElse_75 : decode cX7_isElse 75 = .ok (.iaload, 1) := by decide +kernel
theorem d_X7_isElse_76 : decode cX7_isElse 76 = .ok (.iconst 3, 1) := by decide +kernel
theorem d_X7_isElse_77 : decode cX7_isElse 77 = .ok (.if_icmp .eq 7, 3) := by decide +kernel
theorem d_X7_isElse_80 : decode cX7_isElse 80 = .ok (.iconst 1, 1) := by decide +kernel
theorem d_X7_isElse_81 : decode cX7_isElse 81 = .ok (.goto 4, 3) := by decide +kernel
theorem d_X7_isElse_84 : decode cX7_isElse 84 = .ok (.iconst 0, 1) := by decide +kernel
theorem d_X7_isElse_85 : decode cX7_isElse 85 = .ok (.ireturn, 1) := by decide +kernel
def t_X7_isElse_0 : List (Nat × QO) := [(0, o_k 0 1), (1, o_is 4 3), (3, o_k 0 4), (4, o_is 5 6), (6, o_il 5 8), (8, o_al 0 9), (9, o_gf 7 8 12), (12, o_ic (fun x y => decide (y ≤ x)) 65 15), (15, o_al 0 16), (16, o_gf 7 0 19), (19, o_il 1 20), (20, o_k 55 22)]
theorem ts_X7_isElse_0 (sx : QX) : ∀ q ∈ t_X7_isElse_0, q_Snd sx RX7 cX7_isElse 7 (some .boolean) q.1 q.2 := List.forall_mem_cons.mpr ⟨s_iconst d_X7_isElse_0 rfl, List.forall_mem_cons.mpr ⟨s_istore d_X7_isElse_1 (by decide), List.forall_mem_cons.mpr ⟨s_iconst d_X7_isElse_3 rfl, List.forall_mem_cons.mpr ⟨s_istore d_X7_isElse_4 (by decide), List.forall_mem_cons.mpr ⟨s_iload d_X7_isElse_6, List.forall_mem_cons.mpr ⟨s_aload_n d_X7_isElse_8 rfl, List.forall_mem_cons.mpr ⟨s_gf d_X7_isElse_9 rfl (by decide) n_X7 in_X7 rfl k_4_37, List.forall_mem_cons.mpr ⟨s_ic_ge d_X7_isElse_12 (by decide), List.forall_mem_cons.mpr ⟨s_aload_n d_X7_isElse_15 rfl, List.forall_mem_cons.mpr ⟨s_gf d_X7_isElse_16 rfl (by decide) n_X7 in_X7 rfl k_4_29, List.forall_mem_cons.mpr ⟨s_iload_n d_X7_isElse_19 rfl, List.forall_mem_cons.mpr ⟨s_bipush d_X7_isElse_20 rfl, fun _ h => absurd h List.not_mem_nil⟩⟩⟩⟩⟩⟩⟩⟩⟩⟩⟩⟩
def t_X7_isElse_1 : List (Nat × QO) := [(22, o_b (fun x y => x + y) 23), (23, o_k 6 25), (25, o_il 5 27), (27, o_b (fun x y => x * y) 28), (28, o_b (fun x y => x + y) 29), (29, o_il 2 30), (30, o_b (fun x y => x + y) 31), (31, o_iald 32), (32, o_is 6 34), (34, o_il 4 36), (36, o_if (fun x => decide (x ≠ 0)) 52 39), (39, o_il 6 41)]
theorem ts_X7_isElse_1 (sx : QX) : ∀ q ∈ t_X7_isElse_1, q_Snd sx RX7 cX7_isElse 7 (some .boolean) q.1 q.2 := List.forall_mem_cons.mpr ⟨s_iadd d_X7_isElse_22, List.forall_mem_cons.mpr ⟨s_bipush d_X7_isElse_23 rfl, List.forall_mem_cons.mpr ⟨s_iload d_X7_isElse_25, List.forall_mem_cons.mpr ⟨s_imul d_X7_isElse_27, List.forall_mem_cons.mpr ⟨s_iadd d_X7_isElse_28, List.forall_mem_cons.mpr ⟨s_iload_n d_X7_isElse_29 rfl, List.forall_mem_cons.mpr ⟨s_iadd d_X7_isElse_30, List.forall_mem_cons.mpr ⟨s_iald d_X7_isElse_31, List.forall_mem_cons.mpr ⟨s_istore d_X7_isElse_32 (by decide), List.forall_mem_cons.mpr ⟨s_iload d_X7_isElse_34, List.forall_mem_cons.mpr ⟨s_if_ne d_X7_isElse_36 (by decide), List.forall_mem_cons.mpr ⟨s_iload d_X7_isElse_39, fun _ h => absurd h List.not_mem_nil⟩⟩⟩⟩⟩⟩⟩⟩⟩⟩⟩⟩
def t_X7_isElse_2 : List (Nat × QO) := [(41, o_k (-4) 43), (43, o_ic (fun x y => decide (x = y)) 56 46), (46, o_il 6 48), (48, o_il 3 49), (49, o_ic (fun x y => decide (x = y)) 56 52), (52, o_k 1 53), (53, o_goto 57), (56, o_k 0 57), (57, o_is 4 59), (59, o_inc 5 1 62), (62, o_goto 6), (65, o_il 4 67)]
theorem ts_X7_isElse_2 (sx : QX) : ∀ q ∈ t_X7_isElse_2, q_Snd sx RX7 cX7_isElse 7 (some .boolean) q.1 q.2 := List.forall_mem_cons.mpr ⟨s_bipush d_X7_isElse_41 rfl, List.forall_mem_cons.mpr ⟨s_ic_eq d_X7_isElse_43 (by decide), List.forall_mem_cons.mpr ⟨s_iload d_X7_isElse_46, List.forall_mem_cons.mpr ⟨s_iload_n d_X7_isElse_48 rfl, List.forall_mem_cons.mpr ⟨s_ic_eq d_X7_isElse_49 (by decide), List.forall_mem_cons.mpr ⟨s_iconst d_X7_isElse_52 rfl, List.forall_mem_cons.mpr ⟨s_goto d_X7_isElse_53 (by decide), List.forall_mem_cons.mpr ⟨s_iconst d_X7_isElse_56 rfl, List.forall_mem_cons.mpr ⟨s_istore d_X7_isElse_57 (by decide), List.forall_mem_cons.mpr ⟨s_iinc d_X7_isElse_59 rfl (by decide), List.forall_mem_cons.mpr ⟨s_goto d_X7_isElse_62 (by decide), List.forall_mem_cons.mpr ⟨s_iload d_X7_isElse_65, fun _ h => absurd h List.not_mem_nil⟩⟩⟩⟩⟩⟩⟩⟩⟩⟩⟩⟩
def t_X7_isElse_3 : List (Nat × QO) := [(67, o_if (fun x => decide (x = 0)) 84 70), (70, o_al 0 71), (71, o_gf 7 4 74), (74, o_il 2 75), (75, o_iald 76), (76, o_k 3 77), (77, o_ic (fun x y => decide (x = y)) 84 80), (80, o_k 1 81), (81, o_goto 85), (84, o_k 0 85), (85, o_ir true)]
theorem ts_X7_isElse_3 (sx : QX) : ∀ q ∈ t_X7_isElse_3, q_Snd sx RX7 cX7_isElse 7 (some .boolean) q.1 q.2 := List.forall_mem_cons.mpr ⟨s_if_eq d_X7_isElse_67 (by decide), List.forall_mem_cons.mpr ⟨s_aload_n d_X7_isElse_70 rfl, List.forall_mem_cons.mpr ⟨s_gf d_X7_isElse_71 rfl (by decide) n_X7 in_X7 rfl k_4_33, List.forall_mem_cons.mpr ⟨s_iload_n d_X7_isElse_74 rfl, List.forall_mem_cons.mpr ⟨s_iald d_X7_isElse_75, List.forall_mem_cons.mpr ⟨s_iconst d_X7_isElse_76 rfl, List.forall_mem_cons.mpr ⟨s_ic_eq d_X7_isElse_77 (by decide), List.forall_mem_cons.mpr ⟨s_iconst d_X7_isElse_80 rfl, List.forall_mem_cons.mpr ⟨s_goto d_X7_isElse_81 (by decide), List.forall_mem_cons.mpr ⟨s_iconst d_X7_isElse_84 rfl, List.forall_mem_cons.mpr ⟨s_zr d_X7_isElse_85 rfl, fun _ h => absurd h List.not_mem_nil⟩⟩⟩⟩⟩⟩⟩⟩⟩⟩⟩
def t_X7_isElse (pc : Nat) : Option QO := cond (Nat.ble pc 39) (cond (Nat.ble pc 20) (q_look (t_X7_isElse_0) pc) (q_look (t_X7_isElse_1) pc)) (cond (Nat.ble pc 65) (q_look (t_X7_isElse_2) pc) (q_look (t_X7_isElse_3) pc))
theorem ts_X7_isElse (sx : QX) (pc : Nat) : ∀ o, t_X7_isElse pc = some o → q_Snd sx RX7 cX7_isElse 7 (some .boolean) pc o := by
  unfold t_X7_isElse
  exact q_cb (q_cb (q_look_all (ts_X7_isElse_0 sx)) (q_look_all (ts_X7_isElse_1 sx))) (q_cb (q_look_all (ts_X7_isElse_2 sx)) (q_look_all (ts_X7_isElse_3 sx)))
theorem d_X7_takesFor_0 : decode cX7_takesFor 0 = .ok (.aload_n 0, 1) := by decide +kernel
theorem d_X7_takesFor_1 : decode cX7_takesFor 1 = .ok (.getfield 7, 3) := by decide +kernel
theorem d_X7_takesFor_4 : decode cX7_takesFor 4 = .ok (.iload_n 1, 1) := by decide +kernel
theorem d_X7_takesFor_5 : decode cX7_takesFor 5 = .ok (.bipush 7, 2) := by decide +kernel
theorem d_X7_takesFor_7 : decode cX7_takesFor 7 = .ok (.iadd, 1) := by decide +kernel
theorem d_X7_takesFor_8 : decode cX7_takesFor 8 = .ok (.iload_n 2, 1) := by decide +kernel
theorem d_X7_takesFor_9 : decode cX7_takesFor 9 = .ok (.iadd, 1) := by decide +kernel
theorem d_X7_takesFor_10 : decode cX7_takesFor 10 = .ok (.aload_n 0, 1) := by decide +kernel
theorem d_X7_takesFor_11 : decode cX7_takesFor 11 = .ok (.iload_n 1, 1) := by decide +kernel
theorem d_X7_takesFor_12 : decode cX7_takesFor 12 = .ok (.iload_n 2, 1) := by decide +kernel
theorem d_X7_takesFor_13 : decode cX7_takesFor 13 = .ok (.iload_n 3, 1) := by decide +kernel
theorem d_X7_takesFor_14 : decode cX7_takesFor 14 = .ok (.invokevirtual 199, 3) := by decide +kernel
theorem d_X7_takesFor_17 : decode cX7_takesFor 17 = .ok (.ifCond .eq 7, 3) := by decide +kernel
theorem d_X7_takesFor_20 : decode cX7_takesFor 20 = .ok (.iconst 3, 1) := by decide +kernel
theorem d_X7_takesFor_21 : decode cX7_takesFor 21 = .ok (.goto 4, 3) := by decide +kernel
theorem d_X7_takesFor_24 : decode cX7_takesFor 24 = .ok (.iconst 2, 1) := by decide +kernel
theorem d_X7_takesFor_25 : decode cX7_takesFor 25 = .ok (.iastore, 1) := by decide +kernel
theorem d_X7_takesFor_26 : decode cX7_takesFor 26 = .ok (.aload_n 0, 1) := by decide +kernel
theorem d_X7_takesFor_27 : decode cX7_takesFor 27 = .ok (.getfield 7, 3) := by decide +kernel
theorem d_X7_takesFor_30 : decode cX7_takesFor 30 = .ok (.iload_n 1, 1) := by decide +kernel
theorem d_X7_takesFor_31 : decode cX7_takesFor 31 = .ok (.bipush 13, 2) := by decide +kernel
theorem d_X7_takesFor_33 : decode cX7_takesFor 33 = .ok (.iadd, 1) := by decide +kernel
theorem d_X7_takesFor_34 : decode cX7_takesFor 34 = .ok (.iload_n 2, 1) := by decide +kernel
theorem d_X7_takesFor_35 : decode cX7_takesFor 35 = .ok (.iadd, 1) := by decide +kernel
theorem d_X7_takesFor_36 : decode cX7_takesFor 36 = .ok (.iload_n 3, 1) := by decide +kernel
theorem d_X7_takesFor_37 : decode cX7_takesFor 37 = .ok (.iastore, 1) := by decide +kernel
theorem d_X7_takesFor_38 : decode cX7_takesFor 38 = .ok (.return_, 1) := by decide +kernel
def t_X7_takesFor_0 : List (Nat × QO) := [(0, o_al 0 1), (1, o_gf 7 0 4), (4, o_il 1 5), (5, o_k 7 7), (7, o_b (fun x y => x + y) 8), (8, o_il 2 9), (9, o_b (fun x y => x + y) 10), (10, o_al 0 11), (11, o_il 1 12), (12, o_il 2 13), (13, o_il 3 14), (14, o_cV 1 7 144 7 4 17)]
theorem ts_X7_takesFor_0 (sx : QX) : ∀ q ∈ t_X7_takesFor_0, q_Snd sx RX7 cX7_takesFor 4 none q.1 q.2 := List.forall_mem_cons.mpr ⟨s_aload_n d_X7_takesFor_0 rfl, List.forall_mem_cons.mpr ⟨s_gf d_X7_takesFor_1 rfl (by decide) n_X7 in_X7 rfl k_4_29, List.forall_mem_cons.mpr ⟨s_iload_n d_X7_takesFor_4 rfl, List.forall_mem_cons.mpr ⟨s_bipush d_X7_takesFor_5 rfl, List.forall_mem_cons.mpr ⟨s_iadd d_X7_takesFor_7, List.forall_mem_cons.mpr ⟨s_iload_n d_X7_takesFor_8 rfl, List.forall_mem_cons.mpr ⟨s_iadd d_X7_takesFor_9, List.forall_mem_cons.mpr ⟨s_aload_n d_X7_takesFor_10 rfl, List.forall_mem_cons.mpr ⟨s_iload_n d_X7_takesFor_11 rfl, List.forall_mem_cons.mpr ⟨s_iload_n d_X7_takesFor_12 rfl, List.forall_mem_cons.mpr ⟨s_iload_n d_X7_takesFor_13 rfl, List.forall_mem_cons.mpr ⟨s_cV (T := TX7) (N := 30) rfl d_X7_takesFor_14 rfl k_5_39 k_5_41 k_0_47 k_1_12 k_5_42 ⟨by decide, by decide⟩ (by decide +kernel) (by decide), fun _ h => absurd h List.not_mem_nil⟩⟩⟩⟩⟩⟩⟩⟩⟩⟩⟩⟩
def t_X7_takesFor_1 : List (Nat × QO) := [(17, o_if (fun x => decide (x = 0)) 24 20), (20, o_k 3 21), (21, o_goto 25), (24, o_k 2 25), (25, o_iast 26), (26, o_al 0 27), (27, o_gf 7 0 30), (30, o_il 1 31), (31, o_k 13 33), (33, o_b (fun x y => x + y) 34), (34, o_il 2 35), (35, o_b (fun x y => x + y) 36)]
theorem ts_X7_takesFor_1 (sx : QX) : ∀ q ∈ t_X7_takesFor_1, q_Snd sx RX7 cX7_takesFor 4 none q.1 q.2 := List.forall_mem_cons.mpr ⟨s_if_eq d_X7_takesFor_17 (by decide), List.forall_mem_cons.mpr ⟨s_iconst d_X7_takesFor_20 rfl, List.forall_mem_cons.mpr ⟨s_goto d_X7_takesFor_21 (by decide), List.forall_mem_cons.mpr ⟨s_iconst d_X7_takesFor_24 rfl, List.forall_mem_cons.mpr ⟨s_iast d_X7_takesFor_25, List.forall_mem_cons.mpr ⟨s_aload_n d_X7_takesFor_26 rfl, List.forall_mem_cons.mpr ⟨s_gf d_X7_takesFor_27 rfl (by decide) n_X7 in_X7 rfl k_4_29, List.forall_mem_cons.mpr ⟨s_iload_n d_X7_takesFor_30 rfl, List.forall_mem_cons.mpr ⟨s_bipush d_X7_takesFor_31 rfl, List.forall_mem_cons.mpr ⟨s_iadd d_X7_takesFor_33, List.forall_mem_cons.mpr ⟨s_iload_n d_X7_takesFor_34 rfl, List.forall_mem_cons.mpr ⟨s_iadd d_X7_takesFor_35, fun _ h => absurd h List.not_mem_nil⟩⟩⟩⟩⟩⟩⟩⟩⟩⟩⟩⟩
def t_X7_takesFor_2 : List (Nat × QO) := [(36, o_il 3 37), (37, o_iast 38), (38, o_vr)]
theorem ts_X7_takesFor_2 (sx : QX) : ∀ q ∈ t_X7_takesFor_2, q_Snd sx RX7 cX7_takesFor 4 none q.1 q.2 := List.forall_mem_cons.mpr ⟨s_iload_n d_X7_takesFor_36 rfl, List.forall_mem_cons.mpr ⟨s_iast d_X7_takesFor_37, List.forall_mem_cons.mpr ⟨s_vr d_X7_takesFor_38 rfl, fun _ h => absurd h List.not_mem_nil⟩⟩⟩
def t_X7_takesFor (pc : Nat) : Option QO := cond (Nat.ble pc 14) (q_look (t_X7_takesFor_0) pc) (cond (Nat.ble pc 35) (q_look (t_X7_takesFor_1) pc) (q_look (t_X7_takesFor_2) pc))
theorem ts_X7_takesFor (sx : QX) (pc : Nat) : ∀ o, t_X7_takesFor pc = some o → q_Snd sx RX7 cX7_takesFor 4 none pc o := by
  unfold t_X7_takesFor
  exact q_cb (q_look_all (ts_X7_takesFor_0 sx)) (q_cb (q_look_all (ts_X7_takesFor_1 sx)) (q_look_all (ts_X7_takesFor_2 sx)))
theorem d_X7_minds_0 : decode cX7_minds 0 = .ok (.aload_n 0, 1) := by decide +kernel
theorem d_X7_minds_1 : decode cX7_minds 1 = .ok (.getfield 107, 3) := by decide +kernel
theorem d_X7_minds_4 : decode cX7_minds 4 = .ok (.bipush 8, 2) := by decide +kernel
theorem d_X7_minds_6 : decode cX7_minds 6 = .ok (.if_icmp .ne 51, 3) := by decide +kernel
theorem d_X7_minds_9 : decode cX7_minds 9 = .ok (.iconst 0, 1) := by decide +kernel
theorem d_X7_minds_10 : decode cX7_minds 10 = .ok (.istore_n 1, 1) := by decide +kernel
theorem d_X7_minds_11 : decode cX7_minds 11 = .ok (.iload_n 1, 1) := by decide +kernel
theorem d_X7_minds_12 : decode cX7_minds 12 = .ok (.sipush 581, 3) := by decide +kernel
theorem d_X7_minds_15 : decode cX7_minds 15 = .ok (.if_icmp .ge 32, 3) := by decide +kernel
theorem d_X7_minds_18 : decode cX7_minds 18 = .ok (.aload_n 0, 1) := by decide +kernel
theorem d_X7_minds_19 : decode cX7_minds 19 = .ok (.getfield 7, 3) := by decide +kernel
theorem d_X7_minds_22 : decode cX7_minds 22 = .ok (.sipush 332, 3) := by decide +kernel
theorem d_X7_minds_25 : decode cX7_minds 25 = .ok (.iload_n 1, 1) := by decide +kernel
theorem d_X7_minds_26 : decode cX7_minds 26 = .ok (.iadd, 1) := by decide +kernel
theorem d_X7_minds_27 : decode cX7_minds 27 = .ok (.aload_n 0, 1) := by decide +kernel
theorem d_X7_minds_28 : decode cX7_minds 28 = .ok (.getfield 7, 3) := by decide +kernel
theorem d_X7_minds_31 : decode cX7_minds 31 = .ok (.sipush 332, 3) := by decide +kernel
theorem d_X7_minds_34 : decode cX7_minds 34 = .ok (.iload_n 1, 1) := by decide +kernel
theorem d_X7_minds_35 : decode cX7_minds 35 = .ok (.iadd, 1) := by decide +kernel
theorem d_X7_minds_36 : decode cX7_minds 36 = .ok (.bipush 83, 2) := by decide +kernel
theorem d_X7_minds_38 : decode cX7_minds 38 = .ok (.iadd, 1) := by decide +kernel
theorem d_X7_minds_39 : decode cX7_minds 39 = .ok (.iaload, 1) := by decide +kernel
theorem d_X7_minds_40 : decode cX7_minds 40 = .ok (.iastore, 1) := by decide +kernel
theorem d_X7_minds_41 : decode cX7_minds 41 = .ok (.iinc 1 1, 3) := by decide +kernel
theorem d_X7_minds_44 : decode cX7_minds 44 = .ok (.goto (-33), 3) := by decide +kernel
theorem d_X7_minds_47 : decode cX7_minds 47 = .ok (.aload_n 0, 1) := by decide +kernel
theorem d_X7_minds_48 : decode cX7_minds 48 = .ok (.dup, 1) := by decide +kernel
theorem d_X7_minds_49 : decode cX7_minds 49 = .ok (.getfield 107, 3) := by decide +kernel
theorem d_X7_minds_52 : decode cX7_minds 52 = .ok (.iconst 1, 1) := by decide +kernel
theorem d_X7_minds_53 : decode cX7_minds 53 = .ok (.isub, 1) := by decide +kernel
theorem d_X7_minds_54 : decode cX7_minds 54 = .ok (.putfield 107, 3) := by decide +kernel
theorem d_X7_minds_57 : decode cX7_minds 57 = .ok (.aload_n 0, 1) := by decide +kernel
theorem d_X7_minds_58 : decode cX7_minds 58 = .ok (.iconst 0, 1) := by decide +kernel
theorem d_X7_minds_59 : decode cX7_minds 59 = .ok (.sipush 332, 3) := by decide +kernel
theorem d_X7_minds_62 : decode cX7_minds 62 = .ok (.bipush 83, 2) := by decide +kernel
theorem d_X7_minds_64 : decode cX7_minds 64 = .ok (.aload_n 0, 1) := by decide +kernel
theorem d_X7_minds_65 : decode cX7_minds 65 = .ok (.getfield 107, 3) := by decide +kernel
theorem d_X7_minds_68 : decode cX7_minds 68 = .ok (.imul, 1) := by decide +kernel
theorem d_X7_minds_69 : decode cX7_minds 69 = .ok (.iadd, 1) := by decide +kernel
theorem d_X7_minds_70 : decode cX7_minds 70 = .ok (.invokevirtual 202, 3) := by decide +kernel
theorem d_X7_minds_73 : decode cX7_minds 73 = .ok (.aload_n 0, 1) := by decide +kernel
theorem d_X7_minds_74 : decode cX7_minds 74 = .ok (.dup, 1) := by decide +kernel
theorem d_X7_minds_75 : decode cX7_minds 75 = .ok (.getfield 107, 3) := by decide +kernel
theorem d_X7_minds_78 : decode cX7_minds 78 = .ok (.iconst 1, 1) := by decide +kernel
theorem d_X7_minds_79 : decode cX7_minds 79 = .ok (.iadd, 1) := by decide +kernel
theorem d_X7_minds_80 : decode cX7_minds 80 = .ok (.putfield 107, 3) := by decide +kernel
theorem d_X7_minds_83 : decode cX7_minds 83 = .ok (.return_, 1) := by decide +kernel
def t_X7_minds_0 : List (Nat × QO) := [(0, o_al 0 1), (1, o_gf 7 1 4), (4, o_k 8 6), (6, o_ic (fun x y => decide (x ≠ y)) 57 9), (9, o_k 0 10), (10, o_is 1 11), (11, o_il 1 12), (12, o_k 581 15), (15, o_ic (fun x y => decide (y ≤ x)) 47 18), (18, o_al 0 19), (19, o_gf 7 0 22), (22, o_k 332 25)]
theorem ts_X7_minds_0 (sx : QX) : ∀ q ∈ t_X7_minds_0, q_Snd sx RX7 cX7_minds 2 none q.1 q.2 := List.forall_mem_cons.mpr ⟨s_aload_n d_X7_minds_0 rfl, List.forall_mem_cons.mpr ⟨s_gf d_X7_minds_1 rfl (by decide) n_X7 in_X7 rfl k_4_30, List.forall_mem_cons.mpr ⟨s_bipush d_X7_minds_4 rfl, List.forall_mem_cons.mpr ⟨s_ic_ne d_X7_minds_6 (by decide), List.forall_mem_cons.mpr ⟨s_iconst d_X7_minds_9 rfl, List.forall_mem_cons.mpr ⟨s_istore_n d_X7_minds_10 rfl (by decide), List.forall_mem_cons.mpr ⟨s_iload_n d_X7_minds_11 rfl, List.forall_mem_cons.mpr ⟨s_sipush d_X7_minds_12 rfl, List.forall_mem_cons.mpr ⟨s_ic_ge d_X7_minds_15 (by decide), List.forall_mem_cons.mpr ⟨s_aload_n d_X7_minds_18 rfl, List.forall_mem_cons.mpr ⟨s_gf d_X7_minds_19 rfl (by decide) n_X7 in_X7 rfl k_4_29, List.forall_mem_cons.mpr ⟨s_sipush d_X7_minds_22 rfl, fun _ h => absurd h List.not_mem_nil⟩⟩⟩⟩⟩⟩⟩⟩⟩⟩⟩⟩
def t_X7_minds_1 : List (Nat × QO) := [(25, o_il 1 26), (26, o_b (fun x y => x + y) 27), (27, o_al 0 28), (28, o_gf 7 0 31), (31, o_k 332 34), (34, o_il 1 35), (35, o_b (fun x y => x + y) 36), (36, o_k 83 38), (38, o_b (fun x y => x + y) 39), (39, o_iald 40), (40, o_iast 41), (41, o_inc 1 1 44)]
theorem ts_X7_minds_1 (sx : QX) : ∀ q ∈ t_X7_minds_1, q_Snd sx RX7 cX7_minds 2 none q.1 q.2 := List.forall_mem_cons.mpr ⟨s_iload_n d_X7_minds_25 rfl, List.forall_mem_cons.mpr ⟨s_iadd d_X7_minds_26, List.forall_mem_cons.mpr ⟨s_aload_n d_X7_minds_27 rfl, List.forall_mem_cons.mpr ⟨s_gf d_X7_minds_28 rfl (by decide) n_X7 in_X7 rfl k_4_29, List.forall_mem_cons.mpr ⟨s_sipush d_X7_minds_31 rfl, List.forall_mem_cons.mpr ⟨s_iload_n d_X7_minds_34 rfl, List.forall_mem_cons.mpr ⟨s_iadd d_X7_minds_35, List.forall_mem_cons.mpr ⟨s_bipush d_X7_minds_36 rfl, List.forall_mem_cons.mpr ⟨s_iadd d_X7_minds_38, List.forall_mem_cons.mpr ⟨s_iald d_X7_minds_39, List.forall_mem_cons.mpr ⟨s_iast d_X7_minds_40, List.forall_mem_cons.mpr ⟨s_iinc d_X7_minds_41 rfl (by decide), fun _ h => absurd h List.not_mem_nil⟩⟩⟩⟩⟩⟩⟩⟩⟩⟩⟩⟩
def t_X7_minds_2 : List (Nat × QO) := [(44, o_goto 11), (47, o_al 0 48), (48, o_dup 49), (49, o_gf 7 1 52), (52, o_k 1 53), (53, o_b (fun x y => x - y) 54), (54, o_pf 7 1 57), (57, o_al 0 58), (58, o_k 0 59), (59, o_k 332 62), (62, o_k 83 64), (64, o_al 0 65)]
theorem ts_X7_minds_2 (sx : QX) : ∀ q ∈ t_X7_minds_2, q_Snd sx RX7 cX7_minds 2 none q.1 q.2 := List.forall_mem_cons.mpr ⟨s_goto d_X7_minds_44 (by decide), List.forall_mem_cons.mpr ⟨s_aload_n d_X7_minds_47 rfl, List.forall_mem_cons.mpr ⟨s_dup d_X7_minds_48, List.forall_mem_cons.mpr ⟨s_gf d_X7_minds_49 rfl (by decide) n_X7 in_X7 rfl k_4_30, List.forall_mem_cons.mpr ⟨s_iconst d_X7_minds_52 rfl, List.forall_mem_cons.mpr ⟨s_isub d_X7_minds_53, List.forall_mem_cons.mpr ⟨s_pf tyX7 d_X7_minds_54 rfl (by decide) n_X7 in_X7 rfl k_4_30 tyX7_ok nmX7 rfl rfl, List.forall_mem_cons.mpr ⟨s_aload_n d_X7_minds_57 rfl, List.forall_mem_cons.mpr ⟨s_iconst d_X7_minds_58 rfl, List.forall_mem_cons.mpr ⟨s_sipush d_X7_minds_59 rfl, List.forall_mem_cons.mpr ⟨s_bipush d_X7_minds_62 rfl, List.forall_mem_cons.mpr ⟨s_aload_n d_X7_minds_64 rfl, fun _ h => absurd h List.not_mem_nil⟩⟩⟩⟩⟩⟩⟩⟩⟩⟩⟩⟩
def t_X7_minds_3 : List (Nat × QO) := [(65, o_gf 7 1 68), (68, o_b (fun x y => x * y) 69), (69, o_b (fun x y => x + y) 70), (70, o_cV 0 7 105 4 3 73), (73, o_al 0 74), (74, o_dup 75), (75, o_gf 7 1 78), (78, o_k 1 79), (79, o_b (fun x y => x + y) 80), (80, o_pf 7 1 83), (83, o_vr)]
theorem ts_X7_minds_3 (sx : QX) : ∀ q ∈ t_X7_minds_3, q_Snd sx RX7 cX7_minds 2 none q.1 q.2 := List.forall_mem_cons.mpr ⟨s_gf d_X7_minds_65 rfl (by decide) n_X7 in_X7 rfl k_4_30, List.forall_mem_cons.mpr ⟨s_imul d_X7_minds_68, List.forall_mem_cons.mpr ⟨s_iadd d_X7_minds_69, List.forall_mem_cons.mpr ⟨s_cV (T := TX7) (N := 30) rfl d_X7_minds_70 rfl k_5_10 k_5_12 k_0_42 k_1_12 k_5_13 ⟨by decide, by decide⟩ (by decide +kernel) (by decide), List.forall_mem_cons.mpr ⟨s_aload_n d_X7_minds_73 rfl, List.forall_mem_cons.mpr ⟨s_dup d_X7_minds_74, List.forall_mem_cons.mpr ⟨s_gf d_X7_minds_75 rfl (by decide) n_X7 in_X7 rfl k_4_30, List.forall_mem_cons.mpr ⟨s_iconst d_X7_minds_78 rfl, List.forall_mem_cons.mpr ⟨s_iadd d_X7_minds_79, List.forall_mem_cons.mpr ⟨s_pf tyX7 d_X7_minds_80 rfl (by decide) n_X7 in_X7 rfl k_4_30 tyX7_ok nmX7 rfl rfl, List.forall_mem_cons.mpr ⟨s_vr d_X7_minds_83 rfl, fun _ h => absurd h List.not_mem_nil⟩⟩⟩⟩⟩⟩⟩⟩⟩⟩⟩
def t_X7_minds (pc : Nat) : Option QO := cond (Nat.ble pc 41) (cond (Nat.ble pc 22) (q_look (t_X7_minds_0) pc) (q_look (t_X7_minds_1) pc)) (cond (Nat.ble pc 64) (q_look (t_X7_minds_2) pc) (q_look (t_X7_minds_3) pc))
theorem ts_X7_minds (sx : QX) (pc : Nat) : ∀ o, t_X7_minds pc = some o → q_Snd sx RX7 cX7_minds 2 none pc o := by
  unfold t_X7_minds
  exact q_cb (q_cb (q_look_all (ts_X7_minds_0 sx)) (q_look_all (ts_X7_minds_1 sx))) (q_cb (q_look_all (ts_X7_minds_2 sx)) (q_look_all (ts_X7_minds_3 sx)))
theorem d_X7_say_0 : decode cX7_say 0 = .ok (.aload_n 0, 1) := by decide +kernel
theorem d_X7_say_1 : decode cX7_say 1 = .ok (.iload_n 1, 1) := by decide +kernel
theorem d_X7_say_2 : decode cX7_say 2 = .ok (.invokevirtual 168, 3) := by decide +kernel
theorem d_X7_say_5 : decode cX7_say 5 = .ok (.ifCond .eq 19, 3) := by decide +kernel
theorem d_X7_say_8 : decode cX7_say 8 = .ok (.aload_n 0, 1) := by decide +kernel
theorem d_X7_say_9 : decode cX7_say 9 = .ok (.iload_n 2, 1) := by decide +kernel
theorem d_X7_say_10 : decode cX7_say 10 = .ok (.invokevirtual 161, 3) := by decide +kernel
theorem d_X7_say_13 : decode cX7_say 13 = .ok (.ifCond .eq 11, 3) := by decide +kernel
theorem d_X7_say_16 : decode cX7_say 16 = .ok (.aload_n 0, 1) := by decide +kernel
theorem d_X7_say_17 : decode cX7_say 17 = .ok (.iload_n 3, 1) := by decide +kernel
theorem d_X7_say_18 : decode cX7_say 18 = .ok (.invokevirtual 165, 3) := by decide +kernel
theorem d_X7_say_21 : decode cX7_say 21 = .ok (.ifCond .ne 5, 3) := by decide +kernel
theorem d_X7_say_24 : decode cX7_say 24 = .ok (.iconst (-1), 1) := by decide +kernel
theorem d_X7_say_25 : decode cX7_say 25 = .ok (.ireturn, 1) := by decide +kernel
theorem d_X7_say_26 : decode cX7_say 26 = .ok (.aload_n 0, 1) := by decide +kernel
theorem d_X7_say_27 : decode cX7_say 27 = .ok (.iconst 0, 1) := by decide +kernel
theorem d_X7_say_28 : decode cX7_say 28 = .ok (.iload_n 1, 1) := by decide +kernel
theorem d_X7_say_29 : decode cX7_say 29 = .ok (.iload_n 2, 1) := by decide +kernel
theorem d_X7_say_30 : decode cX7_say 30 = .ok (.invokevirtual 205, 3) := by decide +kernel
theorem d_X7_say_33 : decode cX7_say 33 = .ok (.ifCond .ne 6, 3) := by decide +kernel
theorem d_X7_say_36 : decode cX7_say 36 = .ok (.bipush (-2), 2) := by decide +kernel
theorem d_X7_say_38 : decode cX7_say 38 = .ok (.ireturn, 1) := by decide +kernel
theorem d_X7_say_39 : decode cX7_say 39 = .ok (.aload_n 0, 1) := by decide +kernel
theorem d_X7_say_40 : decode cX7_say 40 = .ok (.invokevirtual 208, 3) := by decide +kernel
theorem d_X7_say_43 : decode cX7_say 43 = .ok (.aload_n 0, 1) := by decide +kernel
theorem d_X7_say_44 : decode cX7_say 44 = .ok (.iconst 0, 1) := by decide +kernel
theorem d_X7_say_45 : decode cX7_say 45 = .ok (.iload_n 1, 1) := by decide +kernel
theorem d_X7_say_46 : decode cX7_say 46 = .ok (.iload_n 2, 1) := by decide +kernel
theorem d_X7_say_47 : decode cX7_say 47 = .ok (.iload_n 3, 1) := by decide +kernel
theorem d_X7_say_48 : decode cX7_say 48 = .ok (.invokevirtual 211, 3) := by decide +kernel
theorem d_X7_say_51 : decode cX7_say 51 = .ok (.aload_n 0, 1) := by decide +kernel
theorem d_X7_say_52 : decode cX7_say 52 = .ok (.getfield 7, 3) := by decide +kernel
theorem d_X7_say_55 : decode cX7_say 55 = .ok (.iconst 1, 1) := by decide +kernel
theorem d_X7_say_56 : decode cX7_say 56 = .ok (.iload_n 2, 1) := by decide +kernel
theorem d_X7_say_57 : decode cX7_say 57 = .ok (.iadd, 1) := by decide +kernel
theorem d_X7_say_58 : decode cX7_say 58 = .ok (.iaload, 1) := by decide +kernel
theorem d_X7_say_59 : decode cX7_say 59 = .ok (.ireturn, 1) := by decide +kernel
def t_X7_say_0 : List (Nat × QO) := [(0, o_al 0 1), (1, o_il 1 2), (2, o_cV 1 7 108 2 2 5), (5, o_if (fun x => decide (x = 0)) 24 8), (8, o_al 0 9), (9, o_il 2 10), (10, o_cV 1 7 106 2 2 13), (13, o_if (fun x => decide (x = 0)) 24 16), (16, o_al 0 17), (17, o_il 3 18), (18, o_cV 1 7 107 2 2 21), (21, o_if (fun x => decide (x ≠ 0)) 26 24)]
theorem ts_X7_say_0 (sx : QX) : ∀ q ∈ t_X7_say_0, q_Snd sx RX7 cX7_say 4 (some .int) q.1 q.2 := List.forall_mem_cons.mpr ⟨s_aload_n d_X7_say_0 rfl, List.forall_mem_cons.mpr ⟨s_iload_n d_X7_say_1 rfl, List.forall_mem_cons.mpr ⟨s_cV (T := TX7) (N := 30) rfl d_X7_say_2 rfl k_4_199 k_4_201 k_0_34 k_1_12 k_4_202 ⟨by decide, by decide⟩ (by decide +kernel) (by decide), List.forall_mem_cons.mpr ⟨s_if_eq d_X7_say_5 (by decide), List.forall_mem_cons.mpr ⟨s_aload_n d_X7_say_8 rfl, List.forall_mem_cons.mpr ⟨s_iload_n d_X7_say_9 rfl, List.forall_mem_cons.mpr ⟨s_cV (T := TX7) (N := 30) rfl d_X7_say_10 rfl k_4_183 k_4_185 k_0_32 k_1_12 k_4_186 ⟨by decide, by decide⟩ (by decide +kernel) (by decide), List.forall_mem_cons.mpr ⟨s_if_eq d_X7_say_13 (by decide), List.forall_mem_cons.mpr ⟨s_aload_n d_X7_say_16 rfl, List.forall_mem_cons.mpr ⟨s_iload_n d_X7_say_17 rfl, List.forall_mem_cons.mpr ⟨s_cV (T := TX7) (N := 30) rfl d_X7_say_18 rfl k_4_191 k_4_193 k_0_33 k_1_12 k_4_194 ⟨by decide, by decide⟩ (by decide +kernel) (by decide), List.forall_mem_cons.mpr ⟨s_if_ne d_X7_say_21 (by decide), fun _ h => absurd h List.not_mem_nil⟩⟩⟩⟩⟩⟩⟩⟩⟩⟩⟩⟩
def t_X7_say_1 : List (Nat × QO) := [(24, o_k (-1) 25), (25, o_ir false), (26, o_al 0 27), (27, o_k 0 28), (28, o_il 1 29), (29, o_il 2 30), (30, o_cV 1 7 143 4 4 33), (33, o_if (fun x => decide (x ≠ 0)) 39 36), (36, o_k (-2) 38), (38, o_ir false), (39, o_al 0 40), (40, o_cV 0 7 146 2 1 43)]
theorem ts_X7_say_1 (sx : QX) : ∀ q ∈ t_X7_say_1, q_Snd sx RX7 cX7_say 4 (some .int) q.1 q.2 := List.forall_mem_cons.mpr ⟨s_iconst d_X7_say_24 rfl, List.forall_mem_cons.mpr ⟨s_ir d_X7_say_25 rfl, List.forall_mem_cons.mpr ⟨s_aload_n d_X7_say_26 rfl, List.forall_mem_cons.mpr ⟨s_iconst d_X7_say_27 rfl, List.forall_mem_cons.mpr ⟨s_iload_n d_X7_say_28 rfl, List.forall_mem_cons.mpr ⟨s_iload_n d_X7_say_29 rfl, List.forall_mem_cons.mpr ⟨s_cV (T := TX7) (N := 30) rfl d_X7_say_30 rfl k_4_238 k_5_0 k_0_39 k_1_12 k_5_1 ⟨by decide, by decide⟩ (by decide +kernel) (by decide), List.forall_mem_cons.mpr ⟨s_if_ne d_X7_say_33 (by decide), List.forall_mem_cons.mpr ⟨s_bipush d_X7_say_36 rfl, List.forall_mem_cons.mpr ⟨s_ir d_X7_say_38 rfl, List.forall_mem_cons.mpr ⟨s_aload_n d_X7_say_39 rfl, List.forall_mem_cons.mpr ⟨s_cV (T := TX7) (N := 30) rfl d_X7_say_40 rfl k_5_6 k_5_8 k_0_41 k_1_12 k_5_9 ⟨by decide, by decide⟩ (by decide +kernel) (by decide), fun _ h => absurd h List.not_mem_nil⟩⟩⟩⟩⟩⟩⟩⟩⟩⟩⟩⟩
def t_X7_say_2 : List (Nat × QO) := [(43, o_al 0 44), (44, o_k 0 45), (45, o_il 1 46), (46, o_il 2 47), (47, o_il 3 48), (48, o_cV 0 7 141 6 5 51), (51, o_al 0 52), (52, o_gf 7 0 55), (55, o_k 1 56), (56, o_il 2 57), (57, o_b (fun x y => x + y) 58), (58, o_iald 59)]
theorem ts_X7_say_2 (sx : QX) : ∀ q ∈ t_X7_say_2, q_Snd sx RX7 cX7_say 4 (some .int) q.1 q.2 := List.forall_mem_cons.mpr ⟨s_aload_n d_X7_say_43 rfl, List.forall_mem_cons.mpr ⟨s_iconst d_X7_say_44 rfl, List.forall_mem_cons.mpr ⟨s_iload_n d_X7_say_45 rfl, List.forall_mem_cons.mpr ⟨s_iload_n d_X7_say_46 rfl, List.forall_mem_cons.mpr ⟨s_iload_n d_X7_say_47 rfl, List.forall_mem_cons.mpr ⟨s_cV (T := TX7) (N := 30) rfl d_X7_say_48 rfl k_5_14 k_5_16 k_0_43 k_1_12 k_5_17 ⟨by decide, by decide⟩ (by decide +kernel) (by decide), List.forall_mem_cons.mpr ⟨s_aload_n d_X7_say_51 rfl, List.forall_mem_cons.mpr ⟨s_gf d_X7_say_52 rfl (by decide) n_X7 in_X7 rfl k_4_29, List.forall_mem_cons.mpr ⟨s_iconst d_X7_say_55 rfl, List.forall_mem_cons.mpr ⟨s_iload_n d_X7_say_56 rfl, List.forall_mem_cons.mpr ⟨s_iadd d_X7_say_57, List.forall_mem_cons.mpr ⟨s_iald d_X7_say_58, fun _ h => absurd h List.not_mem_nil⟩⟩⟩⟩⟩⟩⟩⟩⟩⟩⟩⟩
def t_X7_say_3 : List (Nat × QO) := [(59, o_ir false)]
theorem ts_X7_say_3 (sx : QX) : ∀ q ∈ t_X7_say_3, q_Snd sx RX7 cX7_say 4 (some .int) q.1 q.2 := List.forall_mem_cons.mpr ⟨s_ir d_X7_say_59 rfl, fun _ h => absurd h List.not_mem_nil⟩
def t_X7_say (pc : Nat) : Option QO := cond (Nat.ble pc 40) (cond (Nat.ble pc 21) (q_look (t_X7_say_0) pc) (q_look (t_X7_say_1) pc)) (cond (Nat.ble pc 58) (q_look (t_X7_say_2) pc) (q_look (t_X7_say_3) pc))
theorem ts_X7_say (sx : QX) (pc : Nat) : ∀ o, t_X7_say pc = some o → q_Snd sx RX7 cX7_say 4 (some .int) pc o := by
  unfold t_X7_say
  exact q_cb (q_cb (q_look_all (ts_X7_say_0 sx)) (q_look_all (ts_X7_say_1 sx))) (q_cb (q_look_all (ts_X7_say_2 sx)) (q_look_all (ts_X7_say_3 sx)))
theorem d_X7_promise_0 : decode cX7_promise 0 = .ok (.aload_n 0, 1) := by decide +kernel
theorem d_X7_promise_1 : decode cX7_promise 1 = .ok (.iload_n 1, 1) := by decide +kernel
theorem d_X7_promise_2 : decode cX7_promise 2 = .ok (.invokevirtual 168, 3) := by decide +kernel
theorem d_X7_promise_5 : decode cX7_promise 5 = .ok (.ifCond .eq 23, 3) := by decide +kernel
theorem d_X7_promise_8 : decode cX7_promise 8 = .ok (.aload_n 0, 1) := by decide +kernel
theorem d_X7_promise_9 : decode cX7_promise 9 = .ok (.iload_n 2, 1) := by decide +kernel
theorem d_X7_promise_10 : decode cX7_promise 10 = .ok (.invokevirtual 161, 3) := by decide +kernel
theorem d_X7_promise_13 : decode cX7_promise 13 = .ok (.ifCond .eq 15, 3) := by decide +kernel
theorem d_X7_promise_16 : decode cX7_promise 16 = .ok (.iload_n 3, 1) := by decide +kernel
theorem d_X7_promise_17 : decode cX7_promise 17 = .ok (.i2l, 1) := by decide +kernel
theorem d_X7_promise_18 : decode cX7_promise 18 = .ok (.lconst 0, 1) := by decide +kernel
theorem d_X7_promise_19 : decode cX7_promise 19 = .ok (.ldc2_w 215, 3) := by decide +kernel
theorem d_X7_promise_22 : decode cX7_promise 22 = .ok (.invokestatic 85, 3) := by decide +kernel
theorem d_X7_promise_25 : decode cX7_promise 25 = .ok (.ifCond .ne 5, 3) := by decide +kernel
theorem d_X7_promise_28 : decode cX7_promise 28 = .ok (.iconst (-1), 1) := by decide +kernel
theorem d_X7_promise_29 : decode cX7_promise 29 = .ok (.ireturn, 1) := by decide +kernel
theorem d_X7_promise_30 : decode cX7_promise 30 = .ok (.aload_n 0, 1) := by decide +kernel
theorem d_X7_promise_31 : decode cX7_promise 31 = .ok (.iconst 0, 1) := by decide +kernel
theorem d_X7_promise_32 : decode cX7_promise 32 = .ok (.iload_n 2, 1) := by decide +kernel
theorem d_X7_promise_33 : decode cX7_promise 33 = .ok (.invokevirtual 189, 3) := by decide +kernel
theorem d_X7_promise_36 : decode cX7_promise 36 = .ok (.ifCond .ne 6, 3) := by decide +kernel
theorem d_X7_promise_39 : decode cX7_promise 39 = .ok (.bipush (-2), 2) := by decide +kernel
theorem d_X7_promise_41 : decode cX7_promise 41 = .ok (.ireturn, 1) := by decide +kernel
theorem d_X7_promise_42 : decode cX7_promise 42 = .ok (.aload_n 0, 1) := by decide +kernel
theorem d_X7_promise_43 : decode cX7_promise 43 = .ok (.invokevirtual 208, 3) := by decide +kernel
theorem d_X7_promise_46 : decode cX7_promise 46 = .ok (.aload_n 0, 1) := by decide +kernel
theorem d_X7_promise_47 : decode cX7_promise 47 = .ok (.getfield 7, 3) := by decide +kernel
theorem d_X7_promise_50 : decode cX7_promise 50 = .ok (.bipush 55, 2) := by decide +kernel
theorem d_X7_promise_52 : decode cX7_promise 52 = .ok (.bipush 6, 2) := by decide +kernel
theorem d_X7_promise_54 : decode cX7_promise 54 = .ok (.iload_n 1, 1) := by decide +kernel
theorem d_X7_promise_55 : decode cX7_promise 55 = .ok (.imul, 1) := by decide +kernel
theorem d_X7_promise_56 : decode cX7_promise 56 = .ok (.iadd, 1) := by decide +kernel
theorem d_X7_promise_57 : decode cX7_promise 57 = .ok (.iload_n 2, 1) := by decide +kernel
theorem d_X7_promise_58 : decode cX7_promise 58 = .ok (.iadd, 1) := by decide +kernel
theorem d_X7_promise_59 : decode cX7_promise 59 = .ok (.iaload, 1) := by decide +kernel
theorem d_X7_promise_60 : decode cX7_promise 60 = .ok (.istore 4, 2) := by decide +kernel
theorem d_X7_promise_62 : decode cX7_promise 62 = .ok (.aload_n 0, 1) := by decide +kernel
theorem d_X7_promise_63 : decode cX7_promise 63 = .ok (.getfield 7, 3) := by decide +kernel
theorem d_X7_promise_66 : decode cX7_promise 66 = .ok (.bipush 55, 2) := by decide +kernel
theorem d_X7_promise_68 : decode cX7_promise 68 = .ok (.bipush 6, 2) := by decide +kernel
theorem d_X7_promise_70 : decode cX7_promise 70 = .ok (.iload_n 1, 1) := by decide +kernel
theorem d_X7_promise_71 : decode cX7_promise 71 = .ok (.imul, 1) := by decide +kernel
theorem d_X7_promise_72 : decode cX7_promise 72 = .ok (.iadd, 1) := by decide +kernel
theorem d_X7_promise_73 : decode cX7_promise 73 = .ok (.iload_n 2, 1) := by decide +kernel
theorem d_X7_promise_74 : decode cX7_promise 74 = .ok (.iadd, 1) := by decide +kernel
theorem d_X7_promise_75 : decode cX7_promise 75 = .ok (.iload_n 3, 1) := by decide +kernel
theorem d_X7_promise_76 : decode cX7_promise 76 = .ok (.iastore, 1) := by decide +kernel
theorem d_X7_promise_77 : decode cX7_promise 77 = .ok (.iload 4, 2) := by decide +kernel
theorem d_X7_promise_79 : decode cX7_promise 79 = .ok (.ireturn, 1) := by decide +kernel
def t_X7_promise_0 : List (Nat × QO) := [(0, o_al 0 1), (1, o_il 1 2), (2, o_cV 1 7 108 2 2 5), (5, o_if (fun x => decide (x = 0)) 28 8), (8, o_al 0 9), (9, o_il 2 10), (10, o_cV 1 7 106 2 2 13), (13, o_if (fun x => decide (x = 0)) 28 16), (16, o_il 3 17), (17, o_i2l 18), (18, o_kl 0 19), (19, o_kl 7 22)]
theorem ts_X7_promise_0 (sx : QX) : ∀ q ∈ t_X7_promise_0, q_Snd sx RX7 cX7_promise 5 (some .int) q.1 q.2 := List.forall_mem_cons.mpr ⟨s_aload_n d_X7_promise_0 rfl, List.forall_mem_cons.mpr ⟨s_iload_n d_X7_promise_1 rfl, List.forall_mem_cons.mpr ⟨s_cV (T := TX7) (N := 30) rfl d_X7_promise_2 rfl k_4_199 k_4_201 k_0_34 k_1_12 k_4_202 ⟨by decide, by decide⟩ (by decide +kernel) (by decide), List.forall_mem_cons.mpr ⟨s_if_eq d_X7_promise_5 (by decide), List.forall_mem_cons.mpr ⟨s_aload_n d_X7_promise_8 rfl, List.forall_mem_cons.mpr ⟨s_iload_n d_X7_promise_9 rfl, List.forall_mem_cons.mpr ⟨s_cV (T := TX7) (N := 30) rfl d_X7_promise_10 rfl k_4_183 k_4_185 k_0_32 k_1_12 k_4_186 ⟨by decide, by decide⟩ (by decide +kernel) (by decide), List.forall_mem_cons.mpr ⟨s_if_eq d_X7_promise_13 (by decide), List.forall_mem_cons.mpr ⟨s_iload_n d_X7_promise_16 rfl, List.forall_mem_cons.mpr ⟨s_i2l d_X7_promise_17, List.forall_mem_cons.mpr ⟨s_lconst d_X7_promise_18 rfl, List.forall_mem_cons.mpr ⟨s_ldc2 d_X7_promise_19 k_5_30, fun _ h => absurd h List.not_mem_nil⟩⟩⟩⟩⟩⟩⟩⟩⟩⟩⟩⟩
def t_X7_promise_1 : List (Nat × QO) := [(22, o_cS 1 102 6 3 25), (25, o_if (fun x => decide (x ≠ 0)) 30 28), (28, o_k (-1) 29), (29, o_ir false), (30, o_al 0 31), (31, o_k 0 32), (32, o_il 2 33), (33, o_cV 1 7 138 3 3 36), (36, o_if (fun x => decide (x ≠ 0)) 42 39), (39, o_k (-2) 41), (41, o_ir false), (42, o_al 0 43)]
theorem ts_X7_promise_1 (sx : QX) : ∀ q ∈ t_X7_promise_1, q_Snd sx RX7 cX7_promise 5 (some .int) q.1 q.2 := List.forall_mem_cons.mpr ⟨s_cS rfl d_X7_promise_22 k_4_126 k_4_127 k_1_12 k_4_128 ⟨by decide, by decide⟩ (by decide +kernel) (by decide), List.forall_mem_cons.mpr ⟨s_if_ne d_X7_promise_25 (by decide), List.forall_mem_cons.mpr ⟨s_iconst d_X7_promise_28 rfl, List.forall_mem_cons.mpr ⟨s_ir d_X7_promise_29 rfl, List.forall_mem_cons.mpr ⟨s_aload_n d_X7_promise_30 rfl, List.forall_mem_cons.mpr ⟨s_iconst d_X7_promise_31 rfl, List.forall_mem_cons.mpr ⟨s_iload_n d_X7_promise_32 rfl, List.forall_mem_cons.mpr ⟨s_cV (T := TX7) (N := 30) rfl d_X7_promise_33 rfl k_5_2 k_5_4 k_0_40 k_1_12 k_5_5 ⟨by decide, by decide⟩ (by decide +kernel) (by decide), List.forall_mem_cons.mpr ⟨s_if_ne d_X7_promise_36 (by decide), List.forall_mem_cons.mpr ⟨s_bipush d_X7_promise_39 rfl, List.forall_mem_cons.mpr ⟨s_ir d_X7_promise_41 rfl, List.forall_mem_cons.mpr ⟨s_aload_n d_X7_promise_42 rfl, fun _ h => absurd h List.not_mem_nil⟩⟩⟩⟩⟩⟩⟩⟩⟩⟩⟩⟩
def t_X7_promise_2 : List (Nat × QO) := [(43, o_cV 0 7 146 2 1 46), (46, o_al 0 47), (47, o_gf 7 0 50), (50, o_k 55 52), (52, o_k 6 54), (54, o_il 1 55), (55, o_b (fun x y => x * y) 56), (56, o_b (fun x y => x + y) 57), (57, o_il 2 58), (58, o_b (fun x y => x + y) 59), (59, o_iald 60), (60, o_is 4 62)]
theorem ts_X7_promise_2 (sx : QX) : ∀ q ∈ t_X7_promise_2, q_Snd sx RX7 cX7_promise 5 (some .int) q.1 q.2 := List.forall_mem_cons.mpr ⟨s_cV (T := TX7) (N := 30) rfl d_X7_promise_43 rfl k_5_6 k_5_8 k_0_41 k_1_12 k_5_9 ⟨by decide, by decide⟩ (by decide +kernel) (by decide), List.forall_mem_cons.mpr ⟨s_aload_n d_X7_promise_46 rfl, List.forall_mem_cons.mpr ⟨s_gf d_X7_promise_47 rfl (by decide) n_X7 in_X7 rfl k_4_29, List.forall_mem_cons.mpr ⟨s_bipush d_X7_promise_50 rfl, List.forall_mem_cons.mpr ⟨s_bipush d_X7_promise_52 rfl, List.forall_mem_cons.mpr ⟨s_iload_n d_X7_promise_54 rfl, List.forall_mem_cons.mpr ⟨s_imul d_X7_promise_55, List.forall_mem_cons.mpr ⟨s_iadd d_X7_promise_56, List.forall_mem_cons.mpr ⟨s_iload_n d_X7_promise_57 rfl, List.forall_mem_cons.mpr ⟨s_iadd d_X7_promise_58, List.forall_mem_cons.mpr ⟨s_iald d_X7_promise_59, List.forall_mem_cons.mpr ⟨s_istore d_X7_promise_60 (by decide), fun _ h => absurd h List.not_mem_nil⟩⟩⟩⟩⟩⟩⟩⟩⟩⟩⟩⟩
def t_X7_promise_3 : List (Nat × QO) := [(62, o_al 0 63), (63, o_gf 7 0 66), (66, o_k 55 68), (68, o_k 6 70), (70, o_il 1 71), (71, o_b (fun x y => x * y) 72), (72, o_b (fun x y => x + y) 73), (73, o_il 2 74), (74, o_b (fun x y => x + y) 75), (75, o_il 3 76), (76, o_iast 77), (77, o_il 4 79)]
theorem ts_X7_promise_3 (sx : QX) : ∀ q ∈ t_X7_promise_3, q_Snd sx RX7 cX7_promise 5 (some .int) q.1 q.2 := List.forall_mem_cons.mpr ⟨s_aload_n d_X7_promise_62 rfl, List.forall_mem_cons.mpr ⟨s_gf d_X7_promise_63 rfl (by decide) n_X7 in_X7 rfl k_4_29, List.forall_mem_cons.mpr ⟨s_bipush d_X7_promise_66 rfl, List.forall_mem_cons.mpr ⟨s_bipush d_X7_promise_68 rfl, List.forall_mem_cons.mpr ⟨s_iload_n d_X7_promise_70 rfl, List.forall_mem_cons.mpr ⟨s_imul d_X7_promise_71, List.forall_mem_cons.mpr ⟨s_iadd d_X7_promise_72, List.forall_mem_cons.mpr ⟨s_iload_n d_X7_promise_73 rfl, List.forall_mem_cons.mpr ⟨s_iadd d_X7_promise_74, List.forall_mem_cons.mpr ⟨s_iload_n d_X7_promise_75 rfl, List.forall_mem_cons.mpr ⟨s_iast d_X7_promise_76, List.forall_mem_cons.mpr ⟨s_iload d_X7_promise_77, fun _ h => absurd h List.not_mem_nil⟩⟩⟩⟩⟩⟩⟩⟩⟩⟩⟩⟩
def t_X7_promise_4 : List (Nat × QO) := [(79, o_ir false)]
theorem ts_X7_promise_4 (sx : QX) : ∀ q ∈ t_X7_promise_4, q_Snd sx RX7 cX7_promise 5 (some .int) q.1 q.2 := List.forall_mem_cons.mpr ⟨s_ir d_X7_promise_79 rfl, fun _ h => absurd h List.not_mem_nil⟩
def t_X7_promise (pc : Nat) : Option QO := cond (Nat.ble pc 42) (cond (Nat.ble pc 19) (q_look (t_X7_promise_0) pc) (q_look (t_X7_promise_1) pc)) (cond (Nat.ble pc 60) (q_look (t_X7_promise_2) pc) (cond (Nat.ble pc 77) (q_look (t_X7_promise_3) pc) (q_look (t_X7_promise_4) pc)))
theorem ts_X7_promise (sx : QX) (pc : Nat) : ∀ o, t_X7_promise pc = some o → q_Snd sx RX7 cX7_promise 5 (some .int) pc o := by
  unfold t_X7_promise
  exact q_cb (q_cb (q_look_all (ts_X7_promise_0 sx)) (q_look_all (ts_X7_promise_1 sx))) (q_cb (q_look_all (ts_X7_promise_2 sx)) (q_cb (q_look_all (ts_X7_promise_3 sx)) (q_look_all (ts_X7_promise_4 sx))))
theorem d_X7_take_0 : decode cX7_take 0 = .ok (.aload_n 0, 1) := by decide +kernel
theorem d_X7_take_1 : decode cX7_take 1 = .ok (.iload_n 1, 1) := by decide +kernel
theorem d_X7_take_2 : decode cX7_take 2 = .ok (.invokevirtual 161, 3) := by decide +kernel
theorem d_X7_take_5 : decode cX7_take 5 = .ok (.ifCond .eq 15, 3) := by decide +kernel
theorem d_X7_take_8 : decode cX7_take 8 = .ok (.iload_n 2, 1) := by decide +kernel
theorem d_X7_take_9 : decode cX7_take 9 = .ok (.i2l, 1) := by decide +kernel
theorem d_X7_take_10 : decode cX7_take 10 = .ok (.lconst 0, 1) := by decide +kernel
theorem d_X7_take_11 : decode cX7_take 11 = .ok (.ldc2_w 215, 3) := by decide +kernel
theorem d_X7_take_14 : decode cX7_take 14 = .ok (.invokestatic 85, 3) := by decide +kernel
theorem d_X7_take_17 : decode cX7_take 17 = .ok (.ifCond .ne 5, 3) := by decide +kernel
theorem d_X7_take_20 : decode cX7_take 20 = .ok (.iconst (-1), 1) := by decide +kernel
theorem d_X7_take_21 : decode cX7_take 21 = .ok (.ireturn, 1) := by decide +kernel
theorem d_X7_take_22 : decode cX7_take 22 = .ok (.aload_n 0, 1) := by decide +kernel
theorem d_X7_take_23 : decode cX7_take 23 = .ok (.getfield 7, 3) := by decide +kernel
theorem d_X7_take_26 : decode cX7_take 26 = .ok (.bipush 7, 2) := by decide +kernel
theorem d_X7_take_28 : decode cX7_take 28 = .ok (.iload_n 1, 1) := by decide +kernel
theorem d_X7_take_29 : decode cX7_take 29 = .ok (.iadd, 1) := by decide +kernel
theorem d_X7_take_30 : decode cX7_take 30 = .ok (.iaload, 1) := by decide +kernel
theorem d_X7_take_31 : decode cX7_take 31 = .ok (.iconst 1, 1) := by decide +kernel
theorem d_X7_take_32 : decode cX7_take 32 = .ok (.if_icmp .eq 6, 3) := by decide +kernel
theorem d_X7_take_35 : decode cX7_take 35 = .ok (.bipush (-2), 2) := by decide +kernel
theorem d_X7_take_37 : decode cX7_take 37 = .ok (.ireturn, 1) := by decide +kernel
theorem d_X7_take_38 : decode cX7_take 38 = .ok (.aload_n 0, 1) := by decide +kernel
theorem d_X7_take_39 : decode cX7_take 39 = .ok (.invokevirtual 208, 3) := by decide +kernel
theorem d_X7_take_42 : decode cX7_take 42 = .ok (.aload_n 0, 1) := by decide +kernel
theorem d_X7_take_43 : decode cX7_take 43 = .ok (.iconst 0, 1) := by decide +kernel
theorem d_X7_take_44 : decode cX7_take 44 = .ok (.iload_n 1, 1) := by decide +kernel
theorem d_X7_take_45 : decode cX7_take 45 = .ok (.iload_n 2, 1) := by decide +kernel
theorem d_X7_take_46 : decode cX7_take 46 = .ok (.invokevirtual 217, 3) := by decide +kernel
theorem d_X7_take_49 : decode cX7_take 49 = .ok (.aload_n 0, 1) := by decide +kernel
theorem d_X7_take_50 : decode cX7_take 50 = .ok (.getfield 7, 3) := by decide +kernel
theorem d_X7_take_53 : decode cX7_take 53 = .ok (.bipush 7, 2) := by decide +kernel
theorem d_X7_take_55 : decode cX7_take 55 = .ok (.iload_n 1, 1) := by decide +kernel
theorem d_X7_take_56 : decode cX7_take 56 = .ok (.iadd, 1) := by decide +kernel
theorem d_X7_take_57 : decode cX7_take 57 = .ok (.iaload, 1) := by decide +kernel
theorem d_X7_take_58 : decode cX7_take 58 = .ok (.iconst 2, 1) := by decide +kernel
theorem d_X7_take_59 : decode cX7_take 59 = .ok (.if_icmp .ne 7, 3) := by decide +kernel
theorem d_X7_take_62 : decode cX7_take 62 = .ok (.iconst 1, 1) := by decide +kernel
theorem d_X7_take_63 : decode cX7_take 63 = .ok (.goto 4, 3) := by decide +kernel
theorem d_X7_take_66 : decode cX7_take 66 = .ok (.iconst 0, 1) := by decide +kernel
theorem d_X7_take_67 : decode cX7_take 67 = .ok (.ireturn, 1) := by decide +kernel
def t_X7_take_0 : List (Nat × QO) := [(0, o_al 0 1), (1, o_il 1 2), (2, o_cV 1 7 106 2 2 5), (5, o_if (fun x => decide (x = 0)) 20 8), (8, o_il 2 9), (9, o_i2l 10), (10, o_kl 0 11), (11, o_kl 7 14), (14, o_cS 1 102 6 3 17), (17, o_if (fun x => decide (x ≠ 0)) 22 20), (20, o_k (-1) 21), (21, o_ir false)]
theorem ts_X7_take_0 (sx : QX) : ∀ q ∈ t_X7_take_0, q_Snd sx RX7 cX7_take 3 (some .int) q.1 q.2 := List.forall_mem_cons.mpr ⟨s_aload_n d_X7_take_0 rfl, List.forall_mem_cons.mpr ⟨s_iload_n d_X7_take_1 rfl, List.forall_mem_cons.mpr ⟨s_cV (T := TX7) (N := 30) rfl d_X7_take_2 rfl k_4_183 k_4_185 k_0_32 k_1_12 k_4_186 ⟨by decide, by decide⟩ (by decide +kernel) (by decide), List.forall_mem_cons.mpr ⟨s_if_eq d_X7_take_5 (by decide), List.forall_mem_cons.mpr ⟨s_iload_n d_X7_take_8 rfl, List.forall_mem_cons.mpr ⟨s_i2l d_X7_take_9, List.forall_mem_cons.mpr ⟨s_lconst d_X7_take_10 rfl, List.forall_mem_cons.mpr ⟨s_ldc2 d_X7_take_11 k_5_30, List.forall_mem_cons.mpr ⟨s_cS rfl d_X7_take_14 k_4_126 k_4_127 k_1_12 k_4_128 ⟨by decide, by decide⟩ (by decide +kernel) (by decide), List.forall_mem_cons.mpr ⟨s_if_ne d_X7_take_17 (by decide), List.forall_mem_cons.mpr ⟨s_iconst d_X7_take_20 rfl, List.forall_mem_cons.mpr ⟨s_ir d_X7_take_21 rfl, fun _ h => absurd h List.not_mem_nil⟩⟩⟩⟩⟩⟩⟩⟩⟩⟩⟩⟩
def t_X7_take_1 : List (Nat × QO) := [(22, o_al 0 23), (23, o_gf 7 0 26), (26, o_k 7 28), (28, o_il 1 29), (29, o_b (fun x y => x + y) 30), (30, o_iald 31), (31, o_k 1 32), (32, o_ic (fun x y => decide (x = y)) 38 35), (35, o_k (-2) 37), (37, o_ir false), (38, o_al 0 39), (39, o_cV 0 7 146 2 1 42)]
theorem ts_X7_take_1 (sx : QX) : ∀ q ∈ t_X7_take_1, q_Snd sx RX7 cX7_take 3 (some .int) q.1 q.2 := List.forall_mem_cons.mpr ⟨s_aload_n d_X7_take_22 rfl, List.forall_mem_cons.mpr ⟨s_gf d_X7_take_23 rfl (by decide) n_X7 in_X7 rfl k_4_29, List.forall_mem_cons.mpr ⟨s_bipush d_X7_take_26 rfl, List.forall_mem_cons.mpr ⟨s_iload_n d_X7_take_28 rfl, List.forall_mem_cons.mpr ⟨s_iadd d_X7_take_29, List.forall_mem_cons.mpr ⟨s_iald d_X7_take_30, List.forall_mem_cons.mpr ⟨s_iconst d_X7_take_31 rfl, List.forall_mem_cons.mpr ⟨s_ic_eq d_X7_take_32 (by decide), List.forall_mem_cons.mpr ⟨s_bipush d_X7_take_35 rfl, List.forall_mem_cons.mpr ⟨s_ir d_X7_take_37 rfl, List.forall_mem_cons.mpr ⟨s_aload_n d_X7_take_38 rfl, List.forall_mem_cons.mpr ⟨s_cV (T := TX7) (N := 30) rfl d_X7_take_39 rfl k_5_6 k_5_8 k_0_41 k_1_12 k_5_9 ⟨by decide, by decide⟩ (by decide +kernel) (by decide), fun _ h => absurd h List.not_mem_nil⟩⟩⟩⟩⟩⟩⟩⟩⟩⟩⟩⟩
def t_X7_take_2 : List (Nat × QO) := [(42, o_al 0 43), (43, o_k 0 44), (44, o_il 1 45), (45, o_il 2 46), (46, o_cV 0 7 145 4 4 49), (49, o_al 0 50), (50, o_gf 7 0 53), (53, o_k 7 55), (55, o_il 1 56), (56, o_b (fun x y => x + y) 57), (57, o_iald 58), (58, o_k 2 59)]
theorem ts_X7_take_2 (sx : QX) : ∀ q ∈ t_X7_take_2, q_Snd sx RX7 cX7_take 3 (some .int) q.1 q.2 := List.forall_mem_cons.mpr ⟨s_aload_n d_X7_take_42 rfl, List.forall_mem_cons.mpr ⟨s_iconst d_X7_take_43 rfl, List.forall_mem_cons.mpr ⟨s_iload_n d_X7_take_44 rfl, List.forall_mem_cons.mpr ⟨s_iload_n d_X7_take_45 rfl, List.forall_mem_cons.mpr ⟨s_cV (T := TX7) (N := 30) rfl d_X7_take_46 rfl k_5_35 k_5_37 k_0_46 k_1_12 k_5_38 ⟨by decide, by decide⟩ (by decide +kernel) (by decide), List.forall_mem_cons.mpr ⟨s_aload_n d_X7_take_49 rfl, List.forall_mem_cons.mpr ⟨s_gf d_X7_take_50 rfl (by decide) n_X7 in_X7 rfl k_4_29, List.forall_mem_cons.mpr ⟨s_bipush d_X7_take_53 rfl, List.forall_mem_cons.mpr ⟨s_iload_n d_X7_take_55 rfl, List.forall_mem_cons.mpr ⟨s_iadd d_X7_take_56, List.forall_mem_cons.mpr ⟨s_iald d_X7_take_57, List.forall_mem_cons.mpr ⟨s_iconst d_X7_take_58 rfl, fun _ h => absurd h List.not_mem_nil⟩⟩⟩⟩⟩⟩⟩⟩⟩⟩⟩⟩
def t_X7_take_3 : List (Nat × QO) := [(59, o_ic (fun x y => decide (x ≠ y)) 66 62), (62, o_k 1 63), (63, o_goto 67), (66, o_k 0 67), (67, o_ir false)]
theorem ts_X7_take_3 (sx : QX) : ∀ q ∈ t_X7_take_3, q_Snd sx RX7 cX7_take 3 (some .int) q.1 q.2 := List.forall_mem_cons.mpr ⟨s_ic_ne d_X7_take_59 (by decide), List.forall_mem_cons.mpr ⟨s_iconst d_X7_take_62 rfl, List.forall_mem_cons.mpr ⟨s_goto d_X7_take_63 (by decide), List.forall_mem_cons.mpr ⟨s_iconst d_X7_take_66 rfl, List.forall_mem_cons.mpr ⟨s_ir d_X7_take_67 rfl, fun _ h => absurd h List.not_mem_nil⟩⟩⟩⟩⟩
def t_X7_take (pc : Nat) : Option QO := cond (Nat.ble pc 39) (cond (Nat.ble pc 21) (q_look (t_X7_take_0) pc) (q_look (t_X7_take_1) pc)) (cond (Nat.ble pc 58) (q_look (t_X7_take_2) pc) (q_look (t_X7_take_3) pc))
theorem ts_X7_take (sx : QX) (pc : Nat) : ∀ o, t_X7_take pc = some o → q_Snd sx RX7 cX7_take 3 (some .int) pc o := by
  unfold t_X7_take
  exact q_cb (q_cb (q_look_all (ts_X7_take_0 sx)) (q_look_all (ts_X7_take_1 sx))) (q_cb (q_look_all (ts_X7_take_2 sx)) (q_look_all (ts_X7_take_3 sx)))
theorem d_X7_pass_0 : decode cX7_pass 0 = .ok (.iload_n 1, 1) := by decide +kernel
theorem d_X7_pass_1 : decode cX7_pass 1 = .ok (.i2l, 1) := by decide +kernel
theorem d_X7_pass_2 : decode cX7_pass 2 = .ok (.lconst 1, 1) := by decide +kernel
theorem d_X7_pass_3 : decode cX7_pass 3 = .ok (.ldc2_w 221, 3) := by decide +kernel
theorem d_X7_pass_6 : decode cX7_pass 6 = .ok (.invokestatic 85, 3) := by decide +kernel
theorem d_X7_pass_9 : decode cX7_pass 9 = .ok (.ifCond .ne 5, 3) := by decide +kernel
theorem d_X7_pass_12 : decode cX7_pass 12 = .ok (.iconst (-1), 1) := by decide +kernel
theorem d_X7_pass_13 : decode cX7_pass 13 = .ok (.ireturn, 1) := by decide +kernel
theorem d_X7_pass_14 : decode cX7_pass 14 = .ok (.aload_n 0, 1) := by decide +kernel
theorem d_X7_pass_15 : decode cX7_pass 15 = .ok (.invokevirtual 208, 3) := by decide +kernel
theorem d_X7_pass_18 : decode cX7_pass 18 = .ok (.iconst 0, 1) := by decide +kernel
theorem d_X7_pass_19 : decode cX7_pass 19 = .ok (.istore_n 2, 1) := by decide +kernel
theorem d_X7_pass_20 : decode cX7_pass 20 = .ok (.iload_n 2, 1) := by decide +kernel
theorem d_X7_pass_21 : decode cX7_pass 21 = .ok (.iload_n 1, 1) := by decide +kernel
theorem d_X7_pass_22 : decode cX7_pass 22 = .ok (.if_icmp .ge 14, 3) := by decide +kernel
theorem d_X7_pass_25 : decode cX7_pass 25 = .ok (.aload_n 0, 1) := by decide +kernel
theorem d_X7_pass_26 : decode cX7_pass 26 = .ok (.iconst 0, 1) := by decide +kernel
theorem d_X7_pass_27 : decode cX7_pass 27 = .ok (.invokevirtual 223, 3) := by decide +kernel
theorem d_X7_pass_30 : decode cX7_pass 30 = .ok (.iinc 2 1, 3) := by decide +kernel
theorem d_X7_pass_33 : decode cX7_pass 33 = .ok (.goto (-13), 3) := by decide +kernel
theorem d_X7_pass_36 : decode cX7_pass 36 = .ok (.aload_n 0, 1) := by decide +kernel
theorem d_X7_pass_37 : decode cX7_pass 37 = .ok (.getfield 7, 3) := by decide +kernel
theorem d_X7_pass_40 : decode cX7_pass 40 = .ok (.iconst 0, 1) := by decide +kernel
theorem d_X7_pass_41 : decode cX7_pass 41 = .ok (.iaload, 1) := by decide +kernel
theorem d_X7_pass_42 : decode cX7_pass 42 = .ok (.ireturn, 1) := by decide +kernel
def t_X7_pass_0 : List (Nat × QO) := [(0, o_il 1 1), (1, o_i2l 2), (2, o_kl 1 3), (3, o_kl 20 6), (6, o_cS 1 102 6 3 9), (9, o_if (fun x => decide (x ≠ 0)) 14 12), (12, o_k (-1) 13), (13, o_ir false), (14, o_al 0 15), (15, o_cV 0 7 146 2 1 18), (18, o_k 0 19), (19, o_is 2 20)]
theorem ts_X7_pass_0 (sx : QX) : ∀ q ∈ t_X7_pass_0, q_Snd sx RX7 cX7_pass 3 (some .int) q.1 q.2 := List.forall_mem_cons.mpr ⟨s_iload_n d_X7_pass_0 rfl, List.forall_mem_cons.mpr ⟨s_i2l d_X7_pass_1, List.forall_mem_cons.mpr ⟨s_lconst d_X7_pass_2 rfl, List.forall_mem_cons.mpr ⟨s_ldc2 d_X7_pass_3 k_5_47, List.forall_mem_cons.mpr ⟨s_cS rfl d_X7_pass_6 k_4_126 k_4_127 k_1_12 k_4_128 ⟨by decide, by decide⟩ (by decide +kernel) (by decide), List.forall_mem_cons.mpr ⟨s_if_ne d_X7_pass_9 (by decide), List.forall_mem_cons.mpr ⟨s_iconst d_X7_pass_12 rfl, List.forall_mem_cons.mpr ⟨s_ir d_X7_pass_13 rfl, List.forall_mem_cons.mpr ⟨s_aload_n d_X7_pass_14 rfl, List.forall_mem_cons.mpr ⟨s_cV (T := TX7) (N := 30) rfl d_X7_pass_15 rfl k_5_6 k_5_8 k_0_41 k_1_12 k_5_9 ⟨by decide, by decide⟩ (by decide +kernel) (by decide), List.forall_mem_cons.mpr ⟨s_iconst d_X7_pass_18 rfl, List.forall_mem_cons.mpr ⟨s_istore_n d_X7_pass_19 rfl (by decide), fun _ h => absurd h List.not_mem_nil⟩⟩⟩⟩⟩⟩⟩⟩⟩⟩⟩⟩
def t_X7_pass_1 : List (Nat × QO) := [(20, o_il 2 21), (21, o_il 1 22), (22, o_ic (fun x y => decide (y ≤ x)) 36 25), (25, o_al 0 26), (26, o_k 0 27), (27, o_cV 0 7 142 3 2 30), (30, o_inc 2 1 33), (33, o_goto 20), (36, o_al 0 37), (37, o_gf 7 0 40), (40, o_k 0 41), (41, o_iald 42)]
theorem ts_X7_pass_1 (sx : QX) : ∀ q ∈ t_X7_pass_1, q_Snd sx RX7 cX7_pass 3 (some .int) q.1 q.2 := List.forall_mem_cons.mpr ⟨s_iload_n d_X7_pass_20 rfl, List.forall_mem_cons.mpr ⟨s_iload_n d_X7_pass_21 rfl, List.forall_mem_cons.mpr ⟨s_ic_ge d_X7_pass_22 (by decide), List.forall_mem_cons.mpr ⟨s_aload_n d_X7_pass_25 rfl, List.forall_mem_cons.mpr ⟨s_iconst d_X7_pass_26 rfl, List.forall_mem_cons.mpr ⟨s_cV (T := TX7) (N := 30) rfl d_X7_pass_27 rfl k_5_48 k_5_50 k_0_48 k_1_12 k_5_51 ⟨by decide, by decide⟩ (by decide +kernel) (by decide), List.forall_mem_cons.mpr ⟨s_iinc d_X7_pass_30 rfl (by decide), List.forall_mem_cons.mpr ⟨s_goto d_X7_pass_33 (by decide), List.forall_mem_cons.mpr ⟨s_aload_n d_X7_pass_36 rfl, List.forall_mem_cons.mpr ⟨s_gf d_X7_pass_37 rfl (by decide) n_X7 in_X7 rfl k_4_29, List.forall_mem_cons.mpr ⟨s_iconst d_X7_pass_40 rfl, List.forall_mem_cons.mpr ⟨s_iald d_X7_pass_41, fun _ h => absurd h List.not_mem_nil⟩⟩⟩⟩⟩⟩⟩⟩⟩⟩⟩⟩
def t_X7_pass_2 : List (Nat × QO) := [(42, o_ir false)]
theorem ts_X7_pass_2 (sx : QX) : ∀ q ∈ t_X7_pass_2, q_Snd sx RX7 cX7_pass 3 (some .int) q.1 q.2 := List.forall_mem_cons.mpr ⟨s_ir d_X7_pass_42 rfl, fun _ h => absurd h List.not_mem_nil⟩
def t_X7_pass (pc : Nat) : Option QO := cond (Nat.ble pc 19) (q_look (t_X7_pass_0) pc) (cond (Nat.ble pc 41) (q_look (t_X7_pass_1) pc) (q_look (t_X7_pass_2) pc))
theorem ts_X7_pass (sx : QX) (pc : Nat) : ∀ o, t_X7_pass pc = some o → q_Snd sx RX7 cX7_pass 3 (some .int) pc o := by
  unfold t_X7_pass
  exact q_cb (q_look_all (ts_X7_pass_0 sx)) (q_cb (q_look_all (ts_X7_pass_1 sx)) (q_look_all (ts_X7_pass_2 sx)))
theorem d_X7_undo_0 : decode cX7_undo 0 = .ok (.aload_n 0, 1) := by decide +kernel
theorem d_X7_undo_1 : decode cX7_undo 1 = .ok (.getfield 107, 3) := by decide +kernel
theorem d_X7_undo_4 : decode cX7_undo 4 = .ok (.ifCond .ne 6, 3) := by decide +kernel
theorem d_X7_undo_7 : decode cX7_undo 7 = .ok (.bipush (-2), 2) := by decide +kernel
theorem d_X7_undo_9 : decode cX7_undo 9 = .ok (.ireturn, 1) := by decide +kernel
theorem d_X7_undo_10 : decode cX7_undo 10 = .ok (.aload_n 0, 1) := by decide +kernel
theorem d_X7_undo_11 : decode cX7_undo 11 = .ok (.dup, 1) := by decide +kernel
theorem d_X7_undo_12 : decode cX7_undo 12 = .ok (.getfield 107, 3) := by decide +kernel
theorem d_X7_undo_15 : decode cX7_undo 15 = .ok (.iconst 1, 1) := by decide +kernel
theorem d_X7_undo_16 : decode cX7_undo 16 = .ok (.isub, 1) := by decide +kernel
theorem d_X7_undo_17 : decode cX7_undo 17 = .ok (.putfield 107, 3) := by decide +kernel
theorem d_X7_undo_20 : decode cX7_undo 20 = .ok (.aload_n 0, 1) := by decide +kernel
theorem d_X7_undo_21 : decode cX7_undo 21 = .ok (.sipush 332, 3) := by decide +kernel
theorem d_X7_undo_24 : decode cX7_undo 24 = .ok (.bipush 83, 2) := by decide +kernel
theorem d_X7_undo_26 : decode cX7_undo 26 = .ok (.aload_n 0, 1) := by decide +kernel
theorem d_X7_undo_27 : decode cX7_undo 27 = .ok (.getfield 107, 3) := by decide +kernel
theorem d_X7_undo_30 : decode cX7_undo 30 = .ok (.imul, 1) := by decide +kernel
theorem d_X7_undo_31 : decode cX7_undo 31 = .ok (.iadd, 1) := by decide +kernel
theorem d_X7_undo_32 : decode cX7_undo 32 = .ok (.iconst 0, 1) := by decide +kernel
theorem d_X7_undo_33 : decode cX7_undo 33 = .ok (.invokevirtual 202, 3) := by decide +kernel
theorem d_X7_undo_36 : decode cX7_undo 36 = .ok (.aload_n 0, 1) := by decide +kernel
theorem d_X7_undo_37 : decode cX7_undo 37 = .ok (.getfield 107, 3) := by decide +kernel
theorem d_X7_undo_40 : decode cX7_undo 40 = .ok (.ireturn, 1) := by decide +kernel
def t_X7_undo_0 : List (Nat × QO) := [(0, o_al 0 1), (1, o_gf 7 1 4), (4, o_if (fun x => decide (x ≠ 0)) 10 7), (7, o_k (-2) 9), (9, o_ir false), (10, o_al 0 11), (11, o_dup 12), (12, o_gf 7 1 15), (15, o_k 1 16), (16, o_b (fun x y => x - y) 17), (17, o_pf 7 1 20), (20, o_al 0 21)]
theorem ts_X7_undo_0 (sx : QX) : ∀ q ∈ t_X7_undo_0, q_Snd sx RX7 cX7_undo 1 (some .int) q.1 q.2 := List.forall_mem_cons.mpr ⟨s_aload_n d_X7_undo_0 rfl, List.forall_mem_cons.mpr ⟨s_gf d_X7_undo_1 rfl (by decide) n_X7 in_X7 rfl k_4_30, List.forall_mem_cons.mpr ⟨s_if_ne d_X7_undo_4 (by decide), List.forall_mem_cons.mpr ⟨s_bipush d_X7_undo_7 rfl, List.forall_mem_cons.mpr ⟨s_ir d_X7_undo_9 rfl, List.forall_mem_cons.mpr ⟨s_aload_n d_X7_undo_10 rfl, List.forall_mem_cons.mpr ⟨s_dup d_X7_undo_11, List.forall_mem_cons.mpr ⟨s_gf d_X7_undo_12 rfl (by decide) n_X7 in_X7 rfl k_4_30, List.forall_mem_cons.mpr ⟨s_iconst d_X7_undo_15 rfl, List.forall_mem_cons.mpr ⟨s_isub d_X7_undo_16, List.forall_mem_cons.mpr ⟨s_pf tyX7 d_X7_undo_17 rfl (by decide) n_X7 in_X7 rfl k_4_30 tyX7_ok nmX7 rfl rfl, List.forall_mem_cons.mpr ⟨s_aload_n d_X7_undo_20 rfl, fun _ h => absurd h List.not_mem_nil⟩⟩⟩⟩⟩⟩⟩⟩⟩⟩⟩⟩
def t_X7_undo_1 : List (Nat × QO) := [(21, o_k 332 24), (24, o_k 83 26), (26, o_al 0 27), (27, o_gf 7 1 30), (30, o_b (fun x y => x * y) 31), (31, o_b (fun x y => x + y) 32), (32, o_k 0 33), (33, o_cV 0 7 105 4 3 36), (36, o_al 0 37), (37, o_gf 7 1 40), (40, o_ir false)]
theorem ts_X7_undo_1 (sx : QX) : ∀ q ∈ t_X7_undo_1, q_Snd sx RX7 cX7_undo 1 (some .int) q.1 q.2 := List.forall_mem_cons.mpr ⟨s_sipush d_X7_undo_21 rfl, List.forall_mem_cons.mpr ⟨s_bipush d_X7_undo_24 rfl, List.forall_mem_cons.mpr ⟨s_aload_n d_X7_undo_26 rfl, List.forall_mem_cons.mpr ⟨s_gf d_X7_undo_27 rfl (by decide) n_X7 in_X7 rfl k_4_30, List.forall_mem_cons.mpr ⟨s_imul d_X7_undo_30, List.forall_mem_cons.mpr ⟨s_iadd d_X7_undo_31, List.forall_mem_cons.mpr ⟨s_iconst d_X7_undo_32 rfl, List.forall_mem_cons.mpr ⟨s_cV (T := TX7) (N := 30) rfl d_X7_undo_33 rfl k_5_10 k_5_12 k_0_42 k_1_12 k_5_13 ⟨by decide, by decide⟩ (by decide +kernel) (by decide), List.forall_mem_cons.mpr ⟨s_aload_n d_X7_undo_36 rfl, List.forall_mem_cons.mpr ⟨s_gf d_X7_undo_37 rfl (by decide) n_X7 in_X7 rfl k_4_30, List.forall_mem_cons.mpr ⟨s_ir d_X7_undo_40 rfl, fun _ h => absurd h List.not_mem_nil⟩⟩⟩⟩⟩⟩⟩⟩⟩⟩⟩
def t_X7_undo (pc : Nat) : Option QO := cond (Nat.ble pc 20) (q_look (t_X7_undo_0) pc) (q_look (t_X7_undo_1) pc)
theorem ts_X7_undo (sx : QX) (pc : Nat) : ∀ o, t_X7_undo pc = some o → q_Snd sx RX7 cX7_undo 1 (some .int) pc o := by
  unfold t_X7_undo
  exact q_cb (q_look_all (ts_X7_undo_0 sx)) (q_look_all (ts_X7_undo_1 sx))
theorem d_X7_tries_0 : decode cX7_tries 0 = .ok (.aload_n 0, 1) := by decide +kernel
theorem d_X7_tries_1 : decode cX7_tries 1 = .ok (.iconst 0, 1) := by decide +kernel
theorem d_X7_tries_2 : decode cX7_tries 2 = .ok (.bipush 83, 2) := by decide +kernel
theorem d_X7_tries_4 : decode cX7_tries 4 = .ok (.invokevirtual 202, 3) := by decide +kernel
theorem d_X7_tries_7 : decode cX7_tries 7 = .ok (.return_, 1) := by decide +kernel
def t_X7_tries_0 : List (Nat × QO) := [(0, o_al 0 1), (1, o_k 0 2), (2, o_k 83 4), (4, o_cV 0 7 105 4 3 7), (7, o_vr)]
theorem ts_X7_tries_0 (sx : QX) : ∀ q ∈ t_X7_tries_0, q_Snd sx RX7 cX7_tries 1 none q.1 q.2 := List.forall_mem_cons.mpr ⟨s_aload_n d_X7_tries_0 rfl, List.forall_mem_cons.mpr ⟨s_iconst d_X7_tries_1 rfl, List.forall_mem_cons.mpr ⟨s_bipush d_X7_tries_2 rfl, List.forall_mem_cons.mpr ⟨s_cV (T := TX7) (N := 30) rfl d_X7_tries_4 rfl k_5_10 k_5_12 k_0_42 k_1_12 k_5_13 ⟨by decide, by decide⟩ (by decide +kernel) (by decide), List.forall_mem_cons.mpr ⟨s_vr d_X7_tries_7 rfl, fun _ h => absurd h List.not_mem_nil⟩⟩⟩⟩⟩
def t_X7_tries (pc : Nat) : Option QO := q_look (t_X7_tries_0) pc
theorem ts_X7_tries (sx : QX) (pc : Nat) : ∀ o, t_X7_tries pc = some o → q_Snd sx RX7 cX7_tries 1 none pc o := by
  unfold t_X7_tries
  exact q_look_all (ts_X7_tries_0 sx)
