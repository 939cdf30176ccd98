theorem d_X4_shortest_0 : decode cX4_shortest 0 = .ok (.iconst 1, 1) := by decide +kernel
theorem d_X4_shortest_1 : decode cX4_shortest 1 = .ok (.istore_n 2, 1) := by decide +kernel
theorem d_X4_shortest_2 : decode cX4_shortest 2 = .ok (.iload_n 2, 1) := by decide +kernel
theorem d_X4_shortest_3 : decode cX4_shortest 3 = .ok (.iconst 4, 1) := by decide +kernel
theorem d_X4_shortest_4 : decode cX4_shortest 4 = .ok (.if_icmp .gt 21, 3) := by decide +kernel
theorem d_X4_shortest_7 : decode cX4_shortest 7 = .ok (.aload_n 0, 1) := by decide +kernel
theorem d_X4_shortest_8 : decode cX4_shortest 8 = .ok (.iload_n 1, 1) := by decide +kernel
theorem d_X4_shortest_9 : decode cX4_shortest 9 = .ok (.iconst 0, 1) := by decide +kernel
theorem d_X4_shortest_10 : decode cX4_shortest 10 = .ok (.iload_n 2, 1) := by decide +kernel
theorem d_X4_shortest_11 : decode cX4_shortest 11 = .ok (.invokestatic 19, 3) := by decide +kernel
theorem d_X4_shortest_14 : decode cX4_shortest 14 = .ok (.ifCond .eq 5, 3) := by decide +kernel
theorem d_X4_shortest_17 : decode cX4_shortest 17 = .ok (.iload_n 2, 1) := by decide +kernel
theorem d_X4_shortest_18 : decode cX4_shortest 18 = .ok (.ireturn, 1) := by decide +kernel
theorem d_X4_shortest_19 : decode cX4_shortest 19 = .ok (.iinc 2 1, 3) := by decide +kernel
theorem d_X4_shortest_22 : decode cX4_shortest 22 = .ok (.goto (-20), 3) := by decide +kernel
theorem d_X4_shortest_25 : decode cX4_shortest 25 = .ok (.iconst 0, 1) := by decide +kernel
theorem d_X4_shortest_26 : decode cX4_shortest 26 = .ok (.ireturn, 1) := by decide +kernel
def t_X4_shortest_0 : List (Nat × QO) := [(0, o_k 1 1), (1, o_is 2 2), (2, o_il 2 3), (3, o_k 4 4), (4, o_ic (fun x y => decide (y < x)) 25 7), (7, o_al 0 8), (8, o_il 1 9), (9, o_k 0 10), (10, o_il 2 11), (11, o_cS 1 48 11 4 14), (14, o_if (fun x => decide (x = 0)) 19 17), (17, o_il 2 18)]
theorem ts_X4_shortest_0 (sx : QX) : ∀ q ∈ t_X4_shortest_0, q_Snd sx RX4 cX4_shortest 3 (some .int) q.1 q.2 := List.forall_mem_cons.mpr ⟨s_iconst d_X4_shortest_0 rfl, List.forall_mem_cons.mpr ⟨s_istore_n d_X4_shortest_1 rfl (by decide), List.forall_mem_cons.mpr ⟨s_iload_n d_X4_shortest_2 rfl, List.forall_mem_cons.mpr ⟨s_iconst d_X4_shortest_3 rfl, List.forall_mem_cons.mpr ⟨s_ic_gt d_X4_shortest_4 (by decide), List.forall_mem_cons.mpr ⟨s_aload_n d_X4_shortest_7 rfl, List.forall_mem_cons.mpr ⟨s_iload_n d_X4_shortest_8 rfl, List.forall_mem_cons.mpr ⟨s_iconst d_X4_shortest_9 rfl, List.forall_mem_cons.mpr ⟨s_iload_n d_X4_shortest_10 rfl, List.forall_mem_cons.mpr ⟨s_cS rfl d_X4_shortest_11 k_3_82 k_3_83 k_1_6 k_3_84 ⟨by decide, by decide⟩ (by decide +kernel) (by decide), List.forall_mem_cons.mpr ⟨s_if_eq d_X4_shortest_14 (by decide), List.forall_mem_cons.mpr ⟨s_iload_n d_X4_shortest_17 rfl, fun _ h => absurd h List.not_mem_nil⟩⟩⟩⟩⟩⟩⟩⟩⟩⟩⟩⟩
def t_X4_shortest_1 : List (Nat × QO) := [(18, o_ir false), (19, o_inc 2 1 22), (22, o_goto 2), (25, o_k 0 26), (26, o_ir false)]
theorem ts_X4_shortest_1 (sx : QX) : ∀ q ∈ t_X4_shortest_1, q_Snd sx RX4 cX4_shortest 3 (some .int) q.1 q.2 := List.forall_mem_cons.mpr ⟨s_ir d_X4_shortest_18 rfl, List.forall_mem_cons.mpr ⟨s_iinc d_X4_shortest_19 rfl (by decide), List.forall_mem_cons.mpr ⟨s_goto d_X4_shortest_22 (by decide), List.forall_mem_cons.mpr ⟨s_iconst d_X4_shortest_25 rfl, List.forall_mem_cons.mpr ⟨s_ir d_X4_shortest_26 rfl, fun _ h => absurd h List.not_mem_nil⟩⟩⟩⟩⟩
def t_X4_shortest (pc : Nat) : Option QO := cond (Nat.ble pc 17) (q_look (t_X4_shortest_0) pc) (q_look (t_X4_shortest_1) pc)
theorem ts_X4_shortest (sx : QX) (pc : Nat) : ∀ o, t_X4_shortest pc = some o → q_Snd sx RX4 cX4_shortest 3 (some .int) pc o := by
  unfold t_X4_shortest
  exact q_cb (q_look_all (ts_X4_shortest_0 sx)) (q_look_all (ts_X4_shortest_1 sx))
theorem d_X4_extend_0 : decode cX4_extend 0 = .ok (.aload_n 0, 1) := by decide +kernel
theorem d_X4_extend_1 : decode cX4_extend 1 = .ok (.getfield 15, 3) := by decide +kernel
theorem d_X4_extend_4 : decode cX4_extend 4 = .ok (.astore 4, 2) := by decide +kernel
theorem d_X4_extend_6 : decode cX4_extend 6 = .ok (.aload 4, 2) := by decide +kernel
theorem d_X4_extend_8 : decode cX4_extend 8 = .ok (.iload_n 1, 1) := by decide +kernel
theorem d_X4_extend_9 : decode cX4_extend 9 = .ok (.invokevirtual 23, 3) := by decide +kernel
theorem d_X4_extend_12 : decode cX4_extend 12 = .ok (.ifCond .gt 5, 3) := by decide +kernel
theorem d_X4_extend_15 : decode cX4_extend 15 = .ok (.iconst 1, 1) := by decide +kernel
theorem d_X4_extend_16 : decode cX4_extend 16 = .ok (.ireturn, 1) := by decide +kernel
theorem d_X4_extend_17 : decode cX4_extend 17 = .ok (.iload_n 2, 1) := by decide +kernel
theorem d_X4_extend_18 : decode cX4_extend 18 = .ok (.iload_n 3, 1) := by decide +kernel
theorem d_X4_extend_19 : decode cX4_extend 19 = .ok (.if_icmp .ge 8, 3) := by decide +kernel
theorem d_X4_extend_22 : decode cX4_extend 22 = .ok (.iload_n 2, 1) := by decide +kernel
theorem d_X4_extend_23 : decode cX4_extend 23 = .ok (.iconst 4, 1) := by decide +kernel
theorem d_X4_extend_24 : decode cX4_extend 24 = .ok (.if_icmp .lt 5, 3) := by decide +kernel
theorem d_X4_extend_27 : decode cX4_extend 27 = .ok (.iconst 0, 1) := by decide +kernel
theorem d_X4_extend_28 : decode cX4_extend 28 = .ok (.ireturn, 1) := by decide +kernel
theorem d_X4_extend_29 : decode cX4_extend 29 = .ok (.aload 4, 2) := by decide +kernel
theorem d_X4_extend_31 : decode cX4_extend 31 = .ok (.iload_n 1, 1) := by decide +kernel
theorem d_X4_extend_32 : decode cX4_extend 32 = .ok (.invokevirtual 29, 3) := by decide +kernel
theorem d_X4_extend_35 : decode cX4_extend 35 = .ok (.istore 5, 2) := by decide +kernel
theorem d_X4_extend_37 : decode cX4_extend 37 = .ok (.iload 5, 2) := by decide +kernel
theorem d_X4_extend_39 : decode cX4_extend 39 = .ok (.ifCond .ge 5, 3) := by decide +kernel
theorem d_X4_extend_42 : decode cX4_extend 42 = .ok (.iconst 0, 1) := by decide +kernel
theorem d_X4_extend_43 : decode cX4_extend 43 = .ok (.ireturn, 1) := by decide +kernel
theorem d_X4_extend_44 : decode cX4_extend 44 = .ok (.aload 4, 2) := by decide +kernel
theorem d_X4_extend_46 : decode cX4_extend 46 = .ok (.iload 5, 2) := by decide +kernel
theorem d_X4_extend_48 : decode cX4_extend 48 = .ok (.bipush 10, 2) := by decide +kernel
theorem d_X4_extend_50 : decode cX4_extend 50 = .ok (.idiv, 1) := by decide +kernel
theorem d_X4_extend_51 : decode cX4_extend 51 = .ok (.iload_n 1, 1) := by decide +kernel
theorem d_X4_extend_52 : decode cX4_extend 52 = .ok (.iload 5, 2) := by decide +kernel
theorem d_X4_extend_54 : decode cX4_extend 54 = .ok (.bipush 10, 2) := by decide +kernel
theorem d_X4_extend_56 : decode cX4_extend 56 = .ok (.irem, 1) := by decide +kernel
theorem d_X4_extend_57 : decode cX4_extend 57 = .ok (.invokevirtual 32, 3) := by decide +kernel
theorem d_X4_extend_60 : decode cX4_extend 60 = .ok (.istore 6, 2) := by decide +kernel
theorem d_X4_extend_62 : decode cX4_extend 62 = .ok (.iload 6, 2) := by decide +kernel
theorem d_X4_extend_64 : decode cX4_extend 64 = .ok (.iload_n 3, 1) := by decide +kernel
theorem d_X4_extend_65 : decode cX4_extend 65 = .ok (.iload_n 2, 1) := by decide +kernel
theorem d_X4_extend_66 : decode cX4_extend 66 = .ok (.isub, 1) := by decide +kernel
theorem d_X4_extend_67 : decode cX4_extend 67 = .ok (.imul, 1) := by decide +kernel
theorem d_X4_extend_68 : decode cX4_extend 68 = .ok (.aload 4, 2) := by decide +kernel
theorem d_X4_extend_70 : decode cX4_extend 70 = .ok (.iload_n 1, 1) := by decide +kernel
theorem d_X4_extend_71 : decode cX4_extend 71 = .ok (.invokevirtual 23, 3) := by decide +kernel
theorem d_X4_extend_74 : decode cX4_extend 74 = .ok (.if_icmp .ge 5, 3) := by decide +kernel
theorem d_X4_extend_77 : decode cX4_extend 77 = .ok (.iconst 0, 1) := by decide +kernel
theorem d_X4_extend_78 : decode cX4_extend 78 = .ok (.ireturn, 1) := by decide +kernel
theorem d_X4_extend_79 : decode cX4_extend 79 = .ok (.iconst 0, 1) := by decide +kernel
theorem d_X4_extend_80 : decode cX4_extend 80 = .ok (.istore 7, 2) := by decide +kernel
theorem d_X4_extend_82 : decode cX4_extend 82 = .ok (.iload 7, 2) := by decide +kernel
theorem d_X4_extend_84 : decode cX4_extend 84 = .ok (.aload 4, 2) := by decide +kernel
theorem d_X4_extend_86 : decode cX4_extend 86 = .ok (.getfield 36, 3) := by decide +kernel
theorem d_X4_extend_89 : decode cX4_extend 89 = .ok (.getfield 40, 3) := by decide +kernel
theorem d_X4_extend_92 : decode cX4_extend 92 = .ok (.if_icmp .ge 117, 3) := by decide +kernel
theorem d_X4_extend_95 : decode cX4_extend 95 = .ok (.aload 4, 2) := by decide +kernel
theorem d_X4_extend_97 : decode cX4_extend 97 = .ok (.getfield 46, 3) := by decide +kernel
theorem d_X4_extend_100 : decode cX4_extend 100 = .ok (.iload 7, 2) := by decide +kernel
theorem d_X4_extend_102 : decode cX4_extend 102 = .ok (.invokestatic 49, 3) := by decide +kernel
theorem d_X4_extend_105 : decode cX4_extend 105 = .ok (.ifCond .gt 6, 3) := by decide +kernel
theorem d_X4_extend_108 : decode cX4_extend 108 = .ok (.goto 95, 3) := by decide +kernel
theorem d_X4_extend_111 : decode cX4_extend 111 = .ok (.iconst 0, 1) := by decide +kernel
theorem d_X4_extend_112 : decode cX4_extend 112 = .ok (.istore 8, 2) := by decide +kernel
theorem d_X4_extend_114 : decode cX4_extend 114 = .ok (.iload 8, 2) := by decide +kernel
theorem d_X4_extend_116 : decode cX4_extend 116 = .ok (.aload 4, 2) := by decide +kernel
theorem d_X4_extend_118 : decode cX4_extend 118 = .ok (.getfield 36, 3) := by decide +kernel
theorem d_X4_extend_121 : decode cX4_extend 121 = .ok (.getfield 53, 3) := by decide +kernel
theorem d_X4_extend_124 : decode cX4_extend 124 = .ok (.if_icmp .ge 79, 3) := by decide +kernel
theorem d_X4_extend_127 : decode cX4_extend 127 = .ok (.aload_n 0, 1) := by decide +kernel
theorem d_X4_extend_128 : decode cX4_extend 128 = .ok (.getfield 9, 3) := by decide +kernel
theorem d_X4_extend_131 : decode cX4_extend 131 = .ok (.iload_n 2, 1) := by decide +kernel
theorem d_X4_extend_132 : decode cX4_extend 132 = .ok (.iload 7, 2) := by decide +kernel
theorem d_X4_extend_134 : decode cX4_extend 134 = .ok (.iload 8, 2) := by decide +kernel
theorem d_X4_extend_136 : decode cX4_extend 136 = .ok (.invokestatic 56, 3) := by decide +kernel
theorem d_X4_extend_139 : decode cX4_extend 139 = .ok (.invokestatic 60, 3) := by decide +kernel
theorem d_X4_extend_142 : decode cX4_extend 142 = .ok (.aload 4, 2) := by decide +kernel
theorem d_X4_extend_144 : decode cX4_extend 144 = .ok (.iload 7, 2) := by decide +kernel
theorem d_X4_extend_146 : decode cX4_extend 146 = .ok (.iload_n 1, 1) := by decide +kernel
theorem d_X4_extend_147 : decode cX4_extend 147 = .ok (.iload 8, 2) := by decide +kernel
theorem d_X4_extend_149 : decode cX4_extend 149 = .ok (.invokevirtual 32, 3) := by decide +kernel
theorem d_X4_extend_152 : decode cX4_extend 152 = .ok (.istore 9, 2) := by decide +kernel
theorem d_X4_extend_154 : decode cX4_extend 154 = .ok (.aload_n 0, 1) := by decide +kernel
theorem d_X4_extend_155 : decode cX4_extend 155 = .ok (.iload 7, 2) := by decide +kernel
theorem d_X4_extend_157 : decode cX4_extend 157 = .ok (.iload_n 1, 1) := by decide +kernel
theorem d_X4_extend_158 : decode cX4_extend 158 = .ok (.iload 8, 2) := by decide +kernel
theorem d_X4_extend_160 : decode cX4_extend 160 = .ok (.iconst 1, 1) := by decide +kernel
theorem d_X4_extend_161 : decode cX4_extend 161 = .ok (.iload 9, 2) := by decide +kernel
theorem d_X4_extend_163 : decode cX4_extend 163 = .ok (.invokevirtual 64, 3) := by decide +kernel
theorem d_X4_extend_166 : decode cX4_extend 166 = .ok (.aload_n 0, 1) := by decide +kernel
theorem d_X4_extend_167 : decode cX4_extend 167 = .ok (.iload_n 1, 1) := by decide +kernel
theorem d_X4_extend_168 : decode cX4_extend 168 = .ok (.iload_n 2, 1) := by decide +kernel
theorem d_X4_extend_169 : decode cX4_extend 169 = .ok (.iconst 1, 1) := by decide +kernel
theorem d_X4_extend_170 : decode cX4_extend 170 = .ok (.iadd, 1) := by decide +kernel
theorem d_X4_extend_171 : decode cX4_extend 171 = .ok (.iload_n 3, 1) := by decide +kernel
theorem d_X4_extend_172 : decode cX4_extend 172 = .ok (.invokestatic 19, 3) := by decide +kernel
theorem d_X4_extend_175 : decode cX4_extend 175 = .ok (.istore 10, 2) := by decide +kernel
theorem d_X4_extend_177 : decode cX4_extend 177 = .ok (.aload_n 0, 1) := by decide +kernel
theorem d_X4_extend_178 : decode cX4_extend 178 = .ok (.iload 7, 2) := by decide +kernel
theorem d_X4_extend_180 : decode cX4_extend 180 = .ok (.iload_n 1, 1) := by decide +kernel
theorem d_X4_extend_181 : decode cX4_extend 181 = .ok (.iload 8, 2) := by decide +kernel
theorem d_X4_extend_183 : decode cX4_extend 183 = .ok (.iconst (-1), 1) := by decide +kernel
theorem d_X4_extend_184 : decode cX4_extend 184 = .ok (.iload 9, 2) := by decide +kernel
theorem d_X4_extend_186 : decode cX4_extend 186 = .ok (.ineg, 1) := by decide +kernel
theorem d_X4_extend_187 : decode cX4_extend 187 = .ok (.invokevirtual 64, 3) := by decide +kernel
theorem d_X4_extend_190 : decode cX4_extend 190 = .ok (.iload 10, 2) := by decide +kernel
theorem d_X4_extend_192 : decode cX4_extend 192 = .ok (.ifCond .eq 5, 3) := by decide +kernel
theorem d_X4_extend_195 : decode cX4_extend 195 = .ok (.iconst 1, 1) := by decide +kernel
theorem d_X4_extend_196 : decode cX4_extend 196 = .ok (.ireturn, 1) := by decide +kernel
theorem d_X4_extend_197 : decode cX4_extend 197 = .ok (.iinc 8 1, 3) := by decide +kernel
theorem d_X4_extend_200 : decode cX4_extend 200 = .ok (.goto (-86), 3) := by decide +kernel
theorem d_X4_extend_203 : decode cX4_extend 203 = .ok (.iinc 7 1, 3) := by decide +kernel
theorem d_X4_extend_206 : decode cX4_extend 206 = .ok (.goto (-124), 3) := by decide +kernel
theorem d_X4_extend_209 : decode cX4_extend 209 = .ok (.iconst 0, 1) := by decide +kernel
theorem d_X4_extend_210 : decode cX4_extend 210 = .ok (.ireturn, 1) := by decide +kernel
def t_X4_extend_0 : List (Nat × QO) := [(0, o_al 0 1), (1, o_gf 4 0 4), (4, o_as 4 6), (6, o_al 4 8), (8, o_il 1 9), (9, o_cV 1 3 24 2 2 12), (12, o_if (fun x => decide (0 < x)) 17 15), (15, o_k 1 16), (16, o_ir true), (17, o_il 2 18), (18, o_il 3 19), (19, o_ic (fun x y => decide (y ≤ x)) 27 22)]
theorem ts_X4_extend_0 (sx : QX) : ∀ q ∈ t_X4_extend_0, q_Snd sx RX4 cX4_extend 11 (some .boolean) q.1 q.2 := List.forall_mem_cons.mpr ⟨s_aload_n d_X4_extend_0 rfl, List.forall_mem_cons.mpr ⟨s_gf d_X4_extend_1 rfl (by decide) n_X4 in_X4 rfl k_1_174, List.forall_mem_cons.mpr ⟨s_astore d_X4_extend_4 (by decide), List.forall_mem_cons.mpr ⟨s_aload d_X4_extend_6, List.forall_mem_cons.mpr ⟨s_iload_n d_X4_extend_8 rfl, List.forall_mem_cons.mpr ⟨s_cV (T := TX3) (N := 8) rfl d_X4_extend_9 rfl k_3_85 k_3_86 k_3_87 k_1_4 k_3_88 ⟨by decide, by decide⟩ (by decide +kernel) (by decide), List.forall_mem_cons.mpr ⟨s_if_gt d_X4_extend_12 (by decide), List.forall_mem_cons.mpr ⟨s_iconst d_X4_extend_15 rfl, List.forall_mem_cons.mpr ⟨s_zr d_X4_extend_16 rfl, List.forall_mem_cons.mpr ⟨s_iload_n d_X4_extend_17 rfl, List.forall_mem_cons.mpr ⟨s_iload_n d_X4_extend_18 rfl, List.forall_mem_cons.mpr ⟨s_ic_ge d_X4_extend_19 (by decide), fun _ h => absurd h List.not_mem_nil⟩⟩⟩⟩⟩⟩⟩⟩⟩⟩⟩⟩
def t_X4_extend_1 : List (Nat × QO) := [(22, o_il 2 23), (23, o_k 4 24), (24, o_ic (fun x y => decide (x < y)) 29 27), (27, o_k 0 28), (28, o_ir true), (29, o_al 4 31), (31, o_il 1 32), (32, o_cV 1 3 38 7 2 35), (35, o_is 5 37), (37, o_il 5 39), (39, o_if (fun x => decide (0 ≤ x)) 44 42), (42, o_k 0 43)]
theorem ts_X4_extend_1 (sx : QX) : ∀ q ∈ t_X4_extend_1, q_Snd sx RX4 cX4_extend 11 (some .boolean) q.1 q.2 := List.forall_mem_cons.mpr ⟨s_iload_n d_X4_extend_22 rfl, List.forall_mem_cons.mpr ⟨s_iconst d_X4_extend_23 rfl, List.forall_mem_cons.mpr ⟨s_ic_lt d_X4_extend_24 (by decide), List.forall_mem_cons.mpr ⟨s_iconst d_X4_extend_27 rfl, List.forall_mem_cons.mpr ⟨s_zr d_X4_extend_28 rfl, List.forall_mem_cons.mpr ⟨s_aload d_X4_extend_29, List.forall_mem_cons.mpr ⟨s_iload_n d_X4_extend_31 rfl, List.forall_mem_cons.mpr ⟨s_cV (T := TX3) (N := 8) rfl d_X4_extend_32 rfl k_3_89 k_3_90 k_3_91 k_1_4 k_3_92 ⟨by decide, by decide⟩ (by decide +kernel) (by decide), List.forall_mem_cons.mpr ⟨s_istore d_X4_extend_35 (by decide), List.forall_mem_cons.mpr ⟨s_iload d_X4_extend_37, List.forall_mem_cons.mpr ⟨s_if_ge d_X4_extend_39 (by decide), List.forall_mem_cons.mpr ⟨s_iconst d_X4_extend_42 rfl, fun _ h => absurd h List.not_mem_nil⟩⟩⟩⟩⟩⟩⟩⟩⟩⟩⟩⟩
def t_X4_extend_2 : List (Nat × QO) := [(43, o_ir true), (44, o_al 4 46), (46, o_il 5 48), (48, o_k 10 50), (50, o_bz (fun x y => x / y) 51), (51, o_il 1 52), (52, o_il 5 54), (54, o_k 10 56), (56, o_bz (fun x y => x - x / y * y) 57), (57, o_cV 1 3 26 5 4 60), (60, o_is 6 62), (62, o_il 6 64)]
theorem ts_X4_extend_2 (sx : QX) : ∀ q ∈ t_X4_extend_2, q_Snd sx RX4 cX4_extend 11 (some .boolean) q.1 q.2 := List.forall_mem_cons.mpr ⟨s_zr d_X4_extend_43 rfl, List.forall_mem_cons.mpr ⟨s_aload d_X4_extend_44, List.forall_mem_cons.mpr ⟨s_iload d_X4_extend_46, List.forall_mem_cons.mpr ⟨s_bipush d_X4_extend_48 rfl, List.forall_mem_cons.mpr ⟨s_idiv d_X4_extend_50, List.forall_mem_cons.mpr ⟨s_iload_n d_X4_extend_51 rfl, List.forall_mem_cons.mpr ⟨s_iload d_X4_extend_52, List.forall_mem_cons.mpr ⟨s_bipush d_X4_extend_54 rfl, List.forall_mem_cons.mpr ⟨s_irem d_X4_extend_56, List.forall_mem_cons.mpr ⟨s_cV (T := TX3) (N := 8) rfl d_X4_extend_57 rfl k_3_96 k_2_219 k_2_220 k_1_4 k_2_221 ⟨by decide, by decide⟩ (by decide +kernel) (by decide), List.forall_mem_cons.mpr ⟨s_istore d_X4_extend_60 (by decide), List.forall_mem_cons.mpr ⟨s_iload d_X4_extend_62, fun _ h => absurd h List.not_mem_nil⟩⟩⟩⟩⟩⟩⟩⟩⟩⟩⟩⟩
def t_X4_extend_3 : List (Nat × QO) := [(64, o_il 3 65), (65, o_il 2 66), (66, o_b (fun x y => x - y) 67), (67, o_b (fun x y => x * y) 68), (68, o_al 4 70), (70, o_il 1 71), (71, o_cV 1 3 24 2 2 74), (74, o_ic (fun x y => decide (y ≤ x)) 79 77), (77, o_k 0 78), (78, o_ir true), (79, o_k 0 80), (80, o_is 7 82)]
theorem ts_X4_extend_3 (sx : QX) : ∀ q ∈ t_X4_extend_3, q_Snd sx RX4 cX4_extend 11 (some .boolean) q.1 q.2 := List.forall_mem_cons.mpr ⟨s_iload_n d_X4_extend_64 rfl, List.forall_mem_cons.mpr ⟨s_iload_n d_X4_extend_65 rfl, List.forall_mem_cons.mpr ⟨s_isub d_X4_extend_66, List.forall_mem_cons.mpr ⟨s_imul d_X4_extend_67, List.forall_mem_cons.mpr ⟨s_aload d_X4_extend_68, List.forall_mem_cons.mpr ⟨s_iload_n d_X4_extend_70 rfl, List.forall_mem_cons.mpr ⟨s_cV (T := TX3) (N := 8) rfl d_X4_extend_71 rfl k_3_85 k_3_86 k_3_87 k_1_4 k_3_88 ⟨by decide, by decide⟩ (by decide +kernel) (by decide), List.forall_mem_cons.mpr ⟨s_ic_ge d_X4_extend_74 (by decide), List.forall_mem_cons.mpr ⟨s_iconst d_X4_extend_77 rfl, List.forall_mem_cons.mpr ⟨s_zr d_X4_extend_78 rfl, List.forall_mem_cons.mpr ⟨s_iconst d_X4_extend_79 rfl, List.forall_mem_cons.mpr ⟨s_istore d_X4_extend_80 (by decide), fun _ h => absurd h List.not_mem_nil⟩⟩⟩⟩⟩⟩⟩⟩⟩⟩⟩⟩
def t_X4_extend_4 : List (Nat × QO) := [(82, o_il 7 84), (84, o_al 4 86), (86, o_gf 3 0 89), (89, o_gf 0 2 92), (92, o_ic (fun x y => decide (y ≤ x)) 209 95), (95, o_al 4 97), (97, o_gf 3 5 100), (100, o_il 7 102), (102, o_cS 1 97 2 2 105), (105, o_if (fun x => decide (0 < x)) 111 108), (108, o_goto 203), (111, o_k 0 112)]
theorem ts_X4_extend_4 (sx : QX) : ∀ q ∈ t_X4_extend_4, q_Snd sx RX4 cX4_extend 11 (some .boolean) q.1 q.2 := List.forall_mem_cons.mpr ⟨s_iload d_X4_extend_82, List.forall_mem_cons.mpr ⟨s_aload d_X4_extend_84, List.forall_mem_cons.mpr ⟨s_gf d_X4_extend_86 rfl (by decide) n_X3 in_X3 rfl k_1_114, List.forall_mem_cons.mpr ⟨s_gf d_X4_extend_89 rfl (by decide) n_X0 in_X0 rfl k_1_59, List.forall_mem_cons.mpr ⟨s_ic_ge d_X4_extend_92 (by decide), List.forall_mem_cons.mpr ⟨s_aload d_X4_extend_95, List.forall_mem_cons.mpr ⟨s_gf d_X4_extend_97 rfl (by decide) n_X3 in_X3 rfl k_1_127, List.forall_mem_cons.mpr ⟨s_iload d_X4_extend_100, List.forall_mem_cons.mpr ⟨s_cN (host := "StoneApologies") rfl d_X4_extend_102 (List.mem_of_getElem? (i := 14) rfl) k_2_57 k_1_1 k_2_58 ⟨by decide, by decide⟩ (by decide +kernel) (by decide), List.forall_mem_cons.mpr ⟨s_if_gt d_X4_extend_105 (by decide), List.forall_mem_cons.mpr ⟨s_goto d_X4_extend_108 (by decide), List.forall_mem_cons.mpr ⟨s_iconst d_X4_extend_111 rfl, fun _ h => absurd h List.not_mem_nil⟩⟩⟩⟩⟩⟩⟩⟩⟩⟩⟩⟩
def t_X4_extend_5 : List (Nat × QO) := [(112, o_is 8 114), (114, o_il 8 116), (116, o_al 4 118), (118, o_gf 3 0 121), (121, o_gf 0 1 124), (124, o_ic (fun x y => decide (y ≤ x)) 203 127), (127, o_al 0 128), (128, o_gf 4 1 131), (131, o_il 2 132), (132, o_il 7 134), (134, o_il 8 136), (136, o_cS 1 92 2 2 139)]
theorem ts_X4_extend_5 (sx : QX) : ∀ q ∈ t_X4_extend_5, q_Snd sx RX4 cX4_extend 11 (some .boolean) q.1 q.2 := List.forall_mem_cons.mpr ⟨s_istore d_X4_extend_112 (by decide), List.forall_mem_cons.mpr ⟨s_iload d_X4_extend_114, List.forall_mem_cons.mpr ⟨s_aload d_X4_extend_116, List.forall_mem_cons.mpr ⟨s_gf d_X4_extend_118 rfl (by decide) n_X3 in_X3 rfl k_1_114, List.forall_mem_cons.mpr ⟨s_gf d_X4_extend_121 rfl (by decide) n_X0 in_X0 rfl k_1_55, List.forall_mem_cons.mpr ⟨s_ic_ge d_X4_extend_124 (by decide), List.forall_mem_cons.mpr ⟨s_aload_n d_X4_extend_127 rfl, List.forall_mem_cons.mpr ⟨s_gf d_X4_extend_128 rfl (by decide) n_X4 in_X4 rfl k_1_175, List.forall_mem_cons.mpr ⟨s_iload_n d_X4_extend_131 rfl, List.forall_mem_cons.mpr ⟨s_iload d_X4_extend_132, List.forall_mem_cons.mpr ⟨s_iload d_X4_extend_134, List.forall_mem_cons.mpr ⟨s_cN (host := "StoneApologies") rfl d_X4_extend_136 (List.mem_of_getElem? (i := 15) rfl) k_3_94 k_1_1 k_3_95 ⟨by decide, by decide⟩ (by decide +kernel) (by decide), fun _ h => absurd h List.not_mem_nil⟩⟩⟩⟩⟩⟩⟩⟩⟩⟩⟩⟩
def t_X4_extend_6 : List (Nat × QO) := [(139, o_cS 0 98 3 3 142), (142, o_al 4 144), (144, o_il 7 146), (146, o_il 1 147), (147, o_il 8 149), (149, o_cV 1 3 26 5 4 152), (152, o_is 9 154), (154, o_al 0 155), (155, o_il 7 157), (157, o_il 1 158), (158, o_il 8 160), (160, o_k 1 161)]
theorem ts_X4_extend_6 (sx : QX) : ∀ q ∈ t_X4_extend_6, q_Snd sx RX4 cX4_extend 11 (some .boolean) q.1 q.2 := List.forall_mem_cons.mpr ⟨s_cN (host := "StoneApologies") rfl d_X4_extend_139 (List.mem_of_getElem? (i := 16) rfl) k_2_23 k_1_1 k_2_24 ⟨by decide, by decide⟩ (by decide +kernel) (by decide), List.forall_mem_cons.mpr ⟨s_aload d_X4_extend_142, List.forall_mem_cons.mpr ⟨s_iload d_X4_extend_144, List.forall_mem_cons.mpr ⟨s_iload_n d_X4_extend_146 rfl, List.forall_mem_cons.mpr ⟨s_iload d_X4_extend_147, List.forall_mem_cons.mpr ⟨s_cV (T := TX3) (N := 8) rfl d_X4_extend_149 rfl k_3_96 k_2_219 k_2_220 k_1_4 k_2_221 ⟨by decide, by decide⟩ (by decide +kernel) (by decide), List.forall_mem_cons.mpr ⟨s_istore d_X4_extend_152 (by decide), List.forall_mem_cons.mpr ⟨s_aload_n d_X4_extend_154 rfl, List.forall_mem_cons.mpr ⟨s_iload d_X4_extend_155, List.forall_mem_cons.mpr ⟨s_iload_n d_X4_extend_157 rfl, List.forall_mem_cons.mpr ⟨s_iload d_X4_extend_158, List.forall_mem_cons.mpr ⟨s_iconst d_X4_extend_160 rfl, fun _ h => absurd h List.not_mem_nil⟩⟩⟩⟩⟩⟩⟩⟩⟩⟩⟩⟩
def t_X4_extend_7 : List (Nat × QO) := [(161, o_il 9 163), (163, o_cV 0 4 49 6 6 166), (166, o_al 0 167), (167, o_il 1 168), (168, o_il 2 169), (169, o_k 1 170), (170, o_b (fun x y => x + y) 171), (171, o_il 3 172), (172, o_cS 1 48 11 4 175), (175, o_is 10 177), (177, o_al 0 178), (178, o_il 7 180)]
theorem ts_X4_extend_7 (sx : QX) : ∀ q ∈ t_X4_extend_7, q_Snd sx RX4 cX4_extend 11 (some .boolean) q.1 q.2 := List.forall_mem_cons.mpr ⟨s_iload d_X4_extend_161, List.forall_mem_cons.mpr ⟨s_cV (T := TX4) (N := 2) rfl d_X4_extend_163 rfl k_3_100 k_3_102 k_0_14 k_1_6 k_3_103 ⟨by decide, by decide⟩ (by decide +kernel) (by decide), List.forall_mem_cons.mpr ⟨s_aload_n d_X4_extend_166 rfl, List.forall_mem_cons.mpr ⟨s_iload_n d_X4_extend_167 rfl, List.forall_mem_cons.mpr ⟨s_iload_n d_X4_extend_168 rfl, List.forall_mem_cons.mpr ⟨s_iconst d_X4_extend_169 rfl, List.forall_mem_cons.mpr ⟨s_iadd d_X4_extend_170, List.forall_mem_cons.mpr ⟨s_iload_n d_X4_extend_171 rfl, List.forall_mem_cons.mpr ⟨s_cS rfl d_X4_extend_172 k_3_82 k_3_83 k_1_6 k_3_84 ⟨by decide, by decide⟩ (by decide +kernel) (by decide), List.forall_mem_cons.mpr ⟨s_istore d_X4_extend_175 (by decide), List.forall_mem_cons.mpr ⟨s_aload_n d_X4_extend_177 rfl, List.forall_mem_cons.mpr ⟨s_iload d_X4_extend_178, fun _ h => absurd h List.not_mem_nil⟩⟩⟩⟩⟩⟩⟩⟩⟩⟩⟩⟩
def t_X4_extend_8 : List (Nat × QO) := [(180, o_il 1 181), (181, o_il 8 183), (183, o_k (-1) 184), (184, o_il 9 186), (186, o_u (fun x => 0 - x) 187), (187, o_cV 0 4 49 6 6 190), (190, o_il 10 192), (192, o_if (fun x => decide (x = 0)) 197 195), (195, o_k 1 196), (196, o_ir true), (197, o_inc 8 1 200), (200, o_goto 114)]
theorem ts_X4_extend_8 (sx : QX) : ∀ q ∈ t_X4_extend_8, q_Snd sx RX4 cX4_extend 11 (some .boolean) q.1 q.2 := List.forall_mem_cons.mpr ⟨s_iload_n d_X4_extend_180 rfl, List.forall_mem_cons.mpr ⟨s_iload d_X4_extend_181, List.forall_mem_cons.mpr ⟨s_iconst d_X4_extend_183 rfl, List.forall_mem_cons.mpr ⟨s_iload d_X4_extend_184, List.forall_mem_cons.mpr ⟨s_ineg d_X4_extend_186, List.forall_mem_cons.mpr ⟨s_cV (T := TX4) (N := 2) rfl d_X4_extend_187 rfl k_3_100 k_3_102 k_0_14 k_1_6 k_3_103 ⟨by decide, by decide⟩ (by decide +kernel) (by decide), List.forall_mem_cons.mpr ⟨s_iload d_X4_extend_190, List.forall_mem_cons.mpr ⟨s_if_eq d_X4_extend_192 (by decide), List.forall_mem_cons.mpr ⟨s_iconst d_X4_extend_195 rfl, List.forall_mem_cons.mpr ⟨s_zr d_X4_extend_196 rfl, List.forall_mem_cons.mpr ⟨s_iinc d_X4_extend_197 rfl (by decide), List.forall_mem_cons.mpr ⟨s_goto d_X4_extend_200 (by decide), fun _ h => absurd h List.not_mem_nil⟩⟩⟩⟩⟩⟩⟩⟩⟩⟩⟩⟩
def t_X4_extend_9 : List (Nat × QO) := [(203, o_inc 7 1 206), (206, o_goto 82), (209, o_k 0 210), (210, o_ir true)]
theorem ts_X4_extend_9 (sx : QX) : ∀ q ∈ t_X4_extend_9, q_Snd sx RX4 cX4_extend 11 (some .boolean) q.1 q.2 := List.forall_mem_cons.mpr ⟨s_iinc d_X4_extend_203 rfl (by decide), List.forall_mem_cons.mpr ⟨s_goto d_X4_extend_206 (by decide), List.forall_mem_cons.mpr ⟨s_iconst d_X4_extend_209 rfl, List.forall_mem_cons.mpr ⟨s_zr d_X4_extend_210 rfl, fun _ h => absurd h List.not_mem_nil⟩⟩⟩⟩
def t_X4_extend (pc : Nat) : Option QO := cond (Nat.ble pc 111) (cond (Nat.ble pc 42) (cond (Nat.ble pc 19) (q_look (t_X4_extend_0) pc) (q_look (t_X4_extend_1) pc)) (cond (Nat.ble pc 62) (q_look (t_X4_extend_2) pc) (cond (Nat.ble pc 80) (q_look (t_X4_extend_3) pc) (q_look (t_X4_extend_4) pc)))) (cond (Nat.ble pc 160) (cond (Nat.ble pc 136) (q_look (t_X4_extend_5) pc) (q_look (t_X4_extend_6) pc)) (cond (Nat.ble pc 178) (q_look (t_X4_extend_7) pc) (cond (Nat.ble pc 200) (q_look (t_X4_extend_8) pc) (q_look (t_X4_extend_9) pc))))
theorem ts_X4_extend (sx : QX) (pc : Nat) : ∀ o, t_X4_extend pc = some o → q_Snd sx RX4 cX4_extend 11 (some .boolean) pc o := by
  unfold t_X4_extend
  exact q_cb (q_cb (q_cb (q_look_all (ts_X4_extend_0 sx)) (q_look_all (ts_X4_extend_1 sx))) (q_cb (q_look_all (ts_X4_extend_2 sx)) (q_cb (q_look_all (ts_X4_extend_3 sx)) (q_look_all (ts_X4_extend_4 sx))))) (q_cb (q_cb (q_look_all (ts_X4_extend_5 sx)) (q_look_all (ts_X4_extend_6 sx))) (q_cb (q_look_all (ts_X4_extend_7 sx)) (q_cb (q_look_all (ts_X4_extend_8 sx)) (q_look_all (ts_X4_extend_9 sx)))))
theorem d_X4_shift_0 : decode cX4_shift 0 = .ok (.aload_n 0, 1) := by decide +kernel
theorem d_X4_shift_1 : decode cX4_shift 1 = .ok (.getfield 15, 3) := by decide +kernel
theorem d_X4_shift_4 : decode cX4_shift 4 = .ok (.getfield 46, 3) := by decide +kernel
theorem d_X4_shift_7 : decode cX4_shift 7 = .ok (.iload_n 1, 1) := by decide +kernel
theorem d_X4_shift_8 : decode cX4_shift 8 = .ok (.aload_n 0, 1) := by decide +kernel
theorem d_X4_shift_9 : decode cX4_shift 9 = .ok (.getfield 15, 3) := by decide +kernel
theorem d_X4_shift_12 : decode cX4_shift 12 = .ok (.getfield 46, 3) := by decide +kernel
theorem d_X4_shift_15 : decode cX4_shift 15 = .ok (.iload_n 1, 1) := by decide +kernel
theorem d_X4_shift_16 : decode cX4_shift 16 = .ok (.invokestatic 49, 3) := by decide +kernel
theorem d_X4_shift_19 : decode cX4_shift 19 = .ok (.iload 4, 2) := by decide +kernel
theorem d_X4_shift_21 : decode cX4_shift 21 = .ok (.isub, 1) := by decide +kernel
theorem d_X4_shift_22 : decode cX4_shift 22 = .ok (.invokestatic 60, 3) := by decide +kernel
theorem d_X4_shift_25 : decode cX4_shift 25 = .ok (.aload_n 0, 1) := by decide +kernel
theorem d_X4_shift_26 : decode cX4_shift 26 = .ok (.getfield 15, 3) := by decide +kernel
theorem d_X4_shift_29 : decode cX4_shift 29 = .ok (.iload_n 2, 1) := by decide +kernel
theorem d_X4_shift_30 : decode cX4_shift 30 = .ok (.iload_n 3, 1) := by decide +kernel
theorem d_X4_shift_31 : decode cX4_shift 31 = .ok (.iload 4, 2) := by decide +kernel
theorem d_X4_shift_33 : decode cX4_shift 33 = .ok (.invokevirtual 68, 3) := by decide +kernel
theorem d_X4_shift_36 : decode cX4_shift 36 = .ok (.aload_n 0, 1) := by decide +kernel
theorem d_X4_shift_37 : decode cX4_shift 37 = .ok (.getfield 15, 3) := by decide +kernel
theorem d_X4_shift_40 : decode cX4_shift 40 = .ok (.getfield 72, 3) := by decide +kernel
theorem d_X4_shift_43 : decode cX4_shift 43 = .ok (.iload_n 2, 1) := by decide +kernel
theorem d_X4_shift_44 : decode cX4_shift 44 = .ok (.aload_n 0, 1) := by decide +kernel
theorem d_X4_shift_45 : decode cX4_shift 45 = .ok (.getfield 15, 3) := by decide +kernel
theorem d_X4_shift_48 : decode cX4_shift 48 = .ok (.getfield 72, 3) := by decide +kernel
theorem d_X4_shift_51 : decode cX4_shift 51 = .ok (.iload_n 2, 1) := by decide +kernel
theorem d_X4_shift_52 : decode cX4_shift 52 = .ok (.invokestatic 49, 3) := by decide +kernel
theorem d_X4_shift_55 : decode cX4_shift 55 = .ok (.iload 5, 2) := by decide +kernel
theorem d_X4_shift_57 : decode cX4_shift 57 = .ok (.iadd, 1) := by decide +kernel
theorem d_X4_shift_58 : decode cX4_shift 58 = .ok (.invokestatic 60, 3) := by decide +kernel
theorem d_X4_shift_61 : decode cX4_shift 61 = .ok (.return_, 1) := by decide +kernel
def t_X4_shift_0 : List (Nat × QO) := [(0, o_al 0 1), (1, o_gf 4 0 4), (4, o_gf 3 5 7), (7, o_il 1 8), (8, o_al 0 9), (9, o_gf 4 0 12), (12, o_gf 3 5 15), (15, o_il 1 16), (16, o_cS 1 97 2 2 19), (19, o_il 4 21), (21, o_b (fun x y => x - y) 22), (22, o_cS 0 98 3 3 25)]
theorem ts_X4_shift_0 (sx : QX) : ∀ q ∈ t_X4_shift_0, q_Snd sx RX4 cX4_shift 6 none q.1 q.2 := List.forall_mem_cons.mpr ⟨s_aload_n d_X4_shift_0 rfl, List.forall_mem_cons.mpr ⟨s_gf d_X4_shift_1 rfl (by decide) n_X4 in_X4 rfl k_1_174, List.forall_mem_cons.mpr ⟨s_gf d_X4_shift_4 rfl (by decide) n_X3 in_X3 rfl k_1_127, List.forall_mem_cons.mpr ⟨s_iload_n d_X4_shift_7 rfl, List.forall_mem_cons.mpr ⟨s_aload_n d_X4_shift_8 rfl, List.forall_mem_cons.mpr ⟨s_gf d_X4_shift_9 rfl (by decide) n_X4 in_X4 rfl k_1_174, List.forall_mem_cons.mpr ⟨s_gf d_X4_shift_12 rfl (by decide) n_X3 in_X3 rfl k_1_127, List.forall_mem_cons.mpr ⟨s_iload_n d_X4_shift_15 rfl, List.forall_mem_cons.mpr ⟨s_cN (host := "StoneApologies") rfl d_X4_shift_16 (List.mem_of_getElem? (i := 14) rfl) k_2_57 k_1_1 k_2_58 ⟨by decide, by decide⟩ (by decide +kernel) (by decide), List.forall_mem_cons.mpr ⟨s_iload d_X4_shift_19, List.forall_mem_cons.mpr ⟨s_isub d_X4_shift_21, List.forall_mem_cons.mpr ⟨s_cN (host := "StoneApologies") rfl d_X4_shift_22 (List.mem_of_getElem? (i := 16) rfl) k_2_23 k_1_1 k_2_24 ⟨by decide, by decide⟩ (by decide +kernel) (by decide), fun _ h => absurd h List.not_mem_nil⟩⟩⟩⟩⟩⟩⟩⟩⟩⟩⟩⟩
def t_X4_shift_1 : List (Nat × QO) := [(25, o_al 0 26), (26, o_gf 4 0 29), (29, o_il 2 30), (30, o_il 3 31), (31, o_il 4 33), (33, o_cV 0 3 30 5 4 36), (36, o_al 0 37), (37, o_gf 4 0 40), (40, o_gf 3 2 43), (43, o_il 2 44), (44, o_al 0 45), (45, o_gf 4 0 48)]
theorem ts_X4_shift_1 (sx : QX) : ∀ q ∈ t_X4_shift_1, q_Snd sx RX4 cX4_shift 6 none q.1 q.2 := List.forall_mem_cons.mpr ⟨s_aload_n d_X4_shift_25 rfl, List.forall_mem_cons.mpr ⟨s_gf d_X4_shift_26 rfl (by decide) n_X4 in_X4 rfl k_1_174, List.forall_mem_cons.mpr ⟨s_iload_n d_X4_shift_29 rfl, List.forall_mem_cons.mpr ⟨s_iload_n d_X4_shift_30 rfl, List.forall_mem_cons.mpr ⟨s_iload d_X4_shift_31, List.forall_mem_cons.mpr ⟨s_cV (T := TX3) (N := 8) rfl d_X4_shift_33 rfl k_3_104 k_3_16 k_3_17 k_1_4 k_3_18 ⟨by decide, by decide⟩ (by decide +kernel) (by decide), List.forall_mem_cons.mpr ⟨s_aload_n d_X4_shift_36 rfl, List.forall_mem_cons.mpr ⟨s_gf d_X4_shift_37 rfl (by decide) n_X4 in_X4 rfl k_1_174, List.forall_mem_cons.mpr ⟨s_gf d_X4_shift_40 rfl (by decide) n_X3 in_X3 rfl k_1_120, List.forall_mem_cons.mpr ⟨s_iload_n d_X4_shift_43 rfl, List.forall_mem_cons.mpr ⟨s_aload_n d_X4_shift_44 rfl, List.forall_mem_cons.mpr ⟨s_gf d_X4_shift_45 rfl (by decide) n_X4 in_X4 rfl k_1_174, fun _ h => absurd h List.not_mem_nil⟩⟩⟩⟩⟩⟩⟩⟩⟩⟩⟩⟩
def t_X4_shift_2 : List (Nat × QO) := [(48, o_gf 3 2 51), (51, o_il 2 52), (52, o_cS 1 97 2 2 55), (55, o_il 5 57), (57, o_b (fun x y => x + y) 58), (58, o_cS 0 98 3 3 61), (61, o_vr)]
theorem ts_X4_shift_2 (sx : QX) : ∀ q ∈ t_X4_shift_2, q_Snd sx RX4 cX4_shift 6 none q.1 q.2 := List.forall_mem_cons.mpr ⟨s_gf d_X4_shift_48 rfl (by decide) n_X3 in_X3 rfl k_1_120, List.forall_mem_cons.mpr ⟨s_iload_n d_X4_shift_51 rfl, List.forall_mem_cons.mpr ⟨s_cN (host := "StoneApologies") rfl d_X4_shift_52 (List.mem_of_getElem? (i := 14) rfl) k_2_57 k_1_1 k_2_58 ⟨by decide, by decide⟩ (by decide +kernel) (by decide), List.forall_mem_cons.mpr ⟨s_iload d_X4_shift_55, List.forall_mem_cons.mpr ⟨s_iadd d_X4_shift_57, List.forall_mem_cons.mpr ⟨s_cN (host := "StoneApologies") rfl d_X4_shift_58 (List.mem_of_getElem? (i := 16) rfl) k_2_23 k_1_1 k_2_24 ⟨by decide, by decide⟩ (by decide +kernel) (by decide), List.forall_mem_cons.mpr ⟨s_vr d_X4_shift_61 rfl, fun _ h => absurd h List.not_mem_nil⟩⟩⟩⟩⟩⟩⟩
def t_X4_shift (pc : Nat) : Option QO := cond (Nat.ble pc 22) (q_look (t_X4_shift_0) pc) (cond (Nat.ble pc 45) (q_look (t_X4_shift_1) pc) (q_look (t_X4_shift_2) pc))
theorem ts_X4_shift (sx : QX) (pc : Nat) : ∀ o, t_X4_shift pc = some o → q_Snd sx RX4 cX4_shift 6 none pc o := by
  unfold t_X4_shift
  exact q_cb (q_look_all (ts_X4_shift_0 sx)) (q_cb (q_look_all (ts_X4_shift_1 sx)) (q_look_all (ts_X4_shift_2 sx)))
theorem d_X5_append_0 : decode cX5_append 0 = .ok (.aload_n 0, 1) := by decide +kernel
theorem d_X5_append_1 : decode cX5_append 1 = .ok (.getfield 18, 3) := by decide +kernel
theorem d_X5_append_4 : decode cX5_append 4 = .ok (.sipush 200, 3) := by decide +kernel
theorem d_X5_append_7 : decode cX5_append 7 = .ok (.if_icmp .lt 4, 3) := by decide +kernel
theorem d_X5_append_10 : decode cX5_append 10 = .ok (.return_, 1) := by decide +kernel
theorem d_X5_append_11 : decode cX5_append 11 = .ok (.aload_n 0, 1) := by decide +kernel
theorem d_X5_append_12 : decode cX5_append 12 = .ok (.getfield 9, 3) := by decide +kernel
theorem d_X5_append_15 : decode cX5_append 15 = .ok (.aload_n 0, 1) := by decide +kernel
theorem d_X5_append_16 : decode cX5_append 16 = .ok (.getfield 18, 3) := by decide +kernel
theorem d_X5_append_19 : decode cX5_append 19 = .ok (.iload_n 1, 1) := by decide +kernel
theorem d_X5_append_20 : decode cX5_append 20 = .ok (.invokestatic 22, 3) := by decide +kernel
theorem d_X5_append_23 : decode cX5_append 23 = .ok (.aload_n 0, 1) := by decide +kernel
theorem d_X5_append_24 : decode cX5_append 24 = .ok (.dup, 1) := by decide +kernel
theorem d_X5_append_25 : decode cX5_append 25 = .ok (.getfield 18, 3) := by decide +kernel
theorem d_X5_append_28 : decode cX5_append 28 = .ok (.iconst 1, 1) := by decide +kernel
theorem d_X5_append_29 : decode cX5_append 29 = .ok (.iadd, 1) := by decide +kernel
theorem d_X5_append_30 : decode cX5_append 30 = .ok (.putfield 18, 3) := by decide +kernel
theorem d_X5_append_33 : decode cX5_append 33 = .ok (.return_, 1) := by decide +kernel
def t_X5_append_0 : List (Nat × QO) := [(0, o_al 0 1), (1, o_gf 5 2 4), (4, o_k 200 7), (7, o_ic (fun x y => decide (x < y)) 11 10), (10, o_vr), (11, o_al 0 12), (12, o_gf 5 0 15), (15, o_al 0 16), (16, o_gf 5 2 19), (19, o_il 1 20), (20, o_cS 0 98 3 3 23), (23, o_al 0 24)]
theorem ts_X5_append_0 (sx : QX) : ∀ q ∈ t_X5_append_0, q_Snd sx RX5 cX5_append 2 none q.1 q.2 := List.forall_mem_cons.mpr ⟨s_aload_n d_X5_append_0 rfl, List.forall_mem_cons.mpr ⟨s_gf d_X5_append_1 rfl (by decide) n_X5 in_X5 rfl k_1_32, List.forall_mem_cons.mpr ⟨s_sipush d_X5_append_4 rfl, List.forall_mem_cons.mpr ⟨s_ic_lt d_X5_append_7 (by decide), List.forall_mem_cons.mpr ⟨s_vr d_X5_append_10 rfl, List.forall_mem_cons.mpr ⟨s_aload_n d_X5_append_11 rfl, List.forall_mem_cons.mpr ⟨s_gf d_X5_append_12 rfl (by decide) n_X5 in_X5 rfl k_1_29, List.forall_mem_cons.mpr ⟨s_aload_n d_X5_append_15 rfl, List.forall_mem_cons.mpr ⟨s_gf d_X5_append_16 rfl (by decide) n_X5 in_X5 rfl k_1_32, List.forall_mem_cons.mpr ⟨s_iload_n d_X5_append_19 rfl, List.forall_mem_cons.mpr ⟨s_cN (host := "StoneApologies") rfl d_X5_append_20 (List.mem_of_getElem? (i := 2) rfl) k_2_23 k_1_1 k_2_24 ⟨by decide, by decide⟩ (by decide +kernel) (by decide), List.forall_mem_cons.mpr ⟨s_aload_n d_X5_append_23 rfl, fun _ h => absurd h List.not_mem_nil⟩⟩⟩⟩⟩⟩⟩⟩⟩⟩⟩⟩
def t_X5_append_1 : List (Nat × QO) := [(24, o_dup 25), (25, o_gf 5 2 28), (28, o_k 1 29), (29, o_b (fun x y => x + y) 30), (30, o_pf 5 2 33), (33, o_vr)]
theorem ts_X5_append_1 (sx : QX) : ∀ q ∈ t_X5_append_1, q_Snd sx RX5 cX5_append 2 none q.1 q.2 := List.forall_mem_cons.mpr ⟨s_dup d_X5_append_24, List.forall_mem_cons.mpr ⟨s_gf d_X5_append_25 rfl (by decide) n_X5 in_X5 rfl k_1_32, List.forall_mem_cons.mpr ⟨s_iconst d_X5_append_28 rfl, List.forall_mem_cons.mpr ⟨s_iadd d_X5_append_29, List.forall_mem_cons.mpr ⟨s_pf tyX5 d_X5_append_30 rfl (by decide) n_X5 in_X5 rfl k_1_32 tyX5_ok nmX5 rfl rfl, List.forall_mem_cons.mpr ⟨s_vr d_X5_append_33 rfl, fun _ h => absurd h List.not_mem_nil⟩⟩⟩⟩⟩⟩
def t_X5_append (pc : Nat) : Option QO := cond (Nat.ble pc 23) (q_look (t_X5_append_0) pc) (q_look (t_X5_append_1) pc)
theorem ts_X5_append (sx : QX) (pc : Nat) : ∀ o, t_X5_append pc = some o → q_Snd sx RX5 cX5_append 2 none pc o := by
  unfold t_X5_append
  exact q_cb (q_look_all (ts_X5_append_0 sx)) (q_look_all (ts_X5_append_1 sx))
theorem d_X5_readInto_0 : decode cX5_readInto 0 = .ok (.aload_n 1, 1) := by decide +kernel
theorem d_X5_readInto_1 : decode cX5_readInto 1 = .ok (.invokevirtual 26, 3) := by decide +kernel
theorem d_X5_readInto_4 : decode cX5_readInto 4 = .ok (.aload_n 0, 1) := by decide +kernel
theorem d_X5_readInto_5 : decode cX5_readInto 5 = .ok (.iconst 0, 1) := by decide +kernel
theorem d_X5_readInto_6 : decode cX5_readInto 6 = .ok (.putfield 31, 3) := by decide +kernel
theorem d_X5_readInto_9 : decode cX5_readInto 9 = .ok (.iconst 0, 1) := by decide +kernel
theorem d_X5_readInto_10 : decode cX5_readInto 10 = .ok (.istore_n 2, 1) := by decide +kernel
theorem d_X5_readInto_11 : decode cX5_readInto 11 = .ok (.iload_n 2, 1) := by decide +kernel
theorem d_X5_readInto_12 : decode cX5_readInto 12 = .ok (.sipush 200, 3) := by decide +kernel
theorem d_X5_readInto_15 : decode cX5_readInto 15 = .ok (.if_icmp .ge 35, 3) := by decide +kernel
theorem d_X5_readInto_18 : decode cX5_readInto 18 = .ok (.aload_n 0, 1) := by decide +kernel
theorem d_X5_readInto_19 : decode cX5_readInto 19 = .ok (.getfield 31, 3) := by decide +kernel
theorem d_X5_readInto_22 : decode cX5_readInto 22 = .ok (.aload_n 0, 1) := by decide +kernel
theorem d_X5_readInto_23 : decode cX5_readInto 23 = .ok (.getfield 18, 3) := by decide +kernel
theorem d_X5_readInto_26 : decode cX5_readInto 26 = .ok (.if_icmp .ge 24, 3) := by decide +kernel
theorem d_X5_readInto_29 : decode cX5_readInto 29 = .ok (.aload_n 0, 1) := by decide +kernel
theorem d_X5_readInto_30 : decode cX5_readInto 30 = .ok (.getfield 31, 3) := by decide +kernel
theorem d_X5_readInto_33 : decode cX5_readInto 33 = .ok (.istore_n 3, 1) := by decide +kernel
theorem d_X5_readInto_34 : decode cX5_readInto 34 = .ok (.aload_n 0, 1) := by decide +kernel
theorem d_X5_readInto_35 : decode cX5_readInto 35 = .ok (.aload_n 1, 1) := by decide +kernel
theorem d_X5_readInto_36 : decode cX5_readInto 36 = .ok (.invokevirtual 34, 3) := by decide +kernel
theorem d_X5_readInto_39 : decode cX5_readInto 39 = .ok (.ifCond .ne 5, 3) := by decide +kernel
theorem d_X5_readInto_42 : decode cX5_readInto 42 = .ok (.iload_n 3, 1) := by decide +kernel
theorem d_X5_readInto_43 : decode cX5_readInto 43 = .ok (.ireturn, 1) := by decide +kernel
theorem d_X5_readInto_44 : decode cX5_readInto 44 = .ok (.iinc 2 1, 3) := by decide +kernel
theorem d_X5_readInto_47 : decode cX5_readInto 47 = .ok (.goto (-36), 3) := by decide +kernel
theorem d_X5_readInto_50 : decode cX5_readInto 50 = .ok (.bipush (-4), 2) := by decide +kernel
theorem d_X5_readInto_52 : decode cX5_readInto 52 = .ok (.ireturn, 1) := by decide +kernel
def t_X5_readInto_0 : List (Nat × QO) := [(0, o_al 1 1), (1, o_cV 0 0 0 1 1 4), (4, o_al 0 5), (5, o_k 0 6), (6, o_pf 5 3 9), (9, o_k 0 10), (10, o_is 2 11), (11, o_il 2 12), (12, o_k 200 15), (15, o_ic (fun x y => decide (y ≤ x)) 50 18), (18, o_al 0 19), (19, o_gf 5 3 22)]
theorem ts_X5_readInto_0 (sx : QX) : ∀ q ∈ t_X5_readInto_0, q_Snd sx RX5 cX5_readInto 4 (some .int) q.1 q.2 := List.forall_mem_cons.mpr ⟨s_aload_n d_X5_readInto_0 rfl, List.forall_mem_cons.mpr ⟨s_cV (T := TX0) (N := 12) rfl d_X5_readInto_1 rfl k_2_33 k_2_34 k_2_35 k_1_3 k_2_36 ⟨by decide, by decide⟩ (by decide +kernel) (by decide), List.forall_mem_cons.mpr ⟨s_aload_n d_X5_readInto_4 rfl, List.forall_mem_cons.mpr ⟨s_iconst d_X5_readInto_5 rfl, List.forall_mem_cons.mpr ⟨s_pf tyX5 d_X5_readInto_6 rfl (by decide) n_X5 in_X5 rfl k_1_33 tyX5_ok nmX5 rfl rfl, List.forall_mem_cons.mpr ⟨s_iconst d_X5_readInto_9 rfl, List.forall_mem_cons.mpr ⟨s_istore_n d_X5_readInto_10 rfl (by decide), List.forall_mem_cons.mpr ⟨s_iload_n d_X5_readInto_11 rfl, List.forall_mem_cons.mpr ⟨s_sipush d_X5_readInto_12 rfl, List.forall_mem_cons.mpr ⟨s_ic_ge d_X5_readInto_15 (by decide), List.forall_mem_cons.mpr ⟨s_aload_n d_X5_readInto_18 rfl, List.forall_mem_cons.mpr ⟨s_gf d_X5_readInto_19 rfl (by decide) n_X5 in_X5 rfl k_1_33, fun _ h => absurd h List.not_mem_nil⟩⟩⟩⟩⟩⟩⟩⟩⟩⟩⟩⟩
def t_X5_readInto_1 : List (Nat × QO) := [(22, o_al 0 23), (23, o_gf 5 2 26), (26, o_ic (fun x y => decide (y ≤ x)) 50 29), (29, o_al 0 30), (30, o_gf 5 3 33), (33, o_is 3 34), (34, o_al 0 35), (35, o_al 1 36), (36, o_cV 1 5 52 6 2 39), (39, o_if (fun x => decide (x ≠ 0)) 44 42), (42, o_il 3 43), (43, o_ir false)]
theorem ts_X5_readInto_1 (sx : QX) : ∀ q ∈ t_X5_readInto_1, q_Snd sx RX5 cX5_readInto 4 (some .int) q.1 q.2 := List.forall_mem_cons.mpr ⟨s_aload_n d_X5_readInto_22 rfl, List.forall_mem_cons.mpr ⟨s_gf d_X5_readInto_23 rfl (by decide) n_X5 in_X5 rfl k_1_32, List.forall_mem_cons.mpr ⟨s_ic_ge d_X5_readInto_26 (by decide), List.forall_mem_cons.mpr ⟨s_aload_n d_X5_readInto_29 rfl, List.forall_mem_cons.mpr ⟨s_gf d_X5_readInto_30 rfl (by decide) n_X5 in_X5 rfl k_1_33, List.forall_mem_cons.mpr ⟨s_istore_n d_X5_readInto_33 rfl (by decide), List.forall_mem_cons.mpr ⟨s_aload_n d_X5_readInto_34 rfl, List.forall_mem_cons.mpr ⟨s_aload_n d_X5_readInto_35 rfl, List.forall_mem_cons.mpr ⟨s_cV (T := TX5) (N := 4) rfl d_X5_readInto_36 rfl k_2_40 k_2_42 k_0_1 k_1_2 k_2_43 ⟨by decide, by decide⟩ (by decide +kernel) (by decide), List.forall_mem_cons.mpr ⟨s_if_ne d_X5_readInto_39 (by decide), List.forall_mem_cons.mpr ⟨s_iload_n d_X5_readInto_42 rfl, List.forall_mem_cons.mpr ⟨s_ir d_X5_readInto_43 rfl, fun _ h => absurd h List.not_mem_nil⟩⟩⟩⟩⟩⟩⟩⟩⟩⟩⟩⟩
def t_X5_readInto_2 : List (Nat × QO) := [(44, o_inc 2 1 47), (47, o_goto 11), (50, o_k (-4) 52), (52, o_ir false)]
theorem ts_X5_readInto_2 (sx : QX) : ∀ q ∈ t_X5_readInto_2, q_Snd sx RX5 cX5_readInto 4 (some .int) q.1 q.2 := List.forall_mem_cons.mpr ⟨s_iinc d_X5_readInto_44 rfl (by decide), List.forall_mem_cons.mpr ⟨s_goto d_X5_readInto_47 (by decide), List.forall_mem_cons.mpr ⟨s_bipush d_X5_readInto_50 rfl, List.forall_mem_cons.mpr ⟨s_ir d_X5_readInto_52 rfl, fun _ h => absurd h List.not_mem_nil⟩⟩⟩⟩
def t_X5_readInto (pc : Nat) : Option QO := cond (Nat.ble pc 19) (q_look (t_X5_readInto_0) pc) (cond (Nat.ble pc 43) (q_look (t_X5_readInto_1) pc) (q_look (t_X5_readInto_2) pc))
theorem ts_X5_readInto (sx : QX) (pc : Nat) : ∀ o, t_X5_readInto pc = some o → q_Snd sx RX5 cX5_readInto 4 (some .int) pc o := by
  unfold t_X5_readInto
  exact q_cb (q_look_all (ts_X5_readInto_0 sx)) (q_cb (q_look_all (ts_X5_readInto_1 sx)) (q_look_all (ts_X5_readInto_2 sx)))
theorem d_X5_readItem_0 : decode cX5_readItem 0 = .ok (.aload_n 0, 1) := by decide +kernel
theorem d_X5_readItem_1 : decode cX5_readItem 1 = .ok (.aload_n 0, 1) := by decide +kernel
theorem d_X5_readItem_2 : decode cX5_readItem 2 = .ok (.getfield 31, 3) := by decide +kernel
theorem d_X5_readItem_5 : decode cX5_readItem 5 = .ok (.invokevirtual 38, 3) := by decide +kernel
theorem d_X5_readItem_8 : decode cX5_readItem 8 = .ok (.istore_n 2, 1) := by decide +kernel
theorem d_X5_readItem_9 : decode cX5_readItem 9 = .ok (.aload_n 0, 1) := by decide +kernel
theorem d_X5_readItem_10 : decode cX5_readItem 10 = .ok (.dup, 1) := by decide +kernel
theorem d_X5_readItem_11 : decode cX5_readItem 11 = .ok (.getfield 31, 3) := by decide +kernel
theorem d_X5_readItem_14 : decode cX5_readItem 14 = .ok (.iconst 1, 1) := by decide +kernel
theorem d_X5_readItem_15 : decode cX5_readItem 15 = .ok (.iadd, 1) := by decide +kernel
theorem d_X5_readItem_16 : decode cX5_readItem 16 = .ok (.putfield 31, 3) := by decide +kernel
theorem d_X5_readItem_19 : decode cX5_readItem 19 = .ok (.aload_n 0, 1) := by decide +kernel
theorem d_X5_readItem_20 : decode cX5_readItem 20 = .ok (.invokevirtual 42, 3) := by decide +kernel
theorem d_X5_readItem_23 : decode cX5_readItem 23 = .ok (.istore_n 3, 1) := by decide +kernel
theorem d_X5_readItem_24 : decode cX5_readItem 24 = .ok (.aload_n 0, 1) := by decide +kernel
theorem d_X5_readItem_25 : decode cX5_readItem 25 = .ok (.getfield 15, 3) := by decide +kernel
theorem d_X5_readItem_28 : decode cX5_readItem 28 = .ok (.iconst 0, 1) := by decide +kernel
theorem d_X5_readItem_29 : decode cX5_readItem 29 = .ok (.invokestatic 46, 3) := by decide +kernel
theorem d_X5_readItem_32 : decode cX5_readItem 32 = .ok (.istore 4, 2) := by decide +kernel
theorem d_X5_readItem_34 : decode cX5_readItem 34 = .ok (.aload_n 0, 1) := by decide +kernel
theorem d_X5_readItem_35 : decode cX5_readItem 35 = .ok (.getfield 15, 3) := by decide +kernel
theorem d_X5_readItem_38 : decode cX5_readItem 38 = .ok (.iconst 1, 1) := by decide +kernel
theorem d_X5_readItem_39 : decode cX5_readItem 39 = .ok (.invokestatic 46, 3) := by decide +kernel
theorem d_X5_readItem_42 : decode cX5_readItem 42 = .ok (.istore 5, 2) := by decide +kernel
theorem d_X5_readItem_44 : decode cX5_readItem 44 = .ok (.iload_n 2, 1) := by decide +kernel
theorem d_X5_readItem_45 : decode cX5_readItem 45 = .ok (.lookupswitch 165 #[(98, 51), (102, 115), (112, 135), (115, 93), (119, 73)], 51) := by decide +kernel
theorem d_X5_readItem_96 : decode cX5_readItem 96 = .ok (.iload_n 3, 1) := by decide +kernel
theorem d_X5_readItem_97 : decode cX5_readItem 97 = .ok (.iconst 2, 1) := by decide +kernel
theorem d_X5_readItem_98 : decode cX5_readItem 98 = .ok (.if_icmp .ne 18, 3) := by decide +kernel
theorem d_X5_readItem_101 : decode cX5_readItem 101 = .ok (.aload_n 1, 1) := by decide +kernel
theorem d_X5_readItem_102 : decode cX5_readItem 102 = .ok (.iload 4, 2) := by decide +kernel
theorem d_X5_readItem_104 : decode cX5_readItem 104 = .ok (.iload 5, 2) := by decide +kernel
theorem d_X5_readItem_106 : decode cX5_readItem 106 = .ok (.invokevirtual 50, 3) := by decide +kernel
theorem d_X5_readItem_109 : decode cX5_readItem 109 = .ok (.ifCond .eq 7, 3) := by decide +kernel
theorem d_X5_readItem_112 : decode cX5_readItem 112 = .ok (.iconst 1, 1) := by decide +kernel
theorem d_X5_readItem_113 : decode cX5_readItem 113 = .ok (.goto 4, 3) := by decide +kernel
theorem d_X5_readItem_116 : decode cX5_readItem 116 = .ok (.iconst 0, 1) := by decide +kernel
theorem d_X5_readItem_117 : decode cX5_readItem 117 = .ok (.ireturn, 1) := by decide +kernel
theorem d_X5_readItem_118 : decode cX5_readItem 118 = .ok (.iload_n 3, 1) := by decide +kernel
theorem d_X5_readItem_119 : decode cX5_readItem 119 = .ok (.iconst 1, 1) := by decide +kernel
theorem d_X5_readItem_120 : decode cX5_readItem 120 = .ok (.if_icmp .ne 16, 3) := by decide +kernel
theorem d_X5_readItem_123 : decode cX5_readItem 123 = .ok (.aload_n 1, 1) := by decide +kernel
theorem d_X5_readItem_124 : decode cX5_readItem 124 = .ok (.iload 4, 2) := by decide +kernel
theorem d_X5_readItem_126 : decode cX5_readItem 126 = .ok (.invokevirtual 54, 3) := by decide +kernel
theorem d_X5_readItem_129 : decode cX5_readItem 129 = .ok (.ifCond .eq 7, 3) := by decide +kernel
theorem d_X5_readItem_132 : decode cX5_readItem 132 = .ok (.iconst 1, 1) := by decide +kernel
theorem d_X5_readItem_133 : decode cX5_readItem 133 = .ok (.goto 4, 3) := by decide +kernel
theorem d_X5_readItem_136 : decode cX5_readItem 136 = .ok (.iconst 0, 1) := by decide +kernel
theorem d_X5_readItem_137 : decode cX5_readItem 137 = .ok (.ireturn, 1) := by decide +kernel
theorem d_X5_readItem_138 : decode cX5_readItem 138 = .ok (.iload_n 3, 1) := by decide +kernel
theorem d_X5_readItem_139 : decode cX5_readItem 139 = .ok (.iconst 2, 1) := by decide +kernel
theorem d_X5_readItem_140 : decode cX5_readItem 140 = .ok (.if_icmp .ne 18, 3) := by decide +kernel
theorem d_X5_readItem_143 : decode cX5_readItem 143 = .ok (.aload_n 1, 1) := by decide +kernel
theorem d_X5_readItem_144 : decode cX5_readItem 144 = .ok (.iload 4, 2) := by decide +kernel
theorem d_X5_readItem_146 : decode cX5_readItem 146 = .ok (.iload 5, 2) := by decide +kernel
theorem d_X5_readItem_148 : decode cX5_readItem 148 = .ok (.invokevirtual 58, 3) := by decide +kernel
theorem d_X5_readItem_151 : decode cX5_readItem 151 = .ok (.ifCond .eq 7, 3) := by decide +kernel
theorem d_X5_readItem_154 : decode cX5_readItem 154 = .ok (.iconst 1, 1) := by decide +kernel
theorem d_X5_readItem_155 : decode cX5_readItem 155 = .ok (.goto 4, 3) := by decide +kernel
theorem d_X5_readItem_158 : decode cX5_readItem 158 = .ok (.iconst 0, 1) := by decide +kernel
theorem d_X5_readItem_159 : decode cX5_readItem 159 = .ok (.ireturn, 1) := by decide +kernel
theorem d_X5_readItem_160 : decode cX5_readItem 160 = .ok (.iload_n 3, 1) := by decide +kernel
theorem d_X5_readItem_161 : decode cX5_readItem 161 = .ok (.iconst 1, 1) := by decide +kernel
theorem d_X5_readItem_162 : decode cX5_readItem 162 = .ok (.if_icmp .ne 16, 3) := by decide +kernel
theorem d_X5_readItem_165 : decode cX5_readItem 165 = .ok (.aload_n 1, 1) := by decide +kernel
theorem d_X5_readItem_166 : decode cX5_readItem 166 = .ok (.iload 4, 2) := by decide +kernel
theorem d_X5_readItem_168 : decode cX5_readItem 168 = .ok (.invokevirtual 61, 3) := by decide +kernel
theorem d_X5_readItem_171 : decode cX5_readItem 171 = .ok (.ifCond .eq 7, 3) := by decide +kernel
theorem d_X5_readItem_174 : decode cX5_readItem 174 = .ok (.iconst 1, 1) := by decide +kernel
theorem d_X5_readItem_175 : decode cX5_readItem 175 = .ok (.goto 4, 3) := by decide +kernel
theorem d_X5_readItem_178 : decode cX5_readItem 178 = .ok (.iconst 0, 1) := by decide +kernel
theorem d_X5_readItem_179 : decode cX5_readItem 179 = .ok (.ireturn, 1) := by decide +kernel
theorem d_X5_readItem_180 : decode cX5_readItem 180 = .ok (.iload_n 3, 1) := by decide +kernel
theorem d_X5_readItem_181 : decode cX5_readItem 181 = .ok (.iconst 3, 1) := by decide +kernel
theorem d_X5_readItem_182 : decode cX5_readItem 182 = .ok (.if_icmp .ne 26, 3) := by decide +kernel
theorem d_X5_readItem_185 : decode cX5_readItem 185 = .ok (.aload_n 1, 1) := by decide +kernel
theorem d_X5_readItem_186 : decode cX5_readItem 186 = .ok (.iload 4, 2) := by decide +kernel
theorem d_X5_readItem_188 : decode cX5_readItem 188 = .ok (.iload 5, 2) := by decide +kernel
theorem d_X5_readItem_190 : decode cX5_readItem 190 = .ok (.aload_n 0, 1) := by decide +kernel
theorem d_X5_readItem_191 : decode cX5_readItem 191 = .ok (.getfield 15, 3) := by decide +kernel
theorem d_X5_readItem_194 : decode cX5_readItem 194 = .ok (.iconst 2, 1) := by decide +kernel
theorem d_X5_readItem_195 : decode cX5_readItem 195 = .ok (.invokestatic 46, 3) := by decide +kernel
theorem d_X5_readItem_198 : decode cX5_readItem 198 = .ok (.invokevirtual 64, 3) := by decide +kernel
theorem d_X5_readItem_201 : decode cX5_readItem 201 = .ok (.ifCond .eq 7, 3) := by decide +kernel
theorem d_X5_readItem_204 : decode cX5_readItem 204 = .ok (.iconst 1, 1) := by decide +kernel
theorem d_X5_readItem_205 : decode cX5_readItem 205 = .ok (.goto 4, 3) := by decide +kernel
theorem d_X5_readItem_208 : decode cX5_readItem 208 = .ok (.iconst 0, 1) := by decide +kernel
theorem d_X5_readItem_209 : decode cX5_readItem 209 = .ok (.ireturn, 1) := by decide +kernel
theorem d_X5_readItem_210 : decode cX5_readItem 210 = .ok (.iconst 0, 1) := by decide +kernel
theorem d_X5_readItem_211 : decode cX5_readItem 211 = .ok (.ireturn, 1) := by decide +kernel
def t_X5_readItem_0 : List (Nat × QO) := [(0, o_al 0 1), (1, o_al 0 2), (2, o_gf 5 3 5), (5, o_cV 1 5 55 2 2 8), (8, o_is 2 9), (9, o_al 0 10), (10, o_dup 11), (11, o_gf 5 3 14), (14, o_k 1 15), (15, o_b (fun x y => x + y) 16), (16, o_pf 5 3 19), (19, o_al 0 20)]
theorem ts_X5_readItem_0 (sx : QX) : ∀ q ∈ t_X5_readItem_0, q_Snd sx RX5 cX5_readItem 6 (some .boolean) q.1 q.2 := List.forall_mem_cons.mpr ⟨s_aload_n d_X5_readItem_0 rfl, List.forall_mem_cons.mpr ⟨s_aload_n d_X5_readItem_1 rfl, List.forall_mem_cons.mpr ⟨s_gf d_X5_readItem_2 rfl (by decide) n_X5 in_X5 rfl k_1_33, List.forall_mem_cons.mpr ⟨s_cV (T := TX5) (N := 4) rfl d_X5_readItem_5 rfl k_2_44 k_2_46 k_0_2 k_1_2 k_2_47 ⟨by decide, by decide⟩ (by decide +kernel) (by decide), List.forall_mem_cons.mpr ⟨s_istore_n d_X5_readItem_8 rfl (by decide), List.forall_mem_cons.mpr ⟨s_aload_n d_X5_readItem_9 rfl, List.forall_mem_cons.mpr ⟨s_dup d_X5_readItem_10, List.forall_mem_cons.mpr ⟨s_gf d_X5_readItem_11 rfl (by decide) n_X5 in_X5 rfl k_1_33, List.forall_mem_cons.mpr ⟨s_iconst d_X5_readItem_14 rfl, List.forall_mem_cons.mpr ⟨s_iadd d_X5_readItem_15, List.forall_mem_cons.mpr ⟨s_pf tyX5 d_X5_readItem_16 rfl (by decide) n_X5 in_X5 rfl k_1_33 tyX5_ok nmX5 rfl rfl, List.forall_mem_cons.mpr ⟨s_aload_n d_X5_readItem_19 rfl, fun _ h => absurd h List.not_mem_nil⟩⟩⟩⟩⟩⟩⟩⟩⟩⟩⟩⟩
def t_X5_readItem_1 : List (Nat × QO) := [(20, o_cV 1 5 53 4 1 23), (23, o_is 3 24), (24, o_al 0 25), (25, o_gf 5 1 28), (28, o_k 0 29), (29, o_cS 1 97 2 2 32), (32, o_is 4 34), (34, o_al 0 35), (35, o_gf 5 1 38), (38, o_k 1 39), (39, o_cS 1 97 2 2 42), (42, o_is 5 44)]
theorem ts_X5_readItem_1 (sx : QX) : ∀ q ∈ t_X5_readItem_1, q_Snd sx RX5 cX5_readItem 6 (some .boolean) q.1 q.2 := List.forall_mem_cons.mpr ⟨s_cV (T := TX5) (N := 4) rfl d_X5_readItem_20 rfl k_2_48 k_2_50 k_0_3 k_1_2 k_2_51 ⟨by decide, by decide⟩ (by decide +kernel) (by decide), List.forall_mem_cons.mpr ⟨s_istore_n d_X5_readItem_23 rfl (by decide), List.forall_mem_cons.mpr ⟨s_aload_n d_X5_readItem_24 rfl, List.forall_mem_cons.mpr ⟨s_gf d_X5_readItem_25 rfl (by decide) n_X5 in_X5 rfl k_1_30, List.forall_mem_cons.mpr ⟨s_iconst d_X5_readItem_28 rfl, List.forall_mem_cons.mpr ⟨s_cN (host := "StoneApologies") rfl d_X5_readItem_29 (List.mem_of_getElem? (i := 4) rfl) k_2_57 k_1_1 k_2_58 ⟨by decide, by decide⟩ (by decide +kernel) (by decide), List.forall_mem_cons.mpr ⟨s_istore d_X5_readItem_32 (by decide), List.forall_mem_cons.mpr ⟨s_aload_n d_X5_readItem_34 rfl, List.forall_mem_cons.mpr ⟨s_gf d_X5_readItem_35 rfl (by decide) n_X5 in_X5 rfl k_1_30, List.forall_mem_cons.mpr ⟨s_iconst d_X5_readItem_38 rfl, List.forall_mem_cons.mpr ⟨s_cN (host := "StoneApologies") rfl d_X5_readItem_39 (List.mem_of_getElem? (i := 4) rfl) k_2_57 k_1_1 k_2_58 ⟨by decide, by decide⟩ (by decide +kernel) (by decide), List.forall_mem_cons.mpr ⟨s_istore d_X5_readItem_42 (by decide), fun _ h => absurd h List.not_mem_nil⟩⟩⟩⟩⟩⟩⟩⟩⟩⟩⟩⟩
def t_X5_readItem_2 : List (Nat × QO) := [(44, o_il 2 45), (45, o_sw [(98, 96), (102, 160), (112, 180), (115, 138), (119, 118)] 210), (96, o_il 3 97), (97, o_k 2 98), (98, o_ic (fun x y => decide (x ≠ y)) 116 101), (101, o_al 1 102), (102, o_il 4 104), (104, o_il 5 106), (106, o_cV 1 0 2 3 3 109), (109, o_if (fun x => decide (x = 0)) 116 112), (112, o_k 1 113), (113, o_goto 117)]
theorem ts_X5_readItem_2 (sx : QX) : ∀ q ∈ t_X5_readItem_2, q_Snd sx RX5 cX5_readItem 6 (some .boolean) q.1 q.2 := List.forall_mem_cons.mpr ⟨s_iload_n d_X5_readItem_44 rfl, List.forall_mem_cons.mpr ⟨s_lsw d_X5_readItem_45 (by decide +kernel) (by decide +kernel) (by decide), List.forall_mem_cons.mpr ⟨s_iload_n d_X5_readItem_96 rfl, List.forall_mem_cons.mpr ⟨s_iconst d_X5_readItem_97 rfl, List.forall_mem_cons.mpr ⟨s_ic_ne d_X5_readItem_98 (by decide), List.forall_mem_cons.mpr ⟨s_aload_n d_X5_readItem_101 rfl, List.forall_mem_cons.mpr ⟨s_iload d_X5_readItem_102, List.forall_mem_cons.mpr ⟨s_iload d_X5_readItem_104, List.forall_mem_cons.mpr ⟨s_cV (T := TX0) (N := 12) rfl d_X5_readItem_106 rfl k_2_59 k_2_60 k_2_61 k_1_3 k_2_62 ⟨by decide, by decide⟩ (by decide +kernel) (by decide), List.forall_mem_cons.mpr ⟨s_if_eq d_X5_readItem_109 (by decide), List.forall_mem_cons.mpr ⟨s_iconst d_X5_readItem_112 rfl, List.forall_mem_cons.mpr ⟨s_goto d_X5_readItem_113 (by decide), fun _ h => absurd h List.not_mem_nil⟩⟩⟩⟩⟩⟩⟩⟩⟩⟩⟩⟩
def t_X5_readItem_3 : List (Nat × QO) := [(116, o_k 0 117), (117, o_ir true), (118, o_il 3 119), (119, o_k 1 120), (120, o_ic (fun x y => decide (x ≠ y)) 136 123), (123, o_al 1 124), (124, o_il 4 126), (126, o_cV 1 0 3 2 2 129), (129, o_if (fun x => decide (x = 0)) 136 132), (132, o_k 1 133), (133, o_goto 137), (136, o_k 0 137)]
theorem ts_X5_readItem_3 (sx : QX) : ∀ q ∈ t_X5_readItem_3, q_Snd sx RX5 cX5_readItem 6 (some .boolean) q.1 q.2 := List.forall_mem_cons.mpr ⟨s_iconst d_X5_readItem_116 rfl, List.forall_mem_cons.mpr ⟨s_zr d_X5_readItem_117 rfl, List.forall_mem_cons.mpr ⟨s_iload_n d_X5_readItem_118 rfl, List.forall_mem_cons.mpr ⟨s_iconst d_X5_readItem_119 rfl, List.forall_mem_cons.mpr ⟨s_ic_ne d_X5_readItem_120 (by decide), List.forall_mem_cons.mpr ⟨s_aload_n d_X5_readItem_123 rfl, List.forall_mem_cons.mpr ⟨s_iload d_X5_readItem_124, List.forall_mem_cons.mpr ⟨s_cV (T := TX0) (N := 12) rfl d_X5_readItem_126 rfl k_2_64 k_2_65 k_2_66 k_1_3 k_2_67 ⟨by decide, by decide⟩ (by decide +kernel) (by decide), List.forall_mem_cons.mpr ⟨s_if_eq d_X5_readItem_129 (by decide), List.forall_mem_cons.mpr ⟨s_iconst d_X5_readItem_132 rfl, List.forall_mem_cons.mpr ⟨s_goto d_X5_readItem_133 (by decide), List.forall_mem_cons.mpr ⟨s_iconst d_X5_readItem_136 rfl, fun _ h => absurd h List.not_mem_nil⟩⟩⟩⟩⟩⟩⟩⟩⟩⟩⟩⟩
def t_X5_readItem_4 : List (Nat × QO) := [(137, o_ir true), (138, o_il 3 139), (139, o_k 2 140), (140, o_ic (fun x y => decide (x ≠ y)) 158 143), (143, o_al 1 144), (144, o_il 4 146), (146, o_il 5 148), (148, o_cV 1 0 4 3 3 151), (151, o_if (fun x => decide (x = 0)) 158 154), (154, o_k 1 155), (155, o_goto 159), (158, o_k 0 159)]
theorem ts_X5_readItem_4 (sx : QX) : ∀ q ∈ t_X5_readItem_4, q_Snd sx RX5 cX5_readItem 6 (some .boolean) q.1 q.2 := List.forall_mem_cons.mpr ⟨s_zr d_X5_readItem_137 rfl, List.forall_mem_cons.mpr ⟨s_iload_n d_X5_readItem_138 rfl, List.forall_mem_cons.mpr ⟨s_iconst d_X5_readItem_139 rfl, List.forall_mem_cons.mpr ⟨s_ic_ne d_X5_readItem_140 (by decide), List.forall_mem_cons.mpr ⟨s_aload_n d_X5_readItem_143 rfl, List.forall_mem_cons.mpr ⟨s_iload d_X5_readItem_144, List.forall_mem_cons.mpr ⟨s_iload d_X5_readItem_146, List.forall_mem_cons.mpr ⟨s_cV (T := TX0) (N := 12) rfl d_X5_readItem_148 rfl k_2_68 k_2_69 k_2_70 k_1_3 k_2_71 ⟨by decide, by decide⟩ (by decide +kernel) (by decide), List.forall_mem_cons.mpr ⟨s_if_eq d_X5_readItem_151 (by decide), List.forall_mem_cons.mpr ⟨s_iconst d_X5_readItem_154 rfl, List.forall_mem_cons.mpr ⟨s_goto d_X5_readItem_155 (by decide), List.forall_mem_cons.mpr ⟨s_iconst d_X5_readItem_158 rfl, fun _ h => absurd h List.not_mem_nil⟩⟩⟩⟩⟩⟩⟩⟩⟩⟩⟩⟩
def t_X5_readItem_5 : List (Nat × QO) := [(159, o_ir true), (160, o_il 3 161), (161, o_k 1 162), (162, o_ic (fun x y => decide (x ≠ y)) 178 165), (165, o_al 1 166), (166, o_il 4 168), (168, o_cV 1 0 5 2 2 171), (171, o_if (fun x => decide (x = 0)) 178 174), (174, o_k 1 175), (175, o_goto 179), (178, o_k 0 179), (179, o_ir true)]
theorem ts_X5_readItem_5 (sx : QX) : ∀ q ∈ t_X5_readItem_5, q_Snd sx RX5 cX5_readItem 6 (some .boolean) q.1 q.2 := List.forall_mem_cons.mpr ⟨s_zr d_X5_readItem_159 rfl, List.forall_mem_cons.mpr ⟨s_iload_n d_X5_readItem_160 rfl, List.forall_mem_cons.mpr ⟨s_iconst d_X5_readItem_161 rfl, List.forall_mem_cons.mpr ⟨s_ic_ne d_X5_readItem_162 (by decide), List.forall_mem_cons.mpr ⟨s_aload_n d_X5_readItem_165 rfl, List.forall_mem_cons.mpr ⟨s_iload d_X5_readItem_166, List.forall_mem_cons.mpr ⟨s_cV (T := TX0) (N := 12) rfl d_X5_readItem_168 rfl k_2_72 k_2_73 k_2_74 k_1_3 k_2_75 ⟨by decide, by decide⟩ (by decide +kernel) (by decide), List.forall_mem_cons.mpr ⟨s_if_eq d_X5_readItem_171 (by decide), List.forall_mem_cons.mpr ⟨s_iconst d_X5_readItem_174 rfl, List.forall_mem_cons.mpr ⟨s_goto d_X5_readItem_175 (by decide), List.forall_mem_cons.mpr ⟨s_iconst d_X5_readItem_178 rfl, List.forall_mem_cons.mpr ⟨s_zr d_X5_readItem_179 rfl, fun _ h => absurd h List.not_mem_nil⟩⟩⟩⟩⟩⟩⟩⟩⟩⟩⟩⟩
def t_X5_readItem_6 : List (Nat × QO) := [(180, o_il 3 181), (181, o_k 3 182), (182, o_ic (fun x y => decide (x ≠ y)) 208 185), (185, o_al 1 186), (186, o_il 4 188), (188, o_il 5 190), (190, o_al 0 191), (191, o_gf 5 1 194), (194, o_k 2 195), (195, o_cS 1 97 2 2 198), (198, o_cV 1 0 6 4 4 201), (201, o_if (fun x => decide (x = 0)) 208 204)]
theorem ts_X5_readItem_6 (sx : QX) : ∀ q ∈ t_X5_readItem_6, q_Snd sx RX5 cX5_readItem 6 (some .boolean) q.1 q.2 := List.forall_mem_cons.mpr ⟨s_iload_n d_X5_readItem_180 rfl, List.forall_mem_cons.mpr ⟨s_iconst d_X5_readItem_181 rfl, List.forall_mem_cons.mpr ⟨s_ic_ne d_X5_readItem_182 (by decide), List.forall_mem_cons.mpr ⟨s_aload_n d_X5_readItem_185 rfl, List.forall_mem_cons.mpr ⟨s_iload d_X5_readItem_186, List.forall_mem_cons.mpr ⟨s_iload d_X5_readItem_188, List.forall_mem_cons.mpr ⟨s_aload_n d_X5_readItem_190 rfl, List.forall_mem_cons.mpr ⟨s_gf d_X5_readItem_191 rfl (by decide) n_X5 in_X5 rfl k_1_30, List.forall_mem_cons.mpr ⟨s_iconst d_X5_readItem_194 rfl, List.forall_mem_cons.mpr ⟨s_cN (host := "StoneApologies") rfl d_X5_readItem_195 (List.mem_of_getElem? (i := 4) rfl) k_2_57 k_1_1 k_2_58 ⟨by decide, by decide⟩ (by decide +kernel) (by decide), List.forall_mem_cons.mpr ⟨s_cV (T := TX0) (N := 12) rfl d_X5_readItem_198 rfl k_2_76 k_2_77 k_2_78 k_1_3 k_2_79 ⟨by decide, by decide⟩ (by decide +kernel) (by decide), List.forall_mem_cons.mpr ⟨s_if_eq d_X5_readItem_201 (by decide), fun _ h => absurd h List.not_mem_nil⟩⟩⟩⟩⟩⟩⟩⟩⟩⟩⟩⟩
def t_X5_readItem_7 : List (Nat × QO) := [(204, o_k 1 205), (205, o_goto 209), (208, o_k 0 209), (209, o_ir true), (210, o_k 0 211), (211, o_ir true)]
theorem ts_X5_readItem_7 (sx : QX) : ∀ q ∈ t_X5_readItem_7, q_Snd sx RX5 cX5_readItem 6 (some .boolean) q.1 q.2 := List.forall_mem_cons.mpr ⟨s_iconst d_X5_readItem_204 rfl, List.forall_mem_cons.mpr ⟨s_goto d_X5_readItem_205 (by decide), List.forall_mem_cons.mpr ⟨s_iconst d_X5_readItem_208 rfl, List.forall_mem_cons.mpr ⟨s_zr d_X5_readItem_209 rfl, List.forall_mem_cons.mpr ⟨s_iconst d_X5_readItem_210 rfl, List.forall_mem_cons.mpr ⟨s_zr d_X5_readItem_211 rfl, fun _ h => absurd h List.not_mem_nil⟩⟩⟩⟩⟩⟩
def t_X5_readItem (pc : Nat) : Option QO := cond (Nat.ble pc 136) (cond (Nat.ble pc 42) (cond (Nat.ble pc 19) (q_look (t_X5_readItem_0) pc) (q_look (t_X5_readItem_1) pc)) (cond (Nat.ble pc 113) (q_look (t_X5_readItem_2) pc) (q_look (t_X5_readItem_3) pc))) (cond (Nat.ble pc 179) (cond (Nat.ble pc 158) (q_look (t_X5_readItem_4) pc) (q_look (t_X5_readItem_5) pc)) (cond (Nat.ble pc 201) (q_look (t_X5_readItem_6) pc) (q_look (t_X5_readItem_7) pc)))
theorem ts_X5_readItem (sx : QX) (pc : Nat) : ∀ o, t_X5_readItem pc = some o → q_Snd sx RX5 cX5_readItem 6 (some .boolean) pc o := by
  unfold t_X5_readItem
  exact q_cb (q_cb (q_cb (q_look_all (ts_X5_readItem_0 sx)) (q_look_all (ts_X5_readItem_1 sx))) (q_cb (q_look_all (ts_X5_readItem_2 sx)) (q_look_all (ts_X5_readItem_3 sx)))) (q_cb (q_cb (q_look_all (ts_X5_readItem_4 sx)) (q_look_all (ts_X5_readItem_5 sx))) (q_cb (q_look_all (ts_X5_readItem_6 sx)) (q_look_all (ts_X5_readItem_7 sx))))
theorem d_X5_readNumbers_0 : decode cX5_readNumbers 0 = .ok (.iconst 0, 1) := by decide +kernel
theorem d_X5_readNumbers_1 : decode cX5_readNumbers 1 = .ok (.istore_n 1, 1) := by decide +kernel
theorem d_X5_readNumbers_2 : decode cX5_readNumbers 2 = .ok (.iload_n 1, 1) := by decide +kernel
theorem d_X5_readNumbers_3 : decode cX5_readNumbers 3 = .ok (.iconst 3, 1) := by decide +kernel
theorem d_X5_readNumbers_4 : decode cX5_readNumbers 4 = .ok (.if_icmp .ge 67, 3) := by decide +kernel
theorem d_X5_readNumbers_7 : decode cX5_readNumbers 7 = .ok (.aload_n 0, 1) := by decide +kernel
theorem d_X5_readNumbers_8 : decode cX5_readNumbers 8 = .ok (.invokevirtual 68, 3) := by decide +kernel
theorem d_X5_readNumbers_11 : decode cX5_readNumbers 11 = .ok (.istore_n 2, 1) := by decide +kernel
theorem d_X5_readNumbers_12 : decode cX5_readNumbers 12 = .ok (.iload_n 2, 1) := by decide +kernel
theorem d_X5_readNumbers_13 : decode cX5_readNumbers 13 = .ok (.iconst (-1), 1) := by decide +kernel
theorem d_X5_readNumbers_14 : decode cX5_readNumbers 14 = .ok (.if_icmp .ne 5, 3) := by decide +kernel
theorem d_X5_readNumbers_17 : decode cX5_readNumbers 17 = .ok (.iconst (-1), 1) := by decide +kernel
theorem d_X5_readNumbers_18 : decode cX5_readNumbers 18 = .ok (.ireturn, 1) := by decide +kernel
theorem d_X5_readNumbers_19 : decode cX5_readNumbers 19 = .ok (.aload_n 0, 1) := by decide +kernel
theorem d_X5_readNumbers_20 : decode cX5_readNumbers 20 = .ok (.getfield 15, 3) := by decide +kernel
theorem d_X5_readNumbers_23 : decode cX5_readNumbers 23 = .ok (.iload_n 1, 1) := by decide +kernel
theorem d_X5_readNumbers_24 : decode cX5_readNumbers 24 = .ok (.iload_n 2, 1) := by decide +kernel
theorem d_X5_readNumbers_25 : decode cX5_readNumbers 25 = .ok (.invokestatic 22, 3) := by decide +kernel
theorem d_X5_readNumbers_28 : decode cX5_readNumbers 28 = .ok (.aload_n 0, 1) := by decide +kernel
theorem d_X5_readNumbers_29 : decode cX5_readNumbers 29 = .ok (.aload_n 0, 1) := by decide +kernel
theorem d_X5_readNumbers_30 : decode cX5_readNumbers 30 = .ok (.getfield 31, 3) := by decide +kernel
theorem d_X5_readNumbers_33 : decode cX5_readNumbers 33 = .ok (.invokevirtual 38, 3) := by decide +kernel
theorem d_X5_readNumbers_36 : decode cX5_readNumbers 36 = .ok (.istore_n 3, 1) := by decide +kernel
theorem d_X5_readNumbers_37 : decode cX5_readNumbers 37 = .ok (.aload_n 0, 1) := by decide +kernel
theorem d_X5_readNumbers_38 : decode cX5_readNumbers 38 = .ok (.dup, 1) := by decide +kernel
theorem d_X5_readNumbers_39 : decode cX5_readNumbers 39 = .ok (.getfield 31, 3) := by decide +kernel
theorem d_X5_readNumbers_42 : decode cX5_readNumbers 42 = .ok (.iconst 1, 1) := by decide +kernel
theorem d_X5_readNumbers_43 : decode cX5_readNumbers 43 = .ok (.iadd, 1) := by decide +kernel
theorem d_X5_readNumbers_44 : decode cX5_readNumbers 44 = .ok (.putfield 31, 3) := by decide +kernel
theorem d_X5_readNumbers_47 : decode cX5_readNumbers 47 = .ok (.iload_n 3, 1) := by decide +kernel
theorem d_X5_readNumbers_48 : decode cX5_readNumbers 48 = .ok (.bipush 59, 2) := by decide +kernel
theorem d_X5_readNumbers_50 : decode cX5_readNumbers 50 = .ok (.if_icmp .ne 7, 3) := by decide +kernel
theorem d_X5_readNumbers_53 : decode cX5_readNumbers 53 = .ok (.iload_n 1, 1) := by decide +kernel
theorem d_X5_readNumbers_54 : decode cX5_readNumbers 54 = .ok (.iconst 1, 1) := by decide +kernel
theorem d_X5_readNumbers_55 : decode cX5_readNumbers 55 = .ok (.iadd, 1) := by decide +kernel
theorem d_X5_readNumbers_56 : decode cX5_readNumbers 56 = .ok (.ireturn, 1) := by decide +kernel
theorem d_X5_readNumbers_57 : decode cX5_readNumbers 57 = .ok (.iload_n 3, 1) := by decide +kernel
theorem d_X5_readNumbers_58 : decode cX5_readNumbers 58 = .ok (.bipush 44, 2) := by decide +kernel
theorem d_X5_readNumbers_60 : decode cX5_readNumbers 60 = .ok (.if_icmp .eq 5, 3) := by decide +kernel
theorem d_X5_readNumbers_63 : decode cX5_readNumbers 63 = .ok (.iconst (-1), 1) := by decide +kernel
theorem d_X5_readNumbers_64 : decode cX5_readNumbers 64 = .ok (.ireturn, 1) := by decide +kernel
theorem d_X5_readNumbers_65 : decode cX5_readNumbers 65 = .ok (.iinc 1 1, 3) := by decide +kernel
theorem d_X5_readNumbers_68 : decode cX5_readNumbers 68 = .ok (.goto (-66), 3) := by decide +kernel
theorem d_X5_readNumbers_71 : decode cX5_readNumbers 71 = .ok (.iconst (-1), 1) := by decide +kernel
theorem d_X5_readNumbers_72 : decode cX5_readNumbers 72 = .ok (.ireturn, 1) := by decide +kernel
def t_X5_readNumbers_0 : List (Nat × QO) := [(0, o_k 0 1), (1, o_is 1 2), (2, o_il 1 3), (3, o_k 3 4), (4, o_ic (fun x y => decide (y ≤ x)) 71 7), (7, o_al 0 8), (8, o_cV 1 5 54 3 1 11), (11, o_is 2 12), (12, o_il 2 13), (13, o_k (-1) 14), (14, o_ic (fun x y => decide (x ≠ y)) 19 17), (17, o_k (-1) 18)]
theorem ts_X5_readNumbers_0 (sx : QX) : ∀ q ∈ t_X5_readNumbers_0, q_Snd sx RX5 cX5_readNumbers 4 (some .int) q.1 q.2 := List.forall_mem_cons.mpr ⟨s_iconst d_X5_readNumbers_0 rfl, List.forall_mem_cons.mpr ⟨s_istore_n d_X5_readNumbers_1 rfl (by decide), List.forall_mem_cons.mpr ⟨s_iload_n d_X5_readNumbers_2 rfl, List.forall_mem_cons.mpr ⟨s_iconst d_X5_readNumbers_3 rfl, List.forall_mem_cons.mpr ⟨s_ic_ge d_X5_readNumbers_4 (by decide), List.forall_mem_cons.mpr ⟨s_aload_n d_X5_readNumbers_7 rfl, List.forall_mem_cons.mpr ⟨s_cV (T := TX5) (N := 4) rfl d_X5_readNumbers_8 rfl k_2_52 k_2_54 k_0_4 k_1_2 k_2_55 ⟨by decide, by decide⟩ (by decide +kernel) (by decide), List.forall_mem_cons.mpr ⟨s_istore_n d_X5_readNumbers_11 rfl (by decide), List.forall_mem_cons.mpr ⟨s_iload_n d_X5_readNumbers_12 rfl, List.forall_mem_cons.mpr ⟨s_iconst d_X5_readNumbers_13 rfl, List.forall_mem_cons.mpr ⟨s_ic_ne d_X5_readNumbers_14 (by decide), List.forall_mem_cons.mpr ⟨s_iconst d_X5_readNumbers_17 rfl, fun _ h => absurd h List.not_mem_nil⟩⟩⟩⟩⟩⟩⟩⟩⟩⟩⟩⟩
def t_X5_readNumbers_1 : List (Nat × QO) := [(18, o_ir false), (19, o_al 0 20), (20, o_gf 5 1 23), (23, o_il 1 24), (24, o_il 2 25), (25, o_cS 0 98 3 3 28), (28, o_al 0 29), (29, o_al 0 30), (30, o_gf 5 3 33), (33, o_cV 1 5 55 2 2 36), (36, o_is 3 37), (37, o_al 0 38)]
theorem ts_X5_readNumbers_1 (sx : QX) : ∀ q ∈ t_X5_readNumbers_1, q_Snd sx RX5 cX5_readNumbers 4 (some .int) q.1 q.2 := List.forall_mem_cons.mpr ⟨s_ir d_X5_readNumbers_18 rfl, List.forall_mem_cons.mpr ⟨s_aload_n d_X5_readNumbers_19 rfl, List.forall_mem_cons.mpr ⟨s_gf d_X5_readNumbers_20 rfl (by decide) n_X5 in_X5 rfl k_1_30, List.forall_mem_cons.mpr ⟨s_iload_n d_X5_readNumbers_23 rfl, List.forall_mem_cons.mpr ⟨s_iload_n d_X5_readNumbers_24 rfl, List.forall_mem_cons.mpr ⟨s_cN (host := "StoneApologies") rfl d_X5_readNumbers_25 (List.mem_of_getElem? (i := 2) rfl) k_2_23 k_1_1 k_2_24 ⟨by decide, by decide⟩ (by decide +kernel) (by decide), List.forall_mem_cons.mpr ⟨s_aload_n d_X5_readNumbers_28 rfl, List.forall_mem_cons.mpr ⟨s_aload_n d_X5_readNumbers_29 rfl, List.forall_mem_cons.mpr ⟨s_gf d_X5_readNumbers_30 rfl (by decide) n_X5 in_X5 rfl k_1_33, List.forall_mem_cons.mpr ⟨s_cV (T := TX5) (N := 4) rfl d_X5_readNumbers_33 rfl k_2_44 k_2_46 k_0_2 k_1_2 k_2_47 ⟨by decide, by decide⟩ (by decide +kernel) (by decide), List.forall_mem_cons.mpr ⟨s_istore_n d_X5_readNumbers_36 rfl (by decide), List.forall_mem_cons.mpr ⟨s_aload_n d_X5_readNumbers_37 rfl, fun _ h => absurd h List.not_mem_nil⟩⟩⟩⟩⟩⟩⟩⟩⟩⟩⟩⟩
def t_X5_readNumbers_2 : List (Nat × QO) := [(38, o_dup 39), (39, o_gf 5 3 42), (42, o_k 1 43), (43, o_b (fun x y => x + y) 44), (44, o_pf 5 3 47), (47, o_il 3 48), (48, o_k 59 50), (50, o_ic (fun x y => decide (x ≠ y)) 57 53), (53, o_il 1 54), (54, o_k 1 55), (55, o_b (fun x y => x + y) 56), (56, o_ir false)]
theorem ts_X5_readNumbers_2 (sx : QX) : ∀ q ∈ t_X5_readNumbers_2, q_Snd sx RX5 cX5_readNumbers 4 (some .int) q.1 q.2 := List.forall_mem_cons.mpr ⟨s_dup d_X5_readNumbers_38, List.forall_mem_cons.mpr ⟨s_gf d_X5_readNumbers_39 rfl (by decide) n_X5 in_X5 rfl k_1_33, List.forall_mem_cons.mpr ⟨s_iconst d_X5_readNumbers_42 rfl, List.forall_mem_cons.mpr ⟨s_iadd d_X5_readNumbers_43, List.forall_mem_cons.mpr ⟨s_pf tyX5 d_X5_readNumbers_44 rfl (by decide) n_X5 in_X5 rfl k_1_33 tyX5_ok nmX5 rfl rfl, List.forall_mem_cons.mpr ⟨s_iload_n d_X5_readNumbers_47 rfl, List.forall_mem_cons.mpr ⟨s_bipush d_X5_readNumbers_48 rfl, List.forall_mem_cons.mpr ⟨s_ic_ne d_X5_readNumbers_50 (by decide), List.forall_mem_cons.mpr ⟨s_iload_n d_X5_readNumbers_53 rfl, List.forall_mem_cons.mpr ⟨s_iconst d_X5_readNumbers_54 rfl, List.forall_mem_cons.mpr ⟨s_iadd d_X5_readNumbers_55, List.forall_mem_cons.mpr ⟨s_ir d_X5_readNumbers_56 rfl, fun _ h => absurd h List.not_mem_nil⟩⟩⟩⟩⟩⟩⟩⟩⟩⟩⟩⟩
def t_X5_readNumbers_3 : List (Nat × QO) := [(57, o_il 3 58), (58, o_k 44 60), (60, o_ic (fun x y => decide (x = y)) 65 63), (63, o_k (-1) 64), (64, o_ir false), (65, o_inc 1 1 68), (68, o_goto 2), (71, o_k (-1) 72), (72, o_ir false)]
theorem ts_X5_readNumbers_3 (sx : QX) : ∀ q ∈ t_X5_readNumbers_3, q_Snd sx RX5 cX5_readNumbers 4 (some .int) q.1 q.2 := List.forall_mem_cons.mpr ⟨s_iload_n d_X5_readNumbers_57 rfl, List.forall_mem_cons.mpr ⟨s_bipush d_X5_readNumbers_58 rfl, List.forall_mem_cons.mpr ⟨s_ic_eq d_X5_readNumbers_60 (by decide), List.forall_mem_cons.mpr ⟨s_iconst d_X5_readNumbers_63 rfl, List.forall_mem_cons.mpr ⟨s_ir d_X5_readNumbers_64 rfl, List.forall_mem_cons.mpr ⟨s_iinc d_X5_readNumbers_65 rfl (by decide), List.forall_mem_cons.mpr ⟨s_goto d_X5_readNumbers_68 (by decide), List.forall_mem_cons.mpr ⟨s_iconst d_X5_readNumbers_71 rfl, List.forall_mem_cons.mpr ⟨s_ir d_X5_readNumbers_72 rfl, fun _ h => absurd h List.not_mem_nil⟩⟩⟩⟩⟩⟩⟩⟩⟩
def t_X5_readNumbers (pc : Nat) : Option QO := cond (Nat.ble pc 37) (cond (Nat.ble pc 17) (q_look (t_X5_readNumbers_0) pc) (q_look (t_X5_readNumbers_1) pc)) (cond (Nat.ble pc 56) (q_look (t_X5_readNumbers_2) pc) (q_look (t_X5_readNumbers_3) pc))
theorem ts_X5_readNumbers (sx : QX) (pc : Nat) : ∀ o, t_X5_readNumbers pc = some o → q_Snd sx RX5 cX5_readNumbers 4 (some .int) pc o := by
  unfold t_X5_readNumbers
  exact q_cb (q_cb (q_look_all (ts_X5_readNumbers_0 sx)) (q_look_all (ts_X5_readNumbers_1 sx))) (q_cb (q_look_all (ts_X5_readNumbers_2 sx)) (q_look_all (ts_X5_readNumbers_3 sx)))
theorem d_X5_readNumber_0 : decode cX5_readNumber 0 = .ok (.aload_n 0, 1) := by decide +kernel
theorem d_X5_readNumber_1 : decode cX5_readNumber 1 = .ok (.aload_n 0, 1) := by decide +kernel
theorem d_X5_readNumber_2 : decode cX5_readNumber 2 = .ok (.getfield 31, 3) := by decide +kernel
theorem d_X5_readNumber_5 : decode cX5_readNumber 5 = .ok (.invokevirtual 38, 3) := by decide +kernel
theorem d_X5_readNumber_8 : decode cX5_readNumber 8 = .ok (.bipush 48, 2) := by decide +kernel
theorem d_X5_readNumber_10 : decode cX5_readNumber 10 = .ok (.isub, 1) := by decide +kernel
theorem d_X5_readNumber_11 : decode cX5_readNumber 11 = .ok (.istore_n 1, 1) := by decide +kernel
theorem d_X5_readNumber_12 : decode cX5_readNumber 12 = .ok (.iload_n 1, 1) := by decide +kernel
theorem d_X5_readNumber_13 : decode cX5_readNumber 13 = .ok (.ifCond .lt 9, 3) := by decide +kernel
theorem d_X5_readNumber_16 : decode cX5_readNumber 16 = .ok (.iload_n 1, 1) := by decide +kernel
theorem d_X5_readNumber_17 : decode cX5_readNumber 17 = .ok (.bipush 9, 2) := by decide +kernel
theorem d_X5_readNumber_19 : decode cX5_readNumber 19 = .ok (.if_icmp .le 5, 3) := by decide +kernel
theorem d_X5_readNumber_22 : decode cX5_readNumber 22 = .ok (.iconst (-1), 1) := by decide +kernel
theorem d_X5_readNumber_23 : decode cX5_readNumber 23 = .ok (.ireturn, 1) := by decide +kernel
theorem d_X5_readNumber_24 : decode cX5_readNumber 24 = .ok (.aload_n 0, 1) := by decide +kernel
theorem d_X5_readNumber_25 : decode cX5_readNumber 25 = .ok (.dup, 1) := by decide +kernel
theorem d_X5_readNumber_26 : decode cX5_readNumber 26 = .ok (.getfield 31, 3) := by decide +kernel
theorem d_X5_readNumber_29 : decode cX5_readNumber 29 = .ok (.iconst 1, 1) := by decide +kernel
theorem d_X5_readNumber_30 : decode cX5_readNumber 30 = .ok (.iadd, 1) := by decide +kernel
theorem d_X5_readNumber_31 : decode cX5_readNumber 31 = .ok (.putfield 31, 3) := by decide +kernel
theorem d_X5_readNumber_34 : decode cX5_readNumber 34 = .ok (.aload_n 0, 1) := by decide +kernel
theorem d_X5_readNumber_35 : decode cX5_readNumber 35 = .ok (.aload_n 0, 1) := by decide +kernel
theorem d_X5_readNumber_36 : decode cX5_readNumber 36 = .ok (.getfield 31, 3) := by decide +kernel
theorem d_X5_readNumber_39 : decode cX5_readNumber 39 = .ok (.invokevirtual 38, 3) := by decide +kernel
theorem d_X5_readNumber_42 : decode cX5_readNumber 42 = .ok (.bipush 48, 2) := by decide +kernel
theorem d_X5_readNumber_44 : decode cX5_readNumber 44 = .ok (.isub, 1) := by decide +kernel
theorem d_X5_readNumber_45 : decode cX5_readNumber 45 = .ok (.istore_n 2, 1) := by decide +kernel
theorem d_X5_readNumber_46 : decode cX5_readNumber 46 = .ok (.iload_n 2, 1) := by decide +kernel
theorem d_X5_readNumber_47 : decode cX5_readNumber 47 = .ok (.ifCond .lt 9, 3) := by decide +kernel
theorem d_X5_readNumber_50 : decode cX5_readNumber 50 = .ok (.iload_n 2, 1) := by decide +kernel
theorem d_X5_readNumber_51 : decode cX5_readNumber 51 = .ok (.bipush 9, 2) := by decide +kernel
theorem d_X5_readNumber_53 : decode cX5_readNumber 53 = .ok (.if_icmp .le 5, 3) := by decide +kernel
theorem d_X5_readNumber_56 : decode cX5_readNumber 56 = .ok (.iload_n 1, 1) := by decide +kernel
theorem d_X5_readNumber_57 : decode cX5_readNumber 57 = .ok (.ireturn, 1) := by decide +kernel
theorem d_X5_readNumber_58 : decode cX5_readNumber 58 = .ok (.aload_n 0, 1) := by decide +kernel
theorem d_X5_readNumber_59 : decode cX5_readNumber 59 = .ok (.dup, 1) := by decide +kernel
theorem d_X5_readNumber_60 : decode cX5_readNumber 60 = .ok (.getfield 31, 3) := by decide +kernel
theorem d_X5_readNumber_63 : decode cX5_readNumber 63 = .ok (.iconst 1, 1) := by decide +kernel
theorem d_X5_readNumber_64 : decode cX5_readNumber 64 = .ok (.iadd, 1) := by decide +kernel
theorem d_X5_readNumber_65 : decode cX5_readNumber 65 = .ok (.putfield 31, 3) := by decide +kernel
theorem d_X5_readNumber_68 : decode cX5_readNumber 68 = .ok (.bipush 10, 2) := by decide +kernel
theorem d_X5_readNumber_70 : decode cX5_readNumber 70 = .ok (.iload_n 1, 1) := by decide +kernel
theorem d_X5_readNumber_71 : decode cX5_readNumber 71 = .ok (.imul, 1) := by decide +kernel
theorem d_X5_readNumber_72 : decode cX5_readNumber 72 = .ok (.iload_n 2, 1) := by decide +kernel
theorem d_X5_readNumber_73 : decode cX5_readNumber 73 = .ok (.iadd, 1) := by decide +kernel
theorem d_X5_readNumber_74 : decode cX5_readNumber 74 = .ok (.ireturn, 1) := by decide +kernel
def t_X5_readNumber_0 : List (Nat × QO) := [(0, o_al 0 1), (1, o_al 0 2), (2, o_gf 5 3 5), (5, o_cV 1 5 55 2 2 8), (8, o_k 48 10), (10, o_b (fun x y => x - y) 11), (11, o_is 1 12), (12, o_il 1 13), (13, o_if (fun x => decide (x < 0)) 22 16), (16, o_il 1 17), (17, o_k 9 19), (19, o_ic (fun x y => decide (x ≤ y)) 24 22)]
theorem ts_X5_readNumber_0 (sx : QX) : ∀ q ∈ t_X5_readNumber_0, q_Snd sx RX5 cX5_readNumber 3 (some .int) q.1 q.2 := List.forall_mem_cons.mpr ⟨s_aload_n d_X5_readNumber_0 rfl, List.forall_mem_cons.mpr ⟨s_aload_n d_X5_readNumber_1 rfl, List.forall_mem_cons.mpr ⟨s_gf d_X5_readNumber_2 rfl (by decide) n_X5 in_X5 rfl k_1_33, List.forall_mem_cons.mpr ⟨s_cV (T := TX5) (N := 4) rfl d_X5_readNumber_5 rfl k_2_44 k_2_46 k_0_2 k_1_2 k_2_47 ⟨by decide, by decide⟩ (by decide +kernel) (by decide), List.forall_mem_cons.mpr ⟨s_bipush d_X5_readNumber_8 rfl, List.forall_mem_cons.mpr ⟨s_isub d_X5_readNumber_10, List.forall_mem_cons.mpr ⟨s_istore_n d_X5_readNumber_11 rfl (by decide), List.forall_mem_cons.mpr ⟨s_iload_n d_X5_readNumber_12 rfl, List.forall_mem_cons.mpr ⟨s_if_lt d_X5_readNumber_13 (by decide), List.forall_mem_cons.mpr ⟨s_iload_n d_X5_readNumber_16 rfl, List.forall_mem_cons.mpr ⟨s_bipush d_X5_readNumber_17 rfl, List.forall_mem_cons.mpr ⟨s_ic_le d_X5_readNumber_19 (by decide), fun _ h => absurd h List.not_mem_nil⟩⟩⟩⟩⟩⟩⟩⟩⟩⟩⟩⟩
def t_X5_readNumber_1 : List (Nat × QO) := [(22, o_k (-1) 23), (23, o_ir false), (24, o_al 0 25), (25, o_dup 26), (26, o_gf 5 3 29), (29, o_k 1 30), (30, o_b (fun x y => x + y) 31), (31, o_pf 5 3 34), (34, o_al 0 35), (35, o_al 0 36), (36, o_gf 5 3 39), (39, o_cV 1 5 55 2 2 42)]
theorem ts_X5_readNumber_1 (sx : QX) : ∀ q ∈ t_X5_readNumber_1, q_Snd sx RX5 cX5_readNumber 3 (some .int) q.1 q.2 := List.forall_mem_cons.mpr ⟨s_iconst d_X5_readNumber_22 rfl, List.forall_mem_cons.mpr ⟨s_ir d_X5_readNumber_23 rfl, List.forall_mem_cons.mpr ⟨s_aload_n d_X5_readNumber_24 rfl, List.forall_mem_cons.mpr ⟨s_dup d_X5_readNumber_25, List.forall_mem_cons.mpr ⟨s_gf d_X5_readNumber_26 rfl (by decide) n_X5 in_X5 rfl k_1_33, List.forall_mem_cons.mpr ⟨s_iconst d_X5_readNumber_29 rfl, List.forall_mem_cons.mpr ⟨s_iadd d_X5_readNumber_30, List.forall_mem_cons.mpr ⟨s_pf tyX5 d_X5_readNumber_31 rfl (by decide) n_X5 in_X5 rfl k_1_33 tyX5_ok nmX5 rfl rfl, List.forall_mem_cons.mpr ⟨s_aload_n d_X5_readNumber_34 rfl, List.forall_mem_cons.mpr ⟨s_aload_n d_X5_readNumber_35 rfl, List.forall_mem_cons.mpr ⟨s_gf d_X5_readNumber_36 rfl (by decide) n_X5 in_X5 rfl k_1_33, List.forall_mem_cons.mpr ⟨s_cV (T := TX5) (N := 4) rfl d_X5_readNumber_39 rfl k_2_44 k_2_46 k_0_2 k_1_2 k_2_47 ⟨by decide, by decide⟩ (by decide +kernel) (by decide), fun _ h => absurd h List.not_mem_nil⟩⟩⟩⟩⟩⟩⟩⟩⟩⟩⟩⟩
def t_X5_readNumber_2 : List (Nat × QO) := [(42, o_k 48 44), (44, o_b (fun x y => x - y) 45), (45, o_is 2 46), (46, o_il 2 47), (47, o_if (fun x => decide (x < 0)) 56 50), (50, o_il 2 51), (51, o_k 9 53), (53, o_ic (fun x y => decide (x ≤ y)) 58 56), (56, o_il 1 57), (57, o_ir false), (58, o_al 0 59), (59, o_dup 60)]
theorem ts_X5_readNumber_2 (sx : QX) : ∀ q ∈ t_X5_readNumber_2, q_Snd sx RX5 cX5_readNumber 3 (some .int) q.1 q.2 := List.forall_mem_cons.mpr ⟨s_bipush d_X5_readNumber_42 rfl, List.forall_mem_cons.mpr ⟨s_isub d_X5_readNumber_44, List.forall_mem_cons.mpr ⟨s_istore_n d_X5_readNumber_45 rfl (by decide), List.forall_mem_cons.mpr ⟨s_iload_n d_X5_readNumber_46 rfl, List.forall_mem_cons.mpr ⟨s_if_lt d_X5_readNumber_47 (by decide), List.forall_mem_cons.mpr ⟨s_iload_n d_X5_readNumber_50 rfl, List.forall_mem_cons.mpr ⟨s_bipush d_X5_readNumber_51 rfl, List.forall_mem_cons.mpr ⟨s_ic_le d_X5_readNumber_53 (by decide), List.forall_mem_cons.mpr ⟨s_iload_n d_X5_readNumber_56 rfl, List.forall_mem_cons.mpr ⟨s_ir d_X5_readNumber_57 rfl, List.forall_mem_cons.mpr ⟨s_aload_n d_X5_readNumber_58 rfl, List.forall_mem_cons.mpr ⟨s_dup d_X5_readNumber_59, fun _ h => absurd h List.not_mem_nil⟩⟩⟩⟩⟩⟩⟩⟩⟩⟩⟩⟩
def t_X5_readNumber_3 : List (Nat × QO) := [(60, o_gf 5 3 63), (63, o_k 1 64), (64, o_b (fun x y => x + y) 65), (65, o_pf 5 3 68), (68, o_k 10 70), (70, o_il 1 71), (71, o_b (fun x y => x * y) 72), (72, o_il 2 73), (73, o_b (fun x y => x + y) 74), (74, o_ir false)]
theorem ts_X5_readNumber_3 (sx : QX) : ∀ q ∈ t_X5_readNumber_3, q_Snd sx RX5 cX5_readNumber 3 (some .int) q.1 q.2 := List.forall_mem_cons.mpr ⟨s_gf d_X5_readNumber_60 rfl (by decide) n_X5 in_X5 rfl k_1_33, List.forall_mem_cons.mpr ⟨s_iconst d_X5_readNumber_63 rfl, List.forall_mem_cons.mpr ⟨s_iadd d_X5_readNumber_64, List.forall_mem_cons.mpr ⟨s_pf tyX5 d_X5_readNumber_65 rfl (by decide) n_X5 in_X5 rfl k_1_33 tyX5_ok nmX5 rfl rfl, List.forall_mem_cons.mpr ⟨s_bipush d_X5_readNumber_68 rfl, List.forall_mem_cons.mpr ⟨s_iload_n d_X5_readNumber_70 rfl, List.forall_mem_cons.mpr ⟨s_imul d_X5_readNumber_71, List.forall_mem_cons.mpr ⟨s_iload_n d_X5_readNumber_72 rfl, List.forall_mem_cons.mpr ⟨s_iadd d_X5_readNumber_73, List.forall_mem_cons.mpr ⟨s_ir d_X5_readNumber_74 rfl, fun _ h => absurd h List.not_mem_nil⟩⟩⟩⟩⟩⟩⟩⟩⟩⟩
def t_X5_readNumber (pc : Nat) : Option QO := cond (Nat.ble pc 39) (cond (Nat.ble pc 19) (q_look (t_X5_readNumber_0) pc) (q_look (t_X5_readNumber_1) pc)) (cond (Nat.ble pc 59) (q_look (t_X5_readNumber_2) pc) (q_look (t_X5_readNumber_3) pc))
theorem ts_X5_readNumber (sx : QX) (pc : Nat) : ∀ o, t_X5_readNumber pc = some o → q_Snd sx RX5 cX5_readNumber 3 (some .int) pc o := by
  unfold t_X5_readNumber
  exact q_cb (q_cb (q_look_all (ts_X5_readNumber_0 sx)) (q_look_all (ts_X5_readNumber_1 sx))) (q_cb (q_look_all (ts_X5_readNumber_2 sx)) (q_look_all (ts_X5_readNumber_3 sx)))
theorem d_X5_letterAt_0 : decode cX5_letterAt 0 = .ok (.iload_n 1, 1) := by decide +kernel
theorem d_X5_letterAt_1 : decode cX5_letterAt 1 = .ok (.ifCond .lt 29, 3) := by decide +kernel
theorem d_X5_letterAt_4 : decode cX5_letterAt 4 = .ok (.iload_n 1, 1) := by decide +kernel
theorem d_X5_letterAt_5 : decode cX5_letterAt 5 = .ok (.aload_n 0, 1) := by decide +kernel
theorem d_X5_letterAt_6 : decode cX5_letterAt 6 = .ok (.getfield 18, 3) := by decide +kernel
theorem d_X5_letterAt_9 : decode cX5_letterAt 9 = .ok (.if_icmp .ge 21, 3) := by decide +kernel
theorem d_X5_letterAt_12 : decode cX5_letterAt 12 = .ok (.iload_n 1, 1) := by decide +kernel
theorem d_X5_letterAt_13 : decode cX5_letterAt 13 = .ok (.aload_n 0, 1) := by decide +kernel
theorem d_X5_letterAt_14 : decode cX5_letterAt 14 = .ok (.getfield 9, 3) := by decide +kernel
theorem d_X5_letterAt_17 : decode cX5_letterAt 17 = .ok (.arraylength, 1) := by decide +kernel
theorem d_X5_letterAt_18 : decode cX5_letterAt 18 = .ok (.if_icmp .ge 12, 3) := by decide +kernel
theorem d_X5_letterAt_21 : decode cX5_letterAt 21 = .ok (.aload_n 0, 1) := by decide +kernel
theorem d_X5_letterAt_22 : decode cX5_letterAt 22 = .ok (.getfield 9, 3) := by decide +kernel
theorem d_X5_letterAt_25 : decode cX5_letterAt 25 = .ok (.iload_n 1, 1) := by decide +kernel
theorem d_X5_letterAt_26 : decode cX5_letterAt 26 = .ok (.iaload, 1) := by decide +kernel
theorem d_X5_letterAt_27 : decode cX5_letterAt 27 = .ok (.goto 4, 3) := by decide +kernel
theorem d_X5_letterAt_30 : decode cX5_letterAt 30 = .ok (.iconst 0, 1) := by decide +kernel
theorem d_X5_letterAt_31 : decode cX5_letterAt 31 = .ok (.ireturn, 1) := by decide +kernel
def t_X5_letterAt_0 : List (Nat × QO) := [(0, o_il 1 1), (1, o_if (fun x => decide (x < 0)) 30 4), (4, o_il 1 5), (5, o_al 0 6), (6, o_gf 5 2 9), (9, o_ic (fun x y => decide (y ≤ x)) 30 12), (12, o_il 1 13), (13, o_al 0 14), (14, o_gf 5 0 17), (17, o_len 18), (18, o_ic (fun x y => decide (y ≤ x)) 30 21), (21, o_al 0 22)]
theorem ts_X5_letterAt_0 (sx : QX) : ∀ q ∈ t_X5_letterAt_0, q_Snd sx RX5 cX5_letterAt 2 (some .int) q.1 q.2 := List.forall_mem_cons.mpr ⟨s_iload_n d_X5_letterAt_0 rfl, List.forall_mem_cons.mpr ⟨s_if_lt d_X5_letterAt_1 (by decide), List.forall_mem_cons.mpr ⟨s_iload_n d_X5_letterAt_4 rfl, List.forall_mem_cons.mpr ⟨s_aload_n d_X5_letterAt_5 rfl, List.forall_mem_cons.mpr ⟨s_gf d_X5_letterAt_6 rfl (by decide) n_X5 in_X5 rfl k_1_32, List.forall_mem_cons.mpr ⟨s_ic_ge d_X5_letterAt_9 (by decide), List.forall_mem_cons.mpr ⟨s_iload_n d_X5_letterAt_12 rfl, List.forall_mem_cons.mpr ⟨s_aload_n d_X5_letterAt_13 rfl, List.forall_mem_cons.mpr ⟨s_gf d_X5_letterAt_14 rfl (by decide) n_X5 in_X5 rfl k_1_29, List.forall_mem_cons.mpr ⟨s_len d_X5_letterAt_17, List.forall_mem_cons.mpr ⟨s_ic_ge d_X5_letterAt_18 (by decide), List.forall_mem_cons.mpr ⟨s_aload_n d_X5_letterAt_21 rfl, fun _ h => absurd h List.not_mem_nil⟩⟩⟩⟩⟩⟩⟩⟩⟩⟩⟩⟩
def t_X5_letterAt_1 : List (Nat × QO) := [(22, o_gf 5 0 25), (25, o_il 1 26), (26, o_iald 27), (27, o_goto 31), (30, o_k 0 31), (31, o_ir false)]
theorem ts_X5_letterAt_1 (sx : QX) : ∀ q ∈ t_X5_letterAt_1, q_Snd sx RX5 cX5_letterAt 2 (some .int) q.1 q.2 := List.forall_mem_cons.mpr ⟨s_gf d_X5_letterAt_22 rfl (by decide) n_X5 in_X5 rfl k_1_29, List.forall_mem_cons.mpr ⟨s_iload_n d_X5_letterAt_25 rfl, List.forall_mem_cons.mpr ⟨s_iald d_X5_letterAt_26, List.forall_mem_cons.mpr ⟨s_goto d_X5_letterAt_27 (by decide), List.forall_mem_cons.mpr ⟨s_iconst d_X5_letterAt_30 rfl, List.forall_mem_cons.mpr ⟨s_ir d_X5_letterAt_31 rfl, fun _ h => absurd h List.not_mem_nil⟩⟩⟩⟩⟩⟩
def t_X5_letterAt (pc : Nat) : Option QO := cond (Nat.ble pc 21) (q_look (t_X5_letterAt_0) pc) (q_look (t_X5_letterAt_1) pc)
theorem ts_X5_letterAt (sx : QX) (pc : Nat) : ∀ o, t_X5_letterAt pc = some o → q_Snd sx RX5 cX5_letterAt 2 (some .int) pc o := by
  unfold t_X5_letterAt
  exact q_cb (q_look_all (ts_X5_letterAt_0 sx)) (q_look_all (ts_X5_letterAt_1 sx))
theorem d_X6_write_0 : decode cX6_write 0 = .ok (.iload_n 1, 1) := by decide +kernel
theorem d_X6_write_1 : decode cX6_write 1 = .ok (.bipush 32, 2) := by decide +kernel
theorem d_X6_write_3 : decode cX6_write 3 = .ok (.if_icmp .lt 9, 3) := by decide +kernel
theorem d_X6_write_6 : decode cX6_write 6 = .ok (.iload_n 1, 1) := by decide +kernel
theorem d_X6_write_7 : decode cX6_write 7 = .ok (.bipush 126, 2) := by decide +kernel
theorem d_X6_write_9 : decode cX6_write 9 = .ok (.if_icmp .le 5, 3) := by decide +kernel
theorem d_X6_write_12 : decode cX6_write 12 = .ok (.iconst (-1), 1) := by decide +kernel
theorem d_X6_write_13 : decode cX6_write 13 = .ok (.ireturn, 1) := by decide +kernel
theorem d_X6_write_14 : decode cX6_write 14 = .ok (.aload_n 0, 1) := by decide +kernel
theorem d_X6_write_15 : decode cX6_write 15 = .ok (.getfield 10, 3) := by decide +kernel
theorem d_X6_write_18 : decode cX6_write 18 = .ok (.getfield 85, 3) := by decide +kernel
theorem d_X6_write_21 : decode cX6_write 21 = .ok (.sipush 200, 3) := by decide +kernel
theorem d_X6_write_24 : decode cX6_write 24 = .ok (.if_icmp .lt 6, 3) := by decide +kernel
theorem d_X6_write_27 : decode cX6_write 27 = .ok (.bipush (-3), 2) := by decide +kernel
theorem d_X6_write_29 : decode cX6_write 29 = .ok (.ireturn, 1) := by decide +kernel
theorem d_X6_write_30 : decode cX6_write 30 = .ok (.aload_n 0, 1) := by decide +kernel
theorem d_X6_write_31 : decode cX6_write 31 = .ok (.getfield 10, 3) := by decide +kernel
theorem d_X6_write_34 : decode cX6_write 34 = .ok (.iload_n 1, 1) := by decide +kernel
theorem d_X6_write_35 : decode cX6_write 35 = .ok (.invokevirtual 78, 3) := by decide +kernel
theorem d_X6_write_38 : decode cX6_write 38 = .ok (.aload_n 0, 1) := by decide +kernel
theorem d_X6_write_39 : decode cX6_write 39 = .ok (.getfield 10, 3) := by decide +kernel
theorem d_X6_write_42 : decode cX6_write 42 = .ok (.getfield 85, 3) := by decide +kernel
theorem d_X6_write_45 : decode cX6_write 45 = .ok (.ireturn, 1) := by decide +kernel
def t_X6_write_0 : List (Nat × QO) := [(0, o_il 1 1), (1, o_k 32 3), (3, o_ic (fun x y => decide (x < y)) 12 6), (6, o_il 1 7), (7, o_k 126 9), (9, o_ic (fun x y => decide (x ≤ y)) 14 12), (12, o_k (-1) 13), (13, o_ir false), (14, o_al 0 15), (15, o_gf 6 0 18), (18, o_gf 5 2 21), (21, o_k 200 24)]
theorem ts_X6_write_0 (sx : QX) : ∀ q ∈ t_X6_write_0, q_Snd sx RX6 cX6_write 2 (some .int) q.1 q.2 := List.forall_mem_cons.mpr ⟨s_iload_n d_X6_write_0 rfl, List.forall_mem_cons.mpr ⟨s_bipush d_X6_write_1 rfl, List.forall_mem_cons.mpr ⟨s_ic_lt d_X6_write_3 (by decide), List.forall_mem_cons.mpr ⟨s_iload_n d_X6_write_6 rfl, List.forall_mem_cons.mpr ⟨s_bipush d_X6_write_7 rfl, List.forall_mem_cons.mpr ⟨s_ic_le d_X6_write_9 (by decide), List.forall_mem_cons.mpr ⟨s_iconst d_X6_write_12 rfl, List.forall_mem_cons.mpr ⟨s_ir d_X6_write_13 rfl, List.forall_mem_cons.mpr ⟨s_aload_n d_X6_write_14 rfl, List.forall_mem_cons.mpr ⟨s_gf d_X6_write_15 rfl (by decide) n_X6 in_X6 rfl k_2_117, List.forall_mem_cons.mpr ⟨s_gf d_X6_write_18 rfl (by decide) n_X5 in_X5 rfl k_1_31, List.forall_mem_cons.mpr ⟨s_sipush d_X6_write_21 rfl, fun _ h => absurd h List.not_mem_nil⟩⟩⟩⟩⟩⟩⟩⟩⟩⟩⟩⟩
def t_X6_write_1 : List (Nat × QO) := [(24, o_ic (fun x y => decide (x < y)) 30 27), (27, o_k (-3) 29), (29, o_ir false), (30, o_al 0 31), (31, o_gf 6 0 34), (34, o_il 1 35), (35, o_cV 0 5 50 2 2 38), (38, o_al 0 39), (39, o_gf 6 0 42), (42, o_gf 5 2 45), (45, o_ir false)]
theorem ts_X6_write_1 (sx : QX) : ∀ q ∈ t_X6_write_1, q_Snd sx RX6 cX6_write 2 (some .int) q.1 q.2 := List.forall_mem_cons.mpr ⟨s_ic_lt d_X6_write_24 (by decide), List.forall_mem_cons.mpr ⟨s_bipush d_X6_write_27 rfl, List.forall_mem_cons.mpr ⟨s_ir d_X6_write_29 rfl, List.forall_mem_cons.mpr ⟨s_aload_n d_X6_write_30 rfl, List.forall_mem_cons.mpr ⟨s_gf d_X6_write_31 rfl (by decide) n_X6 in_X6 rfl k_2_117, List.forall_mem_cons.mpr ⟨s_iload_n d_X6_write_34 rfl, List.forall_mem_cons.mpr ⟨s_cV (T := TX5) (N := 4) rfl d_X6_write_35 rfl k_2_18 k_2_19 k_2_20 k_1_2 k_2_21 ⟨by decide, by decide⟩ (by decide +kernel) (by decide), List.forall_mem_cons.mpr ⟨s_aload_n d_X6_write_38 rfl, List.forall_mem_cons.mpr ⟨s_gf d_X6_write_39 rfl (by decide) n_X6 in_X6 rfl k_2_117, List.forall_mem_cons.mpr ⟨s_gf d_X6_write_42 rfl (by decide) n_X5 in_X5 rfl k_1_31, List.forall_mem_cons.mpr ⟨s_ir d_X6_write_45 rfl, fun _ h => absurd h List.not_mem_nil⟩⟩⟩⟩⟩⟩⟩⟩⟩⟩⟩
def t_X6_write (pc : Nat) : Option QO := cond (Nat.ble pc 21) (q_look (t_X6_write_0) pc) (q_look (t_X6_write_1) pc)
theorem ts_X6_write (sx : QX) (pc : Nat) : ∀ o, t_X6_write pc = some o → q_Snd sx RX6 cX6_write 2 (some .int) pc o := by
  unfold t_X6_write
  exact q_cb (q_look_all (ts_X6_write_0 sx)) (q_look_all (ts_X6_write_1 sx))
theorem d_X6_wipe_0 : decode cX6_wipe 0 = .ok (.aload_n 0, 1) := by decide +kernel
theorem d_X6_wipe_1 : decode cX6_wipe 1 = .ok (.getfield 10, 3) := by decide +kernel
theorem d_X6_wipe_4 : decode cX6_wipe 4 = .ok (.getfield 85, 3) := by decide +kernel
theorem d_X6_wipe_7 : decode cX6_wipe 7 = .ok (.istore_n 1, 1) := by decide +kernel
theorem d_X6_wipe_8 : decode cX6_wipe 8 = .ok (.aload_n 0, 1) := by decide +kernel
theorem d_X6_wipe_9 : decode cX6_wipe 9 = .ok (.getfield 10, 3) := by decide +kernel
theorem d_X6_wipe_12 : decode cX6_wipe 12 = .ok (.iconst 0, 1) := by decide +kernel
theorem d_X6_wipe_13 : decode cX6_wipe 13 = .ok (.putfield 85, 3) := by decide +kernel
theorem d_X6_wipe_16 : decode cX6_wipe 16 = .ok (.iload_n 1, 1) := by decide +kernel
theorem d_X6_wipe_17 : decode cX6_wipe 17 = .ok (.ireturn, 1) := by decide +kernel
def t_X6_wipe_0 : List (Nat × QO) := [(0, o_al 0 1), (1, o_gf 6 0 4), (4, o_gf 5 2 7), (7, o_is 1 8), (8, o_al 0 9), (9, o_gf 6 0 12), (12, o_k 0 13), (13, o_pf 5 2 16), (16, o_il 1 17), (17, o_ir false)]
theorem ts_X6_wipe_0 (sx : QX) : ∀ q ∈ t_X6_wipe_0, q_Snd sx RX6 cX6_wipe 2 (some .int) q.1 q.2 := List.forall_mem_cons.mpr ⟨s_aload_n d_X6_wipe_0 rfl, List.forall_mem_cons.mpr ⟨s_gf d_X6_wipe_1 rfl (by decide) n_X6 in_X6 rfl k_2_117, List.forall_mem_cons.mpr ⟨s_gf d_X6_wipe_4 rfl (by decide) n_X5 in_X5 rfl k_1_31, List.forall_mem_cons.mpr ⟨s_istore_n d_X6_wipe_7 rfl (by decide), List.forall_mem_cons.mpr ⟨s_aload_n d_X6_wipe_8 rfl, List.forall_mem_cons.mpr ⟨s_gf d_X6_wipe_9 rfl (by decide) n_X6 in_X6 rfl k_2_117, List.forall_mem_cons.mpr ⟨s_iconst d_X6_wipe_12 rfl, List.forall_mem_cons.mpr ⟨s_pf tyX5 d_X6_wipe_13 rfl (by decide) n_X5 in_X5 rfl k_1_31 tyX5_ok nmX5 rfl rfl, List.forall_mem_cons.mpr ⟨s_iload_n d_X6_wipe_16 rfl, List.forall_mem_cons.mpr ⟨s_ir d_X6_wipe_17 rfl, fun _ h => absurd h List.not_mem_nil⟩⟩⟩⟩⟩⟩⟩⟩⟩⟩
def t_X6_wipe (pc : Nat) : Option QO := q_look (t_X6_wipe_0) pc
theorem ts_X6_wipe (sx : QX) (pc : Nat) : ∀ o, t_X6_wipe pc = some o → q_Snd sx RX6 cX6_wipe 2 (some .int) pc o := by
  unfold t_X6_wipe
  exact q_look_all (ts_X6_wipe_0 sx)
theorem d_X6_fault_0 : decode cX6_fault 0 = .ok (.aload_n 0, 1) := by decide +kernel
theorem d_X6_fault_1 : decode cX6_fault 1 = .ok (.getfield 10, 3) := by decide +kernel
theorem d_X6_fault_4 : decode cX6_fault 4 = .ok (.aload_n 0, 1) := by decide +kernel
theorem d_X6_fault_5 : decode cX6_fault 5 = .ok (.getfield 23, 3) := by decide +kernel
theorem d_X6_fault_8 : decode cX6_fault 8 = .ok (.invokevirtual 88, 3) := by decide +kernel
theorem d_X6_fault_11 : decode cX6_fault 11 = .ok (.ireturn, 1) := by decide +kernel
def t_X6_fault_0 : List (Nat × QO) := [(0, o_al 0 1), (1, o_gf 6 0 4), (4, o_al 0 5), (5, o_gf 6 2 8), (8, o_cV 1 5 51 4 2 11), (11, o_ir false)]
theorem ts_X6_fault_0 (sx : QX) : ∀ q ∈ t_X6_fault_0, q_Snd sx RX6 cX6_fault 1 (some .int) q.1 q.2 := List.forall_mem_cons.mpr ⟨s_aload_n d_X6_fault_0 rfl, List.forall_mem_cons.mpr ⟨s_gf d_X6_fault_1 rfl (by decide) n_X6 in_X6 rfl k_2_117, List.forall_mem_cons.mpr ⟨s_aload_n d_X6_fault_4 rfl, List.forall_mem_cons.mpr ⟨s_gf d_X6_fault_5 rfl (by decide) n_X6 in_X6 rfl k_2_119, List.forall_mem_cons.mpr ⟨s_cV (T := TX5) (N := 4) rfl d_X6_fault_8 rfl k_2_29 k_2_30 k_2_31 k_1_2 k_2_32 ⟨by decide, by decide⟩ (by decide +kernel) (by decide), List.forall_mem_cons.mpr ⟨s_ir d_X6_fault_11 rfl, fun _ h => absurd h List.not_mem_nil⟩⟩⟩⟩⟩⟩
def t_X6_fault (pc : Nat) : Option QO := q_look (t_X6_fault_0) pc
theorem ts_X6_fault (sx : QX) (pc : Nat) : ∀ o, t_X6_fault pc = some o → q_Snd sx RX6 cX6_fault 1 (some .int) pc o := by
  unfold t_X6_fault
  exact q_look_all (ts_X6_fault_0 sx)
theorem d_X6_lay_0 : decode cX6_lay 0 = .ok (.aload_n 0, 1) := by decide +kernel
theorem d_X6_lay_1 : decode cX6_lay 1 = .ok (.getfield 10, 3) := by decide +kernel
theorem d_X6_lay_4 : decode cX6_lay 4 = .ok (.aload_n 0, 1) := by decide +kernel
theorem d_X6_lay_5 : decode cX6_lay 5 = .ok (.getfield 23, 3) := by decide +kernel
theorem d_X6_lay_8 : decode cX6_lay 8 = .ok (.invokevirtual 88, 3) := by decide +kernel
theorem d_X6_lay_11 : decode cX6_lay 11 = .ok (.bipush (-4), 2) := by decide +kernel
theorem d_X6_lay_13 : decode cX6_lay 13 = .ok (.if_icmp .ne 13, 3) := by decide +kernel
theorem d_X6_lay_16 : decode cX6_lay 16 = .ok (.aload_n 0, 1) := by decide +kernel
theorem d_X6_lay_17 : decode cX6_lay 17 = .ok (.getfield 23, 3) := by decide +kernel
theorem d_X6_lay_20 : decode cX6_lay 20 = .ok (.invokevirtual 92, 3) := by decide +kernel
theorem d_X6_lay_23 : decode cX6_lay 23 = .ok (.ifCond .ne 6, 3) := by decide +kernel
theorem d_X6_lay_26 : decode cX6_lay 26 = .ok (.bipush (-2), 2) := by decide +kernel
theorem d_X6_lay_28 : decode cX6_lay 28 = .ok (.ireturn, 1) := by decide +kernel
theorem d_X6_lay_29 : decode cX6_lay 29 = .ok (.aload_n 0, 1) := by decide +kernel
theorem d_X6_lay_30 : decode cX6_lay 30 = .ok (.invokevirtual 82, 3) := by decide +kernel
theorem d_X6_lay_33 : decode cX6_lay 33 = .ok (.aload_n 0, 1) := by decide +kernel
theorem d_X6_lay_34 : decode cX6_lay 34 = .ok (.getfield 19, 3) := by decide +kernel
theorem d_X6_lay_37 : decode cX6_lay 37 = .ok (.getfield 96, 3) := by decide +kernel
theorem d_X6_lay_40 : decode cX6_lay 40 = .ok (.ireturn, 1) := by decide +kernel
def t_X6_lay_0 : List (Nat × QO) := [(0, o_al 0 1), (1, o_gf 6 0 4), (4, o_al 0 5), (5, o_gf 6 2 8), (8, o_cV 1 5 51 4 2 11), (11, o_k (-4) 13), (13, o_ic (fun x y => decide (x ≠ y)) 26 16), (16, o_al 0 17), (17, o_gf 6 2 20), (20, o_cV 1 0 1 1 1 23), (23, o_if (fun x => decide (x ≠ 0)) 29 26), (26, o_k (-2) 28)]
theorem ts_X6_lay_0 (sx : QX) : ∀ q ∈ t_X6_lay_0, q_Snd sx RX6 cX6_lay 1 (some .int) q.1 q.2 := List.forall_mem_cons.mpr ⟨s_aload_n d_X6_lay_0 rfl, List.forall_mem_cons.mpr ⟨s_gf d_X6_lay_1 rfl (by decide) n_X6 in_X6 rfl k_2_117, List.forall_mem_cons.mpr ⟨s_aload_n d_X6_lay_4 rfl, List.forall_mem_cons.mpr ⟨s_gf d_X6_lay_5 rfl (by decide) n_X6 in_X6 rfl k_2_119, List.forall_mem_cons.mpr ⟨s_cV (T := TX5) (N := 4) rfl d_X6_lay_8 rfl k_2_29 k_2_30 k_2_31 k_1_2 k_2_32 ⟨by decide, by decide⟩ (by decide +kernel) (by decide), List.forall_mem_cons.mpr ⟨s_bipush d_X6_lay_11 rfl, List.forall_mem_cons.mpr ⟨s_ic_ne d_X6_lay_13 (by decide), List.forall_mem_cons.mpr ⟨s_aload_n d_X6_lay_16 rfl, List.forall_mem_cons.mpr ⟨s_gf d_X6_lay_17 rfl (by decide) n_X6 in_X6 rfl k_2_119, List.forall_mem_cons.mpr ⟨s_cV (T := TX0) (N := 12) rfl d_X6_lay_20 rfl k_2_162 k_2_163 k_2_164 k_1_3 k_2_165 ⟨by decide, by decide⟩ (by decide +kernel) (by decide), List.forall_mem_cons.mpr ⟨s_if_ne d_X6_lay_23 (by decide), List.forall_mem_cons.mpr ⟨s_bipush d_X6_lay_26 rfl, fun _ h => absurd h List.not_mem_nil⟩⟩⟩⟩⟩⟩⟩⟩⟩⟩⟩⟩
def t_X6_lay_1 : List (Nat × QO) := [(28, o_ir false), (29, o_al 0 30), (30, o_cV 0 6 85 1 1 33), (33, o_al 0 34), (34, o_gf 6 1 37), (37, o_gf 0 0 40), (40, o_ir false)]
theorem ts_X6_lay_1 (sx : QX) : ∀ q ∈ t_X6_lay_1, q_Snd sx RX6 cX6_lay 1 (some .int) q.1 q.2 := List.forall_mem_cons.mpr ⟨s_ir d_X6_lay_28 rfl, List.forall_mem_cons.mpr ⟨s_aload_n d_X6_lay_29 rfl, List.forall_mem_cons.mpr ⟨s_cV (T := TX6) (N := 9) rfl d_X6_lay_30 rfl k_2_25 k_2_27 k_0_0 k_1_1 k_2_28 ⟨by decide, by decide⟩ (by decide +kernel) (by decide), List.forall_mem_cons.mpr ⟨s_aload_n d_X6_lay_33 rfl, List.forall_mem_cons.mpr ⟨s_gf d_X6_lay_34 rfl (by decide) n_X6 in_X6 rfl k_2_118, List.forall_mem_cons.mpr ⟨s_gf d_X6_lay_37 rfl (by decide) n_X0 in_X0 rfl k_1_53, List.forall_mem_cons.mpr ⟨s_ir d_X6_lay_40 rfl, fun _ h => absurd h List.not_mem_nil⟩⟩⟩⟩⟩⟩⟩
def t_X6_lay (pc : Nat) : Option QO := cond (Nat.ble pc 26) (q_look (t_X6_lay_0) pc) (q_look (t_X6_lay_1) pc)
theorem ts_X6_lay (sx : QX) (pc : Nat) : ∀ o, t_X6_lay pc = some o → q_Snd sx RX6 cX6_lay 1 (some .int) pc o := by
  unfold t_X6_lay
  exact q_cb (q_look_all (ts_X6_lay_0 sx)) (q_look_all (ts_X6_lay_1 sx))
theorem d_X6_block_0 : decode cX6_block 0 = .ok (.aload_n 0, 1) := by decide +kernel
theorem d_X6_block_1 : decode cX6_block 1 = .ok (.iload_n 1, 1) := by decide +kernel
theorem d_X6_block_2 : decode cX6_block 2 = .ok (.invokevirtual 99, 3) := by decide +kernel
theorem d_X6_block_5 : decode cX6_block 5 = .ok (.ifCond .ne 5, 3) := by decide +kernel
theorem d_X6_block_8 : decode cX6_block 8 = .ok (.iconst (-1), 1) := by decide +kernel
theorem d_X6_block_9 : decode cX6_block 9 = .ok (.ireturn, 1) := by decide +kernel
theorem d_X6_block_10 : decode cX6_block 10 = .ok (.iload_n 2, 1) := by decide +kernel
theorem d_X6_block_11 : decode cX6_block 11 = .ok (.tableswitch 93 0 4 #[33, 45, 57, 69, 81], 33) := by decide +kernel
theorem d_X6_block_44 : decode cX6_block 44 = .ok (.aload_n 0, 1) := by decide +kernel
theorem d_X6_block_45 : decode cX6_block 45 = .ok (.getfield 19, 3) := by decide +kernel
theorem d_X6_block_48 : decode cX6_block 48 = .ok (.getfield 103, 3) := by decide +kernel
theorem d_X6_block_51 : decode cX6_block 51 = .ok (.iload_n 1, 1) := by decide +kernel
theorem d_X6_block_52 : decode cX6_block 52 = .ok (.invokestatic 107, 3) := by decide +kernel
theorem d_X6_block_55 : decode cX6_block 55 = .ok (.ireturn, 1) := by decide +kernel
theorem d_X6_block_56 : decode cX6_block 56 = .ok (.aload_n 0, 1) := by decide +kernel
theorem d_X6_block_57 : decode cX6_block 57 = .ok (.getfield 19, 3) := by decide +kernel
theorem d_X6_block_60 : decode cX6_block 60 = .ok (.getfield 111, 3) := by decide +kernel
theorem d_X6_block_63 : decode cX6_block 63 = .ok (.iload_n 1, 1) := by decide +kernel
theorem d_X6_block_64 : decode cX6_block 64 = .ok (.invokestatic 107, 3) := by decide +kernel
theorem d_X6_block_67 : decode cX6_block 67 = .ok (.ireturn, 1) := by decide +kernel
theorem d_X6_block_68 : decode cX6_block 68 = .ok (.aload_n 0, 1) := by decide +kernel
theorem d_X6_block_69 : decode cX6_block 69 = .ok (.getfield 31, 3) := by decide +kernel
theorem d_X6_block_72 : decode cX6_block 72 = .ok (.getfield 114, 3) := by decide +kernel
theorem d_X6_block_75 : decode cX6_block 75 = .ok (.iload_n 1, 1) := by decide +kernel
theorem d_X6_block_76 : decode cX6_block 76 = .ok (.invokestatic 107, 3) := by decide +kernel
theorem d_X6_block_79 : decode cX6_block 79 = .ok (.ireturn, 1) := by decide +kernel
theorem d_X6_block_80 : decode cX6_block 80 = .ok (.aload_n 0, 1) := by decide +kernel
theorem d_X6_block_81 : decode cX6_block 81 = .ok (.getfield 31, 3) := by decide +kernel
theorem d_X6_block_84 : decode cX6_block 84 = .ok (.getfield 117, 3) := by decide +kernel
theorem d_X6_block_87 : decode cX6_block 87 = .ok (.iload_n 1, 1) := by decide +kernel
theorem d_X6_block_88 : decode cX6_block 88 = .ok (.invokestatic 107, 3) := by decide +kernel
theorem d_X6_block_91 : decode cX6_block 91 = .ok (.ireturn, 1) := by decide +kernel
theorem d_X6_block_92 : decode cX6_block 92 = .ok (.aload_n 0, 1) := by decide +kernel
theorem d_X6_block_93 : decode cX6_block 93 = .ok (.getfield 31, 3) := by decide +kernel
theorem d_X6_block_96 : decode cX6_block 96 = .ok (.getfield 120, 3) := by decide +kernel
theorem d_X6_block_99 : decode cX6_block 99 = .ok (.iload_n 1, 1) := by decide +kernel
theorem d_X6_block_100 : decode cX6_block 100 = .ok (.invokestatic 107, 3) := by decide +kernel
theorem d_X6_block_103 : decode cX6_block 103 = .ok (.ireturn, 1) := by decide +kernel
theorem d_X6_block_104 : decode cX6_block 104 = .ok (.iconst (-1), 1) := by decide +kernel
theorem d_X6_block_105 : decode cX6_block 105 = .ok (.ireturn, 1) := by decide +kernel
def t_X6_block_0 : List (Nat × QO) := [(0, o_al 0 1), (1, o_il 1 2), (2, o_cV 1 6 86 2 2 5), (5, o_if (fun x => decide (x ≠ 0)) 10 8), (8, o_k (-1) 9), (9, o_ir false), (10, o_il 2 11), (11, o_sw [(0, 44), (1, 56), (2, 68), (3, 80), (4, 92)] 104), (44, o_al 0 45), (45, o_gf 6 1 48), (48, o_gf 0 4 51), (51, o_il 1 52)]
theorem ts_X6_block_0 (sx : QX) : ∀ q ∈ t_X6_block_0, q_Snd sx RX6 cX6_block 3 (some .int) q.1 q.2 := List.forall_mem_cons.mpr ⟨s_aload_n d_X6_block_0 rfl, List.forall_mem_cons.mpr ⟨s_iload_n d_X6_block_1 rfl, List.forall_mem_cons.mpr ⟨s_cV (T := TX6) (N := 9) rfl d_X6_block_2 rfl k_2_170 k_2_172 k_0_7 k_1_1 k_2_173 ⟨by decide, by decide⟩ (by decide +kernel) (by decide), List.forall_mem_cons.mpr ⟨s_if_ne d_X6_block_5 (by decide), List.forall_mem_cons.mpr ⟨s_iconst d_X6_block_8 rfl, List.forall_mem_cons.mpr ⟨s_ir d_X6_block_9 rfl, List.forall_mem_cons.mpr ⟨s_iload_n d_X6_block_10 rfl, List.forall_mem_cons.mpr ⟨s_tsw d_X6_block_11 (by decide +kernel) (by decide) (by decide), List.forall_mem_cons.mpr ⟨s_aload_n d_X6_block_44 rfl, List.forall_mem_cons.mpr ⟨s_gf d_X6_block_45 rfl (by decide) n_X6 in_X6 rfl k_2_118, List.forall_mem_cons.mpr ⟨s_gf d_X6_block_48 rfl (by decide) n_X0 in_X0 rfl k_1_64, List.forall_mem_cons.mpr ⟨s_iload_n d_X6_block_51 rfl, fun _ h => absurd h List.not_mem_nil⟩⟩⟩⟩⟩⟩⟩⟩⟩⟩⟩⟩
def t_X6_block_1 : List (Nat × QO) := [(52, o_cS 1 97 2 2 55), (55, o_ir false), (56, o_al 0 57), (57, o_gf 6 1 60), (60, o_gf 0 5 63), (63, o_il 1 64), (64, o_cS 1 97 2 2 67), (67, o_ir false), (68, o_al 0 69), (69, o_gf 6 3 72), (72, o_gf 3 2 75), (75, o_il 1 76)]
theorem ts_X6_block_1 (sx : QX) : ∀ q ∈ t_X6_block_1, q_Snd sx RX6 cX6_block 3 (some .int) q.1 q.2 := List.forall_mem_cons.mpr ⟨s_cS rfl d_X6_block_52 k_2_174 k_2_57 k_1_1 k_2_58 ⟨by decide, by decide⟩ (by decide +kernel) (by decide), List.forall_mem_cons.mpr ⟨s_ir d_X6_block_55 rfl, List.forall_mem_cons.mpr ⟨s_aload_n d_X6_block_56 rfl, List.forall_mem_cons.mpr ⟨s_gf d_X6_block_57 rfl (by decide) n_X6 in_X6 rfl k_2_118, List.forall_mem_cons.mpr ⟨s_gf d_X6_block_60 rfl (by decide) n_X0 in_X0 rfl k_1_67, List.forall_mem_cons.mpr ⟨s_iload_n d_X6_block_63 rfl, List.forall_mem_cons.mpr ⟨s_cS rfl d_X6_block_64 k_2_174 k_2_57 k_1_1 k_2_58 ⟨by decide, by decide⟩ (by decide +kernel) (by decide), List.forall_mem_cons.mpr ⟨s_ir d_X6_block_67 rfl, List.forall_mem_cons.mpr ⟨s_aload_n d_X6_block_68 rfl, List.forall_mem_cons.mpr ⟨s_gf d_X6_block_69 rfl (by decide) n_X6 in_X6 rfl k_2_120, List.forall_mem_cons.mpr ⟨s_gf d_X6_block_72 rfl (by decide) n_X3 in_X3 rfl k_1_121, List.forall_mem_cons.mpr ⟨s_iload_n d_X6_block_75 rfl, fun _ h => absurd h List.not_mem_nil⟩⟩⟩⟩⟩⟩⟩⟩⟩⟩⟩⟩
def t_X6_block_2 : List (Nat × QO) := [(76, o_cS 1 97 2 2 79), (79, o_ir false), (80, o_al 0 81), (81, o_gf 6 3 84), (84, o_gf 3 3 87), (87, o_il 1 88), (88, o_cS 1 97 2 2 91), (91, o_ir false), (92, o_al 0 93), (93, o_gf 6 3 96), (96, o_gf 3 4 99), (99, o_il 1 100)]
theorem ts_X6_block_2 (sx : QX) : ∀ q ∈ t_X6_block_2, q_Snd sx RX6 cX6_block 3 (some .int) q.1 q.2 := List.forall_mem_cons.mpr ⟨s_cS rfl d_X6_block_76 k_2_174 k_2_57 k_1_1 k_2_58 ⟨by decide, by decide⟩ (by decide +kernel) (by decide), List.forall_mem_cons.mpr ⟨s_ir d_X6_block_79 rfl, List.forall_mem_cons.mpr ⟨s_aload_n d_X6_block_80 rfl, List.forall_mem_cons.mpr ⟨s_gf d_X6_block_81 rfl (by decide) n_X6 in_X6 rfl k_2_120, List.forall_mem_cons.mpr ⟨s_gf d_X6_block_84 rfl (by decide) n_X3 in_X3 rfl k_1_123, List.forall_mem_cons.mpr ⟨s_iload_n d_X6_block_87 rfl, List.forall_mem_cons.mpr ⟨s_cS rfl d_X6_block_88 k_2_174 k_2_57 k_1_1 k_2_58 ⟨by decide, by decide⟩ (by decide +kernel) (by decide), List.forall_mem_cons.mpr ⟨s_ir d_X6_block_91 rfl, List.forall_mem_cons.mpr ⟨s_aload_n d_X6_block_92 rfl, List.forall_mem_cons.mpr ⟨s_gf d_X6_block_93 rfl (by decide) n_X6 in_X6 rfl k_2_120, List.forall_mem_cons.mpr ⟨s_gf d_X6_block_96 rfl (by decide) n_X3 in_X3 rfl k_1_125, List.forall_mem_cons.mpr ⟨s_iload_n d_X6_block_99 rfl, fun _ h => absurd h List.not_mem_nil⟩⟩⟩⟩⟩⟩⟩⟩⟩⟩⟩⟩
def t_X6_block_3 : List (Nat × QO) := [(100, o_cS 1 97 2 2 103), (103, o_ir false), (104, o_k (-1) 105), (105, o_ir false)]
theorem ts_X6_block_3 (sx : QX) : ∀ q ∈ t_X6_block_3, q_Snd sx RX6 cX6_block 3 (some .int) q.1 q.2 := List.forall_mem_cons.mpr ⟨s_cS rfl d_X6_block_100 k_2_174 k_2_57 k_1_1 k_2_58 ⟨by decide, by decide⟩ (by decide +kernel) (by decide), List.forall_mem_cons.mpr ⟨s_ir d_X6_block_103 rfl, List.forall_mem_cons.mpr ⟨s_iconst d_X6_block_104 rfl, List.forall_mem_cons.mpr ⟨s_ir d_X6_block_105 rfl, fun _ h => absurd h List.not_mem_nil⟩⟩⟩⟩
def t_X6_block (pc : Nat) : Option QO := cond (Nat.ble pc 75) (cond (Nat.ble pc 51) (q_look (t_X6_block_0) pc) (q_look (t_X6_block_1) pc)) (cond (Nat.ble pc 99) (q_look (t_X6_block_2) pc) (q_look (t_X6_block_3) pc))
theorem ts_X6_block (sx : QX) (pc : Nat) : ∀ o, t_X6_block pc = some o → q_Snd sx RX6 cX6_block 3 (some .int) pc o := by
  unfold t_X6_block
  exact q_cb (q_cb (q_look_all (ts_X6_block_0 sx)) (q_look_all (ts_X6_block_1 sx))) (q_cb (q_look_all (ts_X6_block_2 sx)) (q_look_all (ts_X6_block_3 sx)))
theorem d_X6_word_0 : decode cX6_word 0 = .ok (.aload_n 0, 1) := by decide +kernel
theorem d_X6_word_1 : decode cX6_word 1 = .ok (.iload_n 1, 1) := by decide +kernel
theorem d_X6_word_2 : decode cX6_word 2 = .ok (.invokevirtual 123, 3) := by decide +kernel
theorem d_X6_word_5 : decode cX6_word 5 = .ok (.ifCond .eq 17, 3) := by decide +kernel
theorem d_X6_word_8 : decode cX6_word 8 = .ok (.aload_n 0, 1) := by decide +kernel
theorem d_X6_word_9 : decode cX6_word 9 = .ok (.getfield 19, 3) := by decide +kernel
theorem d_X6_word_12 : decode cX6_word 12 = .ok (.getfield 126, 3) := by decide +kernel
theorem d_X6_word_15 : decode cX6_word 15 = .ok (.iload_n 1, 1) := by decide +kernel
theorem d_X6_word_16 : decode cX6_word 16 = .ok (.invokestatic 107, 3) := by decide +kernel
theorem d_X6_word_19 : decode cX6_word 19 = .ok (.goto 4, 3) := by decide +kernel
theorem d_X6_word_22 : decode cX6_word 22 = .ok (.iconst (-1), 1) := by decide +kernel
theorem d_X6_word_23 : decode cX6_word 23 = .ok (.ireturn, 1) := by decide +kernel
def t_X6_word_0 : List (Nat × QO) := [(0, o_al 0 1), (1, o_il 1 2), (2, o_cV 1 6 87 2 2 5), (5, o_if (fun x => decide (x = 0)) 22 8), (8, o_al 0 9), (9, o_gf 6 1 12), (12, o_gf 0 6 15), (15, o_il 1 16), (16, o_cS 1 97 2 2 19), (19, o_goto 23), (22, o_k (-1) 23), (23, o_ir false)]
theorem ts_X6_word_0 (sx : QX) : ∀ q ∈ t_X6_word_0, q_Snd sx RX6 cX6_word 2 (some .int) q.1 q.2 := List.forall_mem_cons.mpr ⟨s_aload_n d_X6_word_0 rfl, List.forall_mem_cons.mpr ⟨s_iload_n d_X6_word_1 rfl, List.forall_mem_cons.mpr ⟨s_cV (T := TX6) (N := 9) rfl d_X6_word_2 rfl k_2_179 k_2_181 k_0_8 k_1_1 k_2_182 ⟨by decide, by decide⟩ (by decide +kernel) (by decide), List.forall_mem_cons.mpr ⟨s_if_eq d_X6_word_5 (by decide), List.forall_mem_cons.mpr ⟨s_aload_n d_X6_word_8 rfl, List.forall_mem_cons.mpr ⟨s_gf d_X6_word_9 rfl (by decide) n_X6 in_X6 rfl k_2_118, List.forall_mem_cons.mpr ⟨s_gf d_X6_word_12 rfl (by decide) n_X0 in_X0 rfl k_1_70, List.forall_mem_cons.mpr ⟨s_iload_n d_X6_word_15 rfl, List.forall_mem_cons.mpr ⟨s_cS rfl d_X6_word_16 k_2_174 k_2_57 k_1_1 k_2_58 ⟨by decide, by decide⟩ (by decide +kernel) (by decide), List.forall_mem_cons.mpr ⟨s_goto d_X6_word_19 (by decide), List.forall_mem_cons.mpr ⟨s_iconst d_X6_word_22 rfl, List.forall_mem_cons.mpr ⟨s_ir d_X6_word_23 rfl, fun _ h => absurd h List.not_mem_nil⟩⟩⟩⟩⟩⟩⟩⟩⟩⟩⟩⟩
def t_X6_word (pc : Nat) : Option QO := q_look (t_X6_word_0) pc
theorem ts_X6_word (sx : QX) (pc : Nat) : ∀ o, t_X6_word pc = some o → q_Snd sx RX6 cX6_word 2 (some .int) pc o := by
  unfold t_X6_word
  exact q_look_all (ts_X6_word_0 sx)
theorem d_X6_speaker_0 : decode cX6_speaker 0 = .ok (.aload_n 0, 1) := by decide +kernel
theorem d_X6_speaker_1 : decode cX6_speaker 1 = .ok (.iload_n 1, 1) := by decide +kernel
theorem d_X6_speaker_2 : decode cX6_speaker 2 = .ok (.invokevirtual 129, 3) := by decide +kernel
theorem d_X6_speaker_5 : decode cX6_speaker 5 = .ok (.ifCond .ne 5, 3) := by decide +kernel
theorem d_X6_speaker_8 : decode cX6_speaker 8 = .ok (.iconst (-1), 1) := by decide +kernel
theorem d_X6_speaker_9 : decode cX6_speaker 9 = .ok (.ireturn, 1) := by decide +kernel
theorem d_X6_speaker_10 : decode cX6_speaker 10 = .ok (.iload_n 2, 1) := by decide +kernel
theorem d_X6_speaker_11 : decode cX6_speaker 11 = .ok (.tableswitch 61 0 2 #[25, 37, 49], 25) := by decide +kernel
theorem d_X6_speaker_36 : decode cX6_speaker 36 = .ok (.aload_n 0, 1) := by decide +kernel
theorem d_X6_speaker_37 : decode cX6_speaker 37 = .ok (.getfield 19, 3) := by decide +kernel
theorem d_X6_speaker_40 : decode cX6_speaker 40 = .ok (.getfield 132, 3) := by decide +kernel
theorem d_X6_speaker_43 : decode cX6_speaker 43 = .ok (.iload_n 1, 1) := by decide +kernel
theorem d_X6_speaker_44 : decode cX6_speaker 44 = .ok (.invokestatic 107, 3) := by decide +kernel
theorem d_X6_speaker_47 : decode cX6_speaker 47 = .ok (.ireturn, 1) := by decide +kernel
theorem d_X6_speaker_48 : decode cX6_speaker 48 = .ok (.aload_n 0, 1) := by decide +kernel
theorem d_X6_speaker_49 : decode cX6_speaker 49 = .ok (.getfield 19, 3) := by decide +kernel
theorem d_X6_speaker_52 : decode cX6_speaker 52 = .ok (.getfield 135, 3) := by decide +kernel
theorem d_X6_speaker_55 : decode cX6_speaker 55 = .ok (.iload_n 1, 1) := by decide +kernel
theorem d_X6_speaker_56 : decode cX6_speaker 56 = .ok (.invokestatic 107, 3) := by decide +kernel
theorem d_X6_speaker_59 : decode cX6_speaker 59 = .ok (.ireturn, 1) := by decide +kernel
theorem d_X6_speaker_60 : decode cX6_speaker 60 = .ok (.aload_n 0, 1) := by decide +kernel
theorem d_X6_speaker_61 : decode cX6_speaker 61 = .ok (.getfield 31, 3) := by decide +kernel
theorem d_X6_speaker_64 : decode cX6_speaker 64 = .ok (.getfield 138, 3) := by decide +kernel
theorem d_X6_speaker_67 : decode cX6_speaker 67 = .ok (.iload_n 1, 1) := by decide +kernel
theorem d_X6_speaker_68 : decode cX6_speaker 68 = .ok (.invokestatic 107, 3) := by decide +kernel
theorem d_X6_speaker_71 : decode cX6_speaker 71 = .ok (.ireturn, 1) := by decide +kernel
theorem d_X6_speaker_72 : decode cX6_speaker 72 = .ok (.iconst (-1), 1) := by decide +kernel
theorem d_X6_speaker_73 : decode cX6_speaker 73 = .ok (.ireturn, 1) := by decide +kernel
def t_X6_speaker_0 : List (Nat × QO) := [(0, o_al 0 1), (1, o_il 1 2), (2, o_cV 1 6 88 2 2 5), (5, o_if (fun x => decide (x ≠ 0)) 10 8), (8, o_k (-1) 9), (9, o_ir false), (10, o_il 2 11), (11, o_sw [(0, 36), (1, 48), (2, 60)] 72), (36, o_al 0 37), (37, o_gf 6 1 40), (40, o_gf 0 7 43), (43, o_il 1 44)]
theorem ts_X6_speaker_0 (sx : QX) : ∀ q ∈ t_X6_speaker_0, q_Snd sx RX6 cX6_speaker 3 (some .int) q.1 q.2 := List.forall_mem_cons.mpr ⟨s_aload_n d_X6_speaker_0 rfl, List.forall_mem_cons.mpr ⟨s_iload_n d_X6_speaker_1 rfl, List.forall_mem_cons.mpr ⟨s_cV (T := TX6) (N := 9) rfl d_X6_speaker_2 rfl k_2_187 k_2_189 k_0_9 k_1_1 k_2_190 ⟨by decide, by decide⟩ (by decide +kernel) (by decide), List.forall_mem_cons.mpr ⟨s_if_ne d_X6_speaker_5 (by decide), List.forall_mem_cons.mpr ⟨s_iconst d_X6_speaker_8 rfl, List.forall_mem_cons.mpr ⟨s_ir d_X6_speaker_9 rfl, List.forall_mem_cons.mpr ⟨s_iload_n d_X6_speaker_10 rfl, List.forall_mem_cons.mpr ⟨s_tsw d_X6_speaker_11 (by decide +kernel) (by decide) (by decide), List.forall_mem_cons.mpr ⟨s_aload_n d_X6_speaker_36 rfl, List.forall_mem_cons.mpr ⟨s_gf d_X6_speaker_37 rfl (by decide) n_X6 in_X6 rfl k_2_118, List.forall_mem_cons.mpr ⟨s_gf d_X6_speaker_40 rfl (by decide) n_X0 in_X0 rfl k_1_72, List.forall_mem_cons.mpr ⟨s_iload_n d_X6_speaker_43 rfl, fun _ h => absurd h List.not_mem_nil⟩⟩⟩⟩⟩⟩⟩⟩⟩⟩⟩⟩
def t_X6_speaker_1 : List (Nat × QO) := [(44, o_cS 1 97 2 2 47), (47, o_ir false), (48, o_al 0 49), (49, o_gf 6 1 52), (52, o_gf 0 8 55), (55, o_il 1 56), (56, o_cS 1 97 2 2 59), (59, o_ir false), (60, o_al 0 61), (61, o_gf 6 3 64), (64, o_gf 3 5 67), (67, o_il 1 68)]
theorem ts_X6_speaker_1 (sx : QX) : ∀ q ∈ t_X6_speaker_1, q_Snd sx RX6 cX6_speaker 3 (some .int) q.1 q.2 := List.forall_mem_cons.mpr ⟨s_cS rfl d_X6_speaker_44 k_2_174 k_2_57 k_1_1 k_2_58 ⟨by decide, by decide⟩ (by decide +kernel) (by decide), List.forall_mem_cons.mpr ⟨s_ir d_X6_speaker_47 rfl, List.forall_mem_cons.mpr ⟨s_aload_n d_X6_speaker_48 rfl, List.forall_mem_cons.mpr ⟨s_gf d_X6_speaker_49 rfl (by decide) n_X6 in_X6 rfl k_2_118, List.forall_mem_cons.mpr ⟨s_gf d_X6_speaker_52 rfl (by decide) n_X0 in_X0 rfl k_1_75, List.forall_mem_cons.mpr ⟨s_iload_n d_X6_speaker_55 rfl, List.forall_mem_cons.mpr ⟨s_cS rfl d_X6_speaker_56 k_2_174 k_2_57 k_1_1 k_2_58 ⟨by decide, by decide⟩ (by decide +kernel) (by decide), List.forall_mem_cons.mpr ⟨s_ir d_X6_speaker_59 rfl, List.forall_mem_cons.mpr ⟨s_aload_n d_X6_speaker_60 rfl, List.forall_mem_cons.mpr ⟨s_gf d_X6_speaker_61 rfl (by decide) n_X6 in_X6 rfl k_2_120, List.forall_mem_cons.mpr ⟨s_gf d_X6_speaker_64 rfl (by decide) n_X3 in_X3 rfl k_1_128, List.forall_mem_cons.mpr ⟨s_iload_n d_X6_speaker_67 rfl, fun _ h => absurd h List.not_mem_nil⟩⟩⟩⟩⟩⟩⟩⟩⟩⟩⟩⟩
def t_X6_speaker_2 : List (Nat × QO) := [(68, o_cS 1 97 2 2 71), (71, o_ir false), (72, o_k (-1) 73), (73, o_ir false)]
theorem ts_X6_speaker_2 (sx : QX) : ∀ q ∈ t_X6_speaker_2, q_Snd sx RX6 cX6_speaker 3 (some .int) q.1 q.2 := List.forall_mem_cons.mpr ⟨s_cS rfl d_X6_speaker_68 k_2_174 k_2_57 k_1_1 k_2_58 ⟨by decide, by decide⟩ (by decide +kernel) (by decide), List.forall_mem_cons.mpr ⟨s_ir d_X6_speaker_71 rfl, List.forall_mem_cons.mpr ⟨s_iconst d_X6_speaker_72 rfl, List.forall_mem_cons.mpr ⟨s_ir d_X6_speaker_73 rfl, fun _ h => absurd h List.not_mem_nil⟩⟩⟩⟩
def t_X6_speaker (pc : Nat) : Option QO := cond (Nat.ble pc 43) (q_look (t_X6_speaker_0) pc) (cond (Nat.ble pc 67) (q_look (t_X6_speaker_1) pc) (q_look (t_X6_speaker_2) pc))
theorem ts_X6_speaker (sx : QX) (pc : Nat) : ∀ o, t_X6_speaker pc = some o → q_Snd sx RX6 cX6_speaker 3 (some .int) pc o := by
  unfold t_X6_speaker
  exact q_cb (q_look_all (ts_X6_speaker_0 sx)) (q_cb (q_look_all (ts_X6_speaker_1 sx)) (q_look_all (ts_X6_speaker_2 sx)))
theorem d_X6_heard_0 : decode cX6_heard 0 = .ok (.aload_n 0, 1) := by decide +kernel
theorem d_X6_heard_1 : decode cX6_heard 1 = .ok (.iload_n 1, 1) := by decide +kernel
theorem d_X6_heard_2 : decode cX6_heard 2 = .ok (.invokevirtual 99, 3) := by decide +kernel
theorem d_X6_heard_5 : decode cX6_heard 5 = .ok (.ifCond .eq 23, 3) := by decide +kernel
theorem d_X6_heard_8 : decode cX6_heard 8 = .ok (.aload_n 0, 1) := by decide +kernel
theorem d_X6_heard_9 : decode cX6_heard 9 = .ok (.iload_n 2, 1) := by decide +kernel
theorem d_X6_heard_10 : decode cX6_heard 10 = .ok (.invokevirtual 123, 3) := by decide +kernel
theorem d_X6_heard_13 : decode cX6_heard 13 = .ok (.ifCond .eq 15, 3) := by decide +kernel
theorem d_X6_heard_16 : decode cX6_heard 16 = .ok (.aload_n 0, 1) := by decide +kernel
theorem d_X6_heard_17 : decode cX6_heard 17 = .ok (.getfield 31, 3) := by decide +kernel
theorem d_X6_heard_20 : decode cX6_heard 20 = .ok (.iload_n 1, 1) := by decide +kernel
theorem d_X6_heard_21 : decode cX6_heard 21 = .ok (.iload_n 2, 1) := by decide +kernel
theorem d_X6_heard_22 : decode cX6_heard 22 = .ok (.invokevirtual 141, 3) := by decide +kernel
theorem d_X6_heard_25 : decode cX6_heard 25 = .ok (.goto 4, 3) := by decide +kernel
theorem d_X6_heard_28 : decode cX6_heard 28 = .ok (.iconst (-1), 1) := by decide +kernel
theorem d_X6_heard_29 : decode cX6_heard 29 = .ok (.ireturn, 1) := by decide +kernel
def t_X6_heard_0 : List (Nat × QO) := [(0, o_al 0 1), (1, o_il 1 2), (2, o_cV 1 6 86 2 2 5), (5, o_if (fun x => decide (x = 0)) 28 8), (8, o_al 0 9), (9, o_il 2 10), (10, o_cV 1 6 87 2 2 13), (13, o_if (fun x => decide (x = 0)) 28 16), (16, o_al 0 17), (17, o_gf 6 3 20), (20, o_il 1 21), (21, o_il 2 22)]
theorem ts_X6_heard_0 (sx : QX) : ∀ q ∈ t_X6_heard_0, q_Snd sx RX6 cX6_heard 3 (some .int) q.1 q.2 := List.forall_mem_cons.mpr ⟨s_aload_n d_X6_heard_0 rfl, List.forall_mem_cons.mpr ⟨s_iload_n d_X6_heard_1 rfl, List.forall_mem_cons.mpr ⟨s_cV (T := TX6) (N := 9) rfl d_X6_heard_2 rfl k_2_170 k_2_172 k_0_7 k_1_1 k_2_173 ⟨by decide, by decide⟩ (by decide +kernel) (by decide), List.forall_mem_cons.mpr ⟨s_if_eq d_X6_heard_5 (by decide), List.forall_mem_cons.mpr ⟨s_aload_n d_X6_heard_8 rfl, List.forall_mem_cons.mpr ⟨s_iload_n d_X6_heard_9 rfl, List.forall_mem_cons.mpr ⟨s_cV (T := TX6) (N := 9) rfl d_X6_heard_10 rfl k_2_179 k_2_181 k_0_8 k_1_1 k_2_182 ⟨by decide, by decide⟩ (by decide +kernel) (by decide), List.forall_mem_cons.mpr ⟨s_if_eq d_X6_heard_13 (by decide), List.forall_mem_cons.mpr ⟨s_aload_n d_X6_heard_16 rfl, List.forall_mem_cons.mpr ⟨s_gf d_X6_heard_17 rfl (by decide) n_X6 in_X6 rfl k_2_120, List.forall_mem_cons.mpr ⟨s_iload_n d_X6_heard_20 rfl, List.forall_mem_cons.mpr ⟨s_iload_n d_X6_heard_21 rfl, fun _ h => absurd h List.not_mem_nil⟩⟩⟩⟩⟩⟩⟩⟩⟩⟩⟩⟩
def t_X6_heard_1 : List (Nat × QO) := [(22, o_cV 1 3 25 3 3 25), (25, o_goto 29), (28, o_k (-1) 29), (29, o_ir false)]
theorem ts_X6_heard_1 (sx : QX) : ∀ q ∈ t_X6_heard_1, q_Snd sx RX6 cX6_heard 3 (some .int) q.1 q.2 := List.forall_mem_cons.mpr ⟨s_cV (T := TX3) (N := 8) rfl d_X6_heard_22 rfl k_2_195 k_2_196 k_2_197 k_1_4 k_2_198 ⟨by decide, by decide⟩ (by decide +kernel) (by decide), List.forall_mem_cons.mpr ⟨s_goto d_X6_heard_25 (by decide), List.forall_mem_cons.mpr ⟨s_iconst d_X6_heard_28 rfl, List.forall_mem_cons.mpr ⟨s_ir d_X6_heard_29 rfl, fun _ h => absurd h List.not_mem_nil⟩⟩⟩⟩
def t_X6_heard (pc : Nat) : Option QO := cond (Nat.ble pc 21) (q_look (t_X6_heard_0) pc) (q_look (t_X6_heard_1) pc)
theorem ts_X6_heard (sx : QX) (pc : Nat) : ∀ o, t_X6_heard pc = some o → q_Snd sx RX6 cX6_heard 3 (some .int) pc o := by
  unfold t_X6_heard
  exact q_cb (q_look_all (ts_X6_heard_0 sx)) (q_look_all (ts_X6_heard_1 sx))
theorem d_X6_promised_0 : decode cX6_promised 0 = .ok (.aload_n 0, 1) := by decide +kernel
theorem d_X6_promised_1 : decode cX6_promised 1 = .ok (.iload_n 1, 1) := by decide +kernel
theorem d_X6_promised_2 : decode cX6_promised 2 = .ok (.invokevirtual 129, 3) := by decide +kernel
theorem d_X6_promised_5 : decode cX6_promised 5 = .ok (.ifCond .eq 23, 3) := by decide +kernel
theorem d_X6_promised_8 : decode cX6_promised 8 = .ok (.aload_n 0, 1) := by decide +kernel
theorem d_X6_promised_9 : decode cX6_promised 9 = .ok (.iload_n 2, 1) := by decide +kernel
theorem d_X6_promised_10 : decode cX6_promised 10 = .ok (.invokevirtual 99, 3) := by decide +kernel
theorem d_X6_promised_13 : decode cX6_promised 13 = .ok (.ifCond .eq 15, 3) := by decide +kernel
theorem d_X6_promised_16 : decode cX6_promised 16 = .ok (.aload_n 0, 1) := by decide +kernel
theorem d_X6_promised_17 : decode cX6_promised 17 = .ok (.getfield 31, 3) := by decide +kernel
theorem d_X6_promised_20 : decode cX6_promised 20 = .ok (.iload_n 1, 1) := by decide +kernel
theorem d_X6_promised_21 : decode cX6_promised 21 = .ok (.iload_n 2, 1) := by decide +kernel
theorem d_X6_promised_22 : decode cX6_promised 22 = .ok (.invokevirtual 145, 3) := by decide +kernel
theorem d_X6_promised_25 : decode cX6_promised 25 = .ok (.goto 4, 3) := by decide +kernel
theorem d_X6_promised_28 : decode cX6_promised 28 = .ok (.iconst (-1), 1) := by decide +kernel
theorem d_X6_promised_29 : decode cX6_promised 29 = .ok (.ireturn, 1) := by decide +kernel
def t_X6_promised_0 : List (Nat × QO) := [(0, o_al 0 1), (1, o_il 1 2), (2, o_cV 1 6 88 2 2 5), (5, o_if (fun x => decide (x = 0)) 28 8), (8, o_al 0 9), (9, o_il 2 10), (10, o_cV 1 6 86 2 2 13), (13, o_if (fun x => decide (x = 0)) 28 16), (16, o_al 0 17), (17, o_gf 6 3 20), (20, o_il 1 21), (21, o_il 2 22)]
theorem ts_X6_promised_0 (sx : QX) : ∀ q ∈ t_X6_promised_0, q_Snd sx RX6 cX6_promised 3 (some .int) q.1 q.2 := List.forall_mem_cons.mpr ⟨s_aload_n d_X6_promised_0 rfl, List.forall_mem_cons.mpr ⟨s_iload_n d_X6_promised_1 rfl, List.forall_mem_cons.mpr ⟨s_cV (T := TX6) (N := 9) rfl d_X6_promised_2 rfl k_2_187 k_2_189 k_0_9 k_1_1 k_2_190 ⟨by decide, by decide⟩ (by decide +kernel) (by decide), List.forall_mem_cons.mpr ⟨s_if_eq d_X6_promised_5 (by decide), List.forall_mem_cons.mpr ⟨s_aload_n d_X6_promised_8 rfl, List.forall_mem_cons.mpr ⟨s_iload_n d_X6_promised_9 rfl, List.forall_mem_cons.mpr ⟨s_cV (T := TX6) (N := 9) rfl d_X6_promised_10 rfl k_2_170 k_2_172 k_0_7 k_1_1 k_2_173 ⟨by decide, by decide⟩ (by decide +kernel) (by decide), List.forall_mem_cons.mpr ⟨s_if_eq d_X6_promised_13 (by decide), List.forall_mem_cons.mpr ⟨s_aload_n d_X6_promised_16 rfl, List.forall_mem_cons.mpr ⟨s_gf d_X6_promised_17 rfl (by decide) n_X6 in_X6 rfl k_2_120, List.forall_mem_cons.mpr ⟨s_iload_n d_X6_promised_20 rfl, List.forall_mem_cons.mpr ⟨s_iload_n d_X6_promised_21 rfl, fun _ h => absurd h List.not_mem_nil⟩⟩⟩⟩⟩⟩⟩⟩⟩⟩⟩⟩
def t_X6_promised_1 : List (Nat × QO) := [(22, o_cV 1 3 27 3 3 25), (25, o_goto 29), (28, o_k (-1) 29), (29, o_ir false)]
theorem ts_X6_promised_1 (sx : QX) : ∀ q ∈ t_X6_promised_1, q_Snd sx RX6 cX6_promised 3 (some .int) q.1 q.2 := List.forall_mem_cons.mpr ⟨s_cV (T := TX3) (N := 8) rfl d_X6_promised_22 rfl k_2_205 k_2_206 k_2_207 k_1_4 k_2_208 ⟨by decide, by decide⟩ (by decide +kernel) (by decide), List.forall_mem_cons.mpr ⟨s_goto d_X6_promised_25 (by decide), List.forall_mem_cons.mpr ⟨s_iconst d_X6_promised_28 rfl, List.forall_mem_cons.mpr ⟨s_ir d_X6_promised_29 rfl, fun _ h => absurd h List.not_mem_nil⟩⟩⟩⟩
def t_X6_promised (pc : Nat) : Option QO := cond (Nat.ble pc 21) (q_look (t_X6_promised_0) pc) (q_look (t_X6_promised_1) pc)
theorem ts_X6_promised (sx : QX) (pc : Nat) : ∀ o, t_X6_promised pc = some o → q_Snd sx RX6 cX6_promised 3 (some .int) pc o := by
  unfold t_X6_promised
  exact q_cb (q_look_all (ts_X6_promised_0 sx)) (q_look_all (ts_X6_promised_1 sx))
theorem d_X6_worth_0 : decode cX6_worth 0 = .ok (.aload_n 0, 1) := by decide +kernel
theorem d_X6_worth_1 : decode cX6_worth 1 = .ok (.iload_n 1, 1) := by decide +kernel
theorem d_X6_worth_2 : decode cX6_worth 2 = .ok (.iload_n 2, 1) := by decide +kernel
theorem d_X6_worth_3 : decode cX6_worth 3 = .ok (.iload_n 3, 1) := by decide +kernel
theorem d_X6_worth_4 : decode cX6_worth 4 = .ok (.invokevirtual 148, 3) := by decide +kernel
theorem d_X6_worth_7 : decode cX6_worth 7 = .ok (.ifCond .eq 16, 3) := by decide +kernel
theorem d_X6_worth_10 : decode cX6_worth 10 = .ok (.aload_n 0, 1) := by decide +kernel
theorem d_X6_worth_11 : decode cX6_worth 11 = .ok (.getfield 31, 3) := by decide +kernel
theorem d_X6_worth_14 : decode cX6_worth 14 = .ok (.iload_n 1, 1) := by decide +kernel
theorem d_X6_worth_15 : decode cX6_worth 15 = .ok (.iload_n 2, 1) := by decide +kernel
theorem d_X6_worth_16 : decode cX6_worth 16 = .ok (.iload_n 3, 1) := by decide +kernel
theorem d_X6_worth_17 : decode cX6_worth 17 = .ok (.invokevirtual 152, 3) := by decide +kernel
theorem d_X6_worth_20 : decode cX6_worth 20 = .ok (.goto 4, 3) := by decide +kernel
theorem d_X6_worth_23 : decode cX6_worth 23 = .ok (.iconst (-1), 1) := by decide +kernel
theorem d_X6_worth_24 : decode cX6_worth 24 = .ok (.ireturn, 1) := by decide +kernel
def t_X6_worth_0 : List (Nat × QO) := [(0, o_al 0 1), (1, o_il 1 2), (2, o_il 2 3), (3, o_il 3 4), (4, o_cV 1 6 89 4 4 7), (7, o_if (fun x => decide (x = 0)) 23 10), (10, o_al 0 11), (11, o_gf 6 3 14), (14, o_il 1 15), (15, o_il 2 16), (16, o_il 3 17), (17, o_cV 1 3 26 5 4 20)]
theorem ts_X6_worth_0 (sx : QX) : ∀ q ∈ t_X6_worth_0, q_Snd sx RX6 cX6_worth 4 (some .int) q.1 q.2 := List.forall_mem_cons.mpr ⟨s_aload_n d_X6_worth_0 rfl, List.forall_mem_cons.mpr ⟨s_iload_n d_X6_worth_1 rfl, List.forall_mem_cons.mpr ⟨s_iload_n d_X6_worth_2 rfl, List.forall_mem_cons.mpr ⟨s_iload_n d_X6_worth_3 rfl, List.forall_mem_cons.mpr ⟨s_cV (T := TX6) (N := 9) rfl d_X6_worth_4 rfl k_2_214 k_2_216 k_0_10 k_1_1 k_2_217 ⟨by decide, by decide⟩ (by decide +kernel) (by decide), List.forall_mem_cons.mpr ⟨s_if_eq d_X6_worth_7 (by decide), List.forall_mem_cons.mpr ⟨s_aload_n d_X6_worth_10 rfl, List.forall_mem_cons.mpr ⟨s_gf d_X6_worth_11 rfl (by decide) n_X6 in_X6 rfl k_2_120, List.forall_mem_cons.mpr ⟨s_iload_n d_X6_worth_14 rfl, List.forall_mem_cons.mpr ⟨s_iload_n d_X6_worth_15 rfl, List.forall_mem_cons.mpr ⟨s_iload_n d_X6_worth_16 rfl, List.forall_mem_cons.mpr ⟨s_cV (T := TX3) (N := 8) rfl d_X6_worth_17 rfl k_2_218 k_2_219 k_2_220 k_1_4 k_2_221 ⟨by decide, by decide⟩ (by decide +kernel) (by decide), fun _ h => absurd h List.not_mem_nil⟩⟩⟩⟩⟩⟩⟩⟩⟩⟩⟩⟩
def t_X6_worth_1 : List (Nat × QO) := [(20, o_goto 24), (23, o_k (-1) 24), (24, o_ir false)]
theorem ts_X6_worth_1 (sx : QX) : ∀ q ∈ t_X6_worth_1, q_Snd sx RX6 cX6_worth 4 (some .int) q.1 q.2 := List.forall_mem_cons.mpr ⟨s_goto d_X6_worth_20 (by decide), List.forall_mem_cons.mpr ⟨s_iconst d_X6_worth_23 rfl, List.forall_mem_cons.mpr ⟨s_ir d_X6_worth_24 rfl, fun _ h => absurd h List.not_mem_nil⟩⟩⟩
def t_X6_worth (pc : Nat) : Option QO := cond (Nat.ble pc 17) (q_look (t_X6_worth_0) pc) (q_look (t_X6_worth_1) pc)
theorem ts_X6_worth (sx : QX) (pc : Nat) : ∀ o, t_X6_worth pc = some o → q_Snd sx RX6 cX6_worth 4 (some .int) pc o := by
  unfold t_X6_worth
  exact q_cb (q_look_all (ts_X6_worth_0 sx)) (q_look_all (ts_X6_worth_1 sx))
theorem d_X6_say_0 : decode cX6_say 0 = .ok (.aload_n 0, 1) := by decide +kernel
theorem d_X6_say_1 : decode cX6_say 1 = .ok (.iload_n 1, 1) := by decide +kernel
theorem d_X6_say_2 : decode cX6_say 2 = .ok (.iload_n 2, 1) := by decide +kernel
theorem d_X6_say_3 : decode cX6_say 3 = .ok (.iload_n 3, 1) := by decide +kernel
theorem d_X6_say_4 : decode cX6_say 4 = .ok (.invokevirtual 148, 3) := by decide +kernel
theorem d_X6_say_7 : decode cX6_say 7 = .ok (.ifCond .ne 5, 3) := by decide +kernel
theorem d_X6_say_10 : decode cX6_say 10 = .ok (.iconst (-1), 1) := by decide +kernel
theorem d_X6_say_11 : decode cX6_say 11 = .ok (.ireturn, 1) := by decide +kernel
theorem d_X6_say_12 : decode cX6_say 12 = .ok (.aload_n 0, 1) := by decide +kernel
theorem d_X6_say_13 : decode cX6_say 13 = .ok (.getfield 31, 3) := by decide +kernel
theorem d_X6_say_16 : decode cX6_say 16 = .ok (.iload_n 1, 1) := by decide +kernel
theorem d_X6_say_17 : decode cX6_say 17 = .ok (.iload_n 2, 1) := by decide +kernel
theorem d_X6_say_18 : decode cX6_say 18 = .ok (.invokevirtual 156, 3) := by decide +kernel
theorem d_X6_say_21 : decode cX6_say 21 = .ok (.ifCond .ne 6, 3) := by decide +kernel
theorem d_X6_say_24 : decode cX6_say 24 = .ok (.bipush (-2), 2) := by decide +kernel
theorem d_X6_say_26 : decode cX6_say 26 = .ok (.ireturn, 1) := by decide +kernel
theorem d_X6_say_27 : decode cX6_say 27 = .ok (.aload_n 0, 1) := by decide +kernel
theorem d_X6_say_28 : decode cX6_say 28 = .ok (.getfield 43, 3) := by decide +kernel
theorem d_X6_say_31 : decode cX6_say 31 = .ok (.aload_n 0, 1) := by decide +kernel
theorem d_X6_say_32 : decode cX6_say 32 = .ok (.getfield 31, 3) := by decide +kernel
theorem d_X6_say_35 : decode cX6_say 35 = .ok (.invokevirtual 160, 3) := by decide +kernel
theorem d_X6_say_38 : decode cX6_say 38 = .ok (.aload_n 0, 1) := by decide +kernel
theorem d_X6_say_39 : decode cX6_say 39 = .ok (.getfield 31, 3) := by decide +kernel
theorem d_X6_say_42 : decode cX6_say 42 = .ok (.iload_n 1, 1) := by decide +kernel
theorem d_X6_say_43 : decode cX6_say 43 = .ok (.iload_n 2, 1) := by decide +kernel
theorem d_X6_say_44 : decode cX6_say 44 = .ok (.iload_n 3, 1) := by decide +kernel
theorem d_X6_say_45 : decode cX6_say 45 = .ok (.invokevirtual 163, 3) := by decide +kernel
theorem d_X6_say_48 : decode cX6_say 48 = .ok (.aload_n 0, 1) := by decide +kernel
theorem d_X6_say_49 : decode cX6_say 49 = .ok (.getfield 31, 3) := by decide +kernel
theorem d_X6_say_52 : decode cX6_say 52 = .ok (.getfield 114, 3) := by decide +kernel
theorem d_X6_say_55 : decode cX6_say 55 = .ok (.iload_n 2, 1) := by decide +kernel
theorem d_X6_say_56 : decode cX6_say 56 = .ok (.invokestatic 107, 3) := by decide +kernel
theorem d_X6_say_59 : decode cX6_say 59 = .ok (.ireturn, 1) := by decide +kernel
def t_X6_say_0 : List (Nat × QO) := [(0, o_al 0 1), (1, o_il 1 2), (2, o_il 2 3), (3, o_il 3 4), (4, o_cV 1 6 89 4 4 7), (7, o_if (fun x => decide (x ≠ 0)) 12 10), (10, o_k (-1) 11), (11, o_ir false), (12, o_al 0 13), (13, o_gf 6 3 16), (16, o_il 1 17), (17, o_il 2 18)]
theorem ts_X6_say_0 (sx : QX) : ∀ q ∈ t_X6_say_0, q_Snd sx RX6 cX6_say 4 (some .int) q.1 q.2 := List.forall_mem_cons.mpr ⟨s_aload_n d_X6_say_0 rfl, List.forall_mem_cons.mpr ⟨s_iload_n d_X6_say_1 rfl, List.forall_mem_cons.mpr ⟨s_iload_n d_X6_say_2 rfl, List.forall_mem_cons.mpr ⟨s_iload_n d_X6_say_3 rfl, List.forall_mem_cons.mpr ⟨s_cV (T := TX6) (N := 9) rfl d_X6_say_4 rfl k_2_214 k_2_216 k_0_10 k_1_1 k_2_217 ⟨by decide, by decide⟩ (by decide +kernel) (by decide), List.forall_mem_cons.mpr ⟨s_if_ne d_X6_say_7 (by decide), List.forall_mem_cons.mpr ⟨s_iconst d_X6_say_10 rfl, List.forall_mem_cons.mpr ⟨s_ir d_X6_say_11 rfl, List.forall_mem_cons.mpr ⟨s_aload_n d_X6_say_12 rfl, List.forall_mem_cons.mpr ⟨s_gf d_X6_say_13 rfl (by decide) n_X6 in_X6 rfl k_2_120, List.forall_mem_cons.mpr ⟨s_iload_n d_X6_say_16 rfl, List.forall_mem_cons.mpr ⟨s_iload_n d_X6_say_17 rfl, fun _ h => absurd h List.not_mem_nil⟩⟩⟩⟩⟩⟩⟩⟩⟩⟩⟩⟩
def t_X6_say_1 : List (Nat × QO) := [(18, o_cV 1 3 28 3 3 21), (21, o_if (fun x => decide (x ≠ 0)) 27 24), (24, o_k (-2) 26), (26, o_ir false), (27, o_al 0 28), (28, o_gf 6 5 31), (31, o_al 0 32), (32, o_gf 6 3 35), (35, o_cV 0 2 17 3 2 38), (38, o_al 0 39), (39, o_gf 6 3 42), (42, o_il 1 43)]
theorem ts_X6_say_1 (sx : QX) : ∀ q ∈ t_X6_say_1, q_Snd sx RX6 cX6_say 4 (some .int) q.1 q.2 := List.forall_mem_cons.mpr ⟨s_cV (T := TX3) (N := 8) rfl d_X6_say_18 rfl k_2_230 k_2_231 k_2_232 k_1_4 k_2_233 ⟨by decide, by decide⟩ (by decide +kernel) (by decide), List.forall_mem_cons.mpr ⟨s_if_ne d_X6_say_21 (by decide), List.forall_mem_cons.mpr ⟨s_bipush d_X6_say_24 rfl, List.forall_mem_cons.mpr ⟨s_ir d_X6_say_26 rfl, List.forall_mem_cons.mpr ⟨s_aload_n d_X6_say_27 rfl, List.forall_mem_cons.mpr ⟨s_gf d_X6_say_28 rfl (by decide) n_X6 in_X6 rfl k_2_122, List.forall_mem_cons.mpr ⟨s_aload_n d_X6_say_31 rfl, List.forall_mem_cons.mpr ⟨s_gf d_X6_say_32 rfl (by decide) n_X6 in_X6 rfl k_2_120, List.forall_mem_cons.mpr ⟨s_cV (T := TX2) (N := 3) rfl d_X6_say_35 rfl k_2_234 k_2_235 k_2_236 k_1_5 k_2_237 ⟨by decide, by decide⟩ (by decide +kernel) (by decide), List.forall_mem_cons.mpr ⟨s_aload_n d_X6_say_38 rfl, List.forall_mem_cons.mpr ⟨s_gf d_X6_say_39 rfl (by decide) n_X6 in_X6 rfl k_2_120, List.forall_mem_cons.mpr ⟨s_iload_n d_X6_say_42 rfl, fun _ h => absurd h List.not_mem_nil⟩⟩⟩⟩⟩⟩⟩⟩⟩⟩⟩⟩
def t_X6_say_2 : List (Nat × QO) := [(43, o_il 2 44), (44, o_il 3 45), (45, o_cV 0 3 29 6 4 48), (48, o_al 0 49), (49, o_gf 6 3 52), (52, o_gf 3 2 55), (55, o_il 2 56), (56, o_cS 1 97 2 2 59), (59, o_ir false)]
theorem ts_X6_say_2 (sx : QX) : ∀ q ∈ t_X6_say_2, q_Snd sx RX6 cX6_say 4 (some .int) q.1 q.2 := List.forall_mem_cons.mpr ⟨s_iload_n d_X6_say_43 rfl, List.forall_mem_cons.mpr ⟨s_iload_n d_X6_say_44 rfl, List.forall_mem_cons.mpr ⟨s_cV (T := TX3) (N := 8) rfl d_X6_say_45 rfl k_3_5 k_3_6 k_3_7 k_1_4 k_3_8 ⟨by decide, by decide⟩ (by decide +kernel) (by decide), List.forall_mem_cons.mpr ⟨s_aload_n d_X6_say_48 rfl, List.forall_mem_cons.mpr ⟨s_gf d_X6_say_49 rfl (by decide) n_X6 in_X6 rfl k_2_120, List.forall_mem_cons.mpr ⟨s_gf d_X6_say_52 rfl (by decide) n_X3 in_X3 rfl k_1_121, List.forall_mem_cons.mpr ⟨s_iload_n d_X6_say_55 rfl, List.forall_mem_cons.mpr ⟨s_cS rfl d_X6_say_56 k_2_174 k_2_57 k_1_1 k_2_58 ⟨by decide, by decide⟩ (by decide +kernel) (by decide), List.forall_mem_cons.mpr ⟨s_ir d_X6_say_59 rfl, fun _ h => absurd h List.not_mem_nil⟩⟩⟩⟩⟩⟩⟩⟩⟩
def t_X6_say (pc : Nat) : Option QO := cond (Nat.ble pc 17) (q_look (t_X6_say_0) pc) (cond (Nat.ble pc 42) (q_look (t_X6_say_1) pc) (q_look (t_X6_say_2) pc))
theorem ts_X6_say (sx : QX) (pc : Nat) : ∀ o, t_X6_say pc = some o → q_Snd sx RX6 cX6_say 4 (some .int) pc o := by
  unfold t_X6_say
  exact q_cb (q_look_all (ts_X6_say_0 sx)) (q_cb (q_look_all (ts_X6_say_1 sx)) (q_look_all (ts_X6_say_2 sx)))
theorem d_X6_promise_0 : decode cX6_promise 0 = .ok (.aload_n 0, 1) := by decide +kernel
theorem d_X6_promise_1 : decode cX6_promise 1 = .ok (.iload_n 1, 1) := by decide +kernel
theorem d_X6_promise_2 : decode cX6_promise 2 = .ok (.invokevirtual 129, 3) := by decide +kernel
theorem d_X6_promise_5 : decode cX6_promise 5 = .ok (.ifCond .eq 18, 3) := by decide +kernel
theorem d_X6_promise_8 : decode cX6_promise 8 = .ok (.aload_n 0, 1) := by decide +kernel
theorem d_X6_promise_9 : decode cX6_promise 9 = .ok (.iload_n 2, 1) := by decide +kernel
theorem d_X6_promise_10 : decode cX6_promise 10 = .ok (.invokevirtual 99, 3) := by decide +kernel
theorem d_X6_promise_13 : decode cX6_promise 13 = .ok (.ifCond .eq 10, 3) := by decide +kernel
theorem d_X6_promise_16 : decode cX6_promise 16 = .ok (.iload_n 3, 1) := by decide +kernel
theorem d_X6_promise_17 : decode cX6_promise 17 = .ok (.invokestatic 167, 3) := by decide +kernel
theorem d_X6_promise_20 : decode cX6_promise 20 = .ok (.ifCond .ne 5, 3) := by decide +kernel
theorem d_X6_promise_23 : decode cX6_promise 23 = .ok (.iconst (-1), 1) := by decide +kernel
theorem d_X6_promise_24 : decode cX6_promise 24 = .ok (.ireturn, 1) := by decide +kernel
theorem d_X6_promise_25 : decode cX6_promise 25 = .ok (.aload_n 0, 1) := by decide +kernel
theorem d_X6_promise_26 : decode cX6_promise 26 = .ok (.getfield 31, 3) := by decide +kernel
theorem d_X6_promise_29 : decode cX6_promise 29 = .ok (.iload_n 2, 1) := by decide +kernel
theorem d_X6_promise_30 : decode cX6_promise 30 = .ok (.iconst 0, 1) := by decide +kernel
theorem d_X6_promise_31 : decode cX6_promise 31 = .ok (.invokevirtual 170, 3) := by decide +kernel
theorem d_X6_promise_34 : decode cX6_promise 34 = .ok (.ifCond .ne 6, 3) := by decide +kernel
theorem d_X6_promise_37 : decode cX6_promise 37 = .ok (.bipush (-2), 2) := by decide +kernel
theorem d_X6_promise_39 : decode cX6_promise 39 = .ok (.ireturn, 1) := by decide +kernel
theorem d_X6_promise_40 : decode cX6_promise 40 = .ok (.aload_n 0, 1) := by decide +kernel
theorem d_X6_promise_41 : decode cX6_promise 41 = .ok (.getfield 43, 3) := by decide +kernel
theorem d_X6_promise_44 : decode cX6_promise 44 = .ok (.aload_n 0, 1) := by decide +kernel
theorem d_X6_promise_45 : decode cX6_promise 45 = .ok (.getfield 31, 3) := by decide +kernel
theorem d_X6_promise_48 : decode cX6_promise 48 = .ok (.invokevirtual 160, 3) := by decide +kernel
theorem d_X6_promise_51 : decode cX6_promise 51 = .ok (.aload_n 0, 1) := by decide +kernel
theorem d_X6_promise_52 : decode cX6_promise 52 = .ok (.getfield 31, 3) := by decide +kernel
theorem d_X6_promise_55 : decode cX6_promise 55 = .ok (.iload_n 1, 1) := by decide +kernel
theorem d_X6_promise_56 : decode cX6_promise 56 = .ok (.iload_n 2, 1) := by decide +kernel
theorem d_X6_promise_57 : decode cX6_promise 57 = .ok (.invokevirtual 145, 3) := by decide +kernel
theorem d_X6_promise_60 : decode cX6_promise 60 = .ok (.istore 4, 2) := by decide +kernel
theorem d_X6_promise_62 : decode cX6_promise 62 = .ok (.aload_n 0, 1) := by decide +kernel
theorem d_X6_promise_63 : decode cX6_promise 63 = .ok (.getfield 31, 3) := by decide +kernel
theorem d_X6_promise_66 : decode cX6_promise 66 = .ok (.iload_n 1, 1) := by decide +kernel
theorem d_X6_promise_67 : decode cX6_promise 67 = .ok (.iload_n 2, 1) := by decide +kernel
theorem d_X6_promise_68 : decode cX6_promise 68 = .ok (.iload_n 3, 1) := by decide +kernel
theorem d_X6_promise_69 : decode cX6_promise 69 = .ok (.invokevirtual 173, 3) := by decide +kernel
theorem d_X6_promise_72 : decode cX6_promise 72 = .ok (.iload 4, 2) := by decide +kernel
theorem d_X6_promise_74 : decode cX6_promise 74 = .ok (.ireturn, 1) := by decide +kernel
def t_X6_promise_0 : List (Nat × QO) := [(0, o_al 0 1), (1, o_il 1 2), (2, o_cV 1 6 88 2 2 5), (5, o_if (fun x => decide (x = 0)) 23 8), (8, o_al 0 9), (9, o_il 2 10), (10, o_cV 1 6 86 2 2 13), (13, o_if (fun x => decide (x = 0)) 23 16), (16, o_il 3 17), (17, o_cS 1 90 1 1 20), (20, o_if (fun x => decide (x ≠ 0)) 25 23), (23, o_k (-1) 24)]
theorem ts_X6_promise_0 (sx : QX) : ∀ q ∈ t_X6_promise_0, q_Snd sx RX6 cX6_promise 5 (some .int) q.1 q.2 := List.forall_mem_cons.mpr ⟨s_aload_n d_X6_promise_0 rfl, List.forall_mem_cons.mpr ⟨s_iload_n d_X6_promise_1 rfl, List.forall_mem_cons.mpr ⟨s_cV (T := TX6) (N := 9) rfl d_X6_promise_2 rfl k_2_187 k_2_189 k_0_9 k_1_1 k_2_190 ⟨by decide, by decide⟩ (by decide +kernel) (by decide), List.forall_mem_cons.mpr ⟨s_if_eq d_X6_promise_5 (by decide), List.forall_mem_cons.mpr ⟨s_aload_n d_X6_promise_8 rfl, List.forall_mem_cons.mpr ⟨s_iload_n d_X6_promise_9 rfl, List.forall_mem_cons.mpr ⟨s_cV (T := TX6) (N := 9) rfl d_X6_promise_10 rfl k_2_170 k_2_172 k_0_7 k_1_1 k_2_173 ⟨by decide, by decide⟩ (by decide +kernel) (by decide), List.forall_mem_cons.mpr ⟨s_if_eq d_X6_promise_13 (by decide), List.forall_mem_cons.mpr ⟨s_iload_n d_X6_promise_16 rfl, List.forall_mem_cons.mpr ⟨s_cS rfl d_X6_promise_17 k_3_27 k_2_81 k_1_1 k_2_82 ⟨by decide, by decide⟩ (by decide +kernel) (by decide), List.forall_mem_cons.mpr ⟨s_if_ne d_X6_promise_20 (by decide), List.forall_mem_cons.mpr ⟨s_iconst d_X6_promise_23 rfl, fun _ h => absurd h List.not_mem_nil⟩⟩⟩⟩⟩⟩⟩⟩⟩⟩⟩⟩
def t_X6_promise_1 : List (Nat × QO) := [(24, o_ir false), (25, o_al 0 26), (26, o_gf 6 3 29), (29, o_il 2 30), (30, o_k 0 31), (31, o_cV 1 3 21 3 3 34), (34, o_if (fun x => decide (x ≠ 0)) 40 37), (37, o_k (-2) 39), (39, o_ir false), (40, o_al 0 41), (41, o_gf 6 5 44), (44, o_al 0 45)]
theorem ts_X6_promise_1 (sx : QX) : ∀ q ∈ t_X6_promise_1, q_Snd sx RX6 cX6_promise 5 (some .int) q.1 q.2 := List.forall_mem_cons.mpr ⟨s_ir d_X6_promise_24 rfl, List.forall_mem_cons.mpr ⟨s_aload_n d_X6_promise_25 rfl, List.forall_mem_cons.mpr ⟨s_gf d_X6_promise_26 rfl (by decide) n_X6 in_X6 rfl k_2_120, List.forall_mem_cons.mpr ⟨s_iload_n d_X6_promise_29 rfl, List.forall_mem_cons.mpr ⟨s_iconst d_X6_promise_30 rfl, List.forall_mem_cons.mpr ⟨s_cV (T := TX3) (N := 8) rfl d_X6_promise_31 rfl k_3_28 k_3_29 k_3_30 k_1_4 k_3_31 ⟨by decide, by decide⟩ (by decide +kernel) (by decide), List.forall_mem_cons.mpr ⟨s_if_ne d_X6_promise_34 (by decide), List.forall_mem_cons.mpr ⟨s_bipush d_X6_promise_37 rfl, List.forall_mem_cons.mpr ⟨s_ir d_X6_promise_39 rfl, List.forall_mem_cons.mpr ⟨s_aload_n d_X6_promise_40 rfl, List.forall_mem_cons.mpr ⟨s_gf d_X6_promise_41 rfl (by decide) n_X6 in_X6 rfl k_2_122, List.forall_mem_cons.mpr ⟨s_aload_n d_X6_promise_44 rfl, fun _ h => absurd h List.not_mem_nil⟩⟩⟩⟩⟩⟩⟩⟩⟩⟩⟩⟩
def t_X6_promise_2 : List (Nat × QO) := [(45, o_gf 6 3 48), (48, o_cV 0 2 17 3 2 51), (51, o_al 0 52), (52, o_gf 6 3 55), (55, o_il 1 56), (56, o_il 2 57), (57, o_cV 1 3 27 3 3 60), (60, o_is 4 62), (62, o_al 0 63), (63, o_gf 6 3 66), (66, o_il 1 67), (67, o_il 2 68)]
theorem ts_X6_promise_2 (sx : QX) : ∀ q ∈ t_X6_promise_2, q_Snd sx RX6 cX6_promise 5 (some .int) q.1 q.2 := List.forall_mem_cons.mpr ⟨s_gf d_X6_promise_45 rfl (by decide) n_X6 in_X6 rfl k_2_120, List.forall_mem_cons.mpr ⟨s_cV (T := TX2) (N := 3) rfl d_X6_promise_48 rfl k_2_234 k_2_235 k_2_236 k_1_5 k_2_237 ⟨by decide, by decide⟩ (by decide +kernel) (by decide), List.forall_mem_cons.mpr ⟨s_aload_n d_X6_promise_51 rfl, List.forall_mem_cons.mpr ⟨s_gf d_X6_promise_52 rfl (by decide) n_X6 in_X6 rfl k_2_120, List.forall_mem_cons.mpr ⟨s_iload_n d_X6_promise_55 rfl, List.forall_mem_cons.mpr ⟨s_iload_n d_X6_promise_56 rfl, List.forall_mem_cons.mpr ⟨s_cV (T := TX3) (N := 8) rfl d_X6_promise_57 rfl k_2_205 k_2_206 k_2_207 k_1_4 k_2_208 ⟨by decide, by decide⟩ (by decide +kernel) (by decide), List.forall_mem_cons.mpr ⟨s_istore d_X6_promise_60 (by decide), List.forall_mem_cons.mpr ⟨s_aload_n d_X6_promise_62 rfl, List.forall_mem_cons.mpr ⟨s_gf d_X6_promise_63 rfl (by decide) n_X6 in_X6 rfl k_2_120, List.forall_mem_cons.mpr ⟨s_iload_n d_X6_promise_66 rfl, List.forall_mem_cons.mpr ⟨s_iload_n d_X6_promise_67 rfl, fun _ h => absurd h List.not_mem_nil⟩⟩⟩⟩⟩⟩⟩⟩⟩⟩⟩⟩
def t_X6_promise_3 : List (Nat × QO) := [(68, o_il 3 69), (69, o_cV 0 3 33 4 4 72), (72, o_il 4 74), (74, o_ir false)]
theorem ts_X6_promise_3 (sx : QX) : ∀ q ∈ t_X6_promise_3, q_Snd sx RX6 cX6_promise 5 (some .int) q.1 q.2 := List.forall_mem_cons.mpr ⟨s_iload_n d_X6_promise_68 rfl, List.forall_mem_cons.mpr ⟨s_cV (T := TX3) (N := 8) rfl d_X6_promise_69 rfl k_3_32 k_3_33 k_3_34 k_1_4 k_3_35 ⟨by decide, by decide⟩ (by decide +kernel) (by decide), List.forall_mem_cons.mpr ⟨s_iload d_X6_promise_72, List.forall_mem_cons.mpr ⟨s_ir d_X6_promise_74 rfl, fun _ h => absurd h List.not_mem_nil⟩⟩⟩⟩
def t_X6_promise (pc : Nat) : Option QO := cond (Nat.ble pc 44) (cond (Nat.ble pc 23) (q_look (t_X6_promise_0) pc) (q_look (t_X6_promise_1) pc)) (cond (Nat.ble pc 67) (q_look (t_X6_promise_2) pc) (q_look (t_X6_promise_3) pc))
theorem ts_X6_promise (sx : QX) (pc : Nat) : ∀ o, t_X6_promise pc = some o → q_Snd sx RX6 cX6_promise 5 (some .int) pc o := by
  unfold t_X6_promise
  exact q_cb (q_cb (q_look_all (ts_X6_promise_0 sx)) (q_look_all (ts_X6_promise_1 sx))) (q_cb (q_look_all (ts_X6_promise_2 sx)) (q_look_all (ts_X6_promise_3 sx)))
theorem d_X6_take_0 : decode cX6_take 0 = .ok (.aload_n 0, 1) := by decide +kernel
theorem d_X6_take_1 : decode cX6_take 1 = .ok (.iload_n 1, 1) := by decide +kernel
theorem d_X6_take_2 : decode cX6_take 2 = .ok (.invokevirtual 99, 3) := by decide +kernel
theorem d_X6_take_5 : decode cX6_take 5 = .ok (.ifCond .eq 10, 3) := by decide +kernel
theorem d_X6_take_8 : decode cX6_take 8 = .ok (.iload_n 2, 1) := by decide +kernel
theorem d_X6_take_9 : decode cX6_take 9 = .ok (.invokestatic 167, 3) := by decide +kernel
theorem d_X6_take_12 : decode cX6_take 12 = .ok (.ifCond .ne 5, 3) := by decide +kernel
theorem d_X6_take_15 : decode cX6_take 15 = .ok (.iconst (-1), 1) := by decide +kernel
theorem d_X6_take_16 : decode cX6_take 16 = .ok (.ireturn, 1) := by decide +kernel
theorem d_X6_take_17 : decode cX6_take 17 = .ok (.aload_n 0, 1) := by decide +kernel
theorem d_X6_take_18 : decode cX6_take 18 = .ok (.getfield 31, 3) := by decide +kernel
theorem d_X6_take_21 : decode cX6_take 21 = .ok (.iload_n 1, 1) := by decide +kernel
theorem d_X6_take_22 : decode cX6_take 22 = .ok (.iconst 1, 1) := by decide +kernel
theorem d_X6_take_23 : decode cX6_take 23 = .ok (.invokevirtual 170, 3) := by decide +kernel
theorem d_X6_take_26 : decode cX6_take 26 = .ok (.ifCond .ne 6, 3) := by decide +kernel
theorem d_X6_take_29 : decode cX6_take 29 = .ok (.bipush (-2), 2) := by decide +kernel
theorem d_X6_take_31 : decode cX6_take 31 = .ok (.ireturn, 1) := by decide +kernel
theorem d_X6_take_32 : decode cX6_take 32 = .ok (.aload_n 0, 1) := by decide +kernel
theorem d_X6_take_33 : decode cX6_take 33 = .ok (.getfield 43, 3) := by decide +kernel
theorem d_X6_take_36 : decode cX6_take 36 = .ok (.aload_n 0, 1) := by decide +kernel
theorem d_X6_take_37 : decode cX6_take 37 = .ok (.getfield 31, 3) := by decide +kernel
theorem d_X6_take_40 : decode cX6_take 40 = .ok (.invokevirtual 160, 3) := by decide +kernel
theorem d_X6_take_43 : decode cX6_take 43 = .ok (.aload_n 0, 1) := by decide +kernel
theorem d_X6_take_44 : decode cX6_take 44 = .ok (.getfield 31, 3) := by decide +kernel
theorem d_X6_take_47 : decode cX6_take 47 = .ok (.iload_n 1, 1) := by decide +kernel
theorem d_X6_take_48 : decode cX6_take 48 = .ok (.iload_n 2, 1) := by decide +kernel
theorem d_X6_take_49 : decode cX6_take 49 = .ok (.invokevirtual 176, 3) := by decide +kernel
theorem d_X6_take_52 : decode cX6_take 52 = .ok (.aload_n 0, 1) := by decide +kernel
theorem d_X6_take_53 : decode cX6_take 53 = .ok (.getfield 31, 3) := by decide +kernel
theorem d_X6_take_56 : decode cX6_take 56 = .ok (.iload_n 1, 1) := by decide +kernel
theorem d_X6_take_57 : decode cX6_take 57 = .ok (.iconst 2, 1) := by decide +kernel
theorem d_X6_take_58 : decode cX6_take 58 = .ok (.invokevirtual 170, 3) := by decide +kernel
theorem d_X6_take_61 : decode cX6_take 61 = .ok (.ifCond .eq 7, 3) := by decide +kernel
theorem d_X6_take_64 : decode cX6_take 64 = .ok (.iconst 1, 1) := by decide +kernel
theorem d_X6_take_65 : decode cX6_take 65 = .ok (.goto 4, 3) := by decide +kernel
theorem d_X6_take_68 : decode cX6_take 68 = .ok (.iconst 0, 1) := by decide +kernel
theorem d_X6_take_69 : decode cX6_take 69 = .ok (.ireturn, 1) := by decide +kernel
def t_X6_take_0 : List (Nat × QO) := [(0, o_al 0 1), (1, o_il 1 2), (2, o_cV 1 6 86 2 2 5), (5, o_if (fun x => decide (x = 0)) 15 8), (8, o_il 2 9), (9, o_cS 1 90 1 1 12), (12, o_if (fun x => decide (x ≠ 0)) 17 15), (15, o_k (-1) 16), (16, o_ir false), (17, o_al 0 18), (18, o_gf 6 3 21), (21, o_il 1 22)]
theorem ts_X6_take_0 (sx : QX) : ∀ q ∈ t_X6_take_0, q_Snd sx RX6 cX6_take 3 (some .int) q.1 q.2 := List.forall_mem_cons.mpr ⟨s_aload_n d_X6_take_0 rfl, List.forall_mem_cons.mpr ⟨s_iload_n d_X6_take_1 rfl, List.forall_mem_cons.mpr ⟨s_cV (T := TX6) (N := 9) rfl d_X6_take_2 rfl k_2_170 k_2_172 k_0_7 k_1_1 k_2_173 ⟨by decide, by decide⟩ (by decide +kernel) (by decide), List.forall_mem_cons.mpr ⟨s_if_eq d_X6_take_5 (by decide), List.forall_mem_cons.mpr ⟨s_iload_n d_X6_take_8 rfl, List.forall_mem_cons.mpr ⟨s_cS rfl d_X6_take_9 k_3_27 k_2_81 k_1_1 k_2_82 ⟨by decide, by decide⟩ (by decide +kernel) (by decide), List.forall_mem_cons.mpr ⟨s_if_ne d_X6_take_12 (by decide), List.forall_mem_cons.mpr ⟨s_iconst d_X6_take_15 rfl, List.forall_mem_cons.mpr ⟨s_ir d_X6_take_16 rfl, List.forall_mem_cons.mpr ⟨s_aload_n d_X6_take_17 rfl, List.forall_mem_cons.mpr ⟨s_gf d_X6_take_18 rfl (by decide) n_X6 in_X6 rfl k_2_120, List.forall_mem_cons.mpr ⟨s_iload_n d_X6_take_21 rfl, fun _ h => absurd h List.not_mem_nil⟩⟩⟩⟩⟩⟩⟩⟩⟩⟩⟩⟩
def t_X6_take_1 : List (Nat × QO) := [(22, o_k 1 23), (23, o_cV 1 3 21 3 3 26), (26, o_if (fun x => decide (x ≠ 0)) 32 29), (29, o_k (-2) 31), (31, o_ir false), (32, o_al 0 33), (33, o_gf 6 5 36), (36, o_al 0 37), (37, o_gf 6 3 40), (40, o_cV 0 2 17 3 2 43), (43, o_al 0 44), (44, o_gf 6 3 47)]
theorem ts_X6_take_1 (sx : QX) : ∀ q ∈ t_X6_take_1, q_Snd sx RX6 cX6_take 3 (some .int) q.1 q.2 := List.forall_mem_cons.mpr ⟨s_iconst d_X6_take_22 rfl, List.forall_mem_cons.mpr ⟨s_cV (T := TX3) (N := 8) rfl d_X6_take_23 rfl k_3_28 k_3_29 k_3_30 k_1_4 k_3_31 ⟨by decide, by decide⟩ (by decide +kernel) (by decide), List.forall_mem_cons.mpr ⟨s_if_ne d_X6_take_26 (by decide), List.forall_mem_cons.mpr ⟨s_bipush d_X6_take_29 rfl, List.forall_mem_cons.mpr ⟨s_ir d_X6_take_31 rfl, List.forall_mem_cons.mpr ⟨s_aload_n d_X6_take_32 rfl, List.forall_mem_cons.mpr ⟨s_gf d_X6_take_33 rfl (by decide) n_X6 in_X6 rfl k_2_122, List.forall_mem_cons.mpr ⟨s_aload_n d_X6_take_36 rfl, List.forall_mem_cons.mpr ⟨s_gf d_X6_take_37 rfl (by decide) n_X6 in_X6 rfl k_2_120, List.forall_mem_cons.mpr ⟨s_cV (T := TX2) (N := 3) rfl d_X6_take_40 rfl k_2_234 k_2_235 k_2_236 k_1_5 k_2_237 ⟨by decide, by decide⟩ (by decide +kernel) (by decide), List.forall_mem_cons.mpr ⟨s_aload_n d_X6_take_43 rfl, List.forall_mem_cons.mpr ⟨s_gf d_X6_take_44 rfl (by decide) n_X6 in_X6 rfl k_2_120, fun _ h => absurd h List.not_mem_nil⟩⟩⟩⟩⟩⟩⟩⟩⟩⟩⟩⟩
def t_X6_take_2 : List (Nat × QO) := [(47, o_il 1 48), (48, o_il 2 49), (49, o_cV 0 3 34 3 3 52), (52, o_al 0 53), (53, o_gf 6 3 56), (56, o_il 1 57), (57, o_k 2 58), (58, o_cV 1 3 21 3 3 61), (61, o_if (fun x => decide (x = 0)) 68 64), (64, o_k 1 65), (65, o_goto 69), (68, o_k 0 69)]
theorem ts_X6_take_2 (sx : QX) : ∀ q ∈ t_X6_take_2, q_Snd sx RX6 cX6_take 3 (some .int) q.1 q.2 := List.forall_mem_cons.mpr ⟨s_iload_n d_X6_take_47 rfl, List.forall_mem_cons.mpr ⟨s_iload_n d_X6_take_48 rfl, List.forall_mem_cons.mpr ⟨s_cV (T := TX3) (N := 8) rfl d_X6_take_49 rfl k_3_40 k_3_41 k_3_42 k_1_4 k_3_43 ⟨by decide, by decide⟩ (by decide +kernel) (by decide), List.forall_mem_cons.mpr ⟨s_aload_n d_X6_take_52 rfl, List.forall_mem_cons.mpr ⟨s_gf d_X6_take_53 rfl (by decide) n_X6 in_X6 rfl k_2_120, List.forall_mem_cons.mpr ⟨s_iload_n d_X6_take_56 rfl, List.forall_mem_cons.mpr ⟨s_iconst d_X6_take_57 rfl, List.forall_mem_cons.mpr ⟨s_cV (T := TX3) (N := 8) rfl d_X6_take_58 rfl k_3_28 k_3_29 k_3_30 k_1_4 k_3_31 ⟨by decide, by decide⟩ (by decide +kernel) (by decide), List.forall_mem_cons.mpr ⟨s_if_eq d_X6_take_61 (by decide), List.forall_mem_cons.mpr ⟨s_iconst d_X6_take_64 rfl, List.forall_mem_cons.mpr ⟨s_goto d_X6_take_65 (by decide), List.forall_mem_cons.mpr ⟨s_iconst d_X6_take_68 rfl, fun _ h => absurd h List.not_mem_nil⟩⟩⟩⟩⟩⟩⟩⟩⟩⟩⟩⟩
def t_X6_take_3 : List (Nat × QO) := [(69, o_ir false)]
theorem ts_X6_take_3 (sx : QX) : ∀ q ∈ t_X6_take_3, q_Snd sx RX6 cX6_take 3 (some .int) q.1 q.2 := List.forall_mem_cons.mpr ⟨s_ir d_X6_take_69 rfl, fun _ h => absurd h List.not_mem_nil⟩
def t_X6_take (pc : Nat) : Option QO := cond (Nat.ble pc 44) (cond (Nat.ble pc 21) (q_look (t_X6_take_0) pc) (q_look (t_X6_take_1) pc)) (cond (Nat.ble pc 68) (q_look (t_X6_take_2) pc) (q_look (t_X6_take_3) pc))
theorem ts_X6_take (sx : QX) (pc : Nat) : ∀ o, t_X6_take pc = some o → q_Snd sx RX6 cX6_take 3 (some .int) pc o := by
  unfold t_X6_take
  exact q_cb (q_cb (q_look_all (ts_X6_take_0 sx)) (q_look_all (ts_X6_take_1 sx))) (q_cb (q_look_all (ts_X6_take_2 sx)) (q_look_all (ts_X6_take_3 sx)))
theorem d_X6_pass_0 : decode cX6_pass 0 = .ok (.iload_n 1, 1) := by decide +kernel
theorem d_X6_pass_1 : decode cX6_pass 1 = .ok (.iconst 1, 1) := by decide +kernel
theorem d_X6_pass_2 : decode cX6_pass 2 = .ok (.if_icmp .lt 9, 3) := by decide +kernel
theorem d_X6_pass_5 : decode cX6_pass 5 = .ok (.iload_n 1, 1) := by decide +kernel
theorem d_X6_pass_6 : decode cX6_pass 6 = .ok (.bipush 20, 2) := by decide +kernel
theorem d_X6_pass_8 : decode cX6_pass 8 = .ok (.if_icmp .le 5, 3) := by decide +kernel
theorem d_X6_pass_11 : decode cX6_pass 11 = .ok (.iconst (-1), 1) := by decide +kernel
theorem d_X6_pass_12 : decode cX6_pass 12 = .ok (.ireturn, 1) := by decide +kernel
theorem d_X6_pass_13 : decode cX6_pass 13 = .ok (.aload_n 0, 1) := by decide +kernel
theorem d_X6_pass_14 : decode cX6_pass 14 = .ok (.getfield 43, 3) := by decide +kernel
theorem d_X6_pass_17 : decode cX6_pass 17 = .ok (.aload_n 0, 1) := by decide +kernel
theorem d_X6_pass_18 : decode cX6_pass 18 = .ok (.getfield 31, 3) := by decide +kernel
theorem d_X6_pass_21 : decode cX6_pass 21 = .ok (.invokevirtual 160, 3) := by decide +kernel
theorem d_X6_pass_24 : decode cX6_pass 24 = .ok (.iconst 0, 1) := by decide +kernel
theorem d_X6_pass_25 : decode cX6_pass 25 = .ok (.istore_n 2, 1) := by decide +kernel
theorem d_X6_pass_26 : decode cX6_pass 26 = .ok (.iload_n 2, 1) := by decide +kernel
theorem d_X6_pass_27 : decode cX6_pass 27 = .ok (.iload_n 1, 1) := by decide +kernel
theorem d_X6_pass_28 : decode cX6_pass 28 = .ok (.if_icmp .ge 16, 3) := by decide +kernel
theorem d_X6_pass_31 : decode cX6_pass 31 = .ok (.aload_n 0, 1) := by decide +kernel
theorem d_X6_pass_32 : decode cX6_pass 32 = .ok (.getfield 31, 3) := by decide +kernel
theorem d_X6_pass_35 : decode cX6_pass 35 = .ok (.invokevirtual 180, 3) := by decide +kernel
theorem d_X6_pass_38 : decode cX6_pass 38 = .ok (.iinc 2 1, 3) := by decide +kernel
theorem d_X6_pass_41 : decode cX6_pass 41 = .ok (.goto (-15), 3) := by decide +kernel
theorem d_X6_pass_44 : decode cX6_pass 44 = .ok (.aload_n 0, 1) := by decide +kernel
theorem d_X6_pass_45 : decode cX6_pass 45 = .ok (.getfield 31, 3) := by decide +kernel
theorem d_X6_pass_48 : decode cX6_pass 48 = .ok (.getfield 183, 3) := by decide +kernel
theorem d_X6_pass_51 : decode cX6_pass 51 = .ok (.ireturn, 1) := by decide +kernel
def t_X6_pass_0 : List (Nat × QO) := [(0, o_il 1 1), (1, o_k 1 2), (2, o_ic (fun x y => decide (x < y)) 11 5), (5, o_il 1 6), (6, o_k 20 8), (8, o_ic (fun x y => decide (x ≤ y)) 13 11), (11, o_k (-1) 12), (12, o_ir false), (13, o_al 0 14), (14, o_gf 6 5 17), (17, o_al 0 18), (18, o_gf 6 3 21)]
theorem ts_X6_pass_0 (sx : QX) : ∀ q ∈ t_X6_pass_0, q_Snd sx RX6 cX6_pass 3 (some .int) q.1 q.2 := List.forall_mem_cons.mpr ⟨s_iload_n d_X6_pass_0 rfl, List.forall_mem_cons.mpr ⟨s_iconst d_X6_pass_1 rfl, List.forall_mem_cons.mpr ⟨s_ic_lt d_X6_pass_2 (by decide), List.forall_mem_cons.mpr ⟨s_iload_n d_X6_pass_5 rfl, List.forall_mem_cons.mpr ⟨s_bipush d_X6_pass_6 rfl, List.forall_mem_cons.mpr ⟨s_ic_le d_X6_pass_8 (by decide), List.forall_mem_cons.mpr ⟨s_iconst d_X6_pass_11 rfl, List.forall_mem_cons.mpr ⟨s_ir d_X6_pass_12 rfl, List.forall_mem_cons.mpr ⟨s_aload_n d_X6_pass_13 rfl, List.forall_mem_cons.mpr ⟨s_gf d_X6_pass_14 rfl (by decide) n_X6 in_X6 rfl k_2_122, List.forall_mem_cons.mpr ⟨s_aload_n d_X6_pass_17 rfl, List.forall_mem_cons.mpr ⟨s_gf d_X6_pass_18 rfl (by decide) n_X6 in_X6 rfl k_2_120, fun _ h => absurd h List.not_mem_nil⟩⟩⟩⟩⟩⟩⟩⟩⟩⟩⟩⟩
def t_X6_pass_1 : List (Nat × QO) := [(21, o_cV 0 2 17 3 2 24), (24, o_k 0 25), (25, o_is 2 26), (26, o_il 2 27), (27, o_il 1 28), (28, o_ic (fun x y => decide (y ≤ x)) 44 31), (31, o_al 0 32), (32, o_gf 6 3 35), (35, o_cV 0 3 37 2 1 38), (38, o_inc 2 1 41), (41, o_goto 26), (44, o_al 0 45)]
theorem ts_X6_pass_1 (sx : QX) : ∀ q ∈ t_X6_pass_1, q_Snd sx RX6 cX6_pass 3 (some .int) q.1 q.2 := List.forall_mem_cons.mpr ⟨s_cV (T := TX2) (N := 3) rfl d_X6_pass_21 rfl k_2_234 k_2_235 k_2_236 k_1_5 k_2_237 ⟨by decide, by decide⟩ (by decide +kernel) (by decide), List.forall_mem_cons.mpr ⟨s_iconst d_X6_pass_24 rfl, List.forall_mem_cons.mpr ⟨s_istore_n d_X6_pass_25 rfl (by decide), List.forall_mem_cons.mpr ⟨s_iload_n d_X6_pass_26 rfl, List.forall_mem_cons.mpr ⟨s_iload_n d_X6_pass_27 rfl, List.forall_mem_cons.mpr ⟨s_ic_ge d_X6_pass_28 (by decide), List.forall_mem_cons.mpr ⟨s_aload_n d_X6_pass_31 rfl, List.forall_mem_cons.mpr ⟨s_gf d_X6_pass_32 rfl (by decide) n_X6 in_X6 rfl k_2_120, List.forall_mem_cons.mpr ⟨s_cV (T := TX3) (N := 8) rfl d_X6_pass_35 rfl k_3_57 k_3_58 k_3_59 k_1_4 k_3_60 ⟨by decide, by decide⟩ (by decide +kernel) (by decide), List.forall_mem_cons.mpr ⟨s_iinc d_X6_pass_38 rfl (by decide), List.forall_mem_cons.mpr ⟨s_goto d_X6_pass_41 (by decide), List.forall_mem_cons.mpr ⟨s_aload_n d_X6_pass_44 rfl, fun _ h => absurd h List.not_mem_nil⟩⟩⟩⟩⟩⟩⟩⟩⟩⟩⟩⟩
def t_X6_pass_2 : List (Nat × QO) := [(45, o_gf 6 3 48), (48, o_gf 3 1 51), (51, o_ir false)]
theorem ts_X6_pass_2 (sx : QX) : ∀ q ∈ t_X6_pass_2, q_Snd sx RX6 cX6_pass 3 (some .int) q.1 q.2 := List.forall_mem_cons.mpr ⟨s_gf d_X6_pass_45 rfl (by decide) n_X6 in_X6 rfl k_2_120, List.forall_mem_cons.mpr ⟨s_gf d_X6_pass_48 rfl (by decide) n_X3 in_X3 rfl k_1_118, List.forall_mem_cons.mpr ⟨s_ir d_X6_pass_51 rfl, fun _ h => absurd h List.not_mem_nil⟩⟩⟩
def t_X6_pass (pc : Nat) : Option QO := cond (Nat.ble pc 18) (q_look (t_X6_pass_0) pc) (cond (Nat.ble pc 44) (q_look (t_X6_pass_1) pc) (q_look (t_X6_pass_2) pc))
theorem ts_X6_pass (sx : QX) (pc : Nat) : ∀ o, t_X6_pass pc = some o → q_Snd sx RX6 cX6_pass 3 (some .int) pc o := by
  unfold t_X6_pass
  exact q_cb (q_look_all (ts_X6_pass_0 sx)) (q_cb (q_look_all (ts_X6_pass_1 sx)) (q_look_all (ts_X6_pass_2 sx)))
theorem d_X6_undo_0 : decode cX6_undo 0 = .ok (.aload_n 0, 1) := by decide +kernel
theorem d_X6_undo_1 : decode cX6_undo 1 = .ok (.getfield 43, 3) := by decide +kernel
theorem d_X6_undo_4 : decode cX6_undo 4 = .ok (.aload_n 0, 1) := by decide +kernel
theorem d_X6_undo_5 : decode cX6_undo 5 = .ok (.getfield 31, 3) := by decide +kernel
theorem d_X6_undo_8 : decode cX6_undo 8 = .ok (.invokevirtual 186, 3) := by decide +kernel
theorem d_X6_undo_11 : decode cX6_undo 11 = .ok (.ifCond .eq 13, 3) := by decide +kernel
theorem d_X6_undo_14 : decode cX6_undo 14 = .ok (.aload_n 0, 1) := by decide +kernel
theorem d_X6_undo_15 : decode cX6_undo 15 = .ok (.getfield 43, 3) := by decide +kernel
theorem d_X6_undo_18 : decode cX6_undo 18 = .ok (.getfield 190, 3) := by decide +kernel
theorem d_X6_undo_21 : decode cX6_undo 21 = .ok (.goto 5, 3) := by decide +kernel
theorem d_X6_undo_24 : decode cX6_undo 24 = .ok (.bipush (-2), 2) := by decide +kernel
theorem d_X6_undo_26 : decode cX6_undo 26 = .ok (.ireturn, 1) := by decide +kernel
def t_X6_undo_0 : List (Nat × QO) := [(0, o_al 0 1), (1, o_gf 6 5 4), (4, o_al 0 5), (5, o_gf 6 3 8), (8, o_cV 1 2 18 4 2 11), (11, o_if (fun x => decide (x = 0)) 24 14), (14, o_al 0 15), (15, o_gf 6 5 18), (18, o_gf 2 2 21), (21, o_goto 26), (24, o_k (-2) 26), (26, o_ir false)]
theorem ts_X6_undo_0 (sx : QX) : ∀ q ∈ t_X6_undo_0, q_Snd sx RX6 cX6_undo 1 (some .int) q.1 q.2 := List.forall_mem_cons.mpr ⟨s_aload_n d_X6_undo_0 rfl, List.forall_mem_cons.mpr ⟨s_gf d_X6_undo_1 rfl (by decide) n_X6 in_X6 rfl k_2_122, List.forall_mem_cons.mpr ⟨s_aload_n d_X6_undo_4 rfl, List.forall_mem_cons.mpr ⟨s_gf d_X6_undo_5 rfl (by decide) n_X6 in_X6 rfl k_2_120, List.forall_mem_cons.mpr ⟨s_cV (T := TX2) (N := 3) rfl d_X6_undo_8 rfl k_3_69 k_3_70 k_3_71 k_1_5 k_3_72 ⟨by decide, by decide⟩ (by decide +kernel) (by decide), List.forall_mem_cons.mpr ⟨s_if_eq d_X6_undo_11 (by decide), List.forall_mem_cons.mpr ⟨s_aload_n d_X6_undo_14 rfl, List.forall_mem_cons.mpr ⟨s_gf d_X6_undo_15 rfl (by decide) n_X6 in_X6 rfl k_2_122, List.forall_mem_cons.mpr ⟨s_gf d_X6_undo_18 rfl (by decide) n_X2 in_X2 rfl k_1_160, List.forall_mem_cons.mpr ⟨s_goto d_X6_undo_21 (by decide), List.forall_mem_cons.mpr ⟨s_bipush d_X6_undo_24 rfl, List.forall_mem_cons.mpr ⟨s_ir d_X6_undo_26 rfl, fun _ h => absurd h List.not_mem_nil⟩⟩⟩⟩⟩⟩⟩⟩⟩⟩⟩⟩
def t_X6_undo (pc : Nat) : Option QO := q_look (t_X6_undo_0) pc
theorem ts_X6_undo (sx : QX) (pc : Nat) : ∀ o, t_X6_undo pc = some o → q_Snd sx RX6 cX6_undo 1 (some .int) pc o := by
  unfold t_X6_undo
  exact q_look_all (ts_X6_undo_0 sx)
theorem d_X6_least_0 : decode cX6_least 0 = .ok (.aload_n 0, 1) := by decide +kernel
theorem d_X6_least_1 : decode cX6_least 1 = .ok (.iload_n 1, 1) := by decide +kernel
theorem d_X6_least_2 : decode cX6_least 2 = .ok (.invokevirtual 99, 3) := by decide +kernel
theorem d_X6_least_5 : decode cX6_least 5 = .ok (.ifCond .eq 8, 3) := by decide +kernel
theorem d_X6_least_8 : decode cX6_least 8 = .ok (.iload_n 2, 1) := by decide +kernel
theorem d_X6_least_9 : decode cX6_least 9 = .ok (.iconst (-1), 1) := by decide +kernel
theorem d_X6_least_10 : decode cX6_least 10 = .ok (.if_icmp .ge 5, 3) := by decide +kernel
theorem d_X6_least_13 : decode cX6_least 13 = .ok (.iconst (-1), 1) := by decide +kernel
theorem d_X6_least_14 : decode cX6_least 14 = .ok (.ireturn, 1) := by decide +kernel
theorem d_X6_least_15 : decode cX6_least 15 = .ok (.aload_n 0, 1) := by decide +kernel
theorem d_X6_least_16 : decode cX6_least 16 = .ok (.getfield 31, 3) := by decide +kernel
theorem d_X6_least_19 : decode cX6_least 19 = .ok (.iload_n 1, 1) := by decide +kernel
theorem d_X6_least_20 : decode cX6_least 20 = .ok (.iconst 0, 1) := by decide +kernel
theorem d_X6_least_21 : decode cX6_least 21 = .ok (.invokevirtual 170, 3) := by decide +kernel
theorem d_X6_least_24 : decode cX6_least 24 = .ok (.ifCond .ne 6, 3) := by decide +kernel
theorem d_X6_least_27 : decode cX6_least 27 = .ok (.bipush (-2), 2) := by decide +kernel
theorem d_X6_least_29 : decode cX6_least 29 = .ok (.ireturn, 1) := by decide +kernel
theorem d_X6_least_30 : decode cX6_least 30 = .ok (.aload_n 0, 1) := by decide +kernel
theorem d_X6_least_31 : decode cX6_least 31 = .ok (.getfield 35, 3) := by decide +kernel
theorem d_X6_least_34 : decode cX6_least 34 = .ok (.aload_n 0, 1) := by decide +kernel
theorem d_X6_least_35 : decode cX6_least 35 = .ok (.getfield 31, 3) := by decide +kernel
theorem d_X6_least_38 : decode cX6_least 38 = .ok (.invokevirtual 193, 3) := by decide +kernel
theorem d_X6_least_41 : decode cX6_least 41 = .ok (.aload_n 0, 1) := by decide +kernel
theorem d_X6_least_42 : decode cX6_least 42 = .ok (.getfield 55, 3) := by decide +kernel
theorem d_X6_least_45 : decode cX6_least 45 = .ok (.iload_n 1, 1) := by decide +kernel
theorem d_X6_least_46 : decode cX6_least 46 = .ok (.invokevirtual 196, 3) := by decide +kernel
theorem d_X6_least_49 : decode cX6_least 49 = .ok (.istore_n 3, 1) := by decide +kernel
theorem d_X6_least_50 : decode cX6_least 50 = .ok (.iload_n 3, 1) := by decide +kernel
theorem d_X6_least_51 : decode cX6_least 51 = .ok (.ifCond .eq 8, 3) := by decide +kernel
theorem d_X6_least_54 : decode cX6_least 54 = .ok (.iload_n 2, 1) := by decide +kernel
theorem d_X6_least_55 : decode cX6_least 55 = .ok (.iload_n 3, 1) := by decide +kernel
theorem d_X6_least_56 : decode cX6_least 56 = .ok (.if_icmp .lt 6, 3) := by decide +kernel
theorem d_X6_least_59 : decode cX6_least 59 = .ok (.bipush (-4), 2) := by decide +kernel
theorem d_X6_least_61 : decode cX6_least 61 = .ok (.ireturn, 1) := by decide +kernel
theorem d_X6_least_62 : decode cX6_least 62 = .ok (.iload_n 2, 1) := by decide +kernel
theorem d_X6_least_63 : decode cX6_least 63 = .ok (.iconst (-1), 1) := by decide +kernel
theorem d_X6_least_64 : decode cX6_least 64 = .ok (.if_icmp .ne 7, 3) := by decide +kernel
theorem d_X6_least_67 : decode cX6_least 67 = .ok (.iload_n 3, 1) := by decide +kernel
theorem d_X6_least_68 : decode cX6_least 68 = .ok (.goto 14, 3) := by decide +kernel
theorem d_X6_least_71 : decode cX6_least 71 = .ok (.aload_n 0, 1) := by decide +kernel
theorem d_X6_least_72 : decode cX6_least 72 = .ok (.getfield 55, 3) := by decide +kernel
theorem d_X6_least_75 : decode cX6_least 75 = .ok (.getfield 200, 3) := by decide +kernel
theorem d_X6_least_78 : decode cX6_least 78 = .ok (.iload_n 2, 1) := by decide +kernel
theorem d_X6_least_79 : decode cX6_least 79 = .ok (.invokestatic 107, 3) := by decide +kernel
theorem d_X6_least_82 : decode cX6_least 82 = .ok (.ireturn, 1) := by decide +kernel
def t_X6_least_0 : List (Nat × QO) := [(0, o_al 0 1), (1, o_il 1 2), (2, o_cV 1 6 86 2 2 5), (5, o_if (fun x => decide (x = 0)) 13 8), (8, o_il 2 9), (9, o_k (-1) 10), (10, o_ic (fun x y => decide (y ≤ x)) 15 13), (13, o_k (-1) 14), (14, o_ir false), (15, o_al 0 16), (16, o_gf 6 3 19), (19, o_il 1 20)]
theorem ts_X6_least_0 (sx : QX) : ∀ q ∈ t_X6_least_0, q_Snd sx RX6 cX6_least 4 (some .int) q.1 q.2 := List.forall_mem_cons.mpr ⟨s_aload_n d_X6_least_0 rfl, List.forall_mem_cons.mpr ⟨s_iload_n d_X6_least_1 rfl, List.forall_mem_cons.mpr ⟨s_cV (T := TX6) (N := 9) rfl d_X6_least_2 rfl k_2_170 k_2_172 k_0_7 k_1_1 k_2_173 ⟨by decide, by decide⟩ (by decide +kernel) (by decide), List.forall_mem_cons.mpr ⟨s_if_eq d_X6_least_5 (by decide), List.forall_mem_cons.mpr ⟨s_iload_n d_X6_least_8 rfl, List.forall_mem_cons.mpr ⟨s_iconst d_X6_least_9 rfl, List.forall_mem_cons.mpr ⟨s_ic_ge d_X6_least_10 (by decide), List.forall_mem_cons.mpr ⟨s_iconst d_X6_least_13 rfl, List.forall_mem_cons.mpr ⟨s_ir d_X6_least_14 rfl, List.forall_mem_cons.mpr ⟨s_aload_n d_X6_least_15 rfl, List.forall_mem_cons.mpr ⟨s_gf d_X6_least_16 rfl (by decide) n_X6 in_X6 rfl k_2_120, List.forall_mem_cons.mpr ⟨s_iload_n d_X6_least_19 rfl, fun _ h => absurd h List.not_mem_nil⟩⟩⟩⟩⟩⟩⟩⟩⟩⟩⟩⟩
def t_X6_least_1 : List (Nat × QO) := [(20, o_k 0 21), (21, o_cV 1 3 21 3 3 24), (24, o_if (fun x => decide (x ≠ 0)) 30 27), (27, o_k (-2) 29), (29, o_ir false), (30, o_al 0 31), (31, o_gf 6 4 34), (34, o_al 0 35), (35, o_gf 6 3 38), (38, o_cV 0 3 20 2 2 41), (41, o_al 0 42), (42, o_gf 6 7 45)]
theorem ts_X6_least_1 (sx : QX) : ∀ q ∈ t_X6_least_1, q_Snd sx RX6 cX6_least 4 (some .int) q.1 q.2 := List.forall_mem_cons.mpr ⟨s_iconst d_X6_least_20 rfl, List.forall_mem_cons.mpr ⟨s_cV (T := TX3) (N := 8) rfl d_X6_least_21 rfl k_3_28 k_3_29 k_3_30 k_1_4 k_3_31 ⟨by decide, by decide⟩ (by decide +kernel) (by decide), List.forall_mem_cons.mpr ⟨s_if_ne d_X6_least_24 (by decide), List.forall_mem_cons.mpr ⟨s_bipush d_X6_least_27 rfl, List.forall_mem_cons.mpr ⟨s_ir d_X6_least_29 rfl, List.forall_mem_cons.mpr ⟨s_aload_n d_X6_least_30 rfl, List.forall_mem_cons.mpr ⟨s_gf d_X6_least_31 rfl (by decide) n_X6 in_X6 rfl k_2_121, List.forall_mem_cons.mpr ⟨s_aload_n d_X6_least_34 rfl, List.forall_mem_cons.mpr ⟨s_gf d_X6_least_35 rfl (by decide) n_X6 in_X6 rfl k_2_120, List.forall_mem_cons.mpr ⟨s_cV (T := TX3) (N := 8) rfl d_X6_least_38 rfl k_3_77 k_3_2 k_3_3 k_1_4 k_3_4 ⟨by decide, by decide⟩ (by decide +kernel) (by decide), List.forall_mem_cons.mpr ⟨s_aload_n d_X6_least_41 rfl, List.forall_mem_cons.mpr ⟨s_gf d_X6_least_42 rfl (by decide) n_X6 in_X6 rfl k_2_124, fun _ h => absurd h List.not_mem_nil⟩⟩⟩⟩⟩⟩⟩⟩⟩⟩⟩⟩
def t_X6_least_2 : List (Nat × QO) := [(45, o_il 1 46), (46, o_cV 1 4 47 3 2 49), (49, o_is 3 50), (50, o_il 3 51), (51, o_if (fun x => decide (x = 0)) 59 54), (54, o_il 2 55), (55, o_il 3 56), (56, o_ic (fun x y => decide (x < y)) 62 59), (59, o_k (-4) 61), (61, o_ir false), (62, o_il 2 63), (63, o_k (-1) 64)]
theorem ts_X6_least_2 (sx : QX) : ∀ q ∈ t_X6_least_2, q_Snd sx RX6 cX6_least 4 (some .int) q.1 q.2 := List.forall_mem_cons.mpr ⟨s_iload_n d_X6_least_45 rfl, List.forall_mem_cons.mpr ⟨s_cV (T := TX4) (N := 2) rfl d_X6_least_46 rfl k_3_78 k_3_79 k_3_80 k_1_6 k_3_81 ⟨by decide, by decide⟩ (by decide +kernel) (by decide), List.forall_mem_cons.mpr ⟨s_istore_n d_X6_least_49 rfl (by decide), List.forall_mem_cons.mpr ⟨s_iload_n d_X6_least_50 rfl, List.forall_mem_cons.mpr ⟨s_if_eq d_X6_least_51 (by decide), List.forall_mem_cons.mpr ⟨s_iload_n d_X6_least_54 rfl, List.forall_mem_cons.mpr ⟨s_iload_n d_X6_least_55 rfl, List.forall_mem_cons.mpr ⟨s_ic_lt d_X6_least_56 (by decide), List.forall_mem_cons.mpr ⟨s_bipush d_X6_least_59 rfl, List.forall_mem_cons.mpr ⟨s_ir d_X6_least_61 rfl, List.forall_mem_cons.mpr ⟨s_iload_n d_X6_least_62 rfl, List.forall_mem_cons.mpr ⟨s_iconst d_X6_least_63 rfl, fun _ h => absurd h List.not_mem_nil⟩⟩⟩⟩⟩⟩⟩⟩⟩⟩⟩⟩
def t_X6_least_3 : List (Nat × QO) := [(64, o_ic (fun x y => decide (x ≠ y)) 71 67), (67, o_il 3 68), (68, o_goto 82), (71, o_al 0 72), (72, o_gf 6 7 75), (75, o_gf 4 1 78), (78, o_il 2 79), (79, o_cS 1 97 2 2 82), (82, o_ir false)]
theorem ts_X6_least_3 (sx : QX) : ∀ q ∈ t_X6_least_3, q_Snd sx RX6 cX6_least 4 (some .int) q.1 q.2 := List.forall_mem_cons.mpr ⟨s_ic_ne d_X6_least_64 (by decide), List.forall_mem_cons.mpr ⟨s_iload_n d_X6_least_67 rfl, List.forall_mem_cons.mpr ⟨s_goto d_X6_least_68 (by decide), List.forall_mem_cons.mpr ⟨s_aload_n d_X6_least_71 rfl, List.forall_mem_cons.mpr ⟨s_gf d_X6_least_72 rfl (by decide) n_X6 in_X6 rfl k_2_124, List.forall_mem_cons.mpr ⟨s_gf d_X6_least_75 rfl (by decide) n_X4 in_X4 rfl k_1_176, List.forall_mem_cons.mpr ⟨s_iload_n d_X6_least_78 rfl, List.forall_mem_cons.mpr ⟨s_cS rfl d_X6_least_79 k_2_174 k_2_57 k_1_1 k_2_58 ⟨by decide, by decide⟩ (by decide +kernel) (by decide), List.forall_mem_cons.mpr ⟨s_ir d_X6_least_82 rfl, fun _ h => absurd h List.not_mem_nil⟩⟩⟩⟩⟩⟩⟩⟩⟩
def t_X6_least (pc : Nat) : Option QO := cond (Nat.ble pc 42) (cond (Nat.ble pc 19) (q_look (t_X6_least_0) pc) (q_look (t_X6_least_1) pc)) (cond (Nat.ble pc 63) (q_look (t_X6_least_2) pc) (q_look (t_X6_least_3) pc))
theorem ts_X6_least (sx : QX) (pc : Nat) : ∀ o, t_X6_least pc = some o → q_Snd sx RX6 cX6_least 4 (some .int) pc o := by
  unfold t_X6_least
  exact q_cb (q_cb (q_look_all (ts_X6_least_0 sx)) (q_look_all (ts_X6_least_1 sx))) (q_cb (q_look_all (ts_X6_least_2 sx)) (q_look_all (ts_X6_least_3 sx)))
theorem d_X6_best_0 : decode cX6_best 0 = .ok (.aload_n 0, 1) := by decide +kernel
theorem d_X6_best_1 : decode cX6_best 1 = .ok (.iload_n 1, 1) := by decide +kernel
theorem d_X6_best_2 : decode cX6_best 2 = .ok (.invokevirtual 99, 3) := by decide +kernel
theorem d_X6_best_5 : decode cX6_best 5 = .ok (.ifCond .ne 5, 3) := by decide +kernel
theorem d_X6_best_8 : decode cX6_best 8 = .ok (.iconst (-1), 1) := by decide +kernel
theorem d_X6_best_9 : decode cX6_best 9 = .ok (.ireturn, 1) := by decide +kernel
theorem d_X6_best_10 : decode cX6_best 10 = .ok (.aload_n 0, 1) := by decide +kernel
theorem d_X6_best_11 : decode cX6_best 11 = .ok (.getfield 31, 3) := by decide +kernel
theorem d_X6_best_14 : decode cX6_best 14 = .ok (.iload_n 1, 1) := by decide +kernel
theorem d_X6_best_15 : decode cX6_best 15 = .ok (.iconst 0, 1) := by decide +kernel
theorem d_X6_best_16 : decode cX6_best 16 = .ok (.invokevirtual 170, 3) := by decide +kernel
theorem d_X6_best_19 : decode cX6_best 19 = .ok (.ifCond .eq 14, 3) := by decide +kernel
theorem d_X6_best_22 : decode cX6_best 22 = .ok (.aload_n 0, 1) := by decide +kernel
theorem d_X6_best_23 : decode cX6_best 23 = .ok (.getfield 31, 3) := by decide +kernel
theorem d_X6_best_26 : decode cX6_best 26 = .ok (.iload_n 1, 1) := by decide +kernel
theorem d_X6_best_27 : decode cX6_best 27 = .ok (.invokevirtual 203, 3) := by decide +kernel
theorem d_X6_best_30 : decode cX6_best 30 = .ok (.goto 5, 3) := by decide +kernel
theorem d_X6_best_33 : decode cX6_best 33 = .ok (.bipush (-2), 2) := by decide +kernel
theorem d_X6_best_35 : decode cX6_best 35 = .ok (.ireturn, 1) := by decide +kernel
def t_X6_best_0 : List (Nat × QO) := [(0, o_al 0 1), (1, o_il 1 2), (2, o_cV 1 6 86 2 2 5), (5, o_if (fun x => decide (x ≠ 0)) 10 8), (8, o_k (-1) 9), (9, o_ir false), (10, o_al 0 11), (11, o_gf 6 3 14), (14, o_il 1 15), (15, o_k 0 16), (16, o_cV 1 3 21 3 3 19), (19, o_if (fun x => decide (x = 0)) 33 22)]
theorem ts_X6_best_0 (sx : QX) : ∀ q ∈ t_X6_best_0, q_Snd sx RX6 cX6_best 2 (some .int) q.1 q.2 := List.forall_mem_cons.mpr ⟨s_aload_n d_X6_best_0 rfl, List.forall_mem_cons.mpr ⟨s_iload_n d_X6_best_1 rfl, List.forall_mem_cons.mpr ⟨s_cV (T := TX6) (N := 9) rfl d_X6_best_2 rfl k_2_170 k_2_172 k_0_7 k_1_1 k_2_173 ⟨by decide, by decide⟩ (by decide +kernel) (by decide), List.forall_mem_cons.mpr ⟨s_if_ne d_X6_best_5 (by decide), List.forall_mem_cons.mpr ⟨s_iconst d_X6_best_8 rfl, List.forall_mem_cons.mpr ⟨s_ir d_X6_best_9 rfl, List.forall_mem_cons.mpr ⟨s_aload_n d_X6_best_10 rfl, List.forall_mem_cons.mpr ⟨s_gf d_X6_best_11 rfl (by decide) n_X6 in_X6 rfl k_2_120, List.forall_mem_cons.mpr ⟨s_iload_n d_X6_best_14 rfl, List.forall_mem_cons.mpr ⟨s_iconst d_X6_best_15 rfl, List.forall_mem_cons.mpr ⟨s_cV (T := TX3) (N := 8) rfl d_X6_best_16 rfl k_3_28 k_3_29 k_3_30 k_1_4 k_3_31 ⟨by decide, by decide⟩ (by decide +kernel) (by decide), List.forall_mem_cons.mpr ⟨s_if_eq d_X6_best_19 (by decide), fun _ h => absurd h List.not_mem_nil⟩⟩⟩⟩⟩⟩⟩⟩⟩⟩⟩⟩
def t_X6_best_1 : List (Nat × QO) := [(22, o_al 0 23), (23, o_gf 6 3 26), (26, o_il 1 27), (27, o_cV 1 3 38 7 2 30), (30, o_goto 35), (33, o_k (-2) 35), (35, o_ir false)]
theorem ts_X6_best_1 (sx : QX) : ∀ q ∈ t_X6_best_1, q_Snd sx RX6 cX6_best 2 (some .int) q.1 q.2 := List.forall_mem_cons.mpr ⟨s_aload_n d_X6_best_22 rfl, List.forall_mem_cons.mpr ⟨s_gf d_X6_best_23 rfl (by decide) n_X6 in_X6 rfl k_2_120, List.forall_mem_cons.mpr ⟨s_iload_n d_X6_best_26 rfl, List.forall_mem_cons.mpr ⟨s_cV (T := TX3) (N := 8) rfl d_X6_best_27 rfl k_3_109 k_3_90 k_3_91 k_1_4 k_3_92 ⟨by decide, by decide⟩ (by decide +kernel) (by decide), List.forall_mem_cons.mpr ⟨s_goto d_X6_best_30 (by decide), List.forall_mem_cons.mpr ⟨s_bipush d_X6_best_33 rfl, List.forall_mem_cons.mpr ⟨s_ir d_X6_best_35 rfl, fun _ h => absurd h List.not_mem_nil⟩⟩⟩⟩⟩⟩⟩
def t_X6_best (pc : Nat) : Option QO := cond (Nat.ble pc 19) (q_look (t_X6_best_0) pc) (q_look (t_X6_best_1) pc)
theorem ts_X6_best (sx : QX) (pc : Nat) : ∀ o, t_X6_best pc = some o → q_Snd sx RX6 cX6_best 2 (some .int) pc o := by
  unfold t_X6_best
  exact q_cb (q_look_all (ts_X6_best_0 sx)) (q_look_all (ts_X6_best_1 sx))
theorem d_X6_order_0 : decode cX6_order 0 = .ok (.iload_n 1, 1) := by decide +kernel
theorem d_X6_order_1 : decode cX6_order 1 = .ok (.iconst (-1), 1) := by decide +kernel
theorem d_X6_order_2 : decode cX6_order 2 = .ok (.if_icmp .ge 5, 3) := by decide +kernel
theorem d_X6_order_5 : decode cX6_order 5 = .ok (.iconst (-1), 1) := by decide +kernel
theorem d_X6_order_6 : decode cX6_order 6 = .ok (.ireturn, 1) := by decide +kernel
theorem d_X6_order_7 : decode cX6_order 7 = .ok (.aload_n 0, 1) := by decide +kernel
theorem d_X6_order_8 : decode cX6_order 8 = .ok (.getfield 62, 3) := by decide +kernel
theorem d_X6_order_11 : decode cX6_order 11 = .ok (.aload_n 0, 1) := by decide +kernel
theorem d_X6_order_12 : decode cX6_order 12 = .ok (.getfield 31, 3) := by decide +kernel
theorem d_X6_order_15 : decode cX6_order 15 = .ok (.invokevirtual 206, 3) := by decide +kernel
theorem d_X6_order_18 : decode cX6_order 18 = .ok (.iload_n 1, 1) := by decide +kernel
theorem d_X6_order_19 : decode cX6_order 19 = .ok (.iconst (-1), 1) := by decide +kernel
theorem d_X6_order_20 : decode cX6_order 20 = .ok (.if_icmp .ne 11, 3) := by decide +kernel
theorem d_X6_order_23 : decode cX6_order 23 = .ok (.aload_n 0, 1) := by decide +kernel
theorem d_X6_order_24 : decode cX6_order 24 = .ok (.getfield 62, 3) := by decide +kernel
theorem d_X6_order_27 : decode cX6_order 27 = .ok (.getfield 209, 3) := by decide +kernel
theorem d_X6_order_30 : decode cX6_order 30 = .ok (.ireturn, 1) := by decide +kernel
theorem d_X6_order_31 : decode cX6_order 31 = .ok (.iload_n 1, 1) := by decide +kernel
theorem d_X6_order_32 : decode cX6_order 32 = .ok (.aload_n 0, 1) := by decide +kernel
theorem d_X6_order_33 : decode cX6_order 33 = .ok (.getfield 62, 3) := by decide +kernel
theorem d_X6_order_36 : decode cX6_order 36 = .ok (.getfield 212, 3) := by decide +kernel
theorem d_X6_order_39 : decode cX6_order 39 = .ok (.if_icmp .ge 17, 3) := by decide +kernel
theorem d_X6_order_42 : decode cX6_order 42 = .ok (.aload_n 0, 1) := by decide +kernel
theorem d_X6_order_43 : decode cX6_order 43 = .ok (.getfield 62, 3) := by decide +kernel
theorem d_X6_order_46 : decode cX6_order 46 = .ok (.getfield 215, 3) := by decide +kernel
theorem d_X6_order_49 : decode cX6_order 49 = .ok (.iload_n 1, 1) := by decide +kernel
theorem d_X6_order_50 : decode cX6_order 50 = .ok (.invokestatic 107, 3) := by decide +kernel
theorem d_X6_order_53 : decode cX6_order 53 = .ok (.goto 5, 3) := by decide +kernel
theorem d_X6_order_56 : decode cX6_order 56 = .ok (.bipush (-4), 2) := by decide +kernel
theorem d_X6_order_58 : decode cX6_order 58 = .ok (.ireturn, 1) := by decide +kernel
def t_X6_order_0 : List (Nat × QO) := [(0, o_il 1 1), (1, o_k (-1) 2), (2, o_ic (fun x y => decide (y ≤ x)) 7 5), (5, o_k (-1) 6), (6, o_ir false), (7, o_al 0 8), (8, o_gf 6 8 11), (11, o_al 0 12), (12, o_gf 6 3 15), (15, o_cV 0 1 14 3 2 18), (18, o_il 1 19), (19, o_k (-1) 20)]
theorem ts_X6_order_0 (sx : QX) : ∀ q ∈ t_X6_order_0, q_Snd sx RX6 cX6_order 2 (some .int) q.1 q.2 := List.forall_mem_cons.mpr ⟨s_iload_n d_X6_order_0 rfl, List.forall_mem_cons.mpr ⟨s_iconst d_X6_order_1 rfl, List.forall_mem_cons.mpr ⟨s_ic_ge d_X6_order_2 (by decide), List.forall_mem_cons.mpr ⟨s_iconst d_X6_order_5 rfl, List.forall_mem_cons.mpr ⟨s_ir d_X6_order_6 rfl, List.forall_mem_cons.mpr ⟨s_aload_n d_X6_order_7 rfl, List.forall_mem_cons.mpr ⟨s_gf d_X6_order_8 rfl (by decide) n_X6 in_X6 rfl k_2_125, List.forall_mem_cons.mpr ⟨s_aload_n d_X6_order_11 rfl, List.forall_mem_cons.mpr ⟨s_gf d_X6_order_12 rfl (by decide) n_X6 in_X6 rfl k_2_120, List.forall_mem_cons.mpr ⟨s_cV (T := TX1) (N := 5) rfl d_X6_order_15 rfl k_3_114 k_3_115 k_3_116 k_1_7 k_3_117 ⟨by decide, by decide⟩ (by decide +kernel) (by decide), List.forall_mem_cons.mpr ⟨s_iload_n d_X6_order_18 rfl, List.forall_mem_cons.mpr ⟨s_iconst d_X6_order_19 rfl, fun _ h => absurd h List.not_mem_nil⟩⟩⟩⟩⟩⟩⟩⟩⟩⟩⟩⟩
def t_X6_order_1 : List (Nat × QO) := [(20, o_ic (fun x y => decide (x ≠ y)) 31 23), (23, o_al 0 24), (24, o_gf 6 8 27), (27, o_gf 1 4 30), (30, o_ir false), (31, o_il 1 32), (32, o_al 0 33), (33, o_gf 6 8 36), (36, o_gf 1 3 39), (39, o_ic (fun x y => decide (y ≤ x)) 56 42), (42, o_al 0 43), (43, o_gf 6 8 46)]
theorem ts_X6_order_1 (sx : QX) : ∀ q ∈ t_X6_order_1, q_Snd sx RX6 cX6_order 2 (some .int) q.1 q.2 := List.forall_mem_cons.mpr ⟨s_ic_ne d_X6_order_20 (by decide), List.forall_mem_cons.mpr ⟨s_aload_n d_X6_order_23 rfl, List.forall_mem_cons.mpr ⟨s_gf d_X6_order_24 rfl (by decide) n_X6 in_X6 rfl k_2_125, List.forall_mem_cons.mpr ⟨s_gf d_X6_order_27 rfl (by decide) n_X1 in_X1 rfl k_1_197, List.forall_mem_cons.mpr ⟨s_ir d_X6_order_30 rfl, List.forall_mem_cons.mpr ⟨s_iload_n d_X6_order_31 rfl, List.forall_mem_cons.mpr ⟨s_aload_n d_X6_order_32 rfl, List.forall_mem_cons.mpr ⟨s_gf d_X6_order_33 rfl (by decide) n_X6 in_X6 rfl k_2_125, List.forall_mem_cons.mpr ⟨s_gf d_X6_order_36 rfl (by decide) n_X1 in_X1 rfl k_1_195, List.forall_mem_cons.mpr ⟨s_ic_ge d_X6_order_39 (by decide), List.forall_mem_cons.mpr ⟨s_aload_n d_X6_order_42 rfl, List.forall_mem_cons.mpr ⟨s_gf d_X6_order_43 rfl (by decide) n_X6 in_X6 rfl k_2_125, fun _ h => absurd h List.not_mem_nil⟩⟩⟩⟩⟩⟩⟩⟩⟩⟩⟩⟩
def t_X6_order_2 : List (Nat × QO) := [(46, o_gf 1 2 49), (49, o_il 1 50), (50, o_cS 1 97 2 2 53), (53, o_goto 58), (56, o_k (-4) 58), (58, o_ir false)]
theorem ts_X6_order_2 (sx : QX) : ∀ q ∈ t_X6_order_2, q_Snd sx RX6 cX6_order 2 (some .int) q.1 q.2 := List.forall_mem_cons.mpr ⟨s_gf d_X6_order_46 rfl (by decide) n_X1 in_X1 rfl k_1_193, List.forall_mem_cons.mpr ⟨s_iload_n d_X6_order_49 rfl, List.forall_mem_cons.mpr ⟨s_cS rfl d_X6_order_50 k_2_174 k_2_57 k_1_1 k_2_58 ⟨by decide, by decide⟩ (by decide +kernel) (by decide), List.forall_mem_cons.mpr ⟨s_goto d_X6_order_53 (by decide), List.forall_mem_cons.mpr ⟨s_bipush d_X6_order_56 rfl, List.forall_mem_cons.mpr ⟨s_ir d_X6_order_58 rfl, fun _ h => absurd h List.not_mem_nil⟩⟩⟩⟩⟩⟩
def t_X6_order (pc : Nat) : Option QO := cond (Nat.ble pc 19) (q_look (t_X6_order_0) pc) (cond (Nat.ble pc 43) (q_look (t_X6_order_1) pc) (q_look (t_X6_order_2) pc))
theorem ts_X6_order (sx : QX) (pc : Nat) : ∀ o, t_X6_order pc = some o → q_Snd sx RX6 cX6_order 2 (some .int) pc o := by
  unfold t_X6_order
  exact q_cb (q_look_all (ts_X6_order_0 sx)) (q_cb (q_look_all (ts_X6_order_1 sx)) (q_look_all (ts_X6_order_2 sx)))
theorem d_X6_days_0 : decode cX6_days 0 = .ok (.aload_n 0, 1) := by decide +kernel
theorem d_X6_days_1 : decode cX6_days 1 = .ok (.iload_n 1, 1) := by decide +kernel
theorem d_X6_days_2 : decode cX6_days 2 = .ok (.invokevirtual 99, 3) := by decide +kernel
theorem d_X6_days_5 : decode cX6_days 5 = .ok (.ifCond .eq 11, 3) := by decide +kernel
theorem d_X6_days_8 : decode cX6_days 8 = .ok (.aload_n 0, 1) := by decide +kernel
theorem d_X6_days_9 : decode cX6_days 9 = .ok (.iload_n 2, 1) := by decide +kernel
theorem d_X6_days_10 : decode cX6_days 10 = .ok (.invokevirtual 129, 3) := by decide +kernel
theorem d_X6_days_13 : decode cX6_days 13 = .ok (.ifCond .ne 5, 3) := by decide +kernel
theorem d_X6_days_16 : decode cX6_days 16 = .ok (.iconst (-1), 1) := by decide +kernel
theorem d_X6_days_17 : decode cX6_days 17 = .ok (.ireturn, 1) := by decide +kernel
theorem d_X6_days_18 : decode cX6_days 18 = .ok (.aload_n 0, 1) := by decide +kernel
theorem d_X6_days_19 : decode cX6_days 19 = .ok (.getfield 31, 3) := by decide +kernel
theorem d_X6_days_22 : decode cX6_days 22 = .ok (.iload_n 1, 1) := by decide +kernel
theorem d_X6_days_23 : decode cX6_days 23 = .ok (.iconst 0, 1) := by decide +kernel
theorem d_X6_days_24 : decode cX6_days 24 = .ok (.invokevirtual 170, 3) := by decide +kernel
theorem d_X6_days_27 : decode cX6_days 27 = .ok (.ifCond .ne 6, 3) := by decide +kernel
theorem d_X6_days_30 : decode cX6_days 30 = .ok (.bipush (-2), 2) := by decide +kernel
theorem d_X6_days_32 : decode cX6_days 32 = .ok (.ireturn, 1) := by decide +kernel
theorem d_X6_days_33 : decode cX6_days 33 = .ok (.aload_n 0, 1) := by decide +kernel
theorem d_X6_days_34 : decode cX6_days 34 = .ok (.getfield 35, 3) := by decide +kernel
theorem d_X6_days_37 : decode cX6_days 37 = .ok (.aload_n 0, 1) := by decide +kernel
theorem d_X6_days_38 : decode cX6_days 38 = .ok (.getfield 31, 3) := by decide +kernel
theorem d_X6_days_41 : decode cX6_days 41 = .ok (.invokevirtual 193, 3) := by decide +kernel
theorem d_X6_days_44 : decode cX6_days 44 = .ok (.iconst 0, 1) := by decide +kernel
theorem d_X6_days_45 : decode cX6_days 45 = .ok (.istore_n 3, 1) := by decide +kernel
theorem d_X6_days_46 : decode cX6_days 46 = .ok (.iload_n 3, 1) := by decide +kernel
theorem d_X6_days_47 : decode cX6_days 47 = .ok (.bipush 30, 2) := by decide +kernel
theorem d_X6_days_49 : decode cX6_days 49 = .ok (.if_icmp .gt 43, 3) := by decide +kernel
theorem d_X6_days_52 : decode cX6_days 52 = .ok (.iload_n 3, 1) := by decide +kernel
theorem d_X6_days_53 : decode cX6_days 53 = .ok (.ifCond .le 10, 3) := by decide +kernel
theorem d_X6_days_56 : decode cX6_days 56 = .ok (.aload_n 0, 1) := by decide +kernel
theorem d_X6_days_57 : decode cX6_days 57 = .ok (.getfield 35, 3) := by decide +kernel
theorem d_X6_days_60 : decode cX6_days 60 = .ok (.invokevirtual 180, 3) := by decide +kernel
theorem d_X6_days_63 : decode cX6_days 63 = .ok (.aload_n 0, 1) := by decide +kernel
theorem d_X6_days_64 : decode cX6_days 64 = .ok (.getfield 35, 3) := by decide +kernel
theorem d_X6_days_67 : decode cX6_days 67 = .ok (.iload_n 1, 1) := by decide +kernel
theorem d_X6_days_68 : decode cX6_days 68 = .ok (.iload_n 2, 1) := by decide +kernel
theorem d_X6_days_69 : decode cX6_days 69 = .ok (.invokevirtual 218, 3) := by decide +kernel
theorem d_X6_days_72 : decode cX6_days 72 = .ok (.aload_n 0, 1) := by decide +kernel
theorem d_X6_days_73 : decode cX6_days 73 = .ok (.getfield 35, 3) := by decide +kernel
theorem d_X6_days_76 : decode cX6_days 76 = .ok (.iload_n 1, 1) := by decide +kernel
theorem d_X6_days_77 : decode cX6_days 77 = .ok (.iconst 0, 1) := by decide +kernel
theorem d_X6_days_78 : decode cX6_days 78 = .ok (.invokevirtual 170, 3) := by decide +kernel
theorem d_X6_days_81 : decode cX6_days 81 = .ok (.ifCond .ne 5, 3) := by decide +kernel
theorem d_X6_days_84 : decode cX6_days 84 = .ok (.iload_n 3, 1) := by decide +kernel
theorem d_X6_days_85 : decode cX6_days 85 = .ok (.ireturn, 1) := by decide +kernel
theorem d_X6_days_86 : decode cX6_days 86 = .ok (.iinc 3 1, 3) := by decide +kernel
theorem d_X6_days_89 : decode cX6_days 89 = .ok (.goto (-43), 3) := by decide +kernel
theorem d_X6_days_92 : decode cX6_days 92 = .ok (.bipush (-4), 2) := by decide +kernel
theorem d_X6_days_94 : decode cX6_days 94 = .ok (.ireturn, 1) := by decide +kernel
def t_X6_days_0 : List (Nat × QO) := [(0, o_al 0 1), (1, o_il 1 2), (2, o_cV 1 6 86 2 2 5), (5, o_if (fun x => decide (x = 0)) 16 8), (8, o_al 0 9), (9, o_il 2 10), (10, o_cV 1 6 88 2 2 13), (13, o_if (fun x => decide (x ≠ 0)) 18 16), (16, o_k (-1) 17), (17, o_ir false), (18, o_al 0 19), (19, o_gf 6 3 22)]
theorem ts_X6_days_0 (sx : QX) : ∀ q ∈ t_X6_days_0, q_Snd sx RX6 cX6_days 4 (some .int) q.1 q.2 := List.forall_mem_cons.mpr ⟨s_aload_n d_X6_days_0 rfl, List.forall_mem_cons.mpr ⟨s_iload_n d_X6_days_1 rfl, List.forall_mem_cons.mpr ⟨s_cV (T := TX6) (N := 9) rfl d_X6_days_2 rfl k_2_170 k_2_172 k_0_7 k_1_1 k_2_173 ⟨by decide, by decide⟩ (by decide +kernel) (by decide), List.forall_mem_cons.mpr ⟨s_if_eq d_X6_days_5 (by decide), List.forall_mem_cons.mpr ⟨s_aload_n d_X6_days_8 rfl, List.forall_mem_cons.mpr ⟨s_iload_n d_X6_days_9 rfl, List.forall_mem_cons.mpr ⟨s_cV (T := TX6) (N := 9) rfl d_X6_days_10 rfl k_2_187 k_2_189 k_0_9 k_1_1 k_2_190 ⟨by decide, by decide⟩ (by decide +kernel) (by decide), List.forall_mem_cons.mpr ⟨s_if_ne d_X6_days_13 (by decide), List.forall_mem_cons.mpr ⟨s_iconst d_X6_days_16 rfl, List.forall_mem_cons.mpr ⟨s_ir d_X6_days_17 rfl, List.forall_mem_cons.mpr ⟨s_aload_n d_X6_days_18 rfl, List.forall_mem_cons.mpr ⟨s_gf d_X6_days_19 rfl (by decide) n_X6 in_X6 rfl k_2_120, fun _ h => absurd h List.not_mem_nil⟩⟩⟩⟩⟩⟩⟩⟩⟩⟩⟩⟩
def t_X6_days_1 : List (Nat × QO) := [(22, o_il 1 23), (23, o_k 0 24), (24, o_cV 1 3 21 3 3 27), (27, o_if (fun x => decide (x ≠ 0)) 33 30), (30, o_k (-2) 32), (32, o_ir false), (33, o_al 0 34), (34, o_gf 6 4 37), (37, o_al 0 38), (38, o_gf 6 3 41), (41, o_cV 0 3 20 2 2 44), (44, o_k 0 45)]
theorem ts_X6_days_1 (sx : QX) : ∀ q ∈ t_X6_days_1, q_Snd sx RX6 cX6_days 4 (some .int) q.1 q.2 := List.forall_mem_cons.mpr ⟨s_iload_n d_X6_days_22 rfl, List.forall_mem_cons.mpr ⟨s_iconst d_X6_days_23 rfl, List.forall_mem_cons.mpr ⟨s_cV (T := TX3) (N := 8) rfl d_X6_days_24 rfl k_3_28 k_3_29 k_3_30 k_1_4 k_3_31 ⟨by decide, by decide⟩ (by decide +kernel) (by decide), List.forall_mem_cons.mpr ⟨s_if_ne d_X6_days_27 (by decide), List.forall_mem_cons.mpr ⟨s_bipush d_X6_days_30 rfl, List.forall_mem_cons.mpr ⟨s_ir d_X6_days_32 rfl, List.forall_mem_cons.mpr ⟨s_aload_n d_X6_days_33 rfl, List.forall_mem_cons.mpr ⟨s_gf d_X6_days_34 rfl (by decide) n_X6 in_X6 rfl k_2_121, List.forall_mem_cons.mpr ⟨s_aload_n d_X6_days_37 rfl, List.forall_mem_cons.mpr ⟨s_gf d_X6_days_38 rfl (by decide) n_X6 in_X6 rfl k_2_120, List.forall_mem_cons.mpr ⟨s_cV (T := TX3) (N := 8) rfl d_X6_days_41 rfl k_3_77 k_3_2 k_3_3 k_1_4 k_3_4 ⟨by decide, by decide⟩ (by decide +kernel) (by decide), List.forall_mem_cons.mpr ⟨s_iconst d_X6_days_44 rfl, fun _ h => absurd h List.not_mem_nil⟩⟩⟩⟩⟩⟩⟩⟩⟩⟩⟩⟩
def t_X6_days_2 : List (Nat × QO) := [(45, o_is 3 46), (46, o_il 3 47), (47, o_k 30 49), (49, o_ic (fun x y => decide (y < x)) 92 52), (52, o_il 3 53), (53, o_if (fun x => decide (x ≤ 0)) 63 56), (56, o_al 0 57), (57, o_gf 6 4 60), (60, o_cV 0 3 37 2 1 63), (63, o_al 0 64), (64, o_gf 6 4 67), (67, o_il 1 68)]
theorem ts_X6_days_2 (sx : QX) : ∀ q ∈ t_X6_days_2, q_Snd sx RX6 cX6_days 4 (some .int) q.1 q.2 := List.forall_mem_cons.mpr ⟨s_istore_n d_X6_days_45 rfl (by decide), List.forall_mem_cons.mpr ⟨s_iload_n d_X6_days_46 rfl, List.forall_mem_cons.mpr ⟨s_bipush d_X6_days_47 rfl, List.forall_mem_cons.mpr ⟨s_ic_gt d_X6_days_49 (by decide), List.forall_mem_cons.mpr ⟨s_iload_n d_X6_days_52 rfl, List.forall_mem_cons.mpr ⟨s_if_le d_X6_days_53 (by decide), List.forall_mem_cons.mpr ⟨s_aload_n d_X6_days_56 rfl, List.forall_mem_cons.mpr ⟨s_gf d_X6_days_57 rfl (by decide) n_X6 in_X6 rfl k_2_121, List.forall_mem_cons.mpr ⟨s_cV (T := TX3) (N := 8) rfl d_X6_days_60 rfl k_3_57 k_3_58 k_3_59 k_1_4 k_3_60 ⟨by decide, by decide⟩ (by decide +kernel) (by decide), List.forall_mem_cons.mpr ⟨s_aload_n d_X6_days_63 rfl, List.forall_mem_cons.mpr ⟨s_gf d_X6_days_64 rfl (by decide) n_X6 in_X6 rfl k_2_121, List.forall_mem_cons.mpr ⟨s_iload_n d_X6_days_67 rfl, fun _ h => absurd h List.not_mem_nil⟩⟩⟩⟩⟩⟩⟩⟩⟩⟩⟩⟩
def t_X6_days_3 : List (Nat × QO) := [(68, o_il 2 69), (69, o_cV 0 3 40 5 3 72), (72, o_al 0 73), (73, o_gf 6 4 76), (76, o_il 1 77), (77, o_k 0 78), (78, o_cV 1 3 21 3 3 81), (81, o_if (fun x => decide (x ≠ 0)) 86 84), (84, o_il 3 85), (85, o_ir false), (86, o_inc 3 1 89), (89, o_goto 46)]
theorem ts_X6_days_3 (sx : QX) : ∀ q ∈ t_X6_days_3, q_Snd sx RX6 cX6_days 4 (some .int) q.1 q.2 := List.forall_mem_cons.mpr ⟨s_iload_n d_X6_days_68 rfl, List.forall_mem_cons.mpr ⟨s_cV (T := TX3) (N := 8) rfl d_X6_days_69 rfl k_3_144 k_3_145 k_3_146 k_1_4 k_3_147 ⟨by decide, by decide⟩ (by decide +kernel) (by decide), List.forall_mem_cons.mpr ⟨s_aload_n d_X6_days_72 rfl, List.forall_mem_cons.mpr ⟨s_gf d_X6_days_73 rfl (by decide) n_X6 in_X6 rfl k_2_121, List.forall_mem_cons.mpr ⟨s_iload_n d_X6_days_76 rfl, List.forall_mem_cons.mpr ⟨s_iconst d_X6_days_77 rfl, List.forall_mem_cons.mpr ⟨s_cV (T := TX3) (N := 8) rfl d_X6_days_78 rfl k_3_28 k_3_29 k_3_30 k_1_4 k_3_31 ⟨by decide, by decide⟩ (by decide +kernel) (by decide), List.forall_mem_cons.mpr ⟨s_if_ne d_X6_days_81 (by decide), List.forall_mem_cons.mpr ⟨s_iload_n d_X6_days_84 rfl, List.forall_mem_cons.mpr ⟨s_ir d_X6_days_85 rfl, List.forall_mem_cons.mpr ⟨s_iinc d_X6_days_86 rfl (by decide), List.forall_mem_cons.mpr ⟨s_goto d_X6_days_89 (by decide), fun _ h => absurd h List.not_mem_nil⟩⟩⟩⟩⟩⟩⟩⟩⟩⟩⟩⟩
def t_X6_days_4 : List (Nat × QO) := [(92, o_k (-4) 94), (94, o_ir false)]
theorem ts_X6_days_4 (sx : QX) : ∀ q ∈ t_X6_days_4, q_Snd sx RX6 cX6_days 4 (some .int) q.1 q.2 := List.forall_mem_cons.mpr ⟨s_bipush d_X6_days_92 rfl, List.forall_mem_cons.mpr ⟨s_ir d_X6_days_94 rfl, fun _ h => absurd h List.not_mem_nil⟩⟩
def t_X6_days (pc : Nat) : Option QO := cond (Nat.ble pc 44) (cond (Nat.ble pc 19) (q_look (t_X6_days_0) pc) (q_look (t_X6_days_1) pc)) (cond (Nat.ble pc 67) (q_look (t_X6_days_2) pc) (cond (Nat.ble pc 89) (q_look (t_X6_days_3) pc) (q_look (t_X6_days_4) pc)))
theorem ts_X6_days (sx : QX) (pc : Nat) : ∀ o, t_X6_days pc = some o → q_Snd sx RX6 cX6_days 4 (some .int) pc o := by
  unfold t_X6_days
  exact q_cb (q_cb (q_look_all (ts_X6_days_0 sx)) (q_look_all (ts_X6_days_1 sx))) (q_cb (q_look_all (ts_X6_days_2 sx)) (q_cb (q_look_all (ts_X6_days_3 sx)) (q_look_all (ts_X6_days_4 sx))))
theorem d_X6_frost_0 : decode cX6_frost 0 = .ok (.aload_n 0, 1) := by decide +kernel
theorem d_X6_frost_1 : decode cX6_frost 1 = .ok (.iload_n 1, 1) := by decide +kernel
theorem d_X6_frost_2 : decode cX6_frost 2 = .ok (.invokevirtual 99, 3) := by decide +kernel
theorem d_X6_frost_5 : decode cX6_frost 5 = .ok (.ifCond .ne 5, 3) := by decide +kernel
theorem d_X6_frost_8 : decode cX6_frost 8 = .ok (.iconst (-1), 1) := by decide +kernel
theorem d_X6_frost_9 : decode cX6_frost 9 = .ok (.ireturn, 1) := by decide +kernel
theorem d_X6_frost_10 : decode cX6_frost 10 = .ok (.aload_n 0, 1) := by decide +kernel
theorem d_X6_frost_11 : decode cX6_frost 11 = .ok (.getfield 31, 3) := by decide +kernel
theorem d_X6_frost_14 : decode cX6_frost 14 = .ok (.iload_n 1, 1) := by decide +kernel
theorem d_X6_frost_15 : decode cX6_frost 15 = .ok (.iconst 0, 1) := by decide +kernel
theorem d_X6_frost_16 : decode cX6_frost 16 = .ok (.invokevirtual 170, 3) := by decide +kernel
theorem d_X6_frost_19 : decode cX6_frost 19 = .ok (.ifCond .ne 6, 3) := by decide +kernel
theorem d_X6_frost_22 : decode cX6_frost 22 = .ok (.bipush (-2), 2) := by decide +kernel
theorem d_X6_frost_24 : decode cX6_frost 24 = .ok (.ireturn, 1) := by decide +kernel
theorem d_X6_frost_25 : decode cX6_frost 25 = .ok (.aload_n 0, 1) := by decide +kernel
theorem d_X6_frost_26 : decode cX6_frost 26 = .ok (.getfield 19, 3) := by decide +kernel
theorem d_X6_frost_29 : decode cX6_frost 29 = .ok (.iload_n 1, 1) := by decide +kernel
theorem d_X6_frost_30 : decode cX6_frost 30 = .ok (.invokevirtual 221, 3) := by decide +kernel
theorem d_X6_frost_33 : decode cX6_frost 33 = .ok (.istore_n 2, 1) := by decide +kernel
theorem d_X6_frost_34 : decode cX6_frost 34 = .ok (.iload_n 2, 1) := by decide +kernel
theorem d_X6_frost_35 : decode cX6_frost 35 = .ok (.ifCond .gt 6, 3) := by decide +kernel
theorem d_X6_frost_38 : decode cX6_frost 38 = .ok (.bipush (-4), 2) := by decide +kernel
theorem d_X6_frost_40 : decode cX6_frost 40 = .ok (.ireturn, 1) := by decide +kernel
theorem d_X6_frost_41 : decode cX6_frost 41 = .ok (.aload_n 0, 1) := by decide +kernel
theorem d_X6_frost_42 : decode cX6_frost 42 = .ok (.getfield 31, 3) := by decide +kernel
theorem d_X6_frost_45 : decode cX6_frost 45 = .ok (.iload_n 1, 1) := by decide +kernel
theorem d_X6_frost_46 : decode cX6_frost 46 = .ok (.invokevirtual 224, 3) := by decide +kernel
theorem d_X6_frost_49 : decode cX6_frost 49 = .ok (.iload_n 2, 1) := by decide +kernel
theorem d_X6_frost_50 : decode cX6_frost 50 = .ok (.iadd, 1) := by decide +kernel
theorem d_X6_frost_51 : decode cX6_frost 51 = .ok (.iconst 1, 1) := by decide +kernel
theorem d_X6_frost_52 : decode cX6_frost 52 = .ok (.isub, 1) := by decide +kernel
theorem d_X6_frost_53 : decode cX6_frost 53 = .ok (.iload_n 2, 1) := by decide +kernel
theorem d_X6_frost_54 : decode cX6_frost 54 = .ok (.idiv, 1) := by decide +kernel
theorem d_X6_frost_55 : decode cX6_frost 55 = .ok (.istore_n 3, 1) := by decide +kernel
theorem d_X6_frost_56 : decode cX6_frost 56 = .ok (.iload_n 3, 1) := by decide +kernel
theorem d_X6_frost_57 : decode cX6_frost 57 = .ok (.bipush 60, 2) := by decide +kernel
theorem d_X6_frost_59 : decode cX6_frost 59 = .ok (.if_icmp .gt 7, 3) := by decide +kernel
theorem d_X6_frost_62 : decode cX6_frost 62 = .ok (.iload_n 3, 1) := by decide +kernel
theorem d_X6_frost_63 : decode cX6_frost 63 = .ok (.goto 5, 3) := by decide +kernel
theorem d_X6_frost_66 : decode cX6_frost 66 = .ok (.bipush (-4), 2) := by decide +kernel
theorem d_X6_frost_68 : decode cX6_frost 68 = .ok (.ireturn, 1) := by decide +kernel
def t_X6_frost_0 : List (Nat × QO) := [(0, o_al 0 1), (1, o_il 1 2), (2, o_cV 1 6 86 2 2 5), (5, o_if (fun x => decide (x ≠ 0)) 10 8), (8, o_k (-1) 9), (9, o_ir false), (10, o_al 0 11), (11, o_gf 6 3 14), (14, o_il 1 15), (15, o_k 0 16), (16, o_cV 1 3 21 3 3 19), (19, o_if (fun x => decide (x ≠ 0)) 25 22)]
theorem ts_X6_frost_0 (sx : QX) : ∀ q ∈ t_X6_frost_0, q_Snd sx RX6 cX6_frost 4 (some .int) q.1 q.2 := List.forall_mem_cons.mpr ⟨s_aload_n d_X6_frost_0 rfl, List.forall_mem_cons.mpr ⟨s_iload_n d_X6_frost_1 rfl, List.forall_mem_cons.mpr ⟨s_cV (T := TX6) (N := 9) rfl d_X6_frost_2 rfl k_2_170 k_2_172 k_0_7 k_1_1 k_2_173 ⟨by decide, by decide⟩ (by decide +kernel) (by decide), List.forall_mem_cons.mpr ⟨s_if_ne d_X6_frost_5 (by decide), List.forall_mem_cons.mpr ⟨s_iconst d_X6_frost_8 rfl, List.forall_mem_cons.mpr ⟨s_ir d_X6_frost_9 rfl, List.forall_mem_cons.mpr ⟨s_aload_n d_X6_frost_10 rfl, List.forall_mem_cons.mpr ⟨s_gf d_X6_frost_11 rfl (by decide) n_X6 in_X6 rfl k_2_120, List.forall_mem_cons.mpr ⟨s_iload_n d_X6_frost_14 rfl, List.forall_mem_cons.mpr ⟨s_iconst d_X6_frost_15 rfl, List.forall_mem_cons.mpr ⟨s_cV (T := TX3) (N := 8) rfl d_X6_frost_16 rfl k_3_28 k_3_29 k_3_30 k_1_4 k_3_31 ⟨by decide, by decide⟩ (by decide +kernel) (by decide), List.forall_mem_cons.mpr ⟨s_if_ne d_X6_frost_19 (by decide), fun _ h => absurd h List.not_mem_nil⟩⟩⟩⟩⟩⟩⟩⟩⟩⟩⟩⟩
def t_X6_frost_1 : List (Nat × QO) := [(22, o_k (-2) 24), (24, o_ir false), (25, o_al 0 26), (26, o_gf 6 1 29), (29, o_il 1 30), (30, o_cV 1 0 10 2 2 33), (33, o_is 2 34), (34, o_il 2 35), (35, o_if (fun x => decide (0 < x)) 41 38), (38, o_k (-4) 40), (40, o_ir false), (41, o_al 0 42)]
theorem ts_X6_frost_1 (sx : QX) : ∀ q ∈ t_X6_frost_1, q_Snd sx RX6 cX6_frost 4 (some .int) q.1 q.2 := List.forall_mem_cons.mpr ⟨s_bipush d_X6_frost_22 rfl, List.forall_mem_cons.mpr ⟨s_ir d_X6_frost_24 rfl, List.forall_mem_cons.mpr ⟨s_aload_n d_X6_frost_25 rfl, List.forall_mem_cons.mpr ⟨s_gf d_X6_frost_26 rfl (by decide) n_X6 in_X6 rfl k_2_118, List.forall_mem_cons.mpr ⟨s_iload_n d_X6_frost_29 rfl, List.forall_mem_cons.mpr ⟨s_cV (T := TX0) (N := 12) rfl d_X6_frost_30 rfl k_3_156 k_3_62 k_3_63 k_1_3 k_3_64 ⟨by decide, by decide⟩ (by decide +kernel) (by decide), List.forall_mem_cons.mpr ⟨s_istore_n d_X6_frost_33 rfl (by decide), List.forall_mem_cons.mpr ⟨s_iload_n d_X6_frost_34 rfl, List.forall_mem_cons.mpr ⟨s_if_gt d_X6_frost_35 (by decide), List.forall_mem_cons.mpr ⟨s_bipush d_X6_frost_38 rfl, List.forall_mem_cons.mpr ⟨s_ir d_X6_frost_40 rfl, List.forall_mem_cons.mpr ⟨s_aload_n d_X6_frost_41 rfl, fun _ h => absurd h List.not_mem_nil⟩⟩⟩⟩⟩⟩⟩⟩⟩⟩⟩⟩
def t_X6_frost_2 : List (Nat × QO) := [(42, o_gf 6 3 45), (45, o_il 1 46), (46, o_cV 1 3 24 2 2 49), (49, o_il 2 50), (50, o_b (fun x y => x + y) 51), (51, o_k 1 52), (52, o_b (fun x y => x - y) 53), (53, o_il 2 54), (54, o_bz (fun x y => x / y) 55), (55, o_is 3 56), (56, o_il 3 57), (57, o_k 60 59)]
theorem ts_X6_frost_2 (sx : QX) : ∀ q ∈ t_X6_frost_2, q_Snd sx RX6 cX6_frost 4 (some .int) q.1 q.2 := List.forall_mem_cons.mpr ⟨s_gf d_X6_frost_42 rfl (by decide) n_X6 in_X6 rfl k_2_120, List.forall_mem_cons.mpr ⟨s_iload_n d_X6_frost_45 rfl, List.forall_mem_cons.mpr ⟨s_cV (T := TX3) (N := 8) rfl d_X6_frost_46 rfl k_3_157 k_3_86 k_3_87 k_1_4 k_3_88 ⟨by decide, by decide⟩ (by decide +kernel) (by decide), List.forall_mem_cons.mpr ⟨s_iload_n d_X6_frost_49 rfl, List.forall_mem_cons.mpr ⟨s_iadd d_X6_frost_50, List.forall_mem_cons.mpr ⟨s_iconst d_X6_frost_51 rfl, List.forall_mem_cons.mpr ⟨s_isub d_X6_frost_52, List.forall_mem_cons.mpr ⟨s_iload_n d_X6_frost_53 rfl, List.forall_mem_cons.mpr ⟨s_idiv d_X6_frost_54, List.forall_mem_cons.mpr ⟨s_istore_n d_X6_frost_55 rfl (by decide), List.forall_mem_cons.mpr ⟨s_iload_n d_X6_frost_56 rfl, List.forall_mem_cons.mpr ⟨s_bipush d_X6_frost_57 rfl, fun _ h => absurd h List.not_mem_nil⟩⟩⟩⟩⟩⟩⟩⟩⟩⟩⟩⟩
def t_X6_frost_3 : List (Nat × QO) := [(59, o_ic (fun x y => decide (y < x)) 66 62), (62, o_il 3 63), (63, o_goto 68), (66, o_k (-4) 68), (68, o_ir false)]
theorem ts_X6_frost_3 (sx : QX) : ∀ q ∈ t_X6_frost_3, q_Snd sx RX6 cX6_frost 4 (some .int) q.1 q.2 := List.forall_mem_cons.mpr ⟨s_ic_gt d_X6_frost_59 (by decide), List.forall_mem_cons.mpr ⟨s_iload_n d_X6_frost_62 rfl, List.forall_mem_cons.mpr ⟨s_goto d_X6_frost_63 (by decide), List.forall_mem_cons.mpr ⟨s_bipush d_X6_frost_66 rfl, List.forall_mem_cons.mpr ⟨s_ir d_X6_frost_68 rfl, fun _ h => absurd h List.not_mem_nil⟩⟩⟩⟩⟩
def t_X6_frost (pc : Nat) : Option QO := cond (Nat.ble pc 41) (cond (Nat.ble pc 19) (q_look (t_X6_frost_0) pc) (q_look (t_X6_frost_1) pc)) (cond (Nat.ble pc 57) (q_look (t_X6_frost_2) pc) (q_look (t_X6_frost_3) pc))
theorem ts_X6_frost (sx : QX) (pc : Nat) : ∀ o, t_X6_frost pc = some o → q_Snd sx RX6 cX6_frost 4 (some .int) pc o := by
  unfold t_X6_frost
  exact q_cb (q_cb (q_look_all (ts_X6_frost_0 sx)) (q_look_all (ts_X6_frost_1 sx))) (q_cb (q_look_all (ts_X6_frost_2 sx)) (q_look_all (ts_X6_frost_3 sx)))
theorem d_X6_uses_0 : decode cX6_uses 0 = .ok (.aload_n 0, 1) := by decide +kernel
theorem d_X6_uses_1 : decode cX6_uses 1 = .ok (.iload_n 1, 1) := by decide +kernel
theorem d_X6_uses_2 : decode cX6_uses 2 = .ok (.invokevirtual 99, 3) := by decide +kernel
theorem d_X6_uses_5 : decode cX6_uses 5 = .ok (.ifCond .ne 5, 3) := by decide +kernel
theorem d_X6_uses_8 : decode cX6_uses 8 = .ok (.iconst (-1), 1) := by decide +kernel
theorem d_X6_uses_9 : decode cX6_uses 9 = .ok (.ireturn, 1) := by decide +kernel
theorem d_X6_uses_10 : decode cX6_uses 10 = .ok (.aload_n 0, 1) := by decide +kernel
theorem d_X6_uses_11 : decode cX6_uses 11 = .ok (.getfield 31, 3) := by decide +kernel
theorem d_X6_uses_14 : decode cX6_uses 14 = .ok (.iload_n 1, 1) := by decide +kernel
theorem d_X6_uses_15 : decode cX6_uses 15 = .ok (.iconst 2, 1) := by decide +kernel
theorem d_X6_uses_16 : decode cX6_uses 16 = .ok (.invokevirtual 170, 3) := by decide +kernel
theorem d_X6_uses_19 : decode cX6_uses 19 = .ok (.ifCond .ne 15, 3) := by decide +kernel
theorem d_X6_uses_22 : decode cX6_uses 22 = .ok (.aload_n 0, 1) := by decide +kernel
theorem d_X6_uses_23 : decode cX6_uses 23 = .ok (.getfield 31, 3) := by decide +kernel
theorem d_X6_uses_26 : decode cX6_uses 26 = .ok (.iload_n 1, 1) := by decide +kernel
theorem d_X6_uses_27 : decode cX6_uses 27 = .ok (.iconst 3, 1) := by decide +kernel
theorem d_X6_uses_28 : decode cX6_uses 28 = .ok (.invokevirtual 170, 3) := by decide +kernel
theorem d_X6_uses_31 : decode cX6_uses 31 = .ok (.ifCond .eq 6, 3) := by decide +kernel
theorem d_X6_uses_34 : decode cX6_uses 34 = .ok (.bipush (-2), 2) := by decide +kernel
theorem d_X6_uses_36 : decode cX6_uses 36 = .ok (.ireturn, 1) := by decide +kernel
theorem d_X6_uses_37 : decode cX6_uses 37 = .ok (.iconst 0, 1) := by decide +kernel
theorem d_X6_uses_38 : decode cX6_uses 38 = .ok (.istore_n 2, 1) := by decide +kernel
theorem d_X6_uses_39 : decode cX6_uses 39 = .ok (.iconst 0, 1) := by decide +kernel
theorem d_X6_uses_40 : decode cX6_uses 40 = .ok (.istore_n 3, 1) := by decide +kernel
theorem d_X6_uses_41 : decode cX6_uses 41 = .ok (.iload_n 3, 1) := by decide +kernel
theorem d_X6_uses_42 : decode cX6_uses 42 = .ok (.bipush 8, 2) := by decide +kernel
theorem d_X6_uses_44 : decode cX6_uses 44 = .ok (.if_icmp .ge 27, 3) := by decide +kernel
theorem d_X6_uses_47 : decode cX6_uses 47 = .ok (.aload_n 0, 1) := by decide +kernel
theorem d_X6_uses_48 : decode cX6_uses 48 = .ok (.getfield 31, 3) := by decide +kernel
theorem d_X6_uses_51 : decode cX6_uses 51 = .ok (.iload_n 1, 1) := by decide +kernel
theorem d_X6_uses_52 : decode cX6_uses 52 = .ok (.iload_n 3, 1) := by decide +kernel
theorem d_X6_uses_53 : decode cX6_uses 53 = .ok (.invokevirtual 227, 3) := by decide +kernel
theorem d_X6_uses_56 : decode cX6_uses 56 = .ok (.ifCond .ne 9, 3) := by decide +kernel
theorem d_X6_uses_59 : decode cX6_uses 59 = .ok (.iload_n 2, 1) := by decide +kernel
theorem d_X6_uses_60 : decode cX6_uses 60 = .ok (.iconst 1, 1) := by decide +kernel
theorem d_X6_uses_61 : decode cX6_uses 61 = .ok (.iload_n 3, 1) := by decide +kernel
theorem d_X6_uses_62 : decode cX6_uses 62 = .ok (.ishl, 1) := by decide +kernel
theorem d_X6_uses_63 : decode cX6_uses 63 = .ok (.ior, 1) := by decide +kernel
theorem d_X6_uses_64 : decode cX6_uses 64 = .ok (.istore_n 2, 1) := by decide +kernel
theorem d_X6_uses_65 : decode cX6_uses 65 = .ok (.iinc 3 1, 3) := by decide +kernel
theorem d_X6_uses_68 : decode cX6_uses 68 = .ok (.goto (-27), 3) := by decide +kernel
theorem d_X6_uses_71 : decode cX6_uses 71 = .ok (.iload_n 2, 1) := by decide +kernel
theorem d_X6_uses_72 : decode cX6_uses 72 = .ok (.ireturn, 1) := by decide +kernel
def t_X6_uses_0 : List (Nat × QO) := [(0, o_al 0 1), (1, o_il 1 2), (2, o_cV 1 6 86 2 2 5), (5, o_if (fun x => decide (x ≠ 0)) 10 8), (8, o_k (-1) 9), (9, o_ir false), (10, o_al 0 11), (11, o_gf 6 3 14), (14, o_il 1 15), (15, o_k 2 16), (16, o_cV 1 3 21 3 3 19), (19, o_if (fun x => decide (x ≠ 0)) 34 22)]
theorem ts_X6_uses_0 (sx : QX) : ∀ q ∈ t_X6_uses_0, q_Snd sx RX6 cX6_uses 4 (some .int) q.1 q.2 := List.forall_mem_cons.mpr ⟨s_aload_n d_X6_uses_0 rfl, List.forall_mem_cons.mpr ⟨s_iload_n d_X6_uses_1 rfl, List.forall_mem_cons.mpr ⟨s_cV (T := TX6) (N := 9) rfl d_X6_uses_2 rfl k_2_170 k_2_172 k_0_7 k_1_1 k_2_173 ⟨by decide, by decide⟩ (by decide +kernel) (by decide), List.forall_mem_cons.mpr ⟨s_if_ne d_X6_uses_5 (by decide), List.forall_mem_cons.mpr ⟨s_iconst d_X6_uses_8 rfl, List.forall_mem_cons.mpr ⟨s_ir d_X6_uses_9 rfl, List.forall_mem_cons.mpr ⟨s_aload_n d_X6_uses_10 rfl, List.forall_mem_cons.mpr ⟨s_gf d_X6_uses_11 rfl (by decide) n_X6 in_X6 rfl k_2_120, List.forall_mem_cons.mpr ⟨s_iload_n d_X6_uses_14 rfl, List.forall_mem_cons.mpr ⟨s_iconst d_X6_uses_15 rfl, List.forall_mem_cons.mpr ⟨s_cV (T := TX3) (N := 8) rfl d_X6_uses_16 rfl k_3_28 k_3_29 k_3_30 k_1_4 k_3_31 ⟨by decide, by decide⟩ (by decide +kernel) (by decide), List.forall_mem_cons.mpr ⟨s_if_ne d_X6_uses_19 (by decide), fun _ h => absurd h List.not_mem_nil⟩⟩⟩⟩⟩⟩⟩⟩⟩⟩⟩⟩
def t_X6_uses_1 : List (Nat × QO) := [(22, o_al 0 23), (23, o_gf 6 3 26), (26, o_il 1 27), (27, o_k 3 28), (28, o_cV 1 3 21 3 3 31), (31, o_if (fun x => decide (x = 0)) 37 34), (34, o_k (-2) 36), (36, o_ir false), (37, o_k 0 38), (38, o_is 2 39), (39, o_k 0 40), (40, o_is 3 41)]
theorem ts_X6_uses_1 (sx : QX) : ∀ q ∈ t_X6_uses_1, q_Snd sx RX6 cX6_uses 4 (some .int) q.1 q.2 := List.forall_mem_cons.mpr ⟨s_aload_n d_X6_uses_22 rfl, List.forall_mem_cons.mpr ⟨s_gf d_X6_uses_23 rfl (by decide) n_X6 in_X6 rfl k_2_120, List.forall_mem_cons.mpr ⟨s_iload_n d_X6_uses_26 rfl, List.forall_mem_cons.mpr ⟨s_iconst d_X6_uses_27 rfl, List.forall_mem_cons.mpr ⟨s_cV (T := TX3) (N := 8) rfl d_X6_uses_28 rfl k_3_28 k_3_29 k_3_30 k_1_4 k_3_31 ⟨by decide, by decide⟩ (by decide +kernel) (by decide), List.forall_mem_cons.mpr ⟨s_if_eq d_X6_uses_31 (by decide), List.forall_mem_cons.mpr ⟨s_bipush d_X6_uses_34 rfl, List.forall_mem_cons.mpr ⟨s_ir d_X6_uses_36 rfl, List.forall_mem_cons.mpr ⟨s_iconst d_X6_uses_37 rfl, List.forall_mem_cons.mpr ⟨s_istore_n d_X6_uses_38 rfl (by decide), List.forall_mem_cons.mpr ⟨s_iconst d_X6_uses_39 rfl, List.forall_mem_cons.mpr ⟨s_istore_n d_X6_uses_40 rfl (by decide), fun _ h => absurd h List.not_mem_nil⟩⟩⟩⟩⟩⟩⟩⟩⟩⟩⟩⟩
def t_X6_uses_2 : List (Nat × QO) := [(41, o_il 3 42), (42, o_k 8 44), (44, o_ic (fun x y => decide (y ≤ x)) 71 47), (47, o_al 0 48), (48, o_gf 6 3 51), (51, o_il 1 52), (52, o_il 3 53), (53, o_cV 1 3 35 4 3 56), (56, o_if (fun x => decide (x ≠ 0)) 65 59), (59, o_il 2 60), (60, o_k 1 61), (61, o_il 3 62)]
theorem ts_X6_uses_2 (sx : QX) : ∀ q ∈ t_X6_uses_2, q_Snd sx RX6 cX6_uses 4 (some .int) q.1 q.2 := List.forall_mem_cons.mpr ⟨s_iload_n d_X6_uses_41 rfl, List.forall_mem_cons.mpr ⟨s_bipush d_X6_uses_42 rfl, List.forall_mem_cons.mpr ⟨s_ic_ge d_X6_uses_44 (by decide), List.forall_mem_cons.mpr ⟨s_aload_n d_X6_uses_47 rfl, List.forall_mem_cons.mpr ⟨s_gf d_X6_uses_48 rfl (by decide) n_X6 in_X6 rfl k_2_120, List.forall_mem_cons.mpr ⟨s_iload_n d_X6_uses_51 rfl, List.forall_mem_cons.mpr ⟨s_iload_n d_X6_uses_52 rfl, List.forall_mem_cons.mpr ⟨s_cV (T := TX3) (N := 8) rfl d_X6_uses_53 rfl k_3_162 k_3_45 k_3_46 k_1_4 k_3_47 ⟨by decide, by decide⟩ (by decide +kernel) (by decide), List.forall_mem_cons.mpr ⟨s_if_ne d_X6_uses_56 (by decide), List.forall_mem_cons.mpr ⟨s_iload_n d_X6_uses_59 rfl, List.forall_mem_cons.mpr ⟨s_iconst d_X6_uses_60 rfl, List.forall_mem_cons.mpr ⟨s_iload_n d_X6_uses_61 rfl, fun _ h => absurd h List.not_mem_nil⟩⟩⟩⟩⟩⟩⟩⟩⟩⟩⟩⟩
def t_X6_uses_3 : List (Nat × QO) := [(62, o_b (fun x y => x <<< (y &&& 31)) 63), (63, o_b (fun x y => x ||| y) 64), (64, o_is 2 65), (65, o_inc 3 1 68), (68, o_goto 41), (71, o_il 2 72), (72, o_ir false)]
theorem ts_X6_uses_3 (sx : QX) : ∀ q ∈ t_X6_uses_3, q_Snd sx RX6 cX6_uses 4 (some .int) q.1 q.2 := List.forall_mem_cons.mpr ⟨s_ishl d_X6_uses_62, List.forall_mem_cons.mpr ⟨s_ior d_X6_uses_63, List.forall_mem_cons.mpr ⟨s_istore_n d_X6_uses_64 rfl (by decide), List.forall_mem_cons.mpr ⟨s_iinc d_X6_uses_65 rfl (by decide), List.forall_mem_cons.mpr ⟨s_goto d_X6_uses_68 (by decide), List.forall_mem_cons.mpr ⟨s_iload_n d_X6_uses_71 rfl, List.forall_mem_cons.mpr ⟨s_ir d_X6_uses_72 rfl, fun _ h => absurd h List.not_mem_nil⟩⟩⟩⟩⟩⟩⟩
def t_X6_uses (pc : Nat) : Option QO := cond (Nat.ble pc 40) (cond (Nat.ble pc 19) (q_look (t_X6_uses_0) pc) (q_look (t_X6_uses_1) pc)) (cond (Nat.ble pc 61) (q_look (t_X6_uses_2) pc) (q_look (t_X6_uses_3) pc))
theorem ts_X6_uses (sx : QX) (pc : Nat) : ∀ o, t_X6_uses pc = some o → q_Snd sx RX6 cX6_uses 4 (some .int) pc o := by
  unfold t_X6_uses
  exact q_cb (q_cb (q_look_all (ts_X6_uses_0 sx)) (q_look_all (ts_X6_uses_1 sx))) (q_cb (q_look_all (ts_X6_uses_2 sx)) (q_look_all (ts_X6_uses_3 sx)))
theorem d_X6_harm_0 : decode cX6_harm 0 = .ok (.aload_n 0, 1) := by decide +kernel
theorem d_X6_harm_1 : decode cX6_harm 1 = .ok (.iload_n 1, 1) := by decide +kernel
theorem d_X6_harm_2 : decode cX6_harm 2 = .ok (.invokevirtual 99, 3) := by decide +kernel
theorem d_X6_harm_5 : decode cX6_harm 5 = .ok (.ifCond .ne 5, 3) := by decide +kernel
theorem d_X6_harm_8 : decode cX6_harm 8 = .ok (.iconst (-1), 1) := by decide +kernel
theorem d_X6_harm_9 : decode cX6_harm 9 = .ok (.ireturn, 1) := by decide +kernel
theorem d_X6_harm_10 : decode cX6_harm 10 = .ok (.aload_n 0, 1) := by decide +kernel
theorem d_X6_harm_11 : decode cX6_harm 11 = .ok (.getfield 31, 3) := by decide +kernel
theorem d_X6_harm_14 : decode cX6_harm 14 = .ok (.iload_n 1, 1) := by decide +kernel
theorem d_X6_harm_15 : decode cX6_harm 15 = .ok (.iconst 0, 1) := by decide +kernel
theorem d_X6_harm_16 : decode cX6_harm 16 = .ok (.invokevirtual 170, 3) := by decide +kernel
theorem d_X6_harm_19 : decode cX6_harm 19 = .ok (.ifCond .eq 14, 3) := by decide +kernel
theorem d_X6_harm_22 : decode cX6_harm 22 = .ok (.aload_n 0, 1) := by decide +kernel
theorem d_X6_harm_23 : decode cX6_harm 23 = .ok (.getfield 31, 3) := by decide +kernel
theorem d_X6_harm_26 : decode cX6_harm 26 = .ok (.iload_n 1, 1) := by decide +kernel
theorem d_X6_harm_27 : decode cX6_harm 27 = .ok (.invokevirtual 230, 3) := by decide +kernel
theorem d_X6_harm_30 : decode cX6_harm 30 = .ok (.goto 5, 3) := by decide +kernel
theorem d_X6_harm_33 : decode cX6_harm 33 = .ok (.bipush (-2), 2) := by decide +kernel
theorem d_X6_harm_35 : decode cX6_harm 35 = .ok (.ireturn, 1) := by decide +kernel
def t_X6_harm_0 : List (Nat × QO) := [(0, o_al 0 1), (1, o_il 1 2), (2, o_cV 1 6 86 2 2 5), (5, o_if (fun x => decide (x ≠ 0)) 10 8), (8, o_k (-1) 9), (9, o_ir false), (10, o_al 0 11), (11, o_gf 6 3 14), (14, o_il 1 15), (15, o_k 0 16), (16, o_cV 1 3 21 3 3 19), (19, o_if (fun x => decide (x = 0)) 33 22)]
theorem ts_X6_harm_0 (sx : QX) : ∀ q ∈ t_X6_harm_0, q_Snd sx RX6 cX6_harm 2 (some .int) q.1 q.2 := List.forall_mem_cons.mpr ⟨s_aload_n d_X6_harm_0 rfl, List.forall_mem_cons.mpr ⟨s_iload_n d_X6_harm_1 rfl, List.forall_mem_cons.mpr ⟨s_cV (T := TX6) (N := 9) rfl d_X6_harm_2 rfl k_2_170 k_2_172 k_0_7 k_1_1 k_2_173 ⟨by decide, by decide⟩ (by decide +kernel) (by decide), List.forall_mem_cons.mpr ⟨s_if_ne d_X6_harm_5 (by decide), List.forall_mem_cons.mpr ⟨s_iconst d_X6_harm_8 rfl, List.forall_mem_cons.mpr ⟨s_ir d_X6_harm_9 rfl, List.forall_mem_cons.mpr ⟨s_aload_n d_X6_harm_10 rfl, List.forall_mem_cons.mpr ⟨s_gf d_X6_harm_11 rfl (by decide) n_X6 in_X6 rfl k_2_120, List.forall_mem_cons.mpr ⟨s_iload_n d_X6_harm_14 rfl, List.forall_mem_cons.mpr ⟨s_iconst d_X6_harm_15 rfl, List.forall_mem_cons.mpr ⟨s_cV (T := TX3) (N := 8) rfl d_X6_harm_16 rfl k_3_28 k_3_29 k_3_30 k_1_4 k_3_31 ⟨by decide, by decide⟩ (by decide +kernel) (by decide), List.forall_mem_cons.mpr ⟨s_if_eq d_X6_harm_19 (by decide), fun _ h => absurd h List.not_mem_nil⟩⟩⟩⟩⟩⟩⟩⟩⟩⟩⟩⟩
def t_X6_harm_1 : List (Nat × QO) := [(22, o_al 0 23), (23, o_gf 6 3 26), (26, o_il 1 27), (27, o_cV 1 3 42 10 2 30), (30, o_goto 35), (33, o_k (-2) 35), (35, o_ir false)]
theorem ts_X6_harm_1 (sx : QX) : ∀ q ∈ t_X6_harm_1, q_Snd sx RX6 cX6_harm 2 (some .int) q.1 q.2 := List.forall_mem_cons.mpr ⟨s_aload_n d_X6_harm_22 rfl, List.forall_mem_cons.mpr ⟨s_gf d_X6_harm_23 rfl (by decide) n_X6 in_X6 rfl k_2_120, List.forall_mem_cons.mpr ⟨s_iload_n d_X6_harm_26 rfl, List.forall_mem_cons.mpr ⟨s_cV (T := TX3) (N := 8) rfl d_X6_harm_27 rfl k_3_167 k_3_168 k_3_169 k_1_4 k_3_170 ⟨by decide, by decide⟩ (by decide +kernel) (by decide), List.forall_mem_cons.mpr ⟨s_goto d_X6_harm_30 (by decide), List.forall_mem_cons.mpr ⟨s_bipush d_X6_harm_33 rfl, List.forall_mem_cons.mpr ⟨s_ir d_X6_harm_35 rfl, fun _ h => absurd h List.not_mem_nil⟩⟩⟩⟩⟩⟩⟩
def t_X6_harm (pc : Nat) : Option QO := cond (Nat.ble pc 19) (q_look (t_X6_harm_0) pc) (q_look (t_X6_harm_1) pc)
theorem ts_X6_harm (sx : QX) (pc : Nat) : ∀ o, t_X6_harm pc = some o → q_Snd sx RX6 cX6_harm 2 (some .int) pc o := by
  unfold t_X6_harm
  exact q_cb (q_look_all (ts_X6_harm_0 sx)) (q_look_all (ts_X6_harm_1 sx))
theorem d_X6_liars_0 : decode cX6_liars 0 = .ok (.bipush (-4), 2) := by decide +kernel
theorem d_X6_liars_2 : decode cX6_liars 2 = .ok (.istore_n 1, 1) := by decide +kernel
theorem d_X6_liars_3 : decode cX6_liars 3 = .ok (.iconst 0, 1) := by decide +kernel
theorem d_X6_liars_4 : decode cX6_liars 4 = .ok (.istore_n 2, 1) := by decide +kernel
theorem d_X6_liars_5 : decode cX6_liars 5 = .ok (.iload_n 2, 1) := by decide +kernel
theorem d_X6_liars_6 : decode cX6_liars 6 = .ok (.iconst 1, 1) := by decide +kernel
theorem d_X6_liars_7 : decode cX6_liars 7 = .ok (.aload_n 0, 1) := by decide +kernel
theorem d_X6_liars_8 : decode cX6_liars 8 = .ok (.getfield 19, 3) := by decide +kernel
theorem d_X6_liars_11 : decode cX6_liars 11 = .ok (.getfield 233, 3) := by decide +kernel
theorem d_X6_liars_14 : decode cX6_liars 14 = .ok (.ishl, 1) := by decide +kernel
theorem d_X6_liars_15 : decode cX6_liars 15 = .ok (.if_icmp .ge 49, 3) := by decide +kernel
theorem d_X6_liars_18 : decode cX6_liars 18 = .ok (.iload_n 1, 1) := by decide +kernel
theorem d_X6_liars_19 : decode cX6_liars 19 = .ok (.bipush (-4), 2) := by decide +kernel
theorem d_X6_liars_21 : decode cX6_liars 21 = .ok (.if_icmp .eq 14, 3) := by decide +kernel
theorem d_X6_liars_24 : decode cX6_liars 24 = .ok (.iload_n 2, 1) := by decide +kernel
theorem d_X6_liars_25 : decode cX6_liars 25 = .ok (.invokestatic 236, 3) := by decide +kernel
theorem d_X6_liars_28 : decode cX6_liars 28 = .ok (.iload_n 1, 1) := by decide +kernel
theorem d_X6_liars_29 : decode cX6_liars 29 = .ok (.invokestatic 236, 3) := by decide +kernel
theorem d_X6_liars_32 : decode cX6_liars 32 = .ok (.if_icmp .ge 7, 3) := by decide +kernel
theorem d_X6_liars_35 : decode cX6_liars 35 = .ok (.iconst 1, 1) := by decide +kernel
theorem d_X6_liars_36 : decode cX6_liars 36 = .ok (.goto 4, 3) := by decide +kernel
theorem d_X6_liars_39 : decode cX6_liars 39 = .ok (.iconst 0, 1) := by decide +kernel
theorem d_X6_liars_40 : decode cX6_liars 40 = .ok (.istore_n 3, 1) := by decide +kernel
theorem d_X6_liars_41 : decode cX6_liars 41 = .ok (.iload_n 3, 1) := by decide +kernel
theorem d_X6_liars_42 : decode cX6_liars 42 = .ok (.ifCond .eq 16, 3) := by decide +kernel
theorem d_X6_liars_45 : decode cX6_liars 45 = .ok (.aload_n 0, 1) := by decide +kernel
theorem d_X6_liars_46 : decode cX6_liars 46 = .ok (.getfield 31, 3) := by decide +kernel
theorem d_X6_liars_49 : decode cX6_liars 49 = .ok (.iload_n 2, 1) := by decide +kernel
theorem d_X6_liars_50 : decode cX6_liars 50 = .ok (.invokevirtual 241, 3) := by decide +kernel
theorem d_X6_liars_53 : decode cX6_liars 53 = .ok (.ifCond .eq 5, 3) := by decide +kernel
theorem d_X6_liars_56 : decode cX6_liars 56 = .ok (.iload_n 2, 1) := by decide +kernel
theorem d_X6_liars_57 : decode cX6_liars 57 = .ok (.istore_n 1, 1) := by decide +kernel
theorem d_X6_liars_58 : decode cX6_liars 58 = .ok (.iinc 2 1, 3) := by decide +kernel
theorem d_X6_liars_61 : decode cX6_liars 61 = .ok (.goto (-56), 3) := by decide +kernel
theorem d_X6_liars_64 : decode cX6_liars 64 = .ok (.iload_n 1, 1) := by decide +kernel
theorem d_X6_liars_65 : decode cX6_liars 65 = .ok (.ireturn, 1) := by decide +kernel
def t_X6_liars_0 : List (Nat × QO) := [(0, o_k (-4) 2), (2, o_is 1 3), (3, o_k 0 4), (4, o_is 2 5), (5, o_il 2 6), (6, o_k 1 7), (7, o_al 0 8), (8, o_gf 6 1 11), (11, o_gf 0 2 14), (14, o_b (fun x y => x <<< (y &&& 31)) 15), (15, o_ic (fun x y => decide (y ≤ x)) 64 18), (18, o_il 1 19)]
theorem ts_X6_liars_0 (sx : QX) : ∀ q ∈ t_X6_liars_0, q_Snd sx RX6 cX6_liars 4 (some .int) q.1 q.2 := List.forall_mem_cons.mpr ⟨s_bipush d_X6_liars_0 rfl, List.forall_mem_cons.mpr ⟨s_istore_n d_X6_liars_2 rfl (by decide), List.forall_mem_cons.mpr ⟨s_iconst d_X6_liars_3 rfl, List.forall_mem_cons.mpr ⟨s_istore_n d_X6_liars_4 rfl (by decide), List.forall_mem_cons.mpr ⟨s_iload_n d_X6_liars_5 rfl, List.forall_mem_cons.mpr ⟨s_iconst d_X6_liars_6 rfl, List.forall_mem_cons.mpr ⟨s_aload_n d_X6_liars_7 rfl, List.forall_mem_cons.mpr ⟨s_gf d_X6_liars_8 rfl (by decide) n_X6 in_X6 rfl k_2_118, List.forall_mem_cons.mpr ⟨s_gf d_X6_liars_11 rfl (by decide) n_X0 in_X0 rfl k_1_61, List.forall_mem_cons.mpr ⟨s_ishl d_X6_liars_14, List.forall_mem_cons.mpr ⟨s_ic_ge d_X6_liars_15 (by decide), List.forall_mem_cons.mpr ⟨s_iload_n d_X6_liars_18 rfl, fun _ h => absurd h List.not_mem_nil⟩⟩⟩⟩⟩⟩⟩⟩⟩⟩⟩⟩
def t_X6_liars_1 : List (Nat × QO) := [(19, o_k (-4) 21), (21, o_ic (fun x y => decide (x = y)) 35 24), (24, o_il 2 25), (25, o_cS 1 177 1 1 28), (28, o_il 1 29), (29, o_cS 1 177 1 1 32), (32, o_ic (fun x y => decide (y ≤ x)) 39 35), (35, o_k 1 36), (36, o_goto 40), (39, o_k 0 40), (40, o_is 3 41), (41, o_il 3 42)]
theorem ts_X6_liars_1 (sx : QX) : ∀ q ∈ t_X6_liars_1, q_Snd sx RX6 cX6_liars 4 (some .int) q.1 q.2 := List.forall_mem_cons.mpr ⟨s_bipush d_X6_liars_19 rfl, List.forall_mem_cons.mpr ⟨s_ic_eq d_X6_liars_21 (by decide), List.forall_mem_cons.mpr ⟨s_iload_n d_X6_liars_24 rfl, List.forall_mem_cons.mpr ⟨s_cS rfl d_X6_liars_25 k_3_180 k_3_181 k_1_14 k_3_182 ⟨by decide, by decide⟩ (by decide +kernel) (by decide), List.forall_mem_cons.mpr ⟨s_iload_n d_X6_liars_28 rfl, List.forall_mem_cons.mpr ⟨s_cS rfl d_X6_liars_29 k_3_180 k_3_181 k_1_14 k_3_182 ⟨by decide, by decide⟩ (by decide +kernel) (by decide), List.forall_mem_cons.mpr ⟨s_ic_ge d_X6_liars_32 (by decide), List.forall_mem_cons.mpr ⟨s_iconst d_X6_liars_35 rfl, List.forall_mem_cons.mpr ⟨s_goto d_X6_liars_36 (by decide), List.forall_mem_cons.mpr ⟨s_iconst d_X6_liars_39 rfl, List.forall_mem_cons.mpr ⟨s_istore_n d_X6_liars_40 rfl (by decide), List.forall_mem_cons.mpr ⟨s_iload_n d_X6_liars_41 rfl, fun _ h => absurd h List.not_mem_nil⟩⟩⟩⟩⟩⟩⟩⟩⟩⟩⟩⟩
def t_X6_liars_2 : List (Nat × QO) := [(42, o_if (fun x => decide (x = 0)) 58 45), (45, o_al 0 46), (46, o_gf 6 3 49), (49, o_il 2 50), (50, o_cV 1 3 44 3 2 53), (53, o_if (fun x => decide (x = 0)) 58 56), (56, o_il 2 57), (57, o_is 1 58), (58, o_inc 2 1 61), (61, o_goto 5), (64, o_il 1 65), (65, o_ir false)]
theorem ts_X6_liars_2 (sx : QX) : ∀ q ∈ t_X6_liars_2, q_Snd sx RX6 cX6_liars 4 (some .int) q.1 q.2 := List.forall_mem_cons.mpr ⟨s_if_eq d_X6_liars_42 (by decide), List.forall_mem_cons.mpr ⟨s_aload_n d_X6_liars_45 rfl, List.forall_mem_cons.mpr ⟨s_gf d_X6_liars_46 rfl (by decide) n_X6 in_X6 rfl k_2_120, List.forall_mem_cons.mpr ⟨s_iload_n d_X6_liars_49 rfl, List.forall_mem_cons.mpr ⟨s_cV (T := TX3) (N := 8) rfl d_X6_liars_50 rfl k_3_186 k_3_187 k_3_188 k_1_4 k_3_189 ⟨by decide, by decide⟩ (by decide +kernel) (by decide), List.forall_mem_cons.mpr ⟨s_if_eq d_X6_liars_53 (by decide), List.forall_mem_cons.mpr ⟨s_iload_n d_X6_liars_56 rfl, List.forall_mem_cons.mpr ⟨s_istore_n d_X6_liars_57 rfl (by decide), List.forall_mem_cons.mpr ⟨s_iinc d_X6_liars_58 rfl (by decide), List.forall_mem_cons.mpr ⟨s_goto d_X6_liars_61 (by decide), List.forall_mem_cons.mpr ⟨s_iload_n d_X6_liars_64 rfl, List.forall_mem_cons.mpr ⟨s_ir d_X6_liars_65 rfl, fun _ h => absurd h List.not_mem_nil⟩⟩⟩⟩⟩⟩⟩⟩⟩⟩⟩⟩
def t_X6_liars (pc : Nat) : Option QO := cond (Nat.ble pc 18) (q_look (t_X6_liars_0) pc) (cond (Nat.ble pc 41) (q_look (t_X6_liars_1) pc) (q_look (t_X6_liars_2) pc))
theorem ts_X6_liars (sx : QX) (pc : Nat) : ∀ o, t_X6_liars pc = some o → q_Snd sx RX6 cX6_liars 4 (some .int) pc o := by
  unfold t_X6_liars
  exact q_cb (q_look_all (ts_X6_liars_0 sx)) (q_cb (q_look_all (ts_X6_liars_1 sx)) (q_look_all (ts_X6_liars_2 sx)))
theorem d_X6_said_0 : decode cX6_said 0 = .ok (.aload_n 0, 1) := by decide +kernel
theorem d_X6_said_1 : decode cX6_said 1 = .ok (.iload_n 1, 1) := by decide +kernel
theorem d_X6_said_2 : decode cX6_said 2 = .ok (.invokevirtual 99, 3) := by decide +kernel
theorem d_X6_said_5 : decode cX6_said 5 = .ok (.ifCond .eq 20, 3) := by decide +kernel
theorem d_X6_said_8 : decode cX6_said 8 = .ok (.iload_n 2, 1) := by decide +kernel
theorem d_X6_said_9 : decode cX6_said 9 = .ok (.ifCond .lt 16, 3) := by decide +kernel
theorem d_X6_said_12 : decode cX6_said 12 = .ok (.iload_n 2, 1) := by decide +kernel
theorem d_X6_said_13 : decode cX6_said 13 = .ok (.bipush 99, 2) := by decide +kernel
theorem d_X6_said_15 : decode cX6_said 15 = .ok (.if_icmp .gt 10, 3) := by decide +kernel
theorem d_X6_said_18 : decode cX6_said 18 = .ok (.iload_n 3, 1) := by decide +kernel
theorem d_X6_said_19 : decode cX6_said 19 = .ok (.invokestatic 244, 3) := by decide +kernel
theorem d_X6_said_22 : decode cX6_said 22 = .ok (.ifCond .ne 5, 3) := by decide +kernel
theorem d_X6_said_25 : decode cX6_said 25 = .ok (.iconst (-1), 1) := by decide +kernel
theorem d_X6_said_26 : decode cX6_said 26 = .ok (.ireturn, 1) := by decide +kernel
theorem d_X6_said_27 : decode cX6_said 27 = .ok (.aload_n 0, 1) := by decide +kernel
theorem d_X6_said_28 : decode cX6_said 28 = .ok (.getfield 31, 3) := by decide +kernel
theorem d_X6_said_31 : decode cX6_said 31 = .ok (.iload_n 1, 1) := by decide +kernel
theorem d_X6_said_32 : decode cX6_said 32 = .ok (.iconst 0, 1) := by decide +kernel
theorem d_X6_said_33 : decode cX6_said 33 = .ok (.invokevirtual 170, 3) := by decide +kernel
theorem d_X6_said_36 : decode cX6_said 36 = .ok (.ifCond .ne 6, 3) := by decide +kernel
theorem d_X6_said_39 : decode cX6_said 39 = .ok (.bipush (-2), 2) := by decide +kernel
theorem d_X6_said_41 : decode cX6_said 41 = .ok (.ireturn, 1) := by decide +kernel
theorem d_X6_said_42 : decode cX6_said 42 = .ok (.iconst 0, 1) := by decide +kernel
theorem d_X6_said_43 : decode cX6_said 43 = .ok (.istore 4, 2) := by decide +kernel
theorem d_X6_said_45 : decode cX6_said 45 = .ok (.bipush (-4), 2) := by decide +kernel
theorem d_X6_said_47 : decode cX6_said 47 = .ok (.istore 5, 2) := by decide +kernel
theorem d_X6_said_49 : decode cX6_said 49 = .ok (.iconst 0, 1) := by decide +kernel
theorem d_X6_said_50 : decode cX6_said 50 = .ok (.istore 6, 2) := by decide +kernel
theorem d_X6_said_52 : decode cX6_said 52 = .ok (.iload 6, 2) := by decide +kernel
theorem d_X6_said_54 : decode cX6_said 54 = .ok (.aload_n 0, 1) := by decide +kernel
theorem d_X6_said_55 : decode cX6_said 55 = .ok (.getfield 19, 3) := by decide +kernel
theorem d_X6_said_58 : decode cX6_said 58 = .ok (.getfield 233, 3) := by decide +kernel
theorem d_X6_said_61 : decode cX6_said 61 = .ok (.if_icmp .ge 66, 3) := by decide +kernel
theorem d_X6_said_64 : decode cX6_said 64 = .ok (.iconst 0, 1) := by decide +kernel
theorem d_X6_said_65 : decode cX6_said 65 = .ok (.istore 7, 2) := by decide +kernel
theorem d_X6_said_67 : decode cX6_said 67 = .ok (.iload 7, 2) := by decide +kernel
theorem d_X6_said_69 : decode cX6_said 69 = .ok (.aload_n 0, 1) := by decide +kernel
theorem d_X6_said_70 : decode cX6_said 70 = .ok (.getfield 19, 3) := by decide +kernel
theorem d_X6_said_73 : decode cX6_said 73 = .ok (.getfield 247, 3) := by decide +kernel
theorem d_X6_said_76 : decode cX6_said 76 = .ok (.if_icmp .ge 45, 3) := by decide +kernel
theorem d_X6_said_79 : decode cX6_said 79 = .ok (.aload_n 0, 1) := by decide +kernel
theorem d_X6_said_80 : decode cX6_said 80 = .ok (.getfield 31, 3) := by decide +kernel
theorem d_X6_said_83 : decode cX6_said 83 = .ok (.iload 6, 2) := by decide +kernel
theorem d_X6_said_85 : decode cX6_said 85 = .ok (.iload_n 1, 1) := by decide +kernel
theorem d_X6_said_86 : decode cX6_said 86 = .ok (.iload 7, 2) := by decide +kernel
theorem d_X6_said_88 : decode cX6_said 88 = .ok (.invokevirtual 152, 3) := by decide +kernel
theorem d_X6_said_91 : decode cX6_said 91 = .ok (.iload_n 2, 1) := by decide +kernel
theorem d_X6_said_92 : decode cX6_said 92 = .ok (.if_icmp .eq 6, 3) := by decide +kernel
theorem d_X6_said_95 : decode cX6_said 95 = .ok (.goto 20, 3) := by decide +kernel
theorem d_X6_said_98 : decode cX6_said 98 = .ok (.iload 4, 2) := by decide +kernel
theorem d_X6_said_100 : decode cX6_said 100 = .ok (.ifCond .ne 12, 3) := by decide +kernel
theorem d_X6_said_103 : decode cX6_said 103 = .ok (.iload 6, 2) := by decide +kernel
theorem d_X6_said_105 : decode cX6_said 105 = .ok (.iload 7, 2) := by decide +kernel
theorem d_X6_said_107 : decode cX6_said 107 = .ok (.invokestatic 250, 3) := by decide +kernel
theorem d_X6_said_110 : decode cX6_said 110 = .ok (.istore 5, 2) := by decide +kernel
theorem d_X6_said_112 : decode cX6_said 112 = .ok (.iinc 4 1, 3) := by decide +kernel
theorem d_X6_said_115 : decode cX6_said 115 = .ok (.iinc 7 1, 3) := by decide +kernel
theorem d_X6_said_118 : decode cX6_said 118 = .ok (.goto (-51), 3) := by decide +kernel
theorem d_X6_said_121 : decode cX6_said 121 = .ok (.iinc 6 1, 3) := by decide +kernel
theorem d_X6_said_124 : decode cX6_said 124 = .ok (.goto (-72), 3) := by decide +kernel
theorem d_X6_said_127 : decode cX6_said 127 = .ok (.iload_n 3, 1) := by decide +kernel
theorem d_X6_said_128 : decode cX6_said 128 = .ok (.ifCond .ne 8, 3) := by decide +kernel
theorem d_X6_said_131 : decode cX6_said 131 = .ok (.iload 4, 2) := by decide +kernel
theorem d_X6_said_133 : decode cX6_said 133 = .ok (.goto 5, 3) := by decide +kernel
theorem d_X6_said_136 : decode cX6_said 136 = .ok (.iload 5, 2) := by decide +kernel
theorem d_X6_said_138 : decode cX6_said 138 = .ok (.ireturn, 1) := by decide +kernel
def t_X6_said_0 : List (Nat × QO) := [(0, o_al 0 1), (1, o_il 1 2), (2, o_cV 1 6 86 2 2 5), (5, o_if (fun x => decide (x = 0)) 25 8), (8, o_il 2 9), (9, o_if (fun x => decide (x < 0)) 25 12), (12, o_il 2 13), (13, o_k 99 15), (15, o_ic (fun x y => decide (y < x)) 25 18), (18, o_il 3 19), (19, o_cS 1 91 1 1 22), (22, o_if (fun x => decide (x ≠ 0)) 27 25)]
theorem ts_X6_said_0 (sx : QX) : ∀ q ∈ t_X6_said_0, q_Snd sx RX6 cX6_said 8 (some .int) q.1 q.2 := List.forall_mem_cons.mpr ⟨s_aload_n d_X6_said_0 rfl, List.forall_mem_cons.mpr ⟨s_iload_n d_X6_said_1 rfl, List.forall_mem_cons.mpr ⟨s_cV (T := TX6) (N := 9) rfl d_X6_said_2 rfl k_2_170 k_2_172 k_0_7 k_1_1 k_2_173 ⟨by decide, by decide⟩ (by decide +kernel) (by decide), List.forall_mem_cons.mpr ⟨s_if_eq d_X6_said_5 (by decide), List.forall_mem_cons.mpr ⟨s_iload_n d_X6_said_8 rfl, List.forall_mem_cons.mpr ⟨s_if_lt d_X6_said_9 (by decide), List.forall_mem_cons.mpr ⟨s_iload_n d_X6_said_12 rfl, List.forall_mem_cons.mpr ⟨s_bipush d_X6_said_13 rfl, List.forall_mem_cons.mpr ⟨s_ic_gt d_X6_said_15 (by decide), List.forall_mem_cons.mpr ⟨s_iload_n d_X6_said_18 rfl, List.forall_mem_cons.mpr ⟨s_cS rfl d_X6_said_19 k_3_198 k_3_199 k_1_1 k_3_200 ⟨by decide, by decide⟩ (by decide +kernel) (by decide), List.forall_mem_cons.mpr ⟨s_if_ne d_X6_said_22 (by decide), fun _ h => absurd h List.not_mem_nil⟩⟩⟩⟩⟩⟩⟩⟩⟩⟩⟩⟩
def t_X6_said_1 : List (Nat × QO) := [(25, o_k (-1) 26), (26, o_ir false), (27, o_al 0 28), (28, o_gf 6 3 31), (31, o_il 1 32), (32, o_k 0 33), (33, o_cV 1 3 21 3 3 36), (36, o_if (fun x => decide (x ≠ 0)) 42 39), (39, o_k (-2) 41), (41, o_ir false), (42, o_k 0 43), (43, o_is 4 45)]
theorem ts_X6_said_1 (sx : QX) : ∀ q ∈ t_X6_said_1, q_Snd sx RX6 cX6_said 8 (some .int) q.1 q.2 := List.forall_mem_cons.mpr ⟨s_iconst d_X6_said_25 rfl, List.forall_mem_cons.mpr ⟨s_ir d_X6_said_26 rfl, List.forall_mem_cons.mpr ⟨s_aload_n d_X6_said_27 rfl, List.forall_mem_cons.mpr ⟨s_gf d_X6_said_28 rfl (by decide) n_X6 in_X6 rfl k_2_120, List.forall_mem_cons.mpr ⟨s_iload_n d_X6_said_31 rfl, List.forall_mem_cons.mpr ⟨s_iconst d_X6_said_32 rfl, List.forall_mem_cons.mpr ⟨s_cV (T := TX3) (N := 8) rfl d_X6_said_33 rfl k_3_28 k_3_29 k_3_30 k_1_4 k_3_31 ⟨by decide, by decide⟩ (by decide +kernel) (by decide), List.forall_mem_cons.mpr ⟨s_if_ne d_X6_said_36 (by decide), List.forall_mem_cons.mpr ⟨s_bipush d_X6_said_39 rfl, List.forall_mem_cons.mpr ⟨s_ir d_X6_said_41 rfl, List.forall_mem_cons.mpr ⟨s_iconst d_X6_said_42 rfl, List.forall_mem_cons.mpr ⟨s_istore d_X6_said_43 (by decide), fun _ h => absurd h List.not_mem_nil⟩⟩⟩⟩⟩⟩⟩⟩⟩⟩⟩⟩
def t_X6_said_2 : List (Nat × QO) := [(45, o_k (-4) 47), (47, o_is 5 49), (49, o_k 0 50), (50, o_is 6 52), (52, o_il 6 54), (54, o_al 0 55), (55, o_gf 6 1 58), (58, o_gf 0 2 61), (61, o_ic (fun x y => decide (y ≤ x)) 127 64), (64, o_k 0 65), (65, o_is 7 67), (67, o_il 7 69)]
theorem ts_X6_said_2 (sx : QX) : ∀ q ∈ t_X6_said_2, q_Snd sx RX6 cX6_said 8 (some .int) q.1 q.2 := List.forall_mem_cons.mpr ⟨s_bipush d_X6_said_45 rfl, List.forall_mem_cons.mpr ⟨s_istore d_X6_said_47 (by decide), List.forall_mem_cons.mpr ⟨s_iconst d_X6_said_49 rfl, List.forall_mem_cons.mpr ⟨s_istore d_X6_said_50 (by decide), List.forall_mem_cons.mpr ⟨s_iload d_X6_said_52, List.forall_mem_cons.mpr ⟨s_aload_n d_X6_said_54 rfl, List.forall_mem_cons.mpr ⟨s_gf d_X6_said_55 rfl (by decide) n_X6 in_X6 rfl k_2_118, List.forall_mem_cons.mpr ⟨s_gf d_X6_said_58 rfl (by decide) n_X0 in_X0 rfl k_1_61, List.forall_mem_cons.mpr ⟨s_ic_ge d_X6_said_61 (by decide), List.forall_mem_cons.mpr ⟨s_iconst d_X6_said_64 rfl, List.forall_mem_cons.mpr ⟨s_istore d_X6_said_65 (by decide), List.forall_mem_cons.mpr ⟨s_iload d_X6_said_67, fun _ h => absurd h List.not_mem_nil⟩⟩⟩⟩⟩⟩⟩⟩⟩⟩⟩⟩
def t_X6_said_3 : List (Nat × QO) := [(69, o_al 0 70), (70, o_gf 6 1 73), (73, o_gf 0 1 76), (76, o_ic (fun x y => decide (y ≤ x)) 121 79), (79, o_al 0 80), (80, o_gf 6 3 83), (83, o_il 6 85), (85, o_il 1 86), (86, o_il 7 88), (88, o_cV 1 3 26 5 4 91), (91, o_il 2 92), (92, o_ic (fun x y => decide (x = y)) 98 95)]
theorem ts_X6_said_3 (sx : QX) : ∀ q ∈ t_X6_said_3, q_Snd sx RX6 cX6_said 8 (some .int) q.1 q.2 := List.forall_mem_cons.mpr ⟨s_aload_n d_X6_said_69 rfl, List.forall_mem_cons.mpr ⟨s_gf d_X6_said_70 rfl (by decide) n_X6 in_X6 rfl k_2_118, List.forall_mem_cons.mpr ⟨s_gf d_X6_said_73 rfl (by decide) n_X0 in_X0 rfl k_1_57, List.forall_mem_cons.mpr ⟨s_ic_ge d_X6_said_76 (by decide), List.forall_mem_cons.mpr ⟨s_aload_n d_X6_said_79 rfl, List.forall_mem_cons.mpr ⟨s_gf d_X6_said_80 rfl (by decide) n_X6 in_X6 rfl k_2_120, List.forall_mem_cons.mpr ⟨s_iload d_X6_said_83, List.forall_mem_cons.mpr ⟨s_iload_n d_X6_said_85 rfl, List.forall_mem_cons.mpr ⟨s_iload d_X6_said_86, List.forall_mem_cons.mpr ⟨s_cV (T := TX3) (N := 8) rfl d_X6_said_88 rfl k_2_218 k_2_219 k_2_220 k_1_4 k_2_221 ⟨by decide, by decide⟩ (by decide +kernel) (by decide), List.forall_mem_cons.mpr ⟨s_iload_n d_X6_said_91 rfl, List.forall_mem_cons.mpr ⟨s_ic_eq d_X6_said_92 (by decide), fun _ h => absurd h List.not_mem_nil⟩⟩⟩⟩⟩⟩⟩⟩⟩⟩⟩⟩
def t_X6_said_4 : List (Nat × QO) := [(95, o_goto 115), (98, o_il 4 100), (100, o_if (fun x => decide (x ≠ 0)) 112 103), (103, o_il 6 105), (105, o_il 7 107), (107, o_cS 1 92 2 2 110), (110, o_is 5 112), (112, o_inc 4 1 115), (115, o_inc 7 1 118), (118, o_goto 67), (121, o_inc 6 1 124), (124, o_goto 52)]
theorem ts_X6_said_4 (sx : QX) : ∀ q ∈ t_X6_said_4, q_Snd sx RX6 cX6_said 8 (some .int) q.1 q.2 := List.forall_mem_cons.mpr ⟨s_goto d_X6_said_95 (by decide), List.forall_mem_cons.mpr ⟨s_iload d_X6_said_98, List.forall_mem_cons.mpr ⟨s_if_ne d_X6_said_100 (by decide), List.forall_mem_cons.mpr ⟨s_iload d_X6_said_103, List.forall_mem_cons.mpr ⟨s_iload d_X6_said_105, List.forall_mem_cons.mpr ⟨s_cS rfl d_X6_said_107 k_3_201 k_3_94 k_1_1 k_3_95 ⟨by decide, by decide⟩ (by decide +kernel) (by decide), List.forall_mem_cons.mpr ⟨s_istore d_X6_said_110 (by decide), List.forall_mem_cons.mpr ⟨s_iinc d_X6_said_112 rfl (by decide), List.forall_mem_cons.mpr ⟨s_iinc d_X6_said_115 rfl (by decide), List.forall_mem_cons.mpr ⟨s_goto d_X6_said_118 (by decide), List.forall_mem_cons.mpr ⟨s_iinc d_X6_said_121 rfl (by decide), List.forall_mem_cons.mpr ⟨s_goto d_X6_said_124 (by decide), fun _ h => absurd h List.not_mem_nil⟩⟩⟩⟩⟩⟩⟩⟩⟩⟩⟩⟩
def t_X6_said_5 : List (Nat × QO) := [(127, o_il 3 128), (128, o_if (fun x => decide (x ≠ 0)) 136 131), (131, o_il 4 133), (133, o_goto 138), (136, o_il 5 138), (138, o_ir false)]
theorem ts_X6_said_5 (sx : QX) : ∀ q ∈ t_X6_said_5, q_Snd sx RX6 cX6_said 8 (some .int) q.1 q.2 := List.forall_mem_cons.mpr ⟨s_iload_n d_X6_said_127 rfl, List.forall_mem_cons.mpr ⟨s_if_ne d_X6_said_128 (by decide), List.forall_mem_cons.mpr ⟨s_iload d_X6_said_131, List.forall_mem_cons.mpr ⟨s_goto d_X6_said_133 (by decide), List.forall_mem_cons.mpr ⟨s_iload d_X6_said_136, List.forall_mem_cons.mpr ⟨s_ir d_X6_said_138 rfl, fun _ h => absurd h List.not_mem_nil⟩⟩⟩⟩⟩⟩
def t_X6_said (pc : Nat) : Option QO := cond (Nat.ble pc 67) (cond (Nat.ble pc 22) (q_look (t_X6_said_0) pc) (cond (Nat.ble pc 43) (q_look (t_X6_said_1) pc) (q_look (t_X6_said_2) pc))) (cond (Nat.ble pc 92) (q_look (t_X6_said_3) pc) (cond (Nat.ble pc 124) (q_look (t_X6_said_4) pc) (q_look (t_X6_said_5) pc)))
theorem ts_X6_said (sx : QX) (pc : Nat) : ∀ o, t_X6_said pc = some o → q_Snd sx RX6 cX6_said 8 (some .int) pc o := by
  unfold t_X6_said
  exact q_cb (q_cb (q_look_all (ts_X6_said_0 sx)) (q_cb (q_look_all (ts_X6_said_1 sx)) (q_look_all (ts_X6_said_2 sx)))) (q_cb (q_look_all (ts_X6_said_3 sx)) (q_cb (q_look_all (ts_X6_said_4 sx)) (q_look_all (ts_X6_said_5 sx))))
theorem d_X6_deaf_0 : decode cX6_deaf 0 = .ok (.aload_n 0, 1) := by decide +kernel
theorem d_X6_deaf_1 : decode cX6_deaf 1 = .ok (.iload_n 1, 1) := by decide +kernel
theorem d_X6_deaf_2 : decode cX6_deaf 2 = .ok (.iload_n 2, 1) := by decide +kernel
theorem d_X6_deaf_3 : decode cX6_deaf 3 = .ok (.iload_n 3, 1) := by decide +kernel
theorem d_X6_deaf_4 : decode cX6_deaf 4 = .ok (.invokevirtual 148, 3) := by decide +kernel
theorem d_X6_deaf_7 : decode cX6_deaf 7 = .ok (.ifCond .eq 35, 3) := by decide +kernel
theorem d_X6_deaf_10 : decode cX6_deaf 10 = .ok (.iload 4, 2) := by decide +kernel
theorem d_X6_deaf_12 : decode cX6_deaf 12 = .ok (.ifCond .lt 30, 3) := by decide +kernel
theorem d_X6_deaf_15 : decode cX6_deaf 15 = .ok (.iload 4, 2) := by decide +kernel
theorem d_X6_deaf_17 : decode cX6_deaf 17 = .ok (.bipush 8, 2) := by decide +kernel
theorem d_X6_deaf_19 : decode cX6_deaf 19 = .ok (.if_icmp .gt 23, 3) := by decide +kernel
theorem d_X6_deaf_22 : decode cX6_deaf 22 = .ok (.iload 5, 2) := by decide +kernel
theorem d_X6_deaf_24 : decode cX6_deaf 24 = .ok (.ifCond .lt 18, 3) := by decide +kernel
theorem d_X6_deaf_27 : decode cX6_deaf 27 = .ok (.iload 5, 2) := by decide +kernel
theorem d_X6_deaf_29 : decode cX6_deaf 29 = .ok (.bipush 10, 2) := by decide +kernel
theorem d_X6_deaf_31 : decode cX6_deaf 31 = .ok (.if_icmp .gt 11, 3) := by decide +kernel
theorem d_X6_deaf_34 : decode cX6_deaf 34 = .ok (.iload 6, 2) := by decide +kernel
theorem d_X6_deaf_36 : decode cX6_deaf 36 = .ok (.invokestatic 244, 3) := by decide +kernel
theorem d_X6_deaf_39 : decode cX6_deaf 39 = .ok (.ifCond .ne 5, 3) := by decide +kernel
theorem d_X6_deaf_42 : decode cX6_deaf 42 = .ok (.iconst (-1), 1) := by decide +kernel
theorem d_X6_deaf_43 : decode cX6_deaf 43 = .ok (.ireturn, 1) := by decide +kernel
theorem d_X6_deaf_44 : decode cX6_deaf 44 = .ok (.aload_n 0, 1) := by decide +kernel
theorem d_X6_deaf_45 : decode cX6_deaf 45 = .ok (.getfield 31, 3) := by decide +kernel
theorem d_X6_deaf_48 : decode cX6_deaf 48 = .ok (.iload_n 2, 1) := by decide +kernel
theorem d_X6_deaf_49 : decode cX6_deaf 49 = .ok (.iconst 0, 1) := by decide +kernel
theorem d_X6_deaf_50 : decode cX6_deaf 50 = .ok (.invokevirtual 170, 3) := by decide +kernel
theorem d_X6_deaf_53 : decode cX6_deaf 53 = .ok (.ifCond .ne 6, 3) := by decide +kernel
theorem d_X6_deaf_56 : decode cX6_deaf 56 = .ok (.bipush (-2), 2) := by decide +kernel
theorem d_X6_deaf_58 : decode cX6_deaf 58 = .ok (.ireturn, 1) := by decide +kernel
theorem d_X6_deaf_59 : decode cX6_deaf 59 = .ok (.iconst 0, 1) := by decide +kernel
theorem d_X6_deaf_60 : decode cX6_deaf 60 = .ok (.istore 7, 2) := by decide +kernel
theorem d_X6_deaf_62 : decode cX6_deaf 62 = .ok (.iconst 0, 1) := by decide +kernel
theorem d_X6_deaf_63 : decode cX6_deaf 63 = .ok (.istore 8, 2) := by decide +kernel
theorem d_X6_deaf_65 : decode cX6_deaf 65 = .ok (.iload 8, 2) := by decide +kernel
theorem d_X6_deaf_67 : decode cX6_deaf 67 = .ok (.iconst 1, 1) := by decide +kernel
theorem d_X6_deaf_68 : decode cX6_deaf 68 = .ok (.iload 4, 2) := by decide +kernel
theorem d_X6_deaf_70 : decode cX6_deaf 70 = .ok (.ishl, 1) := by decide +kernel
theorem d_X6_deaf_71 : decode cX6_deaf 71 = .ok (.if_icmp .ge 46, 3) := by decide +kernel
theorem d_X6_deaf_74 : decode cX6_deaf 74 = .ok (.aload_n 0, 1) := by decide +kernel
theorem d_X6_deaf_75 : decode cX6_deaf 75 = .ok (.getfield 31, 3) := by decide +kernel
theorem d_X6_deaf_78 : decode cX6_deaf 78 = .ok (.iload_n 1, 1) := by decide +kernel
theorem d_X6_deaf_79 : decode cX6_deaf 79 = .ok (.iload_n 2, 1) := by decide +kernel
theorem d_X6_deaf_80 : decode cX6_deaf 80 = .ok (.iload_n 3, 1) := by decide +kernel
theorem d_X6_deaf_81 : decode cX6_deaf 81 = .ok (.iload 8, 2) := by decide +kernel
theorem d_X6_deaf_83 : decode cX6_deaf 83 = .ok (.invokevirtual 253, 3) := by decide +kernel
theorem d_X6_deaf_86 : decode cX6_deaf 86 = .ok (.aload_n 0, 1) := by decide +kernel
theorem d_X6_deaf_87 : decode cX6_deaf 87 = .ok (.getfield 31, 3) := by decide +kernel
theorem d_X6_deaf_90 : decode cX6_deaf 90 = .ok (.iload_n 2, 1) := by decide +kernel
theorem d_X6_deaf_91 : decode cX6_deaf 91 = .ok (.invokevirtual 224, 3) := by decide +kernel
theorem d_X6_deaf_94 : decode cX6_deaf 94 = .ok (.if_icmp .lt 17, 3) := by decide +kernel
theorem d_X6_deaf_97 : decode cX6_deaf 97 = .ok (.iload 7, 2) := by decide +kernel
theorem d_X6_deaf_99 : decode cX6_deaf 99 = .ok (.iload 8, 2) := by decide +kernel
theorem d_X6_deaf_101 : decode cX6_deaf 101 = .ok (.iload 4, 2) := by decide +kernel
theorem d_X6_deaf_103 : decode cX6_deaf 103 = .ok (.iload 5, 2) := by decide +kernel
theorem d_X6_deaf_105 : decode cX6_deaf 105 = .ok (.invokestatic 257, 3) := by decide +kernel
theorem d_X6_deaf_108 : decode cX6_deaf 108 = .ok (.iadd, 1) := by decide +kernel
theorem d_X6_deaf_109 : decode cX6_deaf 109 = .ok (.istore 7, 2) := by decide +kernel
theorem d_X6_deaf_111 : decode cX6_deaf 111 = .ok (.iinc 8 1, 3) := by decide +kernel
theorem d_X6_deaf_114 : decode cX6_deaf 114 = .ok (.goto (-49), 3) := by decide +kernel
theorem d_X6_deaf_117 : decode cX6_deaf 117 = .ok (.iconst 1, 1) := by decide +kernel
theorem d_X6_deaf_118 : decode cX6_deaf 118 = .ok (.istore 8, 2) := by decide +kernel
theorem d_X6_deaf_120 : decode cX6_deaf 120 = .ok (.iconst 0, 1) := by decide +kernel
theorem d_X6_deaf_121 : decode cX6_deaf 121 = .ok (.istore 9, 2) := by decide +kernel
theorem d_X6_deaf_123 : decode cX6_deaf 123 = .ok (.iload 9, 2) := by decide +kernel
theorem d_X6_deaf_125 : decode cX6_deaf 125 = .ok (.iload 4, 2) := by decide +kernel
theorem d_X6_deaf_127 : decode cX6_deaf 127 = .ok (.if_icmp .ge 16, 3) := by decide +kernel
theorem d_X6_deaf_130 : decode cX6_deaf 130 = .ok (.iload 8, 2) := by decide +kernel
theorem d_X6_deaf_132 : decode cX6_deaf 132 = .ok (.bipush 10, 2) := by decide +kernel
theorem d_X6_deaf_134 : decode cX6_deaf 134 = .ok (.imul, 1) := by decide +kernel
theorem d_X6_deaf_135 : decode cX6_deaf 135 = .ok (.istore 8, 2) := by decide +kernel
theorem d_X6_deaf_137 : decode cX6_deaf 137 = .ok (.iinc 9 1, 3) := by decide +kernel
theorem d_X6_deaf_140 : decode cX6_deaf 140 = .ok (.goto (-17), 3) := by decide +kernel
theorem d_X6_deaf_143 : decode cX6_deaf 143 = .ok (.iload 7, 2) := by decide +kernel
theorem d_X6_deaf_145 : decode cX6_deaf 145 = .ok (.iload 8, 2) := by decide +kernel
theorem d_X6_deaf_147 : decode cX6_deaf 147 = .ok (.invokestatic 260, 3) := by decide +kernel
theorem d_X6_deaf_150 : decode cX6_deaf 150 = .ok (.istore 9, 2) := by decide +kernel
theorem d_X6_deaf_152 : decode cX6_deaf 152 = .ok (.iload 9, 2) := by decide +kernel
theorem d_X6_deaf_154 : decode cX6_deaf 154 = .ok (.iconst 1, 1) := by decide +kernel
theorem d_X6_deaf_155 : decode cX6_deaf 155 = .ok (.if_icmp .ge 5, 3) := by decide +kernel
theorem d_X6_deaf_158 : decode cX6_deaf 158 = .ok (.iconst 0, 1) := by decide +kernel
theorem d_X6_deaf_159 : decode cX6_deaf 159 = .ok (.ireturn, 1) := by decide +kernel
theorem d_X6_deaf_160 : decode cX6_deaf 160 = .ok (.iload 6, 2) := by decide +kernel
theorem d_X6_deaf_162 : decode cX6_deaf 162 = .ok (.ifCond .ne 11, 3) := by decide +kernel
theorem d_X6_deaf_165 : decode cX6_deaf 165 = .ok (.iload 7, 2) := by decide +kernel
theorem d_X6_deaf_167 : decode cX6_deaf 167 = .ok (.iload 9, 2) := by decide +kernel
theorem d_X6_deaf_169 : decode cX6_deaf 169 = .ok (.idiv, 1) := by decide +kernel
theorem d_X6_deaf_170 : decode cX6_deaf 170 = .ok (.goto 8, 3) := by decide +kernel
theorem d_X6_deaf_173 : decode cX6_deaf 173 = .ok (.iload 8, 2) := by decide +kernel
theorem d_X6_deaf_175 : decode cX6_deaf 175 = .ok (.iload 9, 2) := by decide +kernel
theorem d_X6_deaf_177 : decode cX6_deaf 177 = .ok (.idiv, 1) := by decide +kernel
theorem d_X6_deaf_178 : decode cX6_deaf 178 = .ok (.ireturn, 1) := by decide +kernel
def t_X6_deaf_0 : List (Nat × QO) := [(0, o_al 0 1), (1, o_il 1 2), (2, o_il 2 3), (3, o_il 3 4), (4, o_cV 1 6 89 4 4 7), (7, o_if (fun x => decide (x = 0)) 42 10), (10, o_il 4 12), (12, o_if (fun x => decide (x < 0)) 42 15), (15, o_il 4 17), (17, o_k 8 19), (19, o_ic (fun x y => decide (y < x)) 42 22), (22, o_il 5 24)]
theorem ts_X6_deaf_0 (sx : QX) : ∀ q ∈ t_X6_deaf_0, q_Snd sx RX6 cX6_deaf 10 (some .int) q.1 q.2 := List.forall_mem_cons.mpr ⟨s_aload_n d_X6_deaf_0 rfl, List.forall_mem_cons.mpr ⟨s_iload_n d_X6_deaf_1 rfl, List.forall_mem_cons.mpr ⟨s_iload_n d_X6_deaf_2 rfl, List.forall_mem_cons.mpr ⟨s_iload_n d_X6_deaf_3 rfl, List.forall_mem_cons.mpr ⟨s_cV (T := TX6) (N := 9) rfl d_X6_deaf_4 rfl k_2_214 k_2_216 k_0_10 k_1_1 k_2_217 ⟨by decide, by decide⟩ (by decide +kernel) (by decide), List.forall_mem_cons.mpr ⟨s_if_eq d_X6_deaf_7 (by decide), List.forall_mem_cons.mpr ⟨s_iload d_X6_deaf_10, List.forall_mem_cons.mpr ⟨s_if_lt d_X6_deaf_12 (by decide), List.forall_mem_cons.mpr ⟨s_iload d_X6_deaf_15, List.forall_mem_cons.mpr ⟨s_bipush d_X6_deaf_17 rfl, List.forall_mem_cons.mpr ⟨s_ic_gt d_X6_deaf_19 (by decide), List.forall_mem_cons.mpr ⟨s_iload d_X6_deaf_22, fun _ h => absurd h List.not_mem_nil⟩⟩⟩⟩⟩⟩⟩⟩⟩⟩⟩⟩
def t_X6_deaf_1 : List (Nat × QO) := [(24, o_if (fun x => decide (x < 0)) 42 27), (27, o_il 5 29), (29, o_k 10 31), (31, o_ic (fun x y => decide (y < x)) 42 34), (34, o_il 6 36), (36, o_cS 1 91 1 1 39), (39, o_if (fun x => decide (x ≠ 0)) 44 42), (42, o_k (-1) 43), (43, o_ir false), (44, o_al 0 45), (45, o_gf 6 3 48), (48, o_il 2 49)]
theorem ts_X6_deaf_1 (sx : QX) : ∀ q ∈ t_X6_deaf_1, q_Snd sx RX6 cX6_deaf 10 (some .int) q.1 q.2 := List.forall_mem_cons.mpr ⟨s_if_lt d_X6_deaf_24 (by decide), List.forall_mem_cons.mpr ⟨s_iload d_X6_deaf_27, List.forall_mem_cons.mpr ⟨s_bipush d_X6_deaf_29 rfl, List.forall_mem_cons.mpr ⟨s_ic_gt d_X6_deaf_31 (by decide), List.forall_mem_cons.mpr ⟨s_iload d_X6_deaf_34, List.forall_mem_cons.mpr ⟨s_cS rfl d_X6_deaf_36 k_3_198 k_3_199 k_1_1 k_3_200 ⟨by decide, by decide⟩ (by decide +kernel) (by decide), List.forall_mem_cons.mpr ⟨s_if_ne d_X6_deaf_39 (by decide), List.forall_mem_cons.mpr ⟨s_iconst d_X6_deaf_42 rfl, List.forall_mem_cons.mpr ⟨s_ir d_X6_deaf_43 rfl, List.forall_mem_cons.mpr ⟨s_aload_n d_X6_deaf_44 rfl, List.forall_mem_cons.mpr ⟨s_gf d_X6_deaf_45 rfl (by decide) n_X6 in_X6 rfl k_2_120, List.forall_mem_cons.mpr ⟨s_iload_n d_X6_deaf_48 rfl, fun _ h => absurd h List.not_mem_nil⟩⟩⟩⟩⟩⟩⟩⟩⟩⟩⟩⟩
def t_X6_deaf_2 : List (Nat × QO) := [(49, o_k 0 50), (50, o_cV 1 3 21 3 3 53), (53, o_if (fun x => decide (x ≠ 0)) 59 56), (56, o_k (-2) 58), (58, o_ir false), (59, o_k 0 60), (60, o_is 7 62), (62, o_k 0 63), (63, o_is 8 65), (65, o_il 8 67), (67, o_k 1 68), (68, o_il 4 70)]
theorem ts_X6_deaf_2 (sx : QX) : ∀ q ∈ t_X6_deaf_2, q_Snd sx RX6 cX6_deaf 10 (some .int) q.1 q.2 := List.forall_mem_cons.mpr ⟨s_iconst d_X6_deaf_49 rfl, List.forall_mem_cons.mpr ⟨s_cV (T := TX3) (N := 8) rfl d_X6_deaf_50 rfl k_3_28 k_3_29 k_3_30 k_1_4 k_3_31 ⟨by decide, by decide⟩ (by decide +kernel) (by decide), List.forall_mem_cons.mpr ⟨s_if_ne d_X6_deaf_53 (by decide), List.forall_mem_cons.mpr ⟨s_bipush d_X6_deaf_56 rfl, List.forall_mem_cons.mpr ⟨s_ir d_X6_deaf_58 rfl, List.forall_mem_cons.mpr ⟨s_iconst d_X6_deaf_59 rfl, List.forall_mem_cons.mpr ⟨s_istore d_X6_deaf_60 (by decide), List.forall_mem_cons.mpr ⟨s_iconst d_X6_deaf_62 rfl, List.forall_mem_cons.mpr ⟨s_istore d_X6_deaf_63 (by decide), List.forall_mem_cons.mpr ⟨s_iload d_X6_deaf_65, List.forall_mem_cons.mpr ⟨s_iconst d_X6_deaf_67 rfl, List.forall_mem_cons.mpr ⟨s_iload d_X6_deaf_68, fun _ h => absurd h List.not_mem_nil⟩⟩⟩⟩⟩⟩⟩⟩⟩⟩⟩⟩
def t_X6_deaf_3 : List (Nat × QO) := [(70, o_b (fun x y => x <<< (y &&& 31)) 71), (71, o_ic (fun x y => decide (y ≤ x)) 117 74), (74, o_al 0 75), (75, o_gf 6 3 78), (78, o_il 1 79), (79, o_il 2 80), (80, o_il 3 81), (81, o_il 8 83), (83, o_cV 1 3 46 8 5 86), (86, o_al 0 87), (87, o_gf 6 3 90), (90, o_il 2 91)]
theorem ts_X6_deaf_3 (sx : QX) : ∀ q ∈ t_X6_deaf_3, q_Snd sx RX6 cX6_deaf 10 (some .int) q.1 q.2 := List.forall_mem_cons.mpr ⟨s_ishl d_X6_deaf_70, List.forall_mem_cons.mpr ⟨s_ic_ge d_X6_deaf_71 (by decide), List.forall_mem_cons.mpr ⟨s_aload_n d_X6_deaf_74 rfl, List.forall_mem_cons.mpr ⟨s_gf d_X6_deaf_75 rfl (by decide) n_X6 in_X6 rfl k_2_120, List.forall_mem_cons.mpr ⟨s_iload_n d_X6_deaf_78 rfl, List.forall_mem_cons.mpr ⟨s_iload_n d_X6_deaf_79 rfl, List.forall_mem_cons.mpr ⟨s_iload_n d_X6_deaf_80 rfl, List.forall_mem_cons.mpr ⟨s_iload d_X6_deaf_81, List.forall_mem_cons.mpr ⟨s_cV (T := TX3) (N := 8) rfl d_X6_deaf_83 rfl k_3_206 k_3_207 k_3_208 k_1_4 k_3_209 ⟨by decide, by decide⟩ (by decide +kernel) (by decide), List.forall_mem_cons.mpr ⟨s_aload_n d_X6_deaf_86 rfl, List.forall_mem_cons.mpr ⟨s_gf d_X6_deaf_87 rfl (by decide) n_X6 in_X6 rfl k_2_120, List.forall_mem_cons.mpr ⟨s_iload_n d_X6_deaf_90 rfl, fun _ h => absurd h List.not_mem_nil⟩⟩⟩⟩⟩⟩⟩⟩⟩⟩⟩⟩
def t_X6_deaf_4 : List (Nat × QO) := [(91, o_cV 1 3 24 2 2 94), (94, o_ic (fun x y => decide (x < y)) 111 97), (97, o_il 7 99), (99, o_il 8 101), (101, o_il 4 103), (103, o_il 5 105), (105, o_cS 1 93 5 3 108), (108, o_b (fun x y => x + y) 109), (109, o_is 7 111), (111, o_inc 8 1 114), (114, o_goto 65), (117, o_k 1 118)]
theorem ts_X6_deaf_4 (sx : QX) : ∀ q ∈ t_X6_deaf_4, q_Snd sx RX6 cX6_deaf 10 (some .int) q.1 q.2 := List.forall_mem_cons.mpr ⟨s_cV (T := TX3) (N := 8) rfl d_X6_deaf_91 rfl k_3_157 k_3_86 k_3_87 k_1_4 k_3_88 ⟨by decide, by decide⟩ (by decide +kernel) (by decide), List.forall_mem_cons.mpr ⟨s_ic_lt d_X6_deaf_94 (by decide), List.forall_mem_cons.mpr ⟨s_iload d_X6_deaf_97, List.forall_mem_cons.mpr ⟨s_iload d_X6_deaf_99, List.forall_mem_cons.mpr ⟨s_iload d_X6_deaf_101, List.forall_mem_cons.mpr ⟨s_iload d_X6_deaf_103, List.forall_mem_cons.mpr ⟨s_cS rfl d_X6_deaf_105 k_3_210 k_3_211 k_1_1 k_3_212 ⟨by decide, by decide⟩ (by decide +kernel) (by decide), List.forall_mem_cons.mpr ⟨s_iadd d_X6_deaf_108, List.forall_mem_cons.mpr ⟨s_istore d_X6_deaf_109 (by decide), List.forall_mem_cons.mpr ⟨s_iinc d_X6_deaf_111 rfl (by decide), List.forall_mem_cons.mpr ⟨s_goto d_X6_deaf_114 (by decide), List.forall_mem_cons.mpr ⟨s_iconst d_X6_deaf_117 rfl, fun _ h => absurd h List.not_mem_nil⟩⟩⟩⟩⟩⟩⟩⟩⟩⟩⟩⟩
def t_X6_deaf_5 : List (Nat × QO) := [(118, o_is 8 120), (120, o_k 0 121), (121, o_is 9 123), (123, o_il 9 125), (125, o_il 4 127), (127, o_ic (fun x y => decide (y ≤ x)) 143 130), (130, o_il 8 132), (132, o_k 10 134), (134, o_b (fun x y => x * y) 135), (135, o_is 8 137), (137, o_inc 9 1 140), (140, o_goto 123)]
theorem ts_X6_deaf_5 (sx : QX) : ∀ q ∈ t_X6_deaf_5, q_Snd sx RX6 cX6_deaf 10 (some .int) q.1 q.2 := List.forall_mem_cons.mpr ⟨s_istore d_X6_deaf_118 (by decide), List.forall_mem_cons.mpr ⟨s_iconst d_X6_deaf_120 rfl, List.forall_mem_cons.mpr ⟨s_istore d_X6_deaf_121 (by decide), List.forall_mem_cons.mpr ⟨s_iload d_X6_deaf_123, List.forall_mem_cons.mpr ⟨s_iload d_X6_deaf_125, List.forall_mem_cons.mpr ⟨s_ic_ge d_X6_deaf_127 (by decide), List.forall_mem_cons.mpr ⟨s_iload d_X6_deaf_130, List.forall_mem_cons.mpr ⟨s_bipush d_X6_deaf_132 rfl, List.forall_mem_cons.mpr ⟨s_imul d_X6_deaf_134, List.forall_mem_cons.mpr ⟨s_istore d_X6_deaf_135 (by decide), List.forall_mem_cons.mpr ⟨s_iinc d_X6_deaf_137 rfl (by decide), List.forall_mem_cons.mpr ⟨s_goto d_X6_deaf_140 (by decide), fun _ h => absurd h List.not_mem_nil⟩⟩⟩⟩⟩⟩⟩⟩⟩⟩⟩⟩
def t_X6_deaf_6 : List (Nat × QO) := [(143, o_il 7 145), (145, o_il 8 147), (147, o_cS 1 94 4 2 150), (150, o_is 9 152), (152, o_il 9 154), (154, o_k 1 155), (155, o_ic (fun x y => decide (y ≤ x)) 160 158), (158, o_k 0 159), (159, o_ir false), (160, o_il 6 162), (162, o_if (fun x => decide (x ≠ 0)) 173 165), (165, o_il 7 167)]
theorem ts_X6_deaf_6 (sx : QX) : ∀ q ∈ t_X6_deaf_6, q_Snd sx RX6 cX6_deaf 10 (some .int) q.1 q.2 := List.forall_mem_cons.mpr ⟨s_iload d_X6_deaf_143, List.forall_mem_cons.mpr ⟨s_iload d_X6_deaf_145, List.forall_mem_cons.mpr ⟨s_cS rfl d_X6_deaf_147 k_3_213 k_3_214 k_1_1 k_3_215 ⟨by decide, by decide⟩ (by decide +kernel) (by decide), List.forall_mem_cons.mpr ⟨s_istore d_X6_deaf_150 (by decide), List.forall_mem_cons.mpr ⟨s_iload d_X6_deaf_152, List.forall_mem_cons.mpr ⟨s_iconst d_X6_deaf_154 rfl, List.forall_mem_cons.mpr ⟨s_ic_ge d_X6_deaf_155 (by decide), List.forall_mem_cons.mpr ⟨s_iconst d_X6_deaf_158 rfl, List.forall_mem_cons.mpr ⟨s_ir d_X6_deaf_159 rfl, List.forall_mem_cons.mpr ⟨s_iload d_X6_deaf_160, List.forall_mem_cons.mpr ⟨s_if_ne d_X6_deaf_162 (by decide), List.forall_mem_cons.mpr ⟨s_iload d_X6_deaf_165, fun _ h => absurd h List.not_mem_nil⟩⟩⟩⟩⟩⟩⟩⟩⟩⟩⟩⟩
def t_X6_deaf_7 : List (Nat × QO) := [(167, o_il 9 169), (169, o_bz (fun x y => x / y) 170), (170, o_goto 178), (173, o_il 8 175), (175, o_il 9 177), (177, o_bz (fun x y => x / y) 178), (178, o_ir false)]
theorem ts_X6_deaf_7 (sx : QX) : ∀ q ∈ t_X6_deaf_7, q_Snd sx RX6 cX6_deaf 10 (some .int) q.1 q.2 := List.forall_mem_cons.mpr ⟨s_iload d_X6_deaf_167, List.forall_mem_cons.mpr ⟨s_idiv d_X6_deaf_169, List.forall_mem_cons.mpr ⟨s_goto d_X6_deaf_170 (by decide), List.forall_mem_cons.mpr ⟨s_iload d_X6_deaf_173, List.forall_mem_cons.mpr ⟨s_iload d_X6_deaf_175, List.forall_mem_cons.mpr ⟨s_idiv d_X6_deaf_177, List.forall_mem_cons.mpr ⟨s_ir d_X6_deaf_178 rfl, fun _ h => absurd h List.not_mem_nil⟩⟩⟩⟩⟩⟩⟩
def t_X6_deaf (pc : Nat) : Option QO := cond (Nat.ble pc 90) (cond (Nat.ble pc 48) (cond (Nat.ble pc 22) (q_look (t_X6_deaf_0) pc) (q_look (t_X6_deaf_1) pc)) (cond (Nat.ble pc 68) (q_look (t_X6_deaf_2) pc) (q_look (t_X6_deaf_3) pc))) (cond (Nat.ble pc 140) (cond (Nat.ble pc 117) (q_look (t_X6_deaf_4) pc) (q_look (t_X6_deaf_5) pc)) (cond (Nat.ble pc 165) (q_look (t_X6_deaf_6) pc) (q_look (t_X6_deaf_7) pc)))
theorem ts_X6_deaf (sx : QX) (pc : Nat) : ∀ o, t_X6_deaf pc = some o → q_Snd sx RX6 cX6_deaf 10 (some .int) pc o := by
  unfold t_X6_deaf
  exact q_cb (q_cb (q_cb (q_look_all (ts_X6_deaf_0 sx)) (q_look_all (ts_X6_deaf_1 sx))) (q_cb (q_look_all (ts_X6_deaf_2 sx)) (q_look_all (ts_X6_deaf_3 sx)))) (q_cb (q_cb (q_look_all (ts_X6_deaf_4 sx)) (q_look_all (ts_X6_deaf_5 sx))) (q_cb (q_look_all (ts_X6_deaf_6 sx)) (q_look_all (ts_X6_deaf_7 sx))))
theorem d_X6_year_0 : decode cX6_year 0 = .ok (.iload_n 1, 1) := by decide +kernel
theorem d_X6_year_1 : decode cX6_year 1 = .ok (.ifCond .lt 28, 3) := by decide +kernel
theorem d_X6_year_4 : decode cX6_year 4 = .ok (.iload_n 1, 1) := by decide +kernel
theorem d_X6_year_5 : decode cX6_year 5 = .ok (.sipush 9999, 3) := by decide +kernel
theorem d_X6_year_8 : decode cX6_year 8 = .ok (.if_icmp .gt 21, 3) := by decide +kernel
theorem d_X6_year_11 : decode cX6_year 11 = .ok (.iload_n 2, 1) := by decide +kernel
theorem d_X6_year_12 : decode cX6_year 12 = .ok (.iconst 1, 1) := by decide +kernel
theorem d_X6_year_13 : decode cX6_year 13 = .ok (.if_icmp .lt 16, 3) := by decide +kernel
theorem d_X6_year_16 : decode cX6_year 16 = .ok (.iload_n 2, 1) := by decide +kernel
theorem d_X6_year_17 : decode cX6_year 17 = .ok (.bipush 60, 2) := by decide +kernel
theorem d_X6_year_19 : decode cX6_year 19 = .ok (.if_icmp .gt 10, 3) := by decide +kernel
theorem d_X6_year_22 : decode cX6_year 22 = .ok (.iload_n 3, 1) := by decide +kernel
theorem d_X6_year_23 : decode cX6_year 23 = .ok (.invokestatic 244, 3) := by decide +kernel
theorem d_X6_year_26 : decode cX6_year 26 = .ok (.ifCond .ne 5, 3) := by decide +kernel
theorem d_X6_year_29 : decode cX6_year 29 = .ok (.iconst (-1), 1) := by decide +kernel
theorem d_X6_year_30 : decode cX6_year 30 = .ok (.ireturn, 1) := by decide +kernel
theorem d_X6_year_31 : decode cX6_year 31 = .ok (.aload_n 0, 1) := by decide +kernel
theorem d_X6_year_32 : decode cX6_year 32 = .ok (.getfield 35, 3) := by decide +kernel
theorem d_X6_year_35 : decode cX6_year 35 = .ok (.aload_n 0, 1) := by decide +kernel
theorem d_X6_year_36 : decode cX6_year 36 = .ok (.getfield 31, 3) := by decide +kernel
theorem d_X6_year_39 : decode cX6_year 39 = .ok (.invokevirtual 193, 3) := by decide +kernel
theorem d_X6_year_42 : decode cX6_year 42 = .ok (.iconst 0, 1) := by decide +kernel
theorem d_X6_year_43 : decode cX6_year 43 = .ok (.istore 4, 2) := by decide +kernel
theorem d_X6_year_45 : decode cX6_year 45 = .ok (.iload 4, 2) := by decide +kernel
theorem d_X6_year_47 : decode cX6_year 47 = .ok (.iload_n 2, 1) := by decide +kernel
theorem d_X6_year_48 : decode cX6_year 48 = .ok (.if_icmp .ge 22, 3) := by decide +kernel
theorem d_X6_year_51 : decode cX6_year 51 = .ok (.aload_n 0, 1) := by decide +kernel
theorem d_X6_year_52 : decode cX6_year 52 = .ok (.getfield 35, 3) := by decide +kernel
theorem d_X6_year_55 : decode cX6_year 55 = .ok (.iload_n 1, 1) := by decide +kernel
theorem d_X6_year_56 : decode cX6_year 56 = .ok (.iload 4, 2) := by decide +kernel
theorem d_X6_year_58 : decode cX6_year 58 = .ok (.invokestatic 263, 3) := by decide +kernel
theorem d_X6_year_61 : decode cX6_year 61 = .ok (.invokestatic 266, 3) := by decide +kernel
theorem d_X6_year_64 : decode cX6_year 64 = .ok (.iinc 4 1, 3) := by decide +kernel
theorem d_X6_year_67 : decode cX6_year 67 = .ok (.goto (-22), 3) := by decide +kernel
theorem d_X6_year_70 : decode cX6_year 70 = .ok (.aload_n 0, 1) := by decide +kernel
theorem d_X6_year_71 : decode cX6_year 71 = .ok (.getfield 35, 3) := by decide +kernel
theorem d_X6_year_74 : decode cX6_year 74 = .ok (.iload_n 3, 1) := by decide +kernel
theorem d_X6_year_75 : decode cX6_year 75 = .ok (.ifCond .ne 7, 3) := by decide +kernel
theorem d_X6_year_78 : decode cX6_year 78 = .ok (.iconst 2, 1) := by decide +kernel
theorem d_X6_year_79 : decode cX6_year 79 = .ok (.goto 4, 3) := by decide +kernel
theorem d_X6_year_82 : decode cX6_year 82 = .ok (.iconst 3, 1) := by decide +kernel
theorem d_X6_year_83 : decode cX6_year 83 = .ok (.invokevirtual 270, 3) := by decide +kernel
theorem d_X6_year_86 : decode cX6_year 86 = .ok (.ireturn, 1) := by decide +kernel
def t_X6_year_0 : List (Nat × QO) := [(0, o_il 1 1), (1, o_if (fun x => decide (x < 0)) 29 4), (4, o_il 1 5), (5, o_k 9999 8), (8, o_ic (fun x y => decide (y < x)) 29 11), (11, o_il 2 12), (12, o_k 1 13), (13, o_ic (fun x y => decide (x < y)) 29 16), (16, o_il 2 17), (17, o_k 60 19), (19, o_ic (fun x y => decide (y < x)) 29 22), (22, o_il 3 23)]
theorem ts_X6_year_0 (sx : QX) : ∀ q ∈ t_X6_year_0, q_Snd sx RX6 cX6_year 5 (some .int) q.1 q.2 := List.forall_mem_cons.mpr ⟨s_iload_n d_X6_year_0 rfl, List.forall_mem_cons.mpr ⟨s_if_lt d_X6_year_1 (by decide), List.forall_mem_cons.mpr ⟨s_iload_n d_X6_year_4 rfl, List.forall_mem_cons.mpr ⟨s_sipush d_X6_year_5 rfl, List.forall_mem_cons.mpr ⟨s_ic_gt d_X6_year_8 (by decide), List.forall_mem_cons.mpr ⟨s_iload_n d_X6_year_11 rfl, List.forall_mem_cons.mpr ⟨s_iconst d_X6_year_12 rfl, List.forall_mem_cons.mpr ⟨s_ic_lt d_X6_year_13 (by decide), List.forall_mem_cons.mpr ⟨s_iload_n d_X6_year_16 rfl, List.forall_mem_cons.mpr ⟨s_bipush d_X6_year_17 rfl, List.forall_mem_cons.mpr ⟨s_ic_gt d_X6_year_19 (by decide), List.forall_mem_cons.mpr ⟨s_iload_n d_X6_year_22 rfl, fun _ h => absurd h List.not_mem_nil⟩⟩⟩⟩⟩⟩⟩⟩⟩⟩⟩⟩
def t_X6_year_1 : List (Nat × QO) := [(23, o_cS 1 91 1 1 26), (26, o_if (fun x => decide (x ≠ 0)) 31 29), (29, o_k (-1) 30), (30, o_ir false), (31, o_al 0 32), (32, o_gf 6 4 35), (35, o_al 0 36), (36, o_gf 6 3 39), (39, o_cV 0 3 20 2 2 42), (42, o_k 0 43), (43, o_is 4 45), (45, o_il 4 47)]
theorem ts_X6_year_1 (sx : QX) : ∀ q ∈ t_X6_year_1, q_Snd sx RX6 cX6_year 5 (some .int) q.1 q.2 := List.forall_mem_cons.mpr ⟨s_cS rfl d_X6_year_23 k_3_198 k_3_199 k_1_1 k_3_200 ⟨by decide, by decide⟩ (by decide +kernel) (by decide), List.forall_mem_cons.mpr ⟨s_if_ne d_X6_year_26 (by decide), List.forall_mem_cons.mpr ⟨s_iconst d_X6_year_29 rfl, List.forall_mem_cons.mpr ⟨s_ir d_X6_year_30 rfl, List.forall_mem_cons.mpr ⟨s_aload_n d_X6_year_31 rfl, List.forall_mem_cons.mpr ⟨s_gf d_X6_year_32 rfl (by decide) n_X6 in_X6 rfl k_2_121, List.forall_mem_cons.mpr ⟨s_aload_n d_X6_year_35 rfl, List.forall_mem_cons.mpr ⟨s_gf d_X6_year_36 rfl (by decide) n_X6 in_X6 rfl k_2_120, List.forall_mem_cons.mpr ⟨s_cV (T := TX3) (N := 8) rfl d_X6_year_39 rfl k_3_77 k_3_2 k_3_3 k_1_4 k_3_4 ⟨by decide, by decide⟩ (by decide +kernel) (by decide), List.forall_mem_cons.mpr ⟨s_iconst d_X6_year_42 rfl, List.forall_mem_cons.mpr ⟨s_istore d_X6_year_43 (by decide), List.forall_mem_cons.mpr ⟨s_iload d_X6_year_45, fun _ h => absurd h List.not_mem_nil⟩⟩⟩⟩⟩⟩⟩⟩⟩⟩⟩⟩
def t_X6_year_2 : List (Nat × QO) := [(47, o_il 2 48), (48, o_ic (fun x y => decide (y ≤ x)) 70 51), (51, o_al 0 52), (52, o_gf 6 4 55), (55, o_il 1 56), (56, o_il 4 58), (58, o_cS 1 95 4 2 61), (61, o_cS 0 96 6 2 64), (64, o_inc 4 1 67), (67, o_goto 45), (70, o_al 0 71), (71, o_gf 6 4 74)]
theorem ts_X6_year_2 (sx : QX) : ∀ q ∈ t_X6_year_2, q_Snd sx RX6 cX6_year 5 (some .int) q.1 q.2 := List.forall_mem_cons.mpr ⟨s_iload_n d_X6_year_47 rfl, List.forall_mem_cons.mpr ⟨s_ic_ge d_X6_year_48 (by decide), List.forall_mem_cons.mpr ⟨s_aload_n d_X6_year_51 rfl, List.forall_mem_cons.mpr ⟨s_gf d_X6_year_52 rfl (by decide) n_X6 in_X6 rfl k_2_121, List.forall_mem_cons.mpr ⟨s_iload_n d_X6_year_55 rfl, List.forall_mem_cons.mpr ⟨s_iload d_X6_year_56, List.forall_mem_cons.mpr ⟨s_cS rfl d_X6_year_58 k_3_220 k_3_221 k_1_1 k_3_222 ⟨by decide, by decide⟩ (by decide +kernel) (by decide), List.forall_mem_cons.mpr ⟨s_cS rfl d_X6_year_61 k_3_226 k_3_227 k_1_1 k_3_228 ⟨by decide, by decide⟩ (by decide +kernel) (by decide), List.forall_mem_cons.mpr ⟨s_iinc d_X6_year_64 rfl (by decide), List.forall_mem_cons.mpr ⟨s_goto d_X6_year_67 (by decide), List.forall_mem_cons.mpr ⟨s_aload_n d_X6_year_70 rfl, List.forall_mem_cons.mpr ⟨s_gf d_X6_year_71 rfl (by decide) n_X6 in_X6 rfl k_2_121, fun _ h => absurd h List.not_mem_nil⟩⟩⟩⟩⟩⟩⟩⟩⟩⟩⟩⟩
def t_X6_year_3 : List (Nat × QO) := [(74, o_il 3 75), (75, o_if (fun x => decide (x ≠ 0)) 82 78), (78, o_k 2 79), (79, o_goto 83), (82, o_k 3 83), (83, o_cV 1 3 22 4 2 86), (86, o_ir false)]
theorem ts_X6_year_3 (sx : QX) : ∀ q ∈ t_X6_year_3, q_Snd sx RX6 cX6_year 5 (some .int) q.1 q.2 := List.forall_mem_cons.mpr ⟨s_iload_n d_X6_year_74 rfl, List.forall_mem_cons.mpr ⟨s_if_ne d_X6_year_75 (by decide), List.forall_mem_cons.mpr ⟨s_iconst d_X6_year_78 rfl, List.forall_mem_cons.mpr ⟨s_goto d_X6_year_79 (by decide), List.forall_mem_cons.mpr ⟨s_iconst d_X6_year_82 rfl, List.forall_mem_cons.mpr ⟨s_cV (T := TX3) (N := 8) rfl d_X6_year_83 rfl k_3_229 k_3_121 k_3_122 k_1_4 k_3_123 ⟨by decide, by decide⟩ (by decide +kernel) (by decide), List.forall_mem_cons.mpr ⟨s_ir d_X6_year_86 rfl, fun _ h => absurd h List.not_mem_nil⟩⟩⟩⟩⟩⟩⟩
def t_X6_year (pc : Nat) : Option QO := cond (Nat.ble pc 45) (cond (Nat.ble pc 22) (q_look (t_X6_year_0) pc) (q_look (t_X6_year_1) pc)) (cond (Nat.ble pc 71) (q_look (t_X6_year_2) pc) (q_look (t_X6_year_3) pc))
theorem ts_X6_year (sx : QX) (pc : Nat) : ∀ o, t_X6_year pc = some o → q_Snd sx RX6 cX6_year 5 (some .int) pc o := by
  unfold t_X6_year
  exact q_cb (q_cb (q_look_all (ts_X6_year_0 sx)) (q_look_all (ts_X6_year_1 sx))) (q_cb (q_look_all (ts_X6_year_2 sx)) (q_look_all (ts_X6_year_3 sx)))
theorem d_X6_keep_0 : decode cX6_keep 0 = .ok (.aload_n 0, 1) := by decide +kernel
theorem d_X6_keep_1 : decode cX6_keep 1 = .ok (.getfield 47, 3) := by decide +kernel
theorem d_X6_keep_4 : decode cX6_keep 4 = .ok (.getfield 190, 3) := by decide +kernel
theorem d_X6_keep_7 : decode cX6_keep 7 = .ok (.iconst 2, 1) := by decide +kernel
theorem d_X6_keep_8 : decode cX6_keep 8 = .ok (.if_icmp .lt 6, 3) := by decide +kernel
theorem d_X6_keep_11 : decode cX6_keep 11 = .ok (.bipush (-3), 2) := by decide +kernel
theorem d_X6_keep_13 : decode cX6_keep 13 = .ok (.ireturn, 1) := by decide +kernel
theorem d_X6_keep_14 : decode cX6_keep 14 = .ok (.aload_n 0, 1) := by decide +kernel
theorem d_X6_keep_15 : decode cX6_keep 15 = .ok (.getfield 47, 3) := by decide +kernel
theorem d_X6_keep_18 : decode cX6_keep 18 = .ok (.aload_n 0, 1) := by decide +kernel
theorem d_X6_keep_19 : decode cX6_keep 19 = .ok (.getfield 31, 3) := by decide +kernel
theorem d_X6_keep_22 : decode cX6_keep 22 = .ok (.invokevirtual 160, 3) := by decide +kernel
theorem d_X6_keep_25 : decode cX6_keep 25 = .ok (.aload_n 0, 1) := by decide +kernel
theorem d_X6_keep_26 : decode cX6_keep 26 = .ok (.getfield 47, 3) := by decide +kernel
theorem d_X6_keep_29 : decode cX6_keep 29 = .ok (.getfield 190, 3) := by decide +kernel
theorem d_X6_keep_32 : decode cX6_keep 32 = .ok (.ireturn, 1) := by decide +kernel
def t_X6_keep_0 : List (Nat × QO) := [(0, o_al 0 1), (1, o_gf 6 6 4), (4, o_gf 2 2 7), (7, o_k 2 8), (8, o_ic (fun x y => decide (x < y)) 14 11), (11, o_k (-3) 13), (13, o_ir false), (14, o_al 0 15), (15, o_gf 6 6 18), (18, o_al 0 19), (19, o_gf 6 3 22), (22, o_cV 0 2 17 3 2 25)]
theorem ts_X6_keep_0 (sx : QX) : ∀ q ∈ t_X6_keep_0, q_Snd sx RX6 cX6_keep 1 (some .int) q.1 q.2 := List.forall_mem_cons.mpr ⟨s_aload_n d_X6_keep_0 rfl, List.forall_mem_cons.mpr ⟨s_gf d_X6_keep_1 rfl (by decide) n_X6 in_X6 rfl k_2_123, List.forall_mem_cons.mpr ⟨s_gf d_X6_keep_4 rfl (by decide) n_X2 in_X2 rfl k_1_160, List.forall_mem_cons.mpr ⟨s_iconst d_X6_keep_7 rfl, List.forall_mem_cons.mpr ⟨s_ic_lt d_X6_keep_8 (by decide), List.forall_mem_cons.mpr ⟨s_bipush d_X6_keep_11 rfl, List.forall_mem_cons.mpr ⟨s_ir d_X6_keep_13 rfl, List.forall_mem_cons.mpr ⟨s_aload_n d_X6_keep_14 rfl, List.forall_mem_cons.mpr ⟨s_gf d_X6_keep_15 rfl (by decide) n_X6 in_X6 rfl k_2_123, List.forall_mem_cons.mpr ⟨s_aload_n d_X6_keep_18 rfl, List.forall_mem_cons.mpr ⟨s_gf d_X6_keep_19 rfl (by decide) n_X6 in_X6 rfl k_2_120, List.forall_mem_cons.mpr ⟨s_cV (T := TX2) (N := 3) rfl d_X6_keep_22 rfl k_2_234 k_2_235 k_2_236 k_1_5 k_2_237 ⟨by decide, by decide⟩ (by decide +kernel) (by decide), fun _ h => absurd h List.not_mem_nil⟩⟩⟩⟩⟩⟩⟩⟩⟩⟩⟩⟩
def t_X6_keep_1 : List (Nat × QO) := [(25, o_al 0 26), (26, o_gf 6 6 29), (29, o_gf 2 2 32), (32, o_ir false)]
theorem ts_X6_keep_1 (sx : QX) : ∀ q ∈ t_X6_keep_1, q_Snd sx RX6 cX6_keep 1 (some .int) q.1 q.2 := List.forall_mem_cons.mpr ⟨s_aload_n d_X6_keep_25 rfl, List.forall_mem_cons.mpr ⟨s_gf d_X6_keep_26 rfl (by decide) n_X6 in_X6 rfl k_2_123, List.forall_mem_cons.mpr ⟨s_gf d_X6_keep_29 rfl (by decide) n_X2 in_X2 rfl k_1_160, List.forall_mem_cons.mpr ⟨s_ir d_X6_keep_32 rfl, fun _ h => absurd h List.not_mem_nil⟩⟩⟩⟩
def t_X6_keep (pc : Nat) : Option QO := cond (Nat.ble pc 22) (q_look (t_X6_keep_0) pc) (q_look (t_X6_keep_1) pc)
theorem ts_X6_keep (sx : QX) (pc : Nat) : ∀ o, t_X6_keep pc = some o → q_Snd sx RX6 cX6_keep 1 (some .int) pc o := by
  unfold t_X6_keep
  exact q_cb (q_look_all (ts_X6_keep_0 sx)) (q_look_all (ts_X6_keep_1 sx))
theorem d_X6_back_0 : decode cX6_back 0 = .ok (.aload_n 0, 1) := by decide +kernel
theorem d_X6_back_1 : decode cX6_back 1 = .ok (.getfield 47, 3) := by decide +kernel
theorem d_X6_back_4 : decode cX6_back 4 = .ok (.aload_n 0, 1) := by decide +kernel
theorem d_X6_back_5 : decode cX6_back 5 = .ok (.getfield 31, 3) := by decide +kernel
theorem d_X6_back_8 : decode cX6_back 8 = .ok (.invokevirtual 186, 3) := by decide +kernel
theorem d_X6_back_11 : decode cX6_back 11 = .ok (.ifCond .ne 6, 3) := by decide +kernel
theorem d_X6_back_14 : decode cX6_back 14 = .ok (.bipush (-2), 2) := by decide +kernel
theorem d_X6_back_16 : decode cX6_back 16 = .ok (.ireturn, 1) := by decide +kernel
theorem d_X6_back_17 : decode cX6_back 17 = .ok (.aload_n 0, 1) := by decide +kernel
theorem d_X6_back_18 : decode cX6_back 18 = .ok (.getfield 43, 3) := by decide +kernel
theorem d_X6_back_21 : decode cX6_back 21 = .ok (.invokevirtual 273, 3) := by decide +kernel
theorem d_X6_back_24 : decode cX6_back 24 = .ok (.aload_n 0, 1) := by decide +kernel
theorem d_X6_back_25 : decode cX6_back 25 = .ok (.getfield 47, 3) := by decide +kernel
theorem d_X6_back_28 : decode cX6_back 28 = .ok (.getfield 190, 3) := by decide +kernel
theorem d_X6_back_31 : decode cX6_back 31 = .ok (.ireturn, 1) := by decide +kernel
def t_X6_back_0 : List (Nat × QO) := [(0, o_al 0 1), (1, o_gf 6 6 4), (4, o_al 0 5), (5, o_gf 6 3 8), (8, o_cV 1 2 18 4 2 11), (11, o_if (fun x => decide (x ≠ 0)) 17 14), (14, o_k (-2) 16), (16, o_ir false), (17, o_al 0 18), (18, o_gf 6 5 21), (21, o_cV 0 2 16 1 1 24), (24, o_al 0 25)]
theorem ts_X6_back_0 (sx : QX) : ∀ q ∈ t_X6_back_0, q_Snd sx RX6 cX6_back 1 (some .int) q.1 q.2 := List.forall_mem_cons.mpr ⟨s_aload_n d_X6_back_0 rfl, List.forall_mem_cons.mpr ⟨s_gf d_X6_back_1 rfl (by decide) n_X6 in_X6 rfl k_2_123, List.forall_mem_cons.mpr ⟨s_aload_n d_X6_back_4 rfl, List.forall_mem_cons.mpr ⟨s_gf d_X6_back_5 rfl (by decide) n_X6 in_X6 rfl k_2_120, List.forall_mem_cons.mpr ⟨s_cV (T := TX2) (N := 3) rfl d_X6_back_8 rfl k_3_69 k_3_70 k_3_71 k_1_5 k_3_72 ⟨by decide, by decide⟩ (by decide +kernel) (by decide), List.forall_mem_cons.mpr ⟨s_if_ne d_X6_back_11 (by decide), List.forall_mem_cons.mpr ⟨s_bipush d_X6_back_14 rfl, List.forall_mem_cons.mpr ⟨s_ir d_X6_back_16 rfl, List.forall_mem_cons.mpr ⟨s_aload_n d_X6_back_17 rfl, List.forall_mem_cons.mpr ⟨s_gf d_X6_back_18 rfl (by decide) n_X6 in_X6 rfl k_2_122, List.forall_mem_cons.mpr ⟨s_cV (T := TX2) (N := 3) rfl d_X6_back_21 rfl k_2_113 k_2_114 k_2_115 k_1_5 k_2_116 ⟨by decide, by decide⟩ (by decide +kernel) (by decide), List.forall_mem_cons.mpr ⟨s_aload_n d_X6_back_24 rfl, fun _ h => absurd h List.not_mem_nil⟩⟩⟩⟩⟩⟩⟩⟩⟩⟩⟩⟩
def t_X6_back_1 : List (Nat × QO) := [(25, o_gf 6 6 28), (28, o_gf 2 2 31), (31, o_ir false)]
theorem ts_X6_back_1 (sx : QX) : ∀ q ∈ t_X6_back_1, q_Snd sx RX6 cX6_back 1 (some .int) q.1 q.2 := List.forall_mem_cons.mpr ⟨s_gf d_X6_back_25 rfl (by decide) n_X6 in_X6 rfl k_2_123, List.forall_mem_cons.mpr ⟨s_gf d_X6_back_28 rfl (by decide) n_X2 in_X2 rfl k_1_160, List.forall_mem_cons.mpr ⟨s_ir d_X6_back_31 rfl, fun _ h => absurd h List.not_mem_nil⟩⟩⟩
def t_X6_back (pc : Nat) : Option QO := cond (Nat.ble pc 24) (q_look (t_X6_back_0) pc) (q_look (t_X6_back_1) pc)
theorem ts_X6_back (sx : QX) (pc : Nat) : ∀ o, t_X6_back pc = some o → q_Snd sx RX6 cX6_back 1 (some .int) pc o := by
  unfold t_X6_back
  exact q_cb (q_look_all (ts_X6_back_0 sx)) (q_look_all (ts_X6_back_1 sx))
theorem d_X6_count_0 : decode cX6_count 0 = .ok (.iload_n 1, 1) := by decide +kernel
theorem d_X6_count_1 : decode cX6_count 1 = .ok (.tableswitch 163 0 11 #[63, 71, 79, 87, 95, 104, 113, 122, 131, 139, 147, 155], 63) := by decide +kernel
theorem d_X6_count_64 : decode cX6_count 64 = .ok (.aload_n 0, 1) := by decide +kernel
theorem d_X6_count_65 : decode cX6_count 65 = .ok (.getfield 19, 3) := by decide +kernel
theorem d_X6_count_68 : decode cX6_count 68 = .ok (.getfield 96, 3) := by decide +kernel
theorem d_X6_count_71 : decode cX6_count 71 = .ok (.ireturn, 1) := by decide +kernel
theorem d_X6_count_72 : decode cX6_count 72 = .ok (.aload_n 0, 1) := by decide +kernel
theorem d_X6_count_73 : decode cX6_count 73 = .ok (.getfield 19, 3) := by decide +kernel
theorem d_X6_count_76 : decode cX6_count 76 = .ok (.getfield 247, 3) := by decide +kernel
theorem d_X6_count_79 : decode cX6_count 79 = .ok (.ireturn, 1) := by decide +kernel
theorem d_X6_count_80 : decode cX6_count 80 = .ok (.aload_n 0, 1) := by decide +kernel
theorem d_X6_count_81 : decode cX6_count 81 = .ok (.getfield 19, 3) := by decide +kernel
theorem d_X6_count_84 : decode cX6_count 84 = .ok (.getfield 233, 3) := by decide +kernel
theorem d_X6_count_87 : decode cX6_count 87 = .ok (.ireturn, 1) := by decide +kernel
theorem d_X6_count_88 : decode cX6_count 88 = .ok (.aload_n 0, 1) := by decide +kernel
theorem d_X6_count_89 : decode cX6_count 89 = .ok (.getfield 31, 3) := by decide +kernel
theorem d_X6_count_92 : decode cX6_count 92 = .ok (.getfield 183, 3) := by decide +kernel
theorem d_X6_count_95 : decode cX6_count 95 = .ok (.ireturn, 1) := by decide +kernel
theorem d_X6_count_96 : decode cX6_count 96 = .ok (.aload_n 0, 1) := by decide +kernel
theorem d_X6_count_97 : decode cX6_count 97 = .ok (.getfield 31, 3) := by decide +kernel
theorem d_X6_count_100 : decode cX6_count 100 = .ok (.iconst 0, 1) := by decide +kernel
theorem d_X6_count_101 : decode cX6_count 101 = .ok (.invokevirtual 270, 3) := by decide +kernel
theorem d_X6_count_104 : decode cX6_count 104 = .ok (.ireturn, 1) := by decide +kernel
theorem d_X6_count_105 : decode cX6_count 105 = .ok (.aload_n 0, 1) := by decide +kernel
theorem d_X6_count_106 : decode cX6_count 106 = .ok (.getfield 31, 3) := by decide +kernel
theorem d_X6_count_109 : decode cX6_count 109 = .ok (.iconst 1, 1) := by decide +kernel
theorem d_X6_count_110 : decode cX6_count 110 = .ok (.invokevirtual 270, 3) := by decide +kernel
theorem d_X6_count_113 : decode cX6_count 113 = .ok (.ireturn, 1) := by decide +kernel
theorem d_X6_count_114 : decode cX6_count 114 = .ok (.aload_n 0, 1) := by decide +kernel
theorem d_X6_count_115 : decode cX6_count 115 = .ok (.getfield 31, 3) := by decide +kernel
theorem d_X6_count_118 : decode cX6_count 118 = .ok (.iconst 2, 1) := by decide +kernel
theorem d_X6_count_119 : decode cX6_count 119 = .ok (.invokevirtual 270, 3) := by decide +kernel
theorem d_X6_count_122 : decode cX6_count 122 = .ok (.ireturn, 1) := by decide +kernel
theorem d_X6_count_123 : decode cX6_count 123 = .ok (.aload_n 0, 1) := by decide +kernel
theorem d_X6_count_124 : decode cX6_count 124 = .ok (.getfield 31, 3) := by decide +kernel
theorem d_X6_count_127 : decode cX6_count 127 = .ok (.iconst 3, 1) := by decide +kernel
theorem d_X6_count_128 : decode cX6_count 128 = .ok (.invokevirtual 270, 3) := by decide +kernel
theorem d_X6_count_131 : decode cX6_count 131 = .ok (.ireturn, 1) := by decide +kernel
theorem d_X6_count_132 : decode cX6_count 132 = .ok (.aload_n 0, 1) := by decide +kernel
theorem d_X6_count_133 : decode cX6_count 133 = .ok (.getfield 31, 3) := by decide +kernel
theorem d_X6_count_136 : decode cX6_count 136 = .ok (.invokevirtual 276, 3) := by decide +kernel
theorem d_X6_count_139 : decode cX6_count 139 = .ok (.ireturn, 1) := by decide +kernel
theorem d_X6_count_140 : decode cX6_count 140 = .ok (.aload_n 0, 1) := by decide +kernel
theorem d_X6_count_141 : decode cX6_count 141 = .ok (.getfield 43, 3) := by decide +kernel
theorem d_X6_count_144 : decode cX6_count 144 = .ok (.getfield 190, 3) := by decide +kernel
theorem d_X6_count_147 : decode cX6_count 147 = .ok (.ireturn, 1) := by decide +kernel
theorem d_X6_count_148 : decode cX6_count 148 = .ok (.aload_n 0, 1) := by decide +kernel
theorem d_X6_count_149 : decode cX6_count 149 = .ok (.getfield 47, 3) := by decide +kernel
theorem d_X6_count_152 : decode cX6_count 152 = .ok (.getfield 190, 3) := by decide +kernel
theorem d_X6_count_155 : decode cX6_count 155 = .ok (.ireturn, 1) := by decide +kernel
theorem d_X6_count_156 : decode cX6_count 156 = .ok (.aload_n 0, 1) := by decide +kernel
theorem d_X6_count_157 : decode cX6_count 157 = .ok (.getfield 10, 3) := by decide +kernel
theorem d_X6_count_160 : decode cX6_count 160 = .ok (.getfield 85, 3) := by decide +kernel
theorem d_X6_count_163 : decode cX6_count 163 = .ok (.ireturn, 1) := by decide +kernel
theorem d_X6_count_164 : decode cX6_count 164 = .ok (.iconst (-1), 1) := by decide +kernel
theorem d_X6_count_165 : decode cX6_count 165 = .ok (.ireturn, 1) := by decide +kernel
def t_X6_count_0 : List (Nat × QO) := [(0, o_il 1 1), (1, o_sw [(0, 64), (1, 72), (2, 80), (3, 88), (4, 96), (5, 105), (6, 114), (7, 123), (8, 132), (9, 140), (10, 148), (11, 156)] 164), (64, o_al 0 65), (65, o_gf 6 1 68), (68, o_gf 0 0 71), (71, o_ir false), (72, o_al 0 73), (73, o_gf 6 1 76), (76, o_gf 0 1 79), (79, o_ir false), (80, o_al 0 81), (81, o_gf 6 1 84)]
theorem ts_X6_count_0 (sx : QX) : ∀ q ∈ t_X6_count_0, q_Snd sx RX6 cX6_count 2 (some .int) q.1 q.2 := List.forall_mem_cons.mpr ⟨s_iload_n d_X6_count_0 rfl, List.forall_mem_cons.mpr ⟨s_tsw d_X6_count_1 (by decide +kernel) (by decide) (by decide), List.forall_mem_cons.mpr ⟨s_aload_n d_X6_count_64 rfl, List.forall_mem_cons.mpr ⟨s_gf d_X6_count_65 rfl (by decide) n_X6 in_X6 rfl k_2_118, List.forall_mem_cons.mpr ⟨s_gf d_X6_count_68 rfl (by decide) n_X0 in_X0 rfl k_1_53, List.forall_mem_cons.mpr ⟨s_ir d_X6_count_71 rfl, List.forall_mem_cons.mpr ⟨s_aload_n d_X6_count_72 rfl, List.forall_mem_cons.mpr ⟨s_gf d_X6_count_73 rfl (by decide) n_X6 in_X6 rfl k_2_118, List.forall_mem_cons.mpr ⟨s_gf d_X6_count_76 rfl (by decide) n_X0 in_X0 rfl k_1_57, List.forall_mem_cons.mpr ⟨s_ir d_X6_count_79 rfl, List.forall_mem_cons.mpr ⟨s_aload_n d_X6_count_80 rfl, List.forall_mem_cons.mpr ⟨s_gf d_X6_count_81 rfl (by decide) n_X6 in_X6 rfl k_2_118, fun _ h => absurd h List.not_mem_nil⟩⟩⟩⟩⟩⟩⟩⟩⟩⟩⟩⟩
def t_X6_count_1 : List (Nat × QO) := [(84, o_gf 0 2 87), (87, o_ir false), (88, o_al 0 89), (89, o_gf 6 3 92), (92, o_gf 3 1 95), (95, o_ir false), (96, o_al 0 97), (97, o_gf 6 3 100), (100, o_k 0 101), (101, o_cV 1 3 22 4 2 104), (104, o_ir false), (105, o_al 0 106)]
theorem ts_X6_count_1 (sx : QX) : ∀ q ∈ t_X6_count_1, q_Snd sx RX6 cX6_count 2 (some .int) q.1 q.2 := List.forall_mem_cons.mpr ⟨s_gf d_X6_count_84 rfl (by decide) n_X0 in_X0 rfl k_1_61, List.forall_mem_cons.mpr ⟨s_ir d_X6_count_87 rfl, List.forall_mem_cons.mpr ⟨s_aload_n d_X6_count_88 rfl, List.forall_mem_cons.mpr ⟨s_gf d_X6_count_89 rfl (by decide) n_X6 in_X6 rfl k_2_120, List.forall_mem_cons.mpr ⟨s_gf d_X6_count_92 rfl (by decide) n_X3 in_X3 rfl k_1_118, List.forall_mem_cons.mpr ⟨s_ir d_X6_count_95 rfl, List.forall_mem_cons.mpr ⟨s_aload_n d_X6_count_96 rfl, List.forall_mem_cons.mpr ⟨s_gf d_X6_count_97 rfl (by decide) n_X6 in_X6 rfl k_2_120, List.forall_mem_cons.mpr ⟨s_iconst d_X6_count_100 rfl, List.forall_mem_cons.mpr ⟨s_cV (T := TX3) (N := 8) rfl d_X6_count_101 rfl k_3_229 k_3_121 k_3_122 k_1_4 k_3_123 ⟨by decide, by decide⟩ (by decide +kernel) (by decide), List.forall_mem_cons.mpr ⟨s_ir d_X6_count_104 rfl, List.forall_mem_cons.mpr ⟨s_aload_n d_X6_count_105 rfl, fun _ h => absurd h List.not_mem_nil⟩⟩⟩⟩⟩⟩⟩⟩⟩⟩⟩⟩
def t_X6_count_2 : List (Nat × QO) := [(106, o_gf 6 3 109), (109, o_k 1 110), (110, o_cV 1 3 22 4 2 113), (113, o_ir false), (114, o_al 0 115), (115, o_gf 6 3 118), (118, o_k 2 119), (119, o_cV 1 3 22 4 2 122), (122, o_ir false), (123, o_al 0 124), (124, o_gf 6 3 127), (127, o_k 3 128)]
theorem ts_X6_count_2 (sx : QX) : ∀ q ∈ t_X6_count_2, q_Snd sx RX6 cX6_count 2 (some .int) q.1 q.2 := List.forall_mem_cons.mpr ⟨s_gf d_X6_count_106 rfl (by decide) n_X6 in_X6 rfl k_2_120, List.forall_mem_cons.mpr ⟨s_iconst d_X6_count_109 rfl, List.forall_mem_cons.mpr ⟨s_cV (T := TX3) (N := 8) rfl d_X6_count_110 rfl k_3_229 k_3_121 k_3_122 k_1_4 k_3_123 ⟨by decide, by decide⟩ (by decide +kernel) (by decide), List.forall_mem_cons.mpr ⟨s_ir d_X6_count_113 rfl, List.forall_mem_cons.mpr ⟨s_aload_n d_X6_count_114 rfl, List.forall_mem_cons.mpr ⟨s_gf d_X6_count_115 rfl (by decide) n_X6 in_X6 rfl k_2_120, List.forall_mem_cons.mpr ⟨s_iconst d_X6_count_118 rfl, List.forall_mem_cons.mpr ⟨s_cV (T := TX3) (N := 8) rfl d_X6_count_119 rfl k_3_229 k_3_121 k_3_122 k_1_4 k_3_123 ⟨by decide, by decide⟩ (by decide +kernel) (by decide), List.forall_mem_cons.mpr ⟨s_ir d_X6_count_122 rfl, List.forall_mem_cons.mpr ⟨s_aload_n d_X6_count_123 rfl, List.forall_mem_cons.mpr ⟨s_gf d_X6_count_124 rfl (by decide) n_X6 in_X6 rfl k_2_120, List.forall_mem_cons.mpr ⟨s_iconst d_X6_count_127 rfl, fun _ h => absurd h List.not_mem_nil⟩⟩⟩⟩⟩⟩⟩⟩⟩⟩⟩⟩
def t_X6_count_3 : List (Nat × QO) := [(128, o_cV 1 3 22 4 2 131), (131, o_ir false), (132, o_al 0 133), (133, o_gf 6 3 136), (136, o_cV 1 3 23 3 1 139), (139, o_ir false), (140, o_al 0 141), (141, o_gf 6 5 144), (144, o_gf 2 2 147), (147, o_ir false), (148, o_al 0 149), (149, o_gf 6 6 152)]
theorem ts_X6_count_3 (sx : QX) : ∀ q ∈ t_X6_count_3, q_Snd sx RX6 cX6_count 2 (some .int) q.1 q.2 := List.forall_mem_cons.mpr ⟨s_cV (T := TX3) (N := 8) rfl d_X6_count_128 rfl k_3_229 k_3_121 k_3_122 k_1_4 k_3_123 ⟨by decide, by decide⟩ (by decide +kernel) (by decide), List.forall_mem_cons.mpr ⟨s_ir d_X6_count_131 rfl, List.forall_mem_cons.mpr ⟨s_aload_n d_X6_count_132 rfl, List.forall_mem_cons.mpr ⟨s_gf d_X6_count_133 rfl (by decide) n_X6 in_X6 rfl k_2_120, List.forall_mem_cons.mpr ⟨s_cV (T := TX3) (N := 8) rfl d_X6_count_136 rfl k_4_2 k_3_135 k_3_136 k_1_4 k_3_137 ⟨by decide, by decide⟩ (by decide +kernel) (by decide), List.forall_mem_cons.mpr ⟨s_ir d_X6_count_139 rfl, List.forall_mem_cons.mpr ⟨s_aload_n d_X6_count_140 rfl, List.forall_mem_cons.mpr ⟨s_gf d_X6_count_141 rfl (by decide) n_X6 in_X6 rfl k_2_122, List.forall_mem_cons.mpr ⟨s_gf d_X6_count_144 rfl (by decide) n_X2 in_X2 rfl k_1_160, List.forall_mem_cons.mpr ⟨s_ir d_X6_count_147 rfl, List.forall_mem_cons.mpr ⟨s_aload_n d_X6_count_148 rfl, List.forall_mem_cons.mpr ⟨s_gf d_X6_count_149 rfl (by decide) n_X6 in_X6 rfl k_2_123, fun _ h => absurd h List.not_mem_nil⟩⟩⟩⟩⟩⟩⟩⟩⟩⟩⟩⟩
def t_X6_count_4 : List (Nat × QO) := [(152, o_gf 2 2 155), (155, o_ir false), (156, o_al 0 157), (157, o_gf 6 0 160), (160, o_gf 5 2 163), (163, o_ir false), (164, o_k (-1) 165), (165, o_ir false)]
theorem ts_X6_count_4 (sx : QX) : ∀ q ∈ t_X6_count_4, q_Snd sx RX6 cX6_count 2 (some .int) q.1 q.2 := List.forall_mem_cons.mpr ⟨s_gf d_X6_count_152 rfl (by decide) n_X2 in_X2 rfl k_1_160, List.forall_mem_cons.mpr ⟨s_ir d_X6_count_155 rfl, List.forall_mem_cons.mpr ⟨s_aload_n d_X6_count_156 rfl, List.forall_mem_cons.mpr ⟨s_gf d_X6_count_157 rfl (by decide) n_X6 in_X6 rfl k_2_117, List.forall_mem_cons.mpr ⟨s_gf d_X6_count_160 rfl (by decide) n_X5 in_X5 rfl k_1_31, List.forall_mem_cons.mpr ⟨s_ir d_X6_count_163 rfl, List.forall_mem_cons.mpr ⟨s_iconst d_X6_count_164 rfl, List.forall_mem_cons.mpr ⟨s_ir d_X6_count_165 rfl, fun _ h => absurd h List.not_mem_nil⟩⟩⟩⟩⟩⟩⟩⟩
def t_X6_count (pc : Nat) : Option QO := cond (Nat.ble pc 105) (cond (Nat.ble pc 81) (q_look (t_X6_count_0) pc) (q_look (t_X6_count_1) pc)) (cond (Nat.ble pc 127) (q_look (t_X6_count_2) pc) (cond (Nat.ble pc 149) (q_look (t_X6_count_3) pc) (q_look (t_X6_count_4) pc)))
theorem ts_X6_count (sx : QX) (pc : Nat) : ∀ o, t_X6_count pc = some o → q_Snd sx RX6 cX6_count 2 (some .int) pc o := by
  unfold t_X6_count
  exact q_cb (q_cb (q_look_all (ts_X6_count_0 sx)) (q_look_all (ts_X6_count_1 sx))) (q_cb (q_look_all (ts_X6_count_2 sx)) (q_cb (q_look_all (ts_X6_count_3 sx)) (q_look_all (ts_X6_count_4 sx))))
theorem d_X6_layOut_0 : decode cX6_layOut 0 = .ok (.aload_n 0, 1) := by decide +kernel
theorem d_X6_layOut_1 : decode cX6_layOut 1 = .ok (.getfield 10, 3) := by decide +kernel
theorem d_X6_layOut_4 : decode cX6_layOut 4 = .ok (.aload_n 0, 1) := by decide +kernel
theorem d_X6_layOut_5 : decode cX6_layOut 5 = .ok (.getfield 19, 3) := by decide +kernel
theorem d_X6_layOut_8 : decode cX6_layOut 8 = .ok (.invokevirtual 88, 3) := by decide +kernel
theorem d_X6_layOut_11 : decode cX6_layOut 11 = .ok (.pop, 1) := by decide +kernel
theorem d_X6_layOut_12 : decode cX6_layOut 12 = .ok (.aload_n 0, 1) := by decide +kernel
theorem d_X6_layOut_13 : decode cX6_layOut 13 = .ok (.getfield 19, 3) := by decide +kernel
theorem d_X6_layOut_16 : decode cX6_layOut 16 = .ok (.invokevirtual 279, 3) := by decide +kernel
theorem d_X6_layOut_19 : decode cX6_layOut 19 = .ok (.aload_n 0, 1) := by decide +kernel
theorem d_X6_layOut_20 : decode cX6_layOut 20 = .ok (.getfield 31, 3) := by decide +kernel
theorem d_X6_layOut_23 : decode cX6_layOut 23 = .ok (.invokevirtual 282, 3) := by decide +kernel
theorem d_X6_layOut_26 : decode cX6_layOut 26 = .ok (.aload_n 0, 1) := by decide +kernel
theorem d_X6_layOut_27 : decode cX6_layOut 27 = .ok (.getfield 43, 3) := by decide +kernel
theorem d_X6_layOut_30 : decode cX6_layOut 30 = .ok (.invokevirtual 273, 3) := by decide +kernel
theorem d_X6_layOut_33 : decode cX6_layOut 33 = .ok (.aload_n 0, 1) := by decide +kernel
theorem d_X6_layOut_34 : decode cX6_layOut 34 = .ok (.getfield 47, 3) := by decide +kernel
theorem d_X6_layOut_37 : decode cX6_layOut 37 = .ok (.invokevirtual 273, 3) := by decide +kernel
theorem d_X6_layOut_40 : decode cX6_layOut 40 = .ok (.return_, 1) := by decide +kernel
def t_X6_layOut_0 : List (Nat × QO) := [(0, o_al 0 1), (1, o_gf 6 0 4), (4, o_al 0 5), (5, o_gf 6 1 8), (8, o_cV 1 5 51 4 2 11), (11, o_pop 12), (12, o_al 0 13), (13, o_gf 6 1 16), (16, o_cV 0 0 7 5 1 19), (19, o_al 0 20), (20, o_gf 6 3 23), (23, o_cV 0 3 19 1 1 26)]
theorem ts_X6_layOut_0 (sx : QX) : ∀ q ∈ t_X6_layOut_0, q_Snd sx RX6 cX6_layOut 1 none q.1 q.2 := List.forall_mem_cons.mpr ⟨s_aload_n d_X6_layOut_0 rfl, List.forall_mem_cons.mpr ⟨s_gf d_X6_layOut_1 rfl (by decide) n_X6 in_X6 rfl k_2_117, List.forall_mem_cons.mpr ⟨s_aload_n d_X6_layOut_4 rfl, List.forall_mem_cons.mpr ⟨s_gf d_X6_layOut_5 rfl (by decide) n_X6 in_X6 rfl k_2_118, List.forall_mem_cons.mpr ⟨s_cV (T := TX5) (N := 4) rfl d_X6_layOut_8 rfl k_2_29 k_2_30 k_2_31 k_1_2 k_2_32 ⟨by decide, by decide⟩ (by decide +kernel) (by decide), List.forall_mem_cons.mpr ⟨s_pop d_X6_layOut_11, List.forall_mem_cons.mpr ⟨s_aload_n d_X6_layOut_12 rfl, List.forall_mem_cons.mpr ⟨s_gf d_X6_layOut_13 rfl (by decide) n_X6 in_X6 rfl k_2_118, List.forall_mem_cons.mpr ⟨s_cV (T := TX0) (N := 12) rfl d_X6_layOut_16 rfl k_2_86 k_2_87 k_2_88 k_1_3 k_2_89 ⟨by decide, by decide⟩ (by decide +kernel) (by decide), List.forall_mem_cons.mpr ⟨s_aload_n d_X6_layOut_19 rfl, List.forall_mem_cons.mpr ⟨s_gf d_X6_layOut_20 rfl (by decide) n_X6 in_X6 rfl k_2_120, List.forall_mem_cons.mpr ⟨s_cV (T := TX3) (N := 8) rfl d_X6_layOut_23 rfl k_2_105 k_2_106 k_2_107 k_1_4 k_2_108 ⟨by decide, by decide⟩ (by decide +kernel) (by decide), fun _ h => absurd h List.not_mem_nil⟩⟩⟩⟩⟩⟩⟩⟩⟩⟩⟩⟩
def t_X6_layOut_1 : List (Nat × QO) := [(26, o_al 0 27), (27, o_gf 6 5 30), (30, o_cV 0 2 16 1 1 33), (33, o_al 0 34), (34, o_gf 6 6 37), (37, o_cV 0 2 16 1 1 40), (40, o_vr)]
theorem ts_X6_layOut_1 (sx : QX) : ∀ q ∈ t_X6_layOut_1, q_Snd sx RX6 cX6_layOut 1 none q.1 q.2 := List.forall_mem_cons.mpr ⟨s_aload_n d_X6_layOut_26 rfl, List.forall_mem_cons.mpr ⟨s_gf d_X6_layOut_27 rfl (by decide) n_X6 in_X6 rfl k_2_122, List.forall_mem_cons.mpr ⟨s_cV (T := TX2) (N := 3) rfl d_X6_layOut_30 rfl k_2_113 k_2_114 k_2_115 k_1_5 k_2_116 ⟨by decide, by decide⟩ (by decide +kernel) (by decide), List.forall_mem_cons.mpr ⟨s_aload_n d_X6_layOut_33 rfl, List.forall_mem_cons.mpr ⟨s_gf d_X6_layOut_34 rfl (by decide) n_X6 in_X6 rfl k_2_123, List.forall_mem_cons.mpr ⟨s_cV (T := TX2) (N := 3) rfl d_X6_layOut_37 rfl k_2_113 k_2_114 k_2_115 k_1_5 k_2_116 ⟨by decide, by decide⟩ (by decide +kernel) (by decide), List.forall_mem_cons.mpr ⟨s_vr d_X6_layOut_40 rfl, fun _ h => absurd h List.not_mem_nil⟩⟩⟩⟩⟩⟩⟩
def t_X6_layOut (pc : Nat) : Option QO := cond (Nat.ble pc 23) (q_look (t_X6_layOut_0) pc) (q_look (t_X6_layOut_1) pc)
theorem ts_X6_layOut (sx : QX) (pc : Nat) : ∀ o, t_X6_layOut pc = some o → q_Snd sx RX6 cX6_layOut 1 none pc o := by
  unfold t_X6_layOut
  exact q_cb (q_look_all (ts_X6_layOut_0 sx)) (q_look_all (ts_X6_layOut_1 sx))
theorem d_X6_isBlock_0 : decode cX6_isBlock 0 = .ok (.iload_n 1, 1) := by decide +kernel
theorem d_X6_isBlock_1 : decode cX6_isBlock 1 = .ok (.ifCond .lt 18, 3) := by decide +kernel
theorem d_X6_isBlock_4 : decode cX6_isBlock 4 = .ok (.iload_n 1, 1) := by decide +kernel
theorem d_X6_isBlock_5 : decode cX6_isBlock 5 = .ok (.aload_n 0, 1) := by decide +kernel
theorem d_X6_isBlock_6 : decode cX6_isBlock 6 = .ok (.getfield 19, 3) := by decide +kernel
theorem d_X6_isBlock_9 : decode cX6_isBlock 9 = .ok (.getfield 96, 3) := by decide +kernel
theorem d_X6_isBlock_12 : decode cX6_isBlock 12 = .ok (.if_icmp .ge 7, 3) := by decide +kernel
theorem d_X6_isBlock_15 : decode cX6_isBlock 15 = .ok (.iconst 1, 1) := by decide +kernel
theorem d_X6_isBlock_16 : decode cX6_isBlock 16 = .ok (.goto 4, 3) := by decide +kernel
theorem d_X6_isBlock_19 : decode cX6_isBlock 19 = .ok (.iconst 0, 1) := by decide +kernel
theorem d_X6_isBlock_20 : decode cX6_isBlock 20 = .ok (.ireturn, 1) := by decide +kernel
def t_X6_isBlock_0 : List (Nat × QO) := [(0, o_il 1 1), (1, o_if (fun x => decide (x < 0)) 19 4), (4, o_il 1 5), (5, o_al 0 6), (6, o_gf 6 1 9), (9, o_gf 0 0 12), (12, o_ic (fun x y => decide (y ≤ x)) 19 15), (15, o_k 1 16), (16, o_goto 20), (19, o_k 0 20), (20, o_ir true)]
theorem ts_X6_isBlock_0 (sx : QX) : ∀ q ∈ t_X6_isBlock_0, q_Snd sx RX6 cX6_isBlock 2 (some .boolean) q.1 q.2 := List.forall_mem_cons.mpr ⟨s_iload_n d_X6_isBlock_0 rfl, List.forall_mem_cons.mpr ⟨s_if_lt d_X6_isBlock_1 (by decide), List.forall_mem_cons.mpr ⟨s_iload_n d_X6_isBlock_4 rfl, List.forall_mem_cons.mpr ⟨s_aload_n d_X6_isBlock_5 rfl, List.forall_mem_cons.mpr ⟨s_gf d_X6_isBlock_6 rfl (by decide) n_X6 in_X6 rfl k_2_118, List.forall_mem_cons.mpr ⟨s_gf d_X6_isBlock_9 rfl (by decide) n_X0 in_X0 rfl k_1_53, List.forall_mem_cons.mpr ⟨s_ic_ge d_X6_isBlock_12 (by decide), List.forall_mem_cons.mpr ⟨s_iconst d_X6_isBlock_15 rfl, List.forall_mem_cons.mpr ⟨s_goto d_X6_isBlock_16 (by decide), List.forall_mem_cons.mpr ⟨s_iconst d_X6_isBlock_19 rfl, List.forall_mem_cons.mpr ⟨s_zr d_X6_isBlock_20 rfl, fun _ h => absurd h List.not_mem_nil⟩⟩⟩⟩⟩⟩⟩⟩⟩⟩⟩
def t_X6_isBlock (pc : Nat) : Option QO := q_look (t_X6_isBlock_0) pc
theorem ts_X6_isBlock (sx : QX) (pc : Nat) : ∀ o, t_X6_isBlock pc = some o → q_Snd sx RX6 cX6_isBlock 2 (some .boolean) pc o := by
  unfold t_X6_isBlock
  exact q_look_all (ts_X6_isBlock_0 sx)
theorem d_X6_isWord_0 : decode cX6_isWord 0 = .ok (.iload_n 1, 1) := by decide +kernel
theorem d_X6_isWord_1 : decode cX6_isWord 1 = .ok (.ifCond .lt 18, 3) := by decide +kernel
theorem d_X6_isWord_4 : decode cX6_isWord 4 = .ok (.iload_n 1, 1) := by decide +kernel
theorem d_X6_isWord_5 : decode cX6_isWord 5 = .ok (.aload_n 0, 1) := by decide +kernel
theorem d_X6_isWord_6 : decode cX6_isWord 6 = .ok (.getfield 19, 3) := by decide +kernel
theorem d_X6_isWord_9 : decode cX6_isWord 9 = .ok (.getfield 247, 3) := by decide +kernel
theorem d_X6_isWord_12 : decode cX6_isWord 12 = .ok (.if_icmp .ge 7, 3) := by decide +kernel
theorem d_X6_isWord_15 : decode cX6_isWord 15 = .ok (.iconst 1, 1) := by decide +kernel
theorem d_X6_isWord_16 : decode cX6_isWord 16 = .ok (.goto 4, 3) := by decide +kernel
theorem d_X6_isWord_19 : decode cX6_isWord 19 = .ok (.iconst 0, 1) := by decide +kernel
theorem d_X6_isWord_20 : decode cX6_isWord 20 = .ok (.ireturn, 1) := by decide +kernel
def t_X6_isWord_0 : List (Nat × QO) := [(0, o_il 1 1), (1, o_if (fun x => decide (x < 0)) 19 4), (4, o_il 1 5), (5, o_al 0 6), (6, o_gf 6 1 9), (9, o_gf 0 1 12), (12, o_ic (fun x y => decide (y ≤ x)) 19 15), (15, o_k 1 16), (16, o_goto 20), (19, o_k 0 20), (20, o_ir true)]
theorem ts_X6_isWord_0 (sx : QX) : ∀ q ∈ t_X6_isWord_0, q_Snd sx RX6 cX6_isWord 2 (some .boolean) q.1 q.2 := List.forall_mem_cons.mpr ⟨s_iload_n d_X6_isWord_0 rfl, List.forall_mem_cons.mpr ⟨s_if_lt d_X6_isWord_1 (by decide), List.forall_mem_cons.mpr ⟨s_iload_n d_X6_isWord_4 rfl, List.forall_mem_cons.mpr ⟨s_aload_n d_X6_isWord_5 rfl, List.forall_mem_cons.mpr ⟨s_gf d_X6_isWord_6 rfl (by decide) n_X6 in_X6 rfl k_2_118, List.forall_mem_cons.mpr ⟨s_gf d_X6_isWord_9 rfl (by decide) n_X0 in_X0 rfl k_1_57, List.forall_mem_cons.mpr ⟨s_ic_ge d_X6_isWord_12 (by decide), List.forall_mem_cons.mpr ⟨s_iconst d_X6_isWord_15 rfl, List.forall_mem_cons.mpr ⟨s_goto d_X6_isWord_16 (by decide), List.forall_mem_cons.mpr ⟨s_iconst d_X6_isWord_19 rfl, List.forall_mem_cons.mpr ⟨s_zr d_X6_isWord_20 rfl, fun _ h => absurd h List.not_mem_nil⟩⟩⟩⟩⟩⟩⟩⟩⟩⟩⟩
def t_X6_isWord (pc : Nat) : Option QO := q_look (t_X6_isWord_0) pc
theorem ts_X6_isWord (sx : QX) (pc : Nat) : ∀ o, t_X6_isWord pc = some o → q_Snd sx RX6 cX6_isWord 2 (some .boolean) pc o := by
  unfold t_X6_isWord
  exact q_look_all (ts_X6_isWord_0 sx)
theorem d_X6_isSpeaker_0 : decode cX6_isSpeaker 0 = .ok (.iload_n 1, 1) := by decide +kernel
theorem d_X6_isSpeaker_1 : decode cX6_isSpeaker 1 = .ok (.ifCond .lt 18, 3) := by decide +kernel
theorem d_X6_isSpeaker_4 : decode cX6_isSpeaker 4 = .ok (.iload_n 1, 1) := by decide +kernel
theorem d_X6_isSpeaker_5 : decode cX6_isSpeaker 5 = .ok (.aload_n 0, 1) := by decide +kernel
theorem d_X6_isSpeaker_6 : decode cX6_isSpeaker 6 = .ok (.getfield 19, 3) := by decide +kernel
theorem d_X6_isSpeaker_9 : decode cX6_isSpeaker 9 = .ok (.getfield 233, 3) := by decide +kernel
theorem d_X6_isSpeaker_12 : decode cX6_isSpeaker 12 = .ok (.if_icmp .ge 7, 3) := by decide +kernel
theorem d_X6_isSpeaker_15 : decode cX6_isSpeaker 15 = .ok (.iconst 1, 1) := by decide +kernel
theorem d_X6_isSpeaker_16 : decode cX6_isSpeaker 16 = .ok (.goto 4, 3) := by decide +kernel
theorem d_X6_isSpeaker_19 : decode cX6_isSpeaker 19 = .ok (.iconst 0, 1) := by decide +kernel
theorem d_X6_isSpeaker_20 : decode cX6_isSpeaker 20 = .ok (.ireturn, 1) := by decide +kernel
def t_X6_isSpeaker_0 : List (Nat × QO) := [(0, o_il 1 1), (1, o_if (fun x => decide (x < 0)) 19 4), (4, o_il 1 5), (5, o_al 0 6), (6, o_gf 6 1 9), (9, o_gf 0 2 12), (12, o_ic (fun x y => decide (y ≤ x)) 19 15), (15, o_k 1 16), (16, o_goto 20), (19, o_k 0 20), (20, o_ir true)]
theorem ts_X6_isSpeaker_0 (sx : QX) : ∀ q ∈ t_X6_isSpeaker_0, q_Snd sx RX6 cX6_isSpeaker 2 (some .boolean) q.1 q.2 := List.forall_mem_cons.mpr ⟨s_iload_n d_X6_isSpeaker_0 rfl, List.forall_mem_cons.mpr ⟨s_if_lt d_X6_isSpeaker_1 (by decide), List.forall_mem_cons.mpr ⟨s_iload_n d_X6_isSpeaker_4 rfl, List.forall_mem_cons.mpr ⟨s_aload_n d_X6_isSpeaker_5 rfl, List.forall_mem_cons.mpr ⟨s_gf d_X6_isSpeaker_6 rfl (by decide) n_X6 in_X6 rfl k_2_118, List.forall_mem_cons.mpr ⟨s_gf d_X6_isSpeaker_9 rfl (by decide) n_X0 in_X0 rfl k_1_61, List.forall_mem_cons.mpr ⟨s_ic_ge d_X6_isSpeaker_12 (by decide), List.forall_mem_cons.mpr ⟨s_iconst d_X6_isSpeaker_15 rfl, List.forall_mem_cons.mpr ⟨s_goto d_X6_isSpeaker_16 (by decide), List.forall_mem_cons.mpr ⟨s_iconst d_X6_isSpeaker_19 rfl, List.forall_mem_cons.mpr ⟨s_zr d_X6_isSpeaker_20 rfl, fun _ h => absurd h List.not_mem_nil⟩⟩⟩⟩⟩⟩⟩⟩⟩⟩⟩
def t_X6_isSpeaker (pc : Nat) : Option QO := q_look (t_X6_isSpeaker_0) pc
theorem ts_X6_isSpeaker (sx : QX) (pc : Nat) : ∀ o, t_X6_isSpeaker pc = some o → q_Snd sx RX6 cX6_isSpeaker 2 (some .boolean) pc o := by
  unfold t_X6_isSpeaker
  exact q_look_all (ts_X6_isSpeaker_0 sx)
theorem d_X6_isSaying_0 : decode cX6_isSaying 0 = .ok (.aload_n 0, 1) := by decide +kernel
theorem d_X6_isSaying_1 : decode cX6_isSaying 1 = .ok (.iload_n 1, 1) := by decide +kernel
theorem d_X6_isSaying_2 : decode cX6_isSaying 2 = .ok (.invokevirtual 129, 3) := by decide +kernel
theorem d_X6_isSaying_5 : decode cX6_isSaying 5 = .ok (.ifCond .eq 23, 3) := by decide +kernel
theorem d_X6_isSaying_8 : decode cX6_isSaying 8 = .ok (.aload_n 0, 1) := by decide +kernel
theorem d_X6_isSaying_9 : decode cX6_isSaying 9 = .ok (.iload_n 2, 1) := by decide +kernel
theorem d_X6_isSaying_10 : decode cX6_isSaying 10 = .ok (.invokevirtual 99, 3) := by decide +kernel
theorem d_X6_isSaying_13 : decode cX6_isSaying 13 = .ok (.ifCond .eq 15, 3) := by decide +kernel
theorem d_X6_isSaying_16 : decode cX6_isSaying 16 = .ok (.aload_n 0, 1) := by decide +kernel
theorem d_X6_isSaying_17 : decode cX6_isSaying 17 = .ok (.iload_n 3, 1) := by decide +kernel
theorem d_X6_isSaying_18 : decode cX6_isSaying 18 = .ok (.invokevirtual 123, 3) := by decide +kernel
theorem d_X6_isSaying_21 : decode cX6_isSaying 21 = .ok (.ifCond .eq 7, 3) := by decide +kernel
theorem d_X6_isSaying_24 : decode cX6_isSaying 24 = .ok (.iconst 1, 1) := by decide +kernel
theorem d_X6_isSaying_25 : decode cX6_isSaying 25 = .ok (.goto 4, 3) := by decide +kernel
theorem d_X6_isSaying_28 : decode cX6_isSaying 28 = .ok (.iconst 0, 1) := by decide +kernel
theorem d_X6_isSaying_29 : decode cX6_isSaying 29 = .ok (.ireturn, 1) := by decide +kernel
def t_X6_isSaying_0 : List (Nat × QO) := [(0, o_al 0 1), (1, o_il 1 2), (2, o_cV 1 6 88 2 2 5), (5, o_if (fun x => decide (x = 0)) 28 8), (8, o_al 0 9), (9, o_il 2 10), (10, o_cV 1 6 86 2 2 13), (13, o_if (fun x => decide (x = 0)) 28 16), (16, o_al 0 17), (17, o_il 3 18), (18, o_cV 1 6 87 2 2 21), (21, o_if (fun x => decide (x = 0)) 28 24)]
theorem ts_X6_isSaying_0 (sx : QX) : ∀ q ∈ t_X6_isSaying_0, q_Snd sx RX6 cX6_isSaying 4 (some .boolean) q.1 q.2 := List.forall_mem_cons.mpr ⟨s_aload_n d_X6_isSaying_0 rfl, List.forall_mem_cons.mpr ⟨s_iload_n d_X6_isSaying_1 rfl, List.forall_mem_cons.mpr ⟨s_cV (T := TX6) (N := 9) rfl d_X6_isSaying_2 rfl k_2_187 k_2_189 k_0_9 k_1_1 k_2_190 ⟨by decide, by decide⟩ (by decide +kernel) (by decide), List.forall_mem_cons.mpr ⟨s_if_eq d_X6_isSaying_5 (by decide), List.forall_mem_cons.mpr ⟨s_aload_n d_X6_isSaying_8 rfl, List.forall_mem_cons.mpr ⟨s_iload_n d_X6_isSaying_9 rfl, List.forall_mem_cons.mpr ⟨s_cV (T := TX6) (N := 9) rfl d_X6_isSaying_10 rfl k_2_170 k_2_172 k_0_7 k_1_1 k_2_173 ⟨by decide, by decide⟩ (by decide +kernel) (by decide), List.forall_mem_cons.mpr ⟨s_if_eq d_X6_isSaying_13 (by decide), List.forall_mem_cons.mpr ⟨s_aload_n d_X6_isSaying_16 rfl, List.forall_mem_cons.mpr ⟨s_iload_n d_X6_isSaying_17 rfl, List.forall_mem_cons.mpr ⟨s_cV (T := TX6) (N := 9) rfl d_X6_isSaying_18 rfl k_2_179 k_2_181 k_0_8 k_1_1 k_2_182 ⟨by decide, by decide⟩ (by decide +kernel) (by decide), List.forall_mem_cons.mpr ⟨s_if_eq d_X6_isSaying_21 (by decide), fun _ h => absurd h List.not_mem_nil⟩⟩⟩⟩⟩⟩⟩⟩⟩⟩⟩⟩
def t_X6_isSaying_1 : List (Nat × QO) := [(24, o_k 1 25), (25, o_goto 29), (28, o_k 0 29), (29, o_ir true)]
theorem ts_X6_isSaying_1 (sx : QX) : ∀ q ∈ t_X6_isSaying_1, q_Snd sx RX6 cX6_isSaying 4 (some .boolean) q.1 q.2 := List.forall_mem_cons.mpr ⟨s_iconst d_X6_isSaying_24 rfl, List.forall_mem_cons.mpr ⟨s_goto d_X6_isSaying_25 (by decide), List.forall_mem_cons.mpr ⟨s_iconst d_X6_isSaying_28 rfl, List.forall_mem_cons.mpr ⟨s_zr d_X6_isSaying_29 rfl, fun _ h => absurd h List.not_mem_nil⟩⟩⟩⟩
def t_X6_isSaying (pc : Nat) : Option QO := cond (Nat.ble pc 21) (q_look (t_X6_isSaying_0) pc) (q_look (t_X6_isSaying_1) pc)
theorem ts_X6_isSaying (sx : QX) (pc : Nat) : ∀ o, t_X6_isSaying pc = some o → q_Snd sx RX6 cX6_isSaying 4 (some .boolean) pc o := by
  unfold t_X6_isSaying
  exact q_cb (q_look_all (ts_X6_isSaying_0 sx)) (q_look_all (ts_X6_isSaying_1 sx))
theorem d_X6_isUse_0 : decode cX6_isUse 0 = .ok (.iload_n 0, 1) := by decide +kernel
theorem d_X6_isUse_1 : decode cX6_isUse 1 = .ok (.ifCond .lt 13, 3) := by decide +kernel
theorem d_X6_isUse_4 : decode cX6_isUse 4 = .ok (.iload_n 0, 1) := by decide +kernel
theorem d_X6_isUse_5 : decode cX6_isUse 5 = .ok (.bipush 8, 2) := by decide +kernel
theorem d_X6_isUse_7 : decode cX6_isUse 7 = .ok (.if_icmp .ge 7, 3) := by decide +kernel
theorem d_X6_isUse_10 : decode cX6_isUse 10 = .ok (.iconst 1, 1) := by decide +kernel
theorem d_X6_isUse_11 : decode cX6_isUse 11 = .ok (.goto 4, 3) := by decide +kernel
theorem d_X6_isUse_14 : decode cX6_isUse 14 = .ok (.iconst 0, 1) := by decide +kernel
theorem d_X6_isUse_15 : decode cX6_isUse 15 = .ok (.ireturn, 1) := by decide +kernel
def t_X6_isUse_0 : List (Nat × QO) := [(0, o_il 0 1), (1, o_if (fun x => decide (x < 0)) 14 4), (4, o_il 0 5), (5, o_k 8 7), (7, o_ic (fun x y => decide (y ≤ x)) 14 10), (10, o_k 1 11), (11, o_goto 15), (14, o_k 0 15), (15, o_ir true)]
theorem ts_X6_isUse_0 (sx : QX) : ∀ q ∈ t_X6_isUse_0, q_Snd sx RX6 cX6_isUse 1 (some .boolean) q.1 q.2 := List.forall_mem_cons.mpr ⟨s_iload_n d_X6_isUse_0 rfl, List.forall_mem_cons.mpr ⟨s_if_lt d_X6_isUse_1 (by decide), List.forall_mem_cons.mpr ⟨s_iload_n d_X6_isUse_4 rfl, List.forall_mem_cons.mpr ⟨s_bipush d_X6_isUse_5 rfl, List.forall_mem_cons.mpr ⟨s_ic_ge d_X6_isUse_7 (by decide), List.forall_mem_cons.mpr ⟨s_iconst d_X6_isUse_10 rfl, List.forall_mem_cons.mpr ⟨s_goto d_X6_isUse_11 (by decide), List.forall_mem_cons.mpr ⟨s_iconst d_X6_isUse_14 rfl, List.forall_mem_cons.mpr ⟨s_zr d_X6_isUse_15 rfl, fun _ h => absurd h List.not_mem_nil⟩⟩⟩⟩⟩⟩⟩⟩⟩
def t_X6_isUse (pc : Nat) : Option QO := q_look (t_X6_isUse_0) pc
theorem ts_X6_isUse (sx : QX) (pc : Nat) : ∀ o, t_X6_isUse pc = some o → q_Snd sx RX6 cX6_isUse 1 (some .boolean) pc o := by
  unfold t_X6_isUse
  exact q_look_all (ts_X6_isUse_0 sx)
theorem d_X6_isPart_0 : decode cX6_isPart 0 = .ok (.iload_n 0, 1) := by decide +kernel
theorem d_X6_isPart_1 : decode cX6_isPart 1 = .ok (.ifCond .eq 8, 3) := by decide +kernel
theorem d_X6_isPart_4 : decode cX6_isPart 4 = .ok (.iload_n 0, 1) := by decide +kernel
theorem d_X6_isPart_5 : decode cX6_isPart 5 = .ok (.iconst 1, 1) := by decide +kernel
theorem d_X6_isPart_6 : decode cX6_isPart 6 = .ok (.if_icmp .ne 7, 3) := by decide +kernel
theorem d_X6_isPart_9 : decode cX6_isPart 9 = .ok (.iconst 1, 1) := by decide +kernel
theorem d_X6_isPart_10 : decode cX6_isPart 10 = .ok (.goto 4, 3) := by decide +kernel
theorem d_X6_isPart_13 : decode cX6_isPart 13 = .ok (.iconst 0, 1) := by decide +kernel
theorem d_X6_isPart_14 : decode cX6_isPart 14 = .ok (.ireturn, 1) := by decide +kernel
def t_X6_isPart_0 : List (Nat × QO) := [(0, o_il 0 1), (1, o_if (fun x => decide (x = 0)) 9 4), (4, o_il 0 5), (5, o_k 1 6), (6, o_ic (fun x y => decide (x ≠ y)) 13 9), (9, o_k 1 10), (10, o_goto 14), (13, o_k 0 14), (14, o_ir true)]
theorem ts_X6_isPart_0 (sx : QX) : ∀ q ∈ t_X6_isPart_0, q_Snd sx RX6 cX6_isPart 1 (some .boolean) q.1 q.2 := List.forall_mem_cons.mpr ⟨s_iload_n d_X6_isPart_0 rfl, List.forall_mem_cons.mpr ⟨s_if_eq d_X6_isPart_1 (by decide), List.forall_mem_cons.mpr ⟨s_iload_n d_X6_isPart_4 rfl, List.forall_mem_cons.mpr ⟨s_iconst d_X6_isPart_5 rfl, List.forall_mem_cons.mpr ⟨s_ic_ne d_X6_isPart_6 (by decide), List.forall_mem_cons.mpr ⟨s_iconst d_X6_isPart_9 rfl, List.forall_mem_cons.mpr ⟨s_goto d_X6_isPart_10 (by decide), List.forall_mem_cons.mpr ⟨s_iconst d_X6_isPart_13 rfl, List.forall_mem_cons.mpr ⟨s_zr d_X6_isPart_14 rfl, fun _ h => absurd h List.not_mem_nil⟩⟩⟩⟩⟩⟩⟩⟩⟩
def t_X6_isPart (pc : Nat) : Option QO := q_look (t_X6_isPart_0) pc
theorem ts_X6_isPart (sx : QX) (pc : Nat) : ∀ o, t_X6_isPart pc = some o → q_Snd sx RX6 cX6_isPart 1 (some .boolean) pc o := by
  unfold t_X6_isPart
  exact q_look_all (ts_X6_isPart_0 sx)
theorem d_X6_saying_0 : decode cX6_saying 0 = .ok (.bipush 10, 2) := by decide +kernel
theorem d_X6_saying_2 : decode cX6_saying 2 = .ok (.iload_n 0, 1) := by decide +kernel
theorem d_X6_saying_3 : decode cX6_saying 3 = .ok (.imul, 1) := by decide +kernel
theorem d_X6_saying_4 : decode cX6_saying 4 = .ok (.iload_n 1, 1) := by decide +kernel
theorem d_X6_saying_5 : decode cX6_saying 5 = .ok (.iadd, 1) := by decide +kernel
theorem d_X6_saying_6 : decode cX6_saying 6 = .ok (.ireturn, 1) := by decide +kernel
def t_X6_saying_0 : List (Nat × QO) := [(0, o_k 10 2), (2, o_il 0 3), (3, o_b (fun x y => x * y) 4), (4, o_il 1 5), (5, o_b (fun x y => x + y) 6), (6, o_ir false)]
theorem ts_X6_saying_0 (sx : QX) : ∀ q ∈ t_X6_saying_0, q_Snd sx RX6 cX6_saying 2 (some .int) q.1 q.2 := List.forall_mem_cons.mpr ⟨s_bipush d_X6_saying_0 rfl, List.forall_mem_cons.mpr ⟨s_iload_n d_X6_saying_2 rfl, List.forall_mem_cons.mpr ⟨s_imul d_X6_saying_3, List.forall_mem_cons.mpr ⟨s_iload_n d_X6_saying_4 rfl, List.forall_mem_cons.mpr ⟨s_iadd d_X6_saying_5, List.forall_mem_cons.mpr ⟨s_ir d_X6_saying_6 rfl, fun _ h => absurd h List.not_mem_nil⟩⟩⟩⟩⟩⟩
def t_X6_saying (pc : Nat) : Option QO := q_look (t_X6_saying_0) pc
theorem ts_X6_saying (sx : QX) (pc : Nat) : ∀ o, t_X6_saying pc = some o → q_Snd sx RX6 cX6_saying 2 (some .int) pc o := by
  unfold t_X6_saying
  exact q_look_all (ts_X6_saying_0 sx)
theorem d_X6_weight_0 : decode cX6_weight 0 = .ok (.iconst 1, 1) := by decide +kernel
theorem d_X6_weight_1 : decode cX6_weight 1 = .ok (.istore_n 3, 1) := by decide +kernel
theorem d_X6_weight_2 : decode cX6_weight 2 = .ok (.iconst 0, 1) := by decide +kernel
theorem d_X6_weight_3 : decode cX6_weight 3 = .ok (.istore 4, 2) := by decide +kernel
theorem d_X6_weight_5 : decode cX6_weight 5 = .ok (.iload 4, 2) := by decide +kernel
theorem d_X6_weight_7 : decode cX6_weight 7 = .ok (.iload_n 1, 1) := by decide +kernel
theorem d_X6_weight_8 : decode cX6_weight 8 = .ok (.if_icmp .ge 30, 3) := by decide +kernel
theorem d_X6_weight_11 : decode cX6_weight 11 = .ok (.iload_n 3, 1) := by decide +kernel
theorem d_X6_weight_12 : decode cX6_weight 12 = .ok (.iload_n 0, 1) := by decide +kernel
theorem d_X6_weight_13 : decode cX6_weight 13 = .ok (.iload 4, 2) := by decide +kernel
theorem d_X6_weight_15 : decode cX6_weight 15 = .ok (.ishr, 1) := by decide +kernel
theorem d_X6_weight_16 : decode cX6_weight 16 = .ok (.iconst 1, 1) := by decide +kernel
theorem d_X6_weight_17 : decode cX6_weight 17 = .ok (.iand, 1) := by decide +kernel
theorem d_X6_weight_18 : decode cX6_weight 18 = .ok (.iconst 1, 1) := by decide +kernel
theorem d_X6_weight_19 : decode cX6_weight 19 = .ok (.if_icmp .ne 10, 3) := by decide +kernel
theorem d_X6_weight_22 : decode cX6_weight 22 = .ok (.bipush 10, 2) := by decide +kernel
theorem d_X6_weight_24 : decode cX6_weight 24 = .ok (.iload_n 2, 1) := by decide +kernel
theorem d_X6_weight_25 : decode cX6_weight 25 = .ok (.isub, 1) := by decide +kernel
theorem d_X6_weight_26 : decode cX6_weight 26 = .ok (.goto 4, 3) := by decide +kernel
theorem d_X6_weight_29 : decode cX6_weight 29 = .ok (.iload_n 2, 1) := by decide +kernel
theorem d_X6_weight_30 : decode cX6_weight 30 = .ok (.imul, 1) := by decide +kernel
theorem d_X6_weight_31 : decode cX6_weight 31 = .ok (.istore_n 3, 1) := by decide +kernel
theorem d_X6_weight_32 : decode cX6_weight 32 = .ok (.iinc 4 1, 3) := by decide +kernel
theorem d_X6_weight_35 : decode cX6_weight 35 = .ok (.goto (-30), 3) := by decide +kernel
theorem d_X6_weight_38 : decode cX6_weight 38 = .ok (.iload_n 3, 1) := by decide +kernel
theorem d_X6_weight_39 : decode cX6_weight 39 = .ok (.ireturn, 1) := by decide +kernel
def t_X6_weight_0 : List (Nat × QO) := [(0, o_k 1 1), (1, o_is 3 2), (2, o_k 0 3), (3, o_is 4 5), (5, o_il 4 7), (7, o_il 1 8), (8, o_ic (fun x y => decide (y ≤ x)) 38 11), (11, o_il 3 12), (12, o_il 0 13), (13, o_il 4 15), (15, o_b (fun x y => x >>> (y &&& 31)) 16), (16, o_k 1 17)]
theorem ts_X6_weight_0 (sx : QX) : ∀ q ∈ t_X6_weight_0, q_Snd sx RX6 cX6_weight 5 (some .int) q.1 q.2 := List.forall_mem_cons.mpr ⟨s_iconst d_X6_weight_0 rfl, List.forall_mem_cons.mpr ⟨s_istore_n d_X6_weight_1 rfl (by decide), List.forall_mem_cons.mpr ⟨s_iconst d_X6_weight_2 rfl, List.forall_mem_cons.mpr ⟨s_istore d_X6_weight_3 (by decide), List.forall_mem_cons.mpr ⟨s_iload d_X6_weight_5, List.forall_mem_cons.mpr ⟨s_iload_n d_X6_weight_7 rfl, List.forall_mem_cons.mpr ⟨s_ic_ge d_X6_weight_8 (by decide), List.forall_mem_cons.mpr ⟨s_iload_n d_X6_weight_11 rfl, List.forall_mem_cons.mpr ⟨s_iload_n d_X6_weight_12 rfl, List.forall_mem_cons.mpr ⟨s_iload d_X6_weight_13, List.forall_mem_cons.mpr ⟨s_ishr d_X6_weight_15, List.forall_mem_cons.mpr ⟨s_iconst d_X6_weight_16 rfl, fun _ h => absurd h List.not_mem_nil⟩⟩⟩⟩⟩⟩⟩⟩⟩⟩⟩⟩
def t_X6_weight_1 : List (Nat × QO) := [(17, o_b (fun x y => x &&& y) 18), (18, o_k 1 19), (19, o_ic (fun x y => decide (x ≠ y)) 29 22), (22, o_k 10 24), (24, o_il 2 25), (25, o_b (fun x y => x - y) 26), (26, o_goto 30), (29, o_il 2 30), (30, o_b (fun x y => x * y) 31), (31, o_is 3 32), (32, o_inc 4 1 35), (35, o_goto 5)]
theorem ts_X6_weight_1 (sx : QX) : ∀ q ∈ t_X6_weight_1, q_Snd sx RX6 cX6_weight 5 (some .int) q.1 q.2 := List.forall_mem_cons.mpr ⟨s_iand d_X6_weight_17, List.forall_mem_cons.mpr ⟨s_iconst d_X6_weight_18 rfl, List.forall_mem_cons.mpr ⟨s_ic_ne d_X6_weight_19 (by decide), List.forall_mem_cons.mpr ⟨s_bipush d_X6_weight_22 rfl, List.forall_mem_cons.mpr ⟨s_iload_n d_X6_weight_24 rfl, List.forall_mem_cons.mpr ⟨s_isub d_X6_weight_25, List.forall_mem_cons.mpr ⟨s_goto d_X6_weight_26 (by decide), List.forall_mem_cons.mpr ⟨s_iload_n d_X6_weight_29 rfl, List.forall_mem_cons.mpr ⟨s_imul d_X6_weight_30, List.forall_mem_cons.mpr ⟨s_istore_n d_X6_weight_31 rfl (by decide), List.forall_mem_cons.mpr ⟨s_iinc d_X6_weight_32 rfl (by decide), List.forall_mem_cons.mpr ⟨s_goto d_X6_weight_35 (by decide), fun _ h => absurd h List.not_mem_nil⟩⟩⟩⟩⟩⟩⟩⟩⟩⟩⟩⟩
def t_X6_weight_2 : List (Nat × QO) := [(38, o_il 3 39), (39, o_ir false)]
theorem ts_X6_weight_2 (sx : QX) : ∀ q ∈ t_X6_weight_2, q_Snd sx RX6 cX6_weight 5 (some .int) q.1 q.2 := List.forall_mem_cons.mpr ⟨s_iload_n d_X6_weight_38 rfl, List.forall_mem_cons.mpr ⟨s_ir d_X6_weight_39 rfl, fun _ h => absurd h List.not_mem_nil⟩⟩
def t_X6_weight (pc : Nat) : Option QO := cond (Nat.ble pc 16) (q_look (t_X6_weight_0) pc) (cond (Nat.ble pc 35) (q_look (t_X6_weight_1) pc) (q_look (t_X6_weight_2) pc))
theorem ts_X6_weight (sx : QX) (pc : Nat) : ∀ o, t_X6_weight pc = some o → q_Snd sx RX6 cX6_weight 5 (some .int) pc o := by
  unfold t_X6_weight
  exact q_cb (q_look_all (ts_X6_weight_0 sx)) (q_cb (q_look_all (ts_X6_weight_1 sx)) (q_look_all (ts_X6_weight_2 sx)))
theorem d_X6_commonMeasure_0 : decode cX6_commonMeasure 0 = .ok (.iconst 0, 1) := by decide +kernel
theorem d_X6_commonMeasure_1 : decode cX6_commonMeasure 1 = .ok (.istore_n 2, 1) := by decide +kernel
theorem d_X6_commonMeasure_2 : decode cX6_commonMeasure 2 = .ok (.iload_n 2, 1) := by decide +kernel
theorem d_X6_commonMeasure_3 : decode cX6_commonMeasure 3 = .ok (.bipush 64, 2) := by decide +kernel
theorem d_X6_commonMeasure_5 : decode cX6_commonMeasure 5 = .ok (.if_icmp .ge 21, 3) := by decide +kernel
theorem d_X6_commonMeasure_8 : decode cX6_commonMeasure 8 = .ok (.iload_n 1, 1) := by decide +kernel
theorem d_X6_commonMeasure_9 : decode cX6_commonMeasure 9 = .ok (.ifCond .eq 17, 3) := by decide +kernel
theorem d_X6_commonMeasure_12 : decode cX6_commonMeasure 12 = .ok (.iload_n 0, 1) := by decide +kernel
theorem d_X6_commonMeasure_13 : decode cX6_commonMeasure 13 = .ok (.iload_n 1, 1) := by decide +kernel
theorem d_X6_commonMeasure_14 : decode cX6_commonMeasure 14 = .ok (.irem, 1) := by decide +kernel
theorem d_X6_commonMeasure_15 : decode cX6_commonMeasure 15 = .ok (.istore_n 3, 1) := by decide +kernel
theorem d_X6_commonMeasure_16 : decode cX6_commonMeasure 16 = .ok (.iload_n 1, 1) := by decide +kernel
theorem d_X6_commonMeasure_17 : decode cX6_commonMeasure 17 = .ok (.istore_n 0, 1) := by decide +kernel
theorem d_X6_commonMeasure_18 : decode cX6_commonMeasure 18 = .ok (.iload_n 3, 1) := by decide +kernel
theorem d_X6_commonMeasure_19 : decode cX6_commonMeasure 19 = .ok (.istore_n 1, 1) := by decide +kernel
theorem d_X6_commonMeasure_20 : decode cX6_commonMeasure 20 = .ok (.iinc 2 1, 3) := by decide +kernel
theorem d_X6_commonMeasure_23 : decode cX6_commonMeasure 23 = .ok (.goto (-21), 3) := by decide +kernel
theorem d_X6_commonMeasure_26 : decode cX6_commonMeasure 26 = .ok (.iload_n 0, 1) := by decide +kernel
theorem d_X6_commonMeasure_27 : decode cX6_commonMeasure 27 = .ok (.ireturn, 1) := by decide +kernel
def t_X6_commonMeasure_0 : List (Nat × QO) := [(0, o_k 0 1), (1, o_is 2 2), (2, o_il 2 3), (3, o_k 64 5), (5, o_ic (fun x y => decide (y ≤ x)) 26 8), (8, o_il 1 9), (9, o_if (fun x => decide (x = 0)) 26 12), (12, o_il 0 13), (13, o_il 1 14), (14, o_bz (fun x y => x - x / y * y) 15), (15, o_is 3 16), (16, o_il 1 17)]
theorem ts_X6_commonMeasure_0 (sx : QX) : ∀ q ∈ t_X6_commonMeasure_0, q_Snd sx RX6 cX6_commonMeasure 4 (some .int) q.1 q.2 := List.forall_mem_cons.mpr ⟨s_iconst d_X6_commonMeasure_0 rfl, List.forall_mem_cons.mpr ⟨s_istore_n d_X6_commonMeasure_1 rfl (by decide), List.forall_mem_cons.mpr ⟨s_iload_n d_X6_commonMeasure_2 rfl, List.forall_mem_cons.mpr ⟨s_bipush d_X6_commonMeasure_3 rfl, List.forall_mem_cons.mpr ⟨s_ic_ge d_X6_commonMeasure_5 (by decide), List.forall_mem_cons.mpr ⟨s_iload_n d_X6_commonMeasure_8 rfl, List.forall_mem_cons.mpr ⟨s_if_eq d_X6_commonMeasure_9 (by decide), List.forall_mem_cons.mpr ⟨s_iload_n d_X6_commonMeasure_12 rfl, List.forall_mem_cons.mpr ⟨s_iload_n d_X6_commonMeasure_13 rfl, List.forall_mem_cons.mpr ⟨s_irem d_X6_commonMeasure_14, List.forall_mem_cons.mpr ⟨s_istore_n d_X6_commonMeasure_15 rfl (by decide), List.forall_mem_cons.mpr ⟨s_iload_n d_X6_commonMeasure_16 rfl, fun _ h => absurd h List.not_mem_nil⟩⟩⟩⟩⟩⟩⟩⟩⟩⟩⟩⟩
def t_X6_commonMeasure_1 : List (Nat × QO) := [(17, o_is 0 18), (18, o_il 3 19), (19, o_is 1 20), (20, o_inc 2 1 23), (23, o_goto 2), (26, o_il 0 27), (27, o_ir false)]
theorem ts_X6_commonMeasure_1 (sx : QX) : ∀ q ∈ t_X6_commonMeasure_1, q_Snd sx RX6 cX6_commonMeasure 4 (some .int) q.1 q.2 := List.forall_mem_cons.mpr ⟨s_istore_n d_X6_commonMeasure_17 rfl (by decide), List.forall_mem_cons.mpr ⟨s_iload_n d_X6_commonMeasure_18 rfl, List.forall_mem_cons.mpr ⟨s_istore_n d_X6_commonMeasure_19 rfl (by decide), List.forall_mem_cons.mpr ⟨s_iinc d_X6_commonMeasure_20 rfl (by decide), List.forall_mem_cons.mpr ⟨s_goto d_X6_commonMeasure_23 (by decide), List.forall_mem_cons.mpr ⟨s_iload_n d_X6_commonMeasure_26 rfl, List.forall_mem_cons.mpr ⟨s_ir d_X6_commonMeasure_27 rfl, fun _ h => absurd h List.not_mem_nil⟩⟩⟩⟩⟩⟩⟩
def t_X6_commonMeasure (pc : Nat) : Option QO := cond (Nat.ble pc 16) (q_look (t_X6_commonMeasure_0) pc) (q_look (t_X6_commonMeasure_1) pc)
theorem ts_X6_commonMeasure (sx : QX) (pc : Nat) : ∀ o, t_X6_commonMeasure pc = some o → q_Snd sx RX6 cX6_commonMeasure 4 (some .int) pc o := by
  unfold t_X6_commonMeasure
  exact q_cb (q_look_all (ts_X6_commonMeasure_0 sx)) (q_look_all (ts_X6_commonMeasure_1 sx))
theorem d_X6_drawOf_0 : decode cX6_drawOf 0 = .ok (.ldc2_w 285, 3) := by decide +kernel
theorem d_X6_drawOf_3 : decode cX6_drawOf 3 = .ok (.iload_n 0, 1) := by decide +kernel
theorem d_X6_drawOf_4 : decode cX6_drawOf 4 = .ok (.i2l, 1) := by decide +kernel
theorem d_X6_drawOf_5 : decode cX6_drawOf 5 = .ok (.lmul, 1) := by decide +kernel
theorem d_X6_drawOf_6 : decode cX6_drawOf 6 = .ok (.ldc2_w 287, 3) := by decide +kernel
theorem d_X6_drawOf_9 : decode cX6_drawOf 9 = .ok (.iload_n 1, 1) := by decide +kernel
theorem d_X6_drawOf_10 : decode cX6_drawOf 10 = .ok (.i2l, 1) := by decide +kernel
theorem d_X6_drawOf_11 : decode cX6_drawOf 11 = .ok (.lmul, 1) := by decide +kernel
theorem d_X6_drawOf_12 : decode cX6_drawOf 12 = .ok (.ladd, 1) := by decide +kernel
theorem d_X6_drawOf_13 : decode cX6_drawOf 13 = .ok (.lconst 1, 1) := by decide +kernel
theorem d_X6_drawOf_14 : decode cX6_drawOf 14 = .ok (.ladd, 1) := by decide +kernel
theorem d_X6_drawOf_15 : decode cX6_drawOf 15 = .ok (.lstore_n 2, 1) := by decide +kernel
theorem d_X6_drawOf_16 : decode cX6_drawOf 16 = .ok (.lload_n 2, 1) := by decide +kernel
theorem d_X6_drawOf_17 : decode cX6_drawOf 17 = .ok (.lload_n 2, 1) := by decide +kernel
theorem d_X6_drawOf_18 : decode cX6_drawOf 18 = .ok (.lmul, 1) := by decide +kernel
theorem d_X6_drawOf_19 : decode cX6_drawOf 19 = .ok (.ldc2_w 289, 3) := by decide +kernel
theorem d_X6_drawOf_22 : decode cX6_drawOf 22 = .ok (.lrem, 1) := by decide +kernel
theorem d_X6_drawOf_23 : decode cX6_drawOf 23 = .ok (.l2i, 1) := by decide +kernel
theorem d_X6_drawOf_24 : decode cX6_drawOf 24 = .ok (.ireturn, 1) := by decide +kernel
def t_X6_drawOf_0 : List (Nat × QO) := [(0, o_kl 7919 3), (3, o_il 0 4), (4, o_i2l 5), (5, o_lb (fun x y => x * y) 6), (6, o_kl 6151 9), (9, o_il 1 10), (10, o_i2l 11), (11, o_lb (fun x y => x * y) 12), (12, o_lb (fun x y => x + y) 13), (13, o_kl 1 14), (14, o_lb (fun x y => x + y) 15), (15, o_ls 2 16)]
theorem ts_X6_drawOf_0 (sx : QX) : ∀ q ∈ t_X6_drawOf_0, q_Snd sx RX6 cX6_drawOf 4 (some .int) q.1 q.2 := List.forall_mem_cons.mpr ⟨s_ldc2 d_X6_drawOf_0 k_3_223, List.forall_mem_cons.mpr ⟨s_iload_n d_X6_drawOf_3 rfl, List.forall_mem_cons.mpr ⟨s_i2l d_X6_drawOf_4, List.forall_mem_cons.mpr ⟨s_lmul d_X6_drawOf_5, List.forall_mem_cons.mpr ⟨s_ldc2 d_X6_drawOf_6 k_3_224, List.forall_mem_cons.mpr ⟨s_iload_n d_X6_drawOf_9 rfl, List.forall_mem_cons.mpr ⟨s_i2l d_X6_drawOf_10, List.forall_mem_cons.mpr ⟨s_lmul d_X6_drawOf_11, List.forall_mem_cons.mpr ⟨s_ladd d_X6_drawOf_12, List.forall_mem_cons.mpr ⟨s_lconst d_X6_drawOf_13 rfl, List.forall_mem_cons.mpr ⟨s_ladd d_X6_drawOf_14, List.forall_mem_cons.mpr ⟨s_lstore_n d_X6_drawOf_15 rfl (by decide), fun _ h => absurd h List.not_mem_nil⟩⟩⟩⟩⟩⟩⟩⟩⟩⟩⟩⟩
def t_X6_drawOf_1 : List (Nat × QO) := [(16, o_ll 2 17), (17, o_ll 2 18), (18, o_lb (fun x y => x * y) 19), (19, o_kl 65521 22), (22, o_lbz (fun x y => x - x / y * y) 23), (23, o_l2i 24), (24, o_ir false)]
theorem ts_X6_drawOf_1 (sx : QX) : ∀ q ∈ t_X6_drawOf_1, q_Snd sx RX6 cX6_drawOf 4 (some .int) q.1 q.2 := List.forall_mem_cons.mpr ⟨s_lload_n d_X6_drawOf_16 rfl, List.forall_mem_cons.mpr ⟨s_lload_n d_X6_drawOf_17 rfl, List.forall_mem_cons.mpr ⟨s_lmul d_X6_drawOf_18, List.forall_mem_cons.mpr ⟨s_ldc2 d_X6_drawOf_19 k_3_225, List.forall_mem_cons.mpr ⟨s_lrem d_X6_drawOf_22, List.forall_mem_cons.mpr ⟨s_l2i d_X6_drawOf_23, List.forall_mem_cons.mpr ⟨s_ir d_X6_drawOf_24 rfl, fun _ h => absurd h List.not_mem_nil⟩⟩⟩⟩⟩⟩⟩
def t_X6_drawOf (pc : Nat) : Option QO := cond (Nat.ble pc 15) (q_look (t_X6_drawOf_0) pc) (q_look (t_X6_drawOf_1) pc)
theorem ts_X6_drawOf (sx : QX) (pc : Nat) : ∀ o, t_X6_drawOf pc = some o → q_Snd sx RX6 cX6_drawOf 4 (some .int) pc o := by
  unfold t_X6_drawOf
  exact q_cb (q_look_all (ts_X6_drawOf_0 sx)) (q_look_all (ts_X6_drawOf_1 sx))
theorem d_X6_live_0 : decode cX6_live 0 = .ok (.aload_n 0, 1) := by decide +kernel
theorem d_X6_live_1 : decode cX6_live 1 = .ok (.getfield 291, 3) := by decide +kernel
theorem d_X6_live_4 : decode cX6_live 4 = .ok (.astore_n 2, 1) := by decide +kernel
theorem d_X6_live_5 : decode cX6_live 5 = .ok (.aload_n 2, 1) := by decide +kernel
theorem d_X6_live_6 : decode cX6_live 6 = .ok (.getfield 96, 3) := by decide +kernel
theorem d_X6_live_9 : decode cX6_live 9 = .ok (.iconst 1, 1) := by decide +kernel
theorem d_X6_live_10 : decode cX6_live 10 = .ok (.if_icmp .lt 19, 3) := by decide +kernel
theorem d_X6_live_13 : decode cX6_live 13 = .ok (.aload_n 2, 1) := by decide +kernel
theorem d_X6_live_14 : decode cX6_live 14 = .ok (.getfield 233, 3) := by decide +kernel
theorem d_X6_live_17 : decode cX6_live 17 = .ok (.iconst 1, 1) := by decide +kernel
theorem d_X6_live_18 : decode cX6_live 18 = .ok (.if_icmp .lt 11, 3) := by decide +kernel
theorem d_X6_live_21 : decode cX6_live 21 = .ok (.aload_n 2, 1) := by decide +kernel
theorem d_X6_live_22 : decode cX6_live 22 = .ok (.getfield 247, 3) := by decide +kernel
theorem d_X6_live_25 : decode cX6_live 25 = .ok (.iconst 1, 1) := by decide +kernel
theorem d_X6_live_26 : decode cX6_live 26 = .ok (.if_icmp .ge 4, 3) := by decide +kernel
theorem d_X6_live_29 : decode cX6_live 29 = .ok (.return_, 1) := by decide +kernel
theorem d_X6_live_30 : decode cX6_live 30 = .ok (.iload_n 1, 1) := by decide +kernel
theorem d_X6_live_31 : decode cX6_live 31 = .ok (.bipush 8, 2) := by decide +kernel
theorem d_X6_live_33 : decode cX6_live 33 = .ok (.idiv, 1) := by decide +kernel
theorem d_X6_live_34 : decode cX6_live 34 = .ok (.aload_n 2, 1) := by decide +kernel
theorem d_X6_live_35 : decode cX6_live 35 = .ok (.getfield 96, 3) := by decide +kernel
theorem d_X6_live_38 : decode cX6_live 38 = .ok (.irem, 1) := by decide +kernel
theorem d_X6_live_39 : decode cX6_live 39 = .ok (.istore_n 3, 1) := by decide +kernel
theorem d_X6_live_40 : decode cX6_live 40 = .ok (.iload_n 1, 1) := by decide +kernel
theorem d_X6_live_41 : decode cX6_live 41 = .ok (.bipush 64, 2) := by decide +kernel
theorem d_X6_live_43 : decode cX6_live 43 = .ok (.idiv, 1) := by decide +kernel
theorem d_X6_live_44 : decode cX6_live 44 = .ok (.aload_n 2, 1) := by decide +kernel
theorem d_X6_live_45 : decode cX6_live 45 = .ok (.getfield 233, 3) := by decide +kernel
theorem d_X6_live_48 : decode cX6_live 48 = .ok (.irem, 1) := by decide +kernel
theorem d_X6_live_49 : decode cX6_live 49 = .ok (.istore 4, 2) := by decide +kernel
theorem d_X6_live_51 : decode cX6_live 51 = .ok (.iload_n 1, 1) := by decide +kernel
theorem d_X6_live_52 : decode cX6_live 52 = .ok (.sipush 256, 3) := by decide +kernel
theorem d_X6_live_55 : decode cX6_live 55 = .ok (.idiv, 1) := by decide +kernel
theorem d_X6_live_56 : decode cX6_live 56 = .ok (.bipush 8, 2) := by decide +kernel
theorem d_X6_live_58 : decode cX6_live 58 = .ok (.irem, 1) := by decide +kernel
theorem d_X6_live_59 : decode cX6_live 59 = .ok (.istore 5, 2) := by decide +kernel
theorem d_X6_live_61 : decode cX6_live 61 = .ok (.iload_n 1, 1) := by decide +kernel
theorem d_X6_live_62 : decode cX6_live 62 = .ok (.bipush 8, 2) := by decide +kernel
theorem d_X6_live_64 : decode cX6_live 64 = .ok (.irem, 1) := by decide +kernel
theorem d_X6_live_65 : decode cX6_live 65 = .ok (.tableswitch 74 5 7 #[27, 48, 67], 27) := by decide +kernel
theorem d_X6_live_92 : decode cX6_live 92 = .ok (.aload_n 0, 1) := by decide +kernel
theorem d_X6_live_93 : decode cX6_live 93 = .ok (.iload_n 3, 1) := by decide +kernel
theorem d_X6_live_94 : decode cX6_live 94 = .ok (.iconst 0, 1) := by decide +kernel
theorem d_X6_live_95 : decode cX6_live 95 = .ok (.invokevirtual 170, 3) := by decide +kernel
theorem d_X6_live_98 : decode cX6_live 98 = .ok (.ifCond .eq 68, 3) := by decide +kernel
theorem d_X6_live_101 : decode cX6_live 101 = .ok (.aload_n 0, 1) := by decide +kernel
theorem d_X6_live_102 : decode cX6_live 102 = .ok (.iload 4, 2) := by decide +kernel
theorem d_X6_live_104 : decode cX6_live 104 = .ok (.iload_n 3, 1) := by decide +kernel
theorem d_X6_live_105 : decode cX6_live 105 = .ok (.iload 5, 2) := by decide +kernel
theorem d_X6_live_107 : decode cX6_live 107 = .ok (.invokevirtual 173, 3) := by decide +kernel
theorem d_X6_live_110 : decode cX6_live 110 = .ok (.goto 56, 3) := by decide +kernel
theorem d_X6_live_113 : decode cX6_live 113 = .ok (.aload_n 0, 1) := by decide +kernel
theorem d_X6_live_114 : decode cX6_live 114 = .ok (.iload_n 3, 1) := by decide +kernel
theorem d_X6_live_115 : decode cX6_live 115 = .ok (.iconst 1, 1) := by decide +kernel
theorem d_X6_live_116 : decode cX6_live 116 = .ok (.invokevirtual 170, 3) := by decide +kernel
theorem d_X6_live_119 : decode cX6_live 119 = .ok (.ifCond .eq 47, 3) := by decide +kernel
theorem d_X6_live_122 : decode cX6_live 122 = .ok (.aload_n 0, 1) := by decide +kernel
theorem d_X6_live_123 : decode cX6_live 123 = .ok (.iload_n 3, 1) := by decide +kernel
theorem d_X6_live_124 : decode cX6_live 124 = .ok (.iload 5, 2) := by decide +kernel
theorem d_X6_live_126 : decode cX6_live 126 = .ok (.invokevirtual 176, 3) := by decide +kernel
theorem d_X6_live_129 : decode cX6_live 129 = .ok (.goto 37, 3) := by decide +kernel
theorem d_X6_live_132 : decode cX6_live 132 = .ok (.aload_n 0, 1) := by decide +kernel
theorem d_X6_live_133 : decode cX6_live 133 = .ok (.invokevirtual 180, 3) := by decide +kernel
theorem d_X6_live_136 : decode cX6_live 136 = .ok (.goto 30, 3) := by decide +kernel
theorem d_X6_live_139 : decode cX6_live 139 = .ok (.aload_n 0, 1) := by decide +kernel
theorem d_X6_live_140 : decode cX6_live 140 = .ok (.iload 4, 2) := by decide +kernel
theorem d_X6_live_142 : decode cX6_live 142 = .ok (.iload_n 3, 1) := by decide +kernel
theorem d_X6_live_143 : decode cX6_live 143 = .ok (.invokevirtual 156, 3) := by decide +kernel
theorem d_X6_live_146 : decode cX6_live 146 = .ok (.ifCond .eq 20, 3) := by decide +kernel
theorem d_X6_live_149 : decode cX6_live 149 = .ok (.aload_n 0, 1) := by decide +kernel
theorem d_X6_live_150 : decode cX6_live 150 = .ok (.iload 4, 2) := by decide +kernel
theorem d_X6_live_152 : decode cX6_live 152 = .ok (.iload_n 3, 1) := by decide +kernel
theorem d_X6_live_153 : decode cX6_live 153 = .ok (.iload_n 1, 1) := by decide +kernel
theorem d_X6_live_154 : decode cX6_live 154 = .ok (.sipush 256, 3) := by decide +kernel
theorem d_X6_live_157 : decode cX6_live 157 = .ok (.idiv, 1) := by decide +kernel
theorem d_X6_live_158 : decode cX6_live 158 = .ok (.aload_n 2, 1) := by decide +kernel
theorem d_X6_live_159 : decode cX6_live 159 = .ok (.getfield 247, 3) := by decide +kernel
theorem d_X6_live_162 : decode cX6_live 162 = .ok (.irem, 1) := by decide +kernel
theorem d_X6_live_163 : decode cX6_live 163 = .ok (.invokevirtual 163, 3) := by decide +kernel
theorem d_X6_live_166 : decode cX6_live 166 = .ok (.return_, 1) := by decide +kernel
def t_X6_live_0 : List (Nat × QO) := [(0, o_al 0 1), (1, o_gf 3 0 4), (4, o_as 2 5), (5, o_al 2 6), (6, o_gf 0 0 9), (9, o_k 1 10), (10, o_ic (fun x y => decide (x < y)) 29 13), (13, o_al 2 14), (14, o_gf 0 2 17), (17, o_k 1 18), (18, o_ic (fun x y => decide (x < y)) 29 21), (21, o_al 2 22)]
theorem ts_X6_live_0 (sx : QX) : ∀ q ∈ t_X6_live_0, q_Snd sx RX6 cX6_live 6 none q.1 q.2 := List.forall_mem_cons.mpr ⟨s_aload_n d_X6_live_0 rfl, List.forall_mem_cons.mpr ⟨s_gf d_X6_live_1 rfl (by decide) n_X3 in_X3 rfl k_1_116, List.forall_mem_cons.mpr ⟨s_astore_n d_X6_live_4 rfl (by decide), List.forall_mem_cons.mpr ⟨s_aload_n d_X6_live_5 rfl, List.forall_mem_cons.mpr ⟨s_gf d_X6_live_6 rfl (by decide) n_X0 in_X0 rfl k_1_53, List.forall_mem_cons.mpr ⟨s_iconst d_X6_live_9 rfl, List.forall_mem_cons.mpr ⟨s_ic_lt d_X6_live_10 (by decide), List.forall_mem_cons.mpr ⟨s_aload_n d_X6_live_13 rfl, List.forall_mem_cons.mpr ⟨s_gf d_X6_live_14 rfl (by decide) n_X0 in_X0 rfl k_1_61, List.forall_mem_cons.mpr ⟨s_iconst d_X6_live_17 rfl, List.forall_mem_cons.mpr ⟨s_ic_lt d_X6_live_18 (by decide), List.forall_mem_cons.mpr ⟨s_aload_n d_X6_live_21 rfl, fun _ h => absurd h List.not_mem_nil⟩⟩⟩⟩⟩⟩⟩⟩⟩⟩⟩⟩
def t_X6_live_1 : List (Nat × QO) := [(22, o_gf 0 1 25), (25, o_k 1 26), (26, o_ic (fun x y => decide (y ≤ x)) 30 29), (29, o_vr), (30, o_il 1 31), (31, o_k 8 33), (33, o_bz (fun x y => x / y) 34), (34, o_al 2 35), (35, o_gf 0 0 38), (38, o_bz (fun x y => x - x / y * y) 39), (39, o_is 3 40), (40, o_il 1 41)]
theorem ts_X6_live_1 (sx : QX) : ∀ q ∈ t_X6_live_1, q_Snd sx RX6 cX6_live 6 none q.1 q.2 := List.forall_mem_cons.mpr ⟨s_gf d_X6_live_22 rfl (by decide) n_X0 in_X0 rfl k_1_57, List.forall_mem_cons.mpr ⟨s_iconst d_X6_live_25 rfl, List.forall_mem_cons.mpr ⟨s_ic_ge d_X6_live_26 (by decide), List.forall_mem_cons.mpr ⟨s_vr d_X6_live_29 rfl, List.forall_mem_cons.mpr ⟨s_iload_n d_X6_live_30 rfl, List.forall_mem_cons.mpr ⟨s_bipush d_X6_live_31 rfl, List.forall_mem_cons.mpr ⟨s_idiv d_X6_live_33, List.forall_mem_cons.mpr ⟨s_aload_n d_X6_live_34 rfl, List.forall_mem_cons.mpr ⟨s_gf d_X6_live_35 rfl (by decide) n_X0 in_X0 rfl k_1_53, List.forall_mem_cons.mpr ⟨s_irem d_X6_live_38, List.forall_mem_cons.mpr ⟨s_istore_n d_X6_live_39 rfl (by decide), List.forall_mem_cons.mpr ⟨s_iload_n d_X6_live_40 rfl, fun _ h => absurd h List.not_mem_nil⟩⟩⟩⟩⟩⟩⟩⟩⟩⟩⟩⟩
def t_X6_live_2 : List (Nat × QO) := [(41, o_k 64 43), (43, o_bz (fun x y => x / y) 44), (44, o_al 2 45), (45, o_gf 0 2 48), (48, o_bz (fun x y => x - x / y * y) 49), (49, o_is 4 51), (51, o_il 1 52), (52, o_k 256 55), (55, o_bz (fun x y => x / y) 56), (56, o_k 8 58), (58, o_bz (fun x y => x - x / y * y) 59), (59, o_is 5 61)]
theorem ts_X6_live_2 (sx : QX) : ∀ q ∈ t_X6_live_2, q_Snd sx RX6 cX6_live 6 none q.1 q.2 := List.forall_mem_cons.mpr ⟨s_bipush d_X6_live_41 rfl, List.forall_mem_cons.mpr ⟨s_idiv d_X6_live_43, List.forall_mem_cons.mpr ⟨s_aload_n d_X6_live_44 rfl, List.forall_mem_cons.mpr ⟨s_gf d_X6_live_45 rfl (by decide) n_X0 in_X0 rfl k_1_61, List.forall_mem_cons.mpr ⟨s_irem d_X6_live_48, List.forall_mem_cons.mpr ⟨s_istore d_X6_live_49 (by decide), List.forall_mem_cons.mpr ⟨s_iload_n d_X6_live_51 rfl, List.forall_mem_cons.mpr ⟨s_sipush d_X6_live_52 rfl, List.forall_mem_cons.mpr ⟨s_idiv d_X6_live_55, List.forall_mem_cons.mpr ⟨s_bipush d_X6_live_56 rfl, List.forall_mem_cons.mpr ⟨s_irem d_X6_live_58, List.forall_mem_cons.mpr ⟨s_istore d_X6_live_59 (by decide), fun _ h => absurd h List.not_mem_nil⟩⟩⟩⟩⟩⟩⟩⟩⟩⟩⟩⟩
def t_X6_live_3 : List (Nat × QO) := [(61, o_il 1 62), (62, o_k 8 64), (64, o_bz (fun x y => x - x / y * y) 65), (65, o_sw [(5, 92), (6, 113), (7, 132)] 139), (92, o_al 0 93), (93, o_il 3 94), (94, o_k 0 95), (95, o_cV 1 3 21 3 3 98), (98, o_if (fun x => decide (x = 0)) 166 101), (101, o_al 0 102), (102, o_il 4 104), (104, o_il 3 105)]
theorem ts_X6_live_3 (sx : QX) : ∀ q ∈ t_X6_live_3, q_Snd sx RX6 cX6_live 6 none q.1 q.2 := List.forall_mem_cons.mpr ⟨s_iload_n d_X6_live_61 rfl, List.forall_mem_cons.mpr ⟨s_bipush d_X6_live_62 rfl, List.forall_mem_cons.mpr ⟨s_irem d_X6_live_64, List.forall_mem_cons.mpr ⟨s_tsw d_X6_live_65 (by decide +kernel) (by decide) (by decide), List.forall_mem_cons.mpr ⟨s_aload_n d_X6_live_92 rfl, List.forall_mem_cons.mpr ⟨s_iload_n d_X6_live_93 rfl, List.forall_mem_cons.mpr ⟨s_iconst d_X6_live_94 rfl, List.forall_mem_cons.mpr ⟨s_cV (T := TX3) (N := 8) rfl d_X6_live_95 rfl k_3_28 k_3_29 k_3_30 k_1_4 k_3_31 ⟨by decide, by decide⟩ (by decide +kernel) (by decide), List.forall_mem_cons.mpr ⟨s_if_eq d_X6_live_98 (by decide), List.forall_mem_cons.mpr ⟨s_aload_n d_X6_live_101 rfl, List.forall_mem_cons.mpr ⟨s_iload d_X6_live_102, List.forall_mem_cons.mpr ⟨s_iload_n d_X6_live_104 rfl, fun _ h => absurd h List.not_mem_nil⟩⟩⟩⟩⟩⟩⟩⟩⟩⟩⟩⟩
def t_X6_live_4 : List (Nat × QO) := [(105, o_il 5 107), (107, o_cV 0 3 33 4 4 110), (110, o_goto 166), (113, o_al 0 114), (114, o_il 3 115), (115, o_k 1 116), (116, o_cV 1 3 21 3 3 119), (119, o_if (fun x => decide (x = 0)) 166 122), (122, o_al 0 123), (123, o_il 3 124), (124, o_il 5 126), (126, o_cV 0 3 34 3 3 129)]
theorem ts_X6_live_4 (sx : QX) : ∀ q ∈ t_X6_live_4, q_Snd sx RX6 cX6_live 6 none q.1 q.2 := List.forall_mem_cons.mpr ⟨s_iload d_X6_live_105, List.forall_mem_cons.mpr ⟨s_cV (T := TX3) (N := 8) rfl d_X6_live_107 rfl k_3_32 k_3_33 k_3_34 k_1_4 k_3_35 ⟨by decide, by decide⟩ (by decide +kernel) (by decide), List.forall_mem_cons.mpr ⟨s_goto d_X6_live_110 (by decide), List.forall_mem_cons.mpr ⟨s_aload_n d_X6_live_113 rfl, List.forall_mem_cons.mpr ⟨s_iload_n d_X6_live_114 rfl, List.forall_mem_cons.mpr ⟨s_iconst d_X6_live_115 rfl, List.forall_mem_cons.mpr ⟨s_cV (T := TX3) (N := 8) rfl d_X6_live_116 rfl k_3_28 k_3_29 k_3_30 k_1_4 k_3_31 ⟨by decide, by decide⟩ (by decide +kernel) (by decide), List.forall_mem_cons.mpr ⟨s_if_eq d_X6_live_119 (by decide), List.forall_mem_cons.mpr ⟨s_aload_n d_X6_live_122 rfl, List.forall_mem_cons.mpr ⟨s_iload_n d_X6_live_123 rfl, List.forall_mem_cons.mpr ⟨s_iload d_X6_live_124, List.forall_mem_cons.mpr ⟨s_cV (T := TX3) (N := 8) rfl d_X6_live_126 rfl k_3_40 k_3_41 k_3_42 k_1_4 k_3_43 ⟨by decide, by decide⟩ (by decide +kernel) (by decide), fun _ h => absurd h List.not_mem_nil⟩⟩⟩⟩⟩⟩⟩⟩⟩⟩⟩⟩
def t_X6_live_5 : List (Nat × QO) := [(129, o_goto 166), (132, o_al 0 133), (133, o_cV 0 3 37 2 1 136), (136, o_goto 166), (139, o_al 0 140), (140, o_il 4 142), (142, o_il 3 143), (143, o_cV 1 3 28 3 3 146), (146, o_if (fun x => decide (x = 0)) 166 149), (149, o_al 0 150), (150, o_il 4 152), (152, o_il 3 153)]
theorem ts_X6_live_5 (sx : QX) : ∀ q ∈ t_X6_live_5, q_Snd sx RX6 cX6_live 6 none q.1 q.2 := List.forall_mem_cons.mpr ⟨s_goto d_X6_live_129 (by decide), List.forall_mem_cons.mpr ⟨s_aload_n d_X6_live_132 rfl, List.forall_mem_cons.mpr ⟨s_cV (T := TX3) (N := 8) rfl d_X6_live_133 rfl k_3_57 k_3_58 k_3_59 k_1_4 k_3_60 ⟨by decide, by decide⟩ (by decide +kernel) (by decide), List.forall_mem_cons.mpr ⟨s_goto d_X6_live_136 (by decide), List.forall_mem_cons.mpr ⟨s_aload_n d_X6_live_139 rfl, List.forall_mem_cons.mpr ⟨s_iload d_X6_live_140, List.forall_mem_cons.mpr ⟨s_iload_n d_X6_live_142 rfl, List.forall_mem_cons.mpr ⟨s_cV (T := TX3) (N := 8) rfl d_X6_live_143 rfl k_2_230 k_2_231 k_2_232 k_1_4 k_2_233 ⟨by decide, by decide⟩ (by decide +kernel) (by decide), List.forall_mem_cons.mpr ⟨s_if_eq d_X6_live_146 (by decide), List.forall_mem_cons.mpr ⟨s_aload_n d_X6_live_149 rfl, List.forall_mem_cons.mpr ⟨s_iload d_X6_live_150, List.forall_mem_cons.mpr ⟨s_iload_n d_X6_live_152 rfl, fun _ h => absurd h List.not_mem_nil⟩⟩⟩⟩⟩⟩⟩⟩⟩⟩⟩⟩
def t_X6_live_6 : List (Nat × QO) := [(153, o_il 1 154), (154, o_k 256 157), (157, o_bz (fun x y => x / y) 158), (158, o_al 2 159), (159, o_gf 0 1 162), (162, o_bz (fun x y => x - x / y * y) 163), (163, o_cV 0 3 29 6 4 166), (166, o_vr)]
theorem ts_X6_live_6 (sx : QX) : ∀ q ∈ t_X6_live_6, q_Snd sx RX6 cX6_live 6 none q.1 q.2 := List.forall_mem_cons.mpr ⟨s_iload_n d_X6_live_153 rfl, List.forall_mem_cons.mpr ⟨s_sipush d_X6_live_154 rfl, List.forall_mem_cons.mpr ⟨s_idiv d_X6_live_157, List.forall_mem_cons.mpr ⟨s_aload_n d_X6_live_158 rfl, List.forall_mem_cons.mpr ⟨s_gf d_X6_live_159 rfl (by decide) n_X0 in_X0 rfl k_1_57, List.forall_mem_cons.mpr ⟨s_irem d_X6_live_162, List.forall_mem_cons.mpr ⟨s_cV (T := TX3) (N := 8) rfl d_X6_live_163 rfl k_3_5 k_3_6 k_3_7 k_1_4 k_3_8 ⟨by decide, by decide⟩ (by decide +kernel) (by decide), List.forall_mem_cons.mpr ⟨s_vr d_X6_live_166 rfl, fun _ h => absurd h List.not_mem_nil⟩⟩⟩⟩⟩⟩⟩⟩
def t_X6_live (pc : Nat) : Option QO := cond (Nat.ble pc 59) (cond (Nat.ble pc 21) (q_look (t_X6_live_0) pc) (cond (Nat.ble pc 40) (q_look (t_X6_live_1) pc) (q_look (t_X6_live_2) pc))) (cond (Nat.ble pc 126) (cond (Nat.ble pc 104) (q_look (t_X6_live_3) pc) (q_look (t_X6_live_4) pc)) (cond (Nat.ble pc 152) (q_look (t_X6_live_5) pc) (q_look (t_X6_live_6) pc)))
theorem ts_X6_live (sx : QX) (pc : Nat) : ∀ o, t_X6_live pc = some o → q_Snd sx RX6 cX6_live 6 none pc o := by
  unfold t_X6_live
  exact q_cb (q_cb (q_look_all (ts_X6_live_0 sx)) (q_cb (q_look_all (ts_X6_live_1 sx)) (q_look_all (ts_X6_live_2 sx)))) (q_cb (q_cb (q_look_all (ts_X6_live_3 sx)) (q_look_all (ts_X6_live_4 sx))) (q_cb (q_look_all (ts_X6_live_5 sx)) (q_look_all (ts_X6_live_6 sx))))
theorem d_X6_at_0 : decode cX6_at 0 = .ok (.iload_n 1, 1) := by decide +kernel
theorem d_X6_at_1 : decode cX6_at 1 = .ok (.ifCond .lt 15, 3) := by decide +kernel
theorem d_X6_at_4 : decode cX6_at 4 = .ok (.iload_n 1, 1) := by decide +kernel
theorem d_X6_at_5 : decode cX6_at 5 = .ok (.aload_n 0, 1) := by decide +kernel
theorem d_X6_at_6 : decode cX6_at 6 = .ok (.arraylength, 1) := by decide +kernel
theorem d_X6_at_7 : decode cX6_at 7 = .ok (.if_icmp .ge 9, 3) := by decide +kernel
theorem d_X6_at_10 : decode cX6_at 10 = .ok (.aload_n 0, 1) := by decide +kernel
theorem d_X6_at_11 : decode cX6_at 11 = .ok (.iload_n 1, 1) := by decide +kernel
theorem d_X6_at_12 : decode cX6_at 12 = .ok (.iaload, 1) := by decide +kernel
theorem d_X6_at_13 : decode cX6_at 13 = .ok (.goto 4, 3) := by decide +kernel
theorem d_X6_at_16 : decode cX6_at 16 = .ok (.iconst 0, 1) := by decide +kernel
theorem d_X6_at_17 : decode cX6_at 17 = .ok (.ireturn, 1) := by decide +kernel
def t_X6_at_0 : List (Nat × QO) := [(0, o_il 1 1), (1, o_if (fun x => decide (x < 0)) 16 4), (4, o_il 1 5), (5, o_al 0 6), (6, o_len 7), (7, o_ic (fun x y => decide (y ≤ x)) 16 10), (10, o_al 0 11), (11, o_il 1 12), (12, o_iald 13), (13, o_goto 17), (16, o_k 0 17), (17, o_ir false)]
theorem ts_X6_at_0 (sx : QX) : ∀ q ∈ t_X6_at_0, q_Snd sx RX6 cX6_at 2 (some .int) q.1 q.2 := List.forall_mem_cons.mpr ⟨s_iload_n d_X6_at_0 rfl, List.forall_mem_cons.mpr ⟨s_if_lt d_X6_at_1 (by decide), List.forall_mem_cons.mpr ⟨s_iload_n d_X6_at_4 rfl, List.forall_mem_cons.mpr ⟨s_aload_n d_X6_at_5 rfl, List.forall_mem_cons.mpr ⟨s_len d_X6_at_6, List.forall_mem_cons.mpr ⟨s_ic_ge d_X6_at_7 (by decide), List.forall_mem_cons.mpr ⟨s_aload_n d_X6_at_10 rfl, List.forall_mem_cons.mpr ⟨s_iload_n d_X6_at_11 rfl, List.forall_mem_cons.mpr ⟨s_iald d_X6_at_12, List.forall_mem_cons.mpr ⟨s_goto d_X6_at_13 (by decide), List.forall_mem_cons.mpr ⟨s_iconst d_X6_at_16 rfl, List.forall_mem_cons.mpr ⟨s_ir d_X6_at_17 rfl, fun _ h => absurd h List.not_mem_nil⟩⟩⟩⟩⟩⟩⟩⟩⟩⟩⟩⟩
def t_X6_at (pc : Nat) : Option QO := q_look (t_X6_at_0) pc
theorem ts_X6_at (sx : QX) (pc : Nat) : ∀ o, t_X6_at pc = some o → q_Snd sx RX6 cX6_at 2 (some .int) pc o := by
  unfold t_X6_at
  exact q_look_all (ts_X6_at_0 sx)
theorem d_X6_put_0 : decode cX6_put 0 = .ok (.iload_n 1, 1) := by decide +kernel
theorem d_X6_put_1 : decode cX6_put 1 = .ok (.ifCond .lt 13, 3) := by decide +kernel
theorem d_X6_put_4 : decode cX6_put 4 = .ok (.iload_n 1, 1) := by decide +kernel
theorem d_X6_put_5 : decode cX6_put 5 = .ok (.aload_n 0, 1) := by decide +kernel
theorem d_X6_put_6 : decode cX6_put 6 = .ok (.arraylength, 1) := by decide +kernel
theorem d_X6_put_7 : decode cX6_put 7 = .ok (.if_icmp .ge 7, 3) := by decide +kernel
theorem d_X6_put_10 : decode cX6_put 10 = .ok (.aload_n 0, 1) := by decide +kernel
theorem d_X6_put_11 : decode cX6_put 11 = .ok (.iload_n 1, 1) := by decide +kernel
theorem d_X6_put_12 : decode cX6_put 12 = .ok (.iload_n 2, 1) := by decide +kernel
theorem d_X6_put_13 : decode cX6_put 13 = .ok (.iastore, 1) := by decide +kernel
theorem d_X6_put_14 : decode cX6_put 14 = .ok (.return_, 1) := by decide +kernel
def t_X6_put_0 : List (Nat × QO) := [(0, o_il 1 1), (1, o_if (fun x => decide (x < 0)) 14 4), (4, o_il 1 5), (5, o_al 0 6), (6, o_len 7), (7, o_ic (fun x y => decide (y ≤ x)) 14 10), (10, o_al 0 11), (11, o_il 1 12), (12, o_il 2 13), (13, o_iast 14), (14, o_vr)]
theorem ts_X6_put_0 (sx : QX) : ∀ q ∈ t_X6_put_0, q_Snd sx RX6 cX6_put 3 none q.1 q.2 := List.forall_mem_cons.mpr ⟨s_iload_n d_X6_put_0 rfl, List.forall_mem_cons.mpr ⟨s_if_lt d_X6_put_1 (by decide), List.forall_mem_cons.mpr ⟨s_iload_n d_X6_put_4 rfl, List.forall_mem_cons.mpr ⟨s_aload_n d_X6_put_5 rfl, List.forall_mem_cons.mpr ⟨s_len d_X6_put_6, List.forall_mem_cons.mpr ⟨s_ic_ge d_X6_put_7 (by decide), List.forall_mem_cons.mpr ⟨s_aload_n d_X6_put_10 rfl, List.forall_mem_cons.mpr ⟨s_iload_n d_X6_put_11 rfl, List.forall_mem_cons.mpr ⟨s_iload_n d_X6_put_12 rfl, List.forall_mem_cons.mpr ⟨s_iast d_X6_put_13, List.forall_mem_cons.mpr ⟨s_vr d_X6_put_14 rfl, fun _ h => absurd h List.not_mem_nil⟩⟩⟩⟩⟩⟩⟩⟩⟩⟩⟩
def t_X6_put (pc : Nat) : Option QO := q_look (t_X6_put_0) pc
theorem ts_X6_put (sx : QX) (pc : Nat) : ∀ o, t_X6_put pc = some o → q_Snd sx RX6 cX6_put 3 none pc o := by
  unfold t_X6_put
  exact q_look_all (ts_X6_put_0 sx)
theorem d_X6_fill_0 : decode cX6_fill 0 = .ok (.iconst 0, 1) := by decide +kernel
theorem d_X6_fill_1 : decode cX6_fill 1 = .ok (.istore_n 2, 1) := by decide +kernel
theorem d_X6_fill_2 : decode cX6_fill 2 = .ok (.iload_n 2, 1) := by decide +kernel
theorem d_X6_fill_3 : decode cX6_fill 3 = .ok (.aload_n 0, 1) := by decide +kernel
theorem d_X6_fill_4 : decode cX6_fill 4 = .ok (.arraylength, 1) := by decide +kernel
theorem d_X6_fill_5 : decode cX6_fill 5 = .ok (.if_icmp .ge 13, 3) := by decide +kernel
theorem d_X6_fill_8 : decode cX6_fill 8 = .ok (.aload_n 0, 1) := by decide +kernel
theorem d_X6_fill_9 : decode cX6_fill 9 = .ok (.iload_n 2, 1) := by decide +kernel
theorem d_X6_fill_10 : decode cX6_fill 10 = .ok (.iload_n 1, 1) := by decide +kernel
theorem d_X6_fill_11 : decode cX6_fill 11 = .ok (.iastore, 1) := by decide +kernel
theorem d_X6_fill_12 : decode cX6_fill 12 = .ok (.iinc 2 1, 3) := by decide +kernel
theorem d_X6_fill_15 : decode cX6_fill 15 = .ok (.goto (-13), 3) := by decide +kernel
theorem d_X6_fill_18 : decode cX6_fill 18 = .ok (.return_, 1) := by decide +kernel
def t_X6_fill_0 : List (Nat × QO) := [(0, o_k 0 1), (1, o_is 2 2), (2, o_il 2 3), (3, o_al 0 4), (4, o_len 5), (5, o_ic (fun x y => decide (y ≤ x)) 18 8), (8, o_al 0 9), (9, o_il 2 10), (10, o_il 1 11), (11, o_iast 12), (12, o_inc 2 1 15), (15, o_goto 2)]
theorem ts_X6_fill_0 (sx : QX) : ∀ q ∈ t_X6_fill_0, q_Snd sx RX6 cX6_fill 3 none q.1 q.2 := List.forall_mem_cons.mpr ⟨s_iconst d_X6_fill_0 rfl, List.forall_mem_cons.mpr ⟨s_istore_n d_X6_fill_1 rfl (by decide), List.forall_mem_cons.mpr ⟨s_iload_n d_X6_fill_2 rfl, List.forall_mem_cons.mpr ⟨s_aload_n d_X6_fill_3 rfl, List.forall_mem_cons.mpr ⟨s_len d_X6_fill_4, List.forall_mem_cons.mpr ⟨s_ic_ge d_X6_fill_5 (by decide), List.forall_mem_cons.mpr ⟨s_aload_n d_X6_fill_8 rfl, List.forall_mem_cons.mpr ⟨s_iload_n d_X6_fill_9 rfl, List.forall_mem_cons.mpr ⟨s_iload_n d_X6_fill_10 rfl, List.forall_mem_cons.mpr ⟨s_iast d_X6_fill_11, List.forall_mem_cons.mpr ⟨s_iinc d_X6_fill_12 rfl (by decide), List.forall_mem_cons.mpr ⟨s_goto d_X6_fill_15 (by decide), fun _ h => absurd h List.not_mem_nil⟩⟩⟩⟩⟩⟩⟩⟩⟩⟩⟩⟩
def t_X6_fill_1 : List (Nat × QO) := [(18, o_vr)]
theorem ts_X6_fill_1 (sx : QX) : ∀ q ∈ t_X6_fill_1, q_Snd sx RX6 cX6_fill 3 none q.1 q.2 := List.forall_mem_cons.mpr ⟨s_vr d_X6_fill_18 rfl, fun _ h => absurd h List.not_mem_nil⟩
def t_X6_fill (pc : Nat) : Option QO := cond (Nat.ble pc 15) (q_look (t_X6_fill_0) pc) (q_look (t_X6_fill_1) pc)
theorem ts_X6_fill (sx : QX) (pc : Nat) : ∀ o, t_X6_fill pc = some o → q_Snd sx RX6 cX6_fill 3 none pc o := by
  unfold t_X6_fill
  exact q_cb (q_look_all (ts_X6_fill_0 sx)) (q_look_all (ts_X6_fill_1 sx))
theorem d_X6_copy_0 : decode cX6_copy 0 = .ok (.iconst 0, 1) := by decide +kernel
theorem d_X6_copy_1 : decode cX6_copy 1 = .ok (.istore_n 2, 1) := by decide +kernel
theorem d_X6_copy_2 : decode cX6_copy 2 = .ok (.iload_n 2, 1) := by decide +kernel
theorem d_X6_copy_3 : decode cX6_copy 3 = .ok (.aload_n 0, 1) := by decide +kernel
theorem d_X6_copy_4 : decode cX6_copy 4 = .ok (.arraylength, 1) := by decide +kernel
theorem d_X6_copy_5 : decode cX6_copy 5 = .ok (.if_icmp .ge 21, 3) := by decide +kernel
theorem d_X6_copy_8 : decode cX6_copy 8 = .ok (.iload_n 2, 1) := by decide +kernel
theorem d_X6_copy_9 : decode cX6_copy 9 = .ok (.aload_n 1, 1) := by decide +kernel
theorem d_X6_copy_10 : decode cX6_copy 10 = .ok (.arraylength, 1) := by decide +kernel
theorem d_X6_copy_11 : decode cX6_copy 11 = .ok (.if_icmp .ge 15, 3) := by decide +kernel
theorem d_X6_copy_14 : decode cX6_copy 14 = .ok (.aload_n 1, 1) := by decide +kernel
theorem d_X6_copy_15 : decode cX6_copy 15 = .ok (.iload_n 2, 1) := by decide +kernel
theorem d_X6_copy_16 : decode cX6_copy 16 = .ok (.aload_n 0, 1) := by decide +kernel
theorem d_X6_copy_17 : decode cX6_copy 17 = .ok (.iload_n 2, 1) := by decide +kernel
theorem d_X6_copy_18 : decode cX6_copy 18 = .ok (.iaload, 1) := by decide +kernel
theorem d_X6_copy_19 : decode cX6_copy 19 = .ok (.iastore, 1) := by decide +kernel
theorem d_X6_copy_20 : decode cX6_copy 20 = .ok (.iinc 2 1, 3) := by decide +kernel
theorem d_X6_copy_23 : decode cX6_copy 23 = .ok (.goto (-21), 3) := by decide +kernel
theorem d_X6_copy_26 : decode cX6_copy 26 = .ok (.return_, 1) := by decide +kernel
def t_X6_copy_0 : List (Nat × QO) := [(0, o_k 0 1), (1, o_is 2 2), (2, o_il 2 3), (3, o_al 0 4), (4, o_len 5), (5, o_ic (fun x y => decide (y ≤ x)) 26 8), (8, o_il 2 9), (9, o_al 1 10), (10, o_len 11), (11, o_ic (fun x y => decide (y ≤ x)) 26 14), (14, o_al 1 15), (15, o_il 2 16)]
theorem ts_X6_copy_0 (sx : QX) : ∀ q ∈ t_X6_copy_0, q_Snd sx RX6 cX6_copy 3 none q.1 q.2 := List.forall_mem_cons.mpr ⟨s_iconst d_X6_copy_0 rfl, List.forall_mem_cons.mpr ⟨s_istore_n d_X6_copy_1 rfl (by decide), List.forall_mem_cons.mpr ⟨s_iload_n d_X6_copy_2 rfl, List.forall_mem_cons.mpr ⟨s_aload_n d_X6_copy_3 rfl, List.forall_mem_cons.mpr ⟨s_len d_X6_copy_4, List.forall_mem_cons.mpr ⟨s_ic_ge d_X6_copy_5 (by decide), List.forall_mem_cons.mpr ⟨s_iload_n d_X6_copy_8 rfl, List.forall_mem_cons.mpr ⟨s_aload_n d_X6_copy_9 rfl, List.forall_mem_cons.mpr ⟨s_len d_X6_copy_10, List.forall_mem_cons.mpr ⟨s_ic_ge d_X6_copy_11 (by decide), List.forall_mem_cons.mpr ⟨s_aload_n d_X6_copy_14 rfl, List.forall_mem_cons.mpr ⟨s_iload_n d_X6_copy_15 rfl, fun _ h => absurd h List.not_mem_nil⟩⟩⟩⟩⟩⟩⟩⟩⟩⟩⟩⟩
def t_X6_copy_1 : List (Nat × QO) := [(16, o_al 0 17), (17, o_il 2 18), (18, o_iald 19), (19, o_iast 20), (20, o_inc 2 1 23), (23, o_goto 2), (26, o_vr)]
theorem ts_X6_copy_1 (sx : QX) : ∀ q ∈ t_X6_copy_1, q_Snd sx RX6 cX6_copy 3 none q.1 q.2 := List.forall_mem_cons.mpr ⟨s_aload_n d_X6_copy_16 rfl, List.forall_mem_cons.mpr ⟨s_iload_n d_X6_copy_17 rfl, List.forall_mem_cons.mpr ⟨s_iald d_X6_copy_18, List.forall_mem_cons.mpr ⟨s_iast d_X6_copy_19, List.forall_mem_cons.mpr ⟨s_iinc d_X6_copy_20 rfl (by decide), List.forall_mem_cons.mpr ⟨s_goto d_X6_copy_23 (by decide), List.forall_mem_cons.mpr ⟨s_vr d_X6_copy_26 rfl, fun _ h => absurd h List.not_mem_nil⟩⟩⟩⟩⟩⟩⟩
def t_X6_copy (pc : Nat) : Option QO := cond (Nat.ble pc 15) (q_look (t_X6_copy_0) pc) (q_look (t_X6_copy_1) pc)
theorem ts_X6_copy (sx : QX) (pc : Nat) : ∀ o, t_X6_copy pc = some o → q_Snd sx RX6 cX6_copy 3 none pc o := by
  unfold t_X6_copy
  exact q_cb (q_look_all (ts_X6_copy_0 sx)) (q_look_all (ts_X6_copy_1 sx))
theorem d_X6_pick_0 : decode cX6_pick 0 = .ok (.iload_n 1, 1) := by decide +kernel
theorem d_X6_pick_1 : decode cX6_pick 1 = .ok (.ifCond .lt 15, 3) := by decide +kernel
theorem d_X6_pick_4 : decode cX6_pick 4 = .ok (.iload_n 1, 1) := by decide +kernel
theorem d_X6_pick_5 : decode cX6_pick 5 = .ok (.aload_n 0, 1) := by decide +kernel
theorem d_X6_pick_6 : decode cX6_pick 6 = .ok (.arraylength, 1) := by decide +kernel
theorem d_X6_pick_7 : decode cX6_pick 7 = .ok (.if_icmp .ge 9, 3) := by decide +kernel
theorem d_X6_pick_10 : decode cX6_pick 10 = .ok (.aload_n 0, 1) := by decide +kernel
theorem d_X6_pick_11 : decode cX6_pick 11 = .ok (.iload_n 1, 1) := by decide +kernel
theorem d_X6_pick_12 : decode cX6_pick 12 = .ok (.aaload, 1) := by decide +kernel
theorem d_X6_pick_13 : decode cX6_pick 13 = .ok (.goto 4, 3) := by decide +kernel
theorem d_X6_pick_16 : decode cX6_pick 16 = .ok (.aconst_null, 1) := by decide +kernel
theorem d_X6_pick_17 : decode cX6_pick 17 = .ok (.areturn, 1) := by decide +kernel
def t_X6_pick_0 : List (Nat × QO) := [(0, o_il 1 1), (1, o_if (fun x => decide (x < 0)) 16 4), (4, o_il 1 5), (5, o_al 0 6), (6, o_len 7), (7, o_ic (fun x y => decide (y ≤ x)) 16 10), (10, o_al 0 11), (11, o_il 1 12), (12, o_aald 13), (13, o_goto 17), (16, o_null 17), (17, o_ar)]
theorem ts_X6_pick_0 (sx : QX) : ∀ q ∈ t_X6_pick_0, q_Snd sx RX6 cX6_pick 2 (some (.object "StoneApologies$Quarry")) q.1 q.2 := List.forall_mem_cons.mpr ⟨s_iload_n d_X6_pick_0 rfl, List.forall_mem_cons.mpr ⟨s_if_lt d_X6_pick_1 (by decide), List.forall_mem_cons.mpr ⟨s_iload_n d_X6_pick_4 rfl, List.forall_mem_cons.mpr ⟨s_aload_n d_X6_pick_5 rfl, List.forall_mem_cons.mpr ⟨s_len d_X6_pick_6, List.forall_mem_cons.mpr ⟨s_ic_ge d_X6_pick_7 (by decide), List.forall_mem_cons.mpr ⟨s_aload_n d_X6_pick_10 rfl, List.forall_mem_cons.mpr ⟨s_iload_n d_X6_pick_11 rfl, List.forall_mem_cons.mpr ⟨s_aald d_X6_pick_12, List.forall_mem_cons.mpr ⟨s_goto d_X6_pick_13 (by decide), List.forall_mem_cons.mpr ⟨s_null d_X6_pick_16, List.forall_mem_cons.mpr ⟨s_ar d_X6_pick_17 rfl, fun _ h => absurd h List.not_mem_nil⟩⟩⟩⟩⟩⟩⟩⟩⟩⟩⟩⟩
def t_X6_pick (pc : Nat) : Option QO := q_look (t_X6_pick_0) pc
theorem ts_X6_pick (sx : QX) (pc : Nat) : ∀ o, t_X6_pick pc = some o → q_Snd sx RX6 cX6_pick 2 (some (.object "StoneApologies$Quarry")) pc o := by
  unfold t_X6_pick
  exact q_look_all (ts_X6_pick_0 sx)
