/-! RUNS of the little machine in a constructor's own frame -/
theorem k_met (sx : QX) {g : QG} (hJ : q_inj g) (l : Launch) {d : Nat} {f : QE} {z : QR} (hz : q_CL (q_tb sx) q_kpt (d + 1) f = some z) (hf : q_okE g f) : q_Met g sx l (q_room (d + 1)) f z := by
  obtain ⟨n, hev⟩ := (q_EV_iff _ _ _ _ _ _).mp hz
  have hok0 : q_ok g (0, (q_la 0 f.2.1, ([], f.2.2))) := ⟨q_la_ok 0 _ hf.1, q_okS_nil⟩
  have key := q_sound sx (q_tb sx) q_kpt (q_TB_all sx) g hJ l n d f.1 _ z hev hok0
  unfold q_Met
  refine Met.ofW (cc := (q_inf f.1).2.1) (maxL := (q_inf f.1).2.2.1) (ret := (q_inf f.1).2.2.2) (q_plain f.1) rfl ?_
  intro p e s m args below meth c s₁ B hml hv
  obtain ⟨rfl, hP, hK, hX, hN⟩ := hv
  have hts := atoms_spec (ws := q_ws f.1) B.pre
  have hX' := hX
  obtain ⟨scr, hscr, -⟩ := hX'
  have hbl : q_ad g 183 < s.heap.size := (Array.getElem?_eq_some_iff.mp hscr).1
  have W0 := key p e (headSpec (q_ws f.1) (q_room (d + 1))).room s m (f.2.1.map (q_c g)).toArray below meth c 0 0 (MQ below (q_Qc g z) (f.2.1.map (q_c g)).toArray s 0 0 (q_A g)) (fun r => r = z)
    ⟨B.exec, B.bytes, hml, findClass_of_methodNamed B.named, fun w hw => hts w (List.mem_cons_of_mem _ hw), hK, hX, hbl, hN, hJ, ⟨rfl, rfl, Nat.le_refl _, by show 60 + 60 * d ≤ 60 * (d + 1); omega, Nat.zero_le _, Nat.zero_le _⟩,
      ⟨fun pc x H Hh locs lsA ty hrt hn hd hPz hPh hS => ?_, fun pc H Hh locs lsA hrt hd hPz hPh hS => ?_, fun pc k q H Hh locs lsA C hrt hd hvd hPz hPh hS => ?_⟩⟩ rfl
  · have hl := lv_entry (f.2.1.map (q_c g)) (n := (q_inf f.1).2.2.1) ?_
    · rw [lg_entry_eq]
      refine W0 s.heap [] _ ?_ hP va_S.rf
      rw [q_la_map]
      exact hl
    · rw [q_sl_len]
      exact hf.2
  · subst hPz
    exact W.zret B.exec B.bytes (B.returns.trans hrt) hn (fun t ht _ => ⟨⟨fun v hv => by cases hv; exact trivial, rfl, by rw [ht]; exact hPh⟩, hS.F ht⟩) hS.2.2 hd B.notSynchronized
  · subst hPz
    exact W.vret B.exec B.bytes (B.returns.trans hrt) (fun t ht _ => ⟨⟨(fun v hv => by cases hv), rfl, by rw [ht]; exact hPh⟩, hS.F ht⟩) hS.2.2 hd B.notSynchronized
  · subst hPz
    refine W.aret B.exec B.bytes (B.returns.trans hrt) (Or.inl ⟨C, rfl⟩) ?_ (fun t ht _ => ⟨⟨fun v hv => by cases hv; exact hvd, rfl, by rw [ht]; exact hPh⟩, hS.F ht⟩) hS.2.2 hd B.notSynchronized
    cases k with
    | zero => exact Or.inl rfl
    | succ k => exact Or.inr ⟨_, rfl⟩
noncomputable def k_ev (sx : QX) (tc : Nat → Option QO) (d : Nat) : Nat → QS → Option QR
  | 0, _ => none
  | n + 1, t => match tc t.1 with
    | some o => q_run (q_CL (q_tb sx) q_kpt d) (k_ev sx tc d n) (o t.2.1 t.2.2.1 t.2.2.2)
    | none => none
theorem k_tail {sx : QX} {own : String} {cc : ByteArray} {nL : Nat} {rt : Option FieldType} {tc : Nat → Option QO} (hTC : ∀ pc o, tc pc = some o → q_Snd sx own cc nL rt pc o) {g : QG} {p : Program} {l : Launch} {e : Env} {R : Room} {s : State} {m : MethodId} {args : Array Value} {below : List Frame} {meth : Method} {c : Code} {cells slots : Nat} {Q : State → Prop} {P : QR → Prop} {d : Nat} (hC : q_Cx sx g p l e R s m args below meth c cells slots Q own cc nL rt (q_room (d + 1)) P) {r : QR} (hPr : P r) : ∀ (n : Nat) (t : QS), k_ev sx tc (d + 1) n t = some r → q_ok g t → q_W g p l e R s m args below meth c cells slots Q nL t := by
  have hJ : q_inj g := by
    obtain ⟨-, -, -, -, -, -, -, -, -, hJ, -⟩ := hC
    exact hJ
  intro n
  induction n with
  | zero => intro t h; cases h
  | succ n ih =>
    intro t h hok
    unfold k_ev at h
    split at h
    · rename_i o ho
      have hs := hTC _ _ ho g p l e R s m args below meth c cells slots Q (q_room (d + 1)) P hC t.2.1 t.2.2.1 t.2.2.2 hok
      exact q_run_ok (rm := q_room (d + 1)) (nL := nL) hPr (fun f z hf hz => k_met sx hJ l hz hf) (fun u hu hz => ih u hz hu) _ hs h
    · cases h
theorem d_X6_init_160 : decode cX6_init 160 = .ok (.aload_n 0, 1) := by decide +kernel
theorem d_X6_init_161 : decode cX6_init 161 = .ok (.invokevirtual 82, 3) := by decide +kernel
theorem d_X6_init_164 : decode cX6_init 164 = .ok (.aload_n 0, 1) := by decide +kernel
theorem d_X6_init_165 : decode cX6_init 165 = .ok (.getfield 10, 3) := by decide +kernel
theorem d_X6_init_168 : decode cX6_init 168 = .ok (.iconst 0, 1) := by decide +kernel
theorem d_X6_init_169 : decode cX6_init 169 = .ok (.putfield 85, 3) := by decide +kernel
theorem d_X6_init_172 : decode cX6_init 172 = .ok (.return_, 1) := by decide +kernel
def tl_S_0 : List (Nat × QO) := [(160, o_al 0 161), (161, o_cV 0 6 85 1 1 164), (164, o_al 0 165), (165, o_gf 6 0 168), (168, o_k 0 169), (169, o_pf 5 2 172), (172, o_vr)]
theorem tl_S_0_ok (sx : QX) : ∀ q ∈ tl_S_0, q_Snd sx RX6 cX6_init 2 none q.1 q.2 := List.forall_mem_cons.mpr ⟨s_aload_n d_X6_init_160 rfl, List.forall_mem_cons.mpr ⟨s_cV (T := TX6) (N := 9) rfl d_X6_init_161 rfl k_2_25 k_2_27 k_0_0 k_1_1 k_2_28 ⟨by decide, by decide⟩ (by decide +kernel) (by decide), List.forall_mem_cons.mpr ⟨s_aload_n d_X6_init_164 rfl, List.forall_mem_cons.mpr ⟨s_gf d_X6_init_165 rfl (by decide) n_X6 in_X6 rfl k_2_117, List.forall_mem_cons.mpr ⟨s_iconst d_X6_init_168 rfl, List.forall_mem_cons.mpr ⟨s_pf tyX5 d_X6_init_169 rfl (by decide) n_X5 in_X5 rfl k_1_31 tyX5_ok nmX5 rfl rfl, List.forall_mem_cons.mpr ⟨s_vr d_X6_init_172 rfl, fun _ h => absurd h List.not_mem_nil⟩⟩⟩⟩⟩⟩⟩
def tl_S (pc : Nat) : Option QO := q_look tl_S_0 pc
theorem tl_S_ok (sx : QX) (pc : Nat) : ∀ o, tl_S pc = some o → q_Snd sx RX6 cX6_init 2 none pc o := by
  unfold tl_S
  exact q_look_all (tl_S_0_ok sx)
theorem d_X7_init_137 : decode cX7_init 137 = .ok (.aload_n 0, 1) := by decide +kernel
theorem d_X7_init_138 : decode cX7_init 138 = .ok (.invokevirtual 61, 3) := by decide +kernel
theorem d_X7_init_141 : decode cX7_init 141 = .ok (.aload_n 0, 1) := by decide +kernel
theorem d_X7_init_142 : decode cX7_init 142 = .ok (.iconst 0, 1) := by decide +kernel
theorem d_X7_init_143 : decode cX7_init 143 = .ok (.bipush 20, 2) := by decide +kernel
theorem d_X7_init_145 : decode cX7_init 145 = .ok (.invokevirtual 64, 3) := by decide +kernel
theorem d_X7_init_148 : decode cX7_init 148 = .ok (.aload_n 0, 1) := by decide +kernel
theorem d_X7_init_149 : decode cX7_init 149 = .ok (.iconst 1, 1) := by decide +kernel
theorem d_X7_init_150 : decode cX7_init 150 = .ok (.bipush 14, 2) := by decide +kernel
theorem d_X7_init_152 : decode cX7_init 152 = .ok (.invokevirtual 64, 3) := by decide +kernel
theorem d_X7_init_155 : decode cX7_init 155 = .ok (.aload_n 0, 1) := by decide +kernel
theorem d_X7_init_156 : decode cX7_init 156 = .ok (.iconst 2, 1) := by decide +kernel
theorem d_X7_init_157 : decode cX7_init 157 = .ok (.bipush 9, 2) := by decide +kernel
theorem d_X7_init_159 : decode cX7_init 159 = .ok (.invokevirtual 64, 3) := by decide +kernel
theorem d_X7_init_162 : decode cX7_init 162 = .ok (.aload_n 0, 1) := by decide +kernel
theorem d_X7_init_163 : decode cX7_init 163 = .ok (.iconst 3, 1) := by decide +kernel
theorem d_X7_init_164 : decode cX7_init 164 = .ok (.bipush 6, 2) := by decide +kernel
theorem d_X7_init_166 : decode cX7_init 166 = .ok (.invokevirtual 64, 3) := by decide +kernel
theorem d_X7_init_169 : decode cX7_init 169 = .ok (.aload_n 0, 1) := by decide +kernel
theorem d_X7_init_170 : decode cX7_init 170 = .ok (.iconst 0, 1) := by decide +kernel
theorem d_X7_init_171 : decode cX7_init 171 = .ok (.bipush 30, 2) := by decide +kernel
theorem d_X7_init_173 : decode cX7_init 173 = .ok (.invokevirtual 64, 3) := by decide +kernel
theorem d_X7_init_176 : decode cX7_init 176 = .ok (.aload_n 0, 1) := by decide +kernel
theorem d_X7_init_177 : decode cX7_init 177 = .ok (.iconst 1, 1) := by decide +kernel
theorem d_X7_init_178 : decode cX7_init 178 = .ok (.bipush 25, 2) := by decide +kernel
theorem d_X7_init_180 : decode cX7_init 180 = .ok (.invokevirtual 64, 3) := by decide +kernel
theorem d_X7_init_183 : decode cX7_init 183 = .ok (.aload_n 0, 1) := by decide +kernel
theorem d_X7_init_184 : decode cX7_init 184 = .ok (.bipush 6, 2) := by decide +kernel
theorem d_X7_init_186 : decode cX7_init 186 = .ok (.invokevirtual 68, 3) := by decide +kernel
theorem d_X7_init_189 : decode cX7_init 189 = .ok (.aload_n 0, 1) := by decide +kernel
theorem d_X7_init_190 : decode cX7_init 190 = .ok (.iconst 4, 1) := by decide +kernel
theorem d_X7_init_191 : decode cX7_init 191 = .ok (.invokevirtual 68, 3) := by decide +kernel
theorem d_X7_init_194 : decode cX7_init 194 = .ok (.aload_n 0, 1) := by decide +kernel
theorem d_X7_init_195 : decode cX7_init 195 = .ok (.iconst 5, 1) := by decide +kernel
theorem d_X7_init_196 : decode cX7_init 196 = .ok (.invokevirtual 68, 3) := by decide +kernel
theorem d_X7_init_199 : decode cX7_init 199 = .ok (.aload_n 0, 1) := by decide +kernel
theorem d_X7_init_200 : decode cX7_init 200 = .ok (.bipush 9, 2) := by decide +kernel
theorem d_X7_init_202 : decode cX7_init 202 = .ok (.invokevirtual 68, 3) := by decide +kernel
theorem d_X7_init_205 : decode cX7_init 205 = .ok (.aload_n 0, 1) := by decide +kernel
theorem d_X7_init_206 : decode cX7_init 206 = .ok (.iconst 2, 1) := by decide +kernel
theorem d_X7_init_207 : decode cX7_init 207 = .ok (.invokevirtual 68, 3) := by decide +kernel
theorem d_X7_init_210 : decode cX7_init 210 = .ok (.aload_n 0, 1) := by decide +kernel
theorem d_X7_init_211 : decode cX7_init 211 = .ok (.iconst 0, 1) := by decide +kernel
theorem d_X7_init_212 : decode cX7_init 212 = .ok (.iconst 4, 1) := by decide +kernel
theorem d_X7_init_213 : decode cX7_init 213 = .ok (.invokevirtual 72, 3) := by decide +kernel
theorem d_X7_init_216 : decode cX7_init 216 = .ok (.aload_n 0, 1) := by decide +kernel
theorem d_X7_init_217 : decode cX7_init 217 = .ok (.iconst 1, 1) := by decide +kernel
theorem d_X7_init_218 : decode cX7_init 218 = .ok (.bipush 6, 2) := by decide +kernel
theorem d_X7_init_220 : decode cX7_init 220 = .ok (.invokevirtual 72, 3) := by decide +kernel
theorem d_X7_init_223 : decode cX7_init 223 = .ok (.aload_n 0, 1) := by decide +kernel
theorem d_X7_init_224 : decode cX7_init 224 = .ok (.iconst 2, 1) := by decide +kernel
theorem d_X7_init_225 : decode cX7_init 225 = .ok (.iconst 2, 1) := by decide +kernel
theorem d_X7_init_226 : decode cX7_init 226 = .ok (.invokevirtual 72, 3) := by decide +kernel
theorem d_X7_init_229 : decode cX7_init 229 = .ok (.aload_n 0, 1) := by decide +kernel
theorem d_X7_init_230 : decode cX7_init 230 = .ok (.iconst 3, 1) := by decide +kernel
theorem d_X7_init_231 : decode cX7_init 231 = .ok (.iconst 3, 1) := by decide +kernel
theorem d_X7_init_232 : decode cX7_init 232 = .ok (.invokevirtual 72, 3) := by decide +kernel
theorem d_X7_init_235 : decode cX7_init 235 = .ok (.aload_n 0, 1) := by decide +kernel
theorem d_X7_init_236 : decode cX7_init 236 = .ok (.iconst 2, 1) := by decide +kernel
theorem d_X7_init_237 : decode cX7_init 237 = .ok (.putfield 75, 3) := by decide +kernel
theorem d_X7_init_240 : decode cX7_init 240 = .ok (.aload_n 0, 1) := by decide +kernel
theorem d_X7_init_241 : decode cX7_init 241 = .ok (.getfield 40, 3) := by decide +kernel
theorem d_X7_init_244 : decode cX7_init 244 = .ok (.iconst 0, 1) := by decide +kernel
theorem d_X7_init_245 : decode cX7_init 245 = .ok (.iconst 3, 1) := by decide +kernel
theorem d_X7_init_246 : decode cX7_init 246 = .ok (.iastore, 1) := by decide +kernel
theorem d_X7_init_247 : decode cX7_init 247 = .ok (.aload_n 0, 1) := by decide +kernel
theorem d_X7_init_248 : decode cX7_init 248 = .ok (.getfield 40, 3) := by decide +kernel
theorem d_X7_init_251 : decode cX7_init 251 = .ok (.bipush 6, 2) := by decide +kernel
theorem d_X7_init_253 : decode cX7_init 253 = .ok (.iconst 5, 1) := by decide +kernel
theorem d_X7_init_254 : decode cX7_init 254 = .ok (.iastore, 1) := by decide +kernel
theorem d_X7_init_255 : decode cX7_init 255 = .ok (.aload_n 0, 1) := by decide +kernel
theorem d_X7_init_256 : decode cX7_init 256 = .ok (.getfield 40, 3) := by decide +kernel
theorem d_X7_init_259 : decode cX7_init 259 = .ok (.bipush 8, 2) := by decide +kernel
theorem d_X7_init_261 : decode cX7_init 261 = .ok (.iconst 1, 1) := by decide +kernel
theorem d_X7_init_262 : decode cX7_init 262 = .ok (.iastore, 1) := by decide +kernel
theorem d_X7_init_263 : decode cX7_init 263 = .ok (.aload_n 0, 1) := by decide +kernel
theorem d_X7_init_264 : decode cX7_init 264 = .ok (.invokevirtual 79, 3) := by decide +kernel
theorem d_X7_init_267 : decode cX7_init 267 = .ok (.return_, 1) := by decide +kernel
def tl_M_0 : List (Nat × QO) := [(137, o_al 0 138), (138, o_cV 0 7 109 2 1 141), (141, o_al 0 142), (142, o_k 0 143), (143, o_k 20 145), (145, o_cV 0 7 110 3 3 148), (148, o_al 0 149), (149, o_k 1 150), (150, o_k 14 152), (152, o_cV 0 7 110 3 3 155), (155, o_al 0 156), (156, o_k 2 157)]
theorem tl_M_0_ok (sx : QX) : ∀ q ∈ tl_M_0, q_Snd sx RX7 cX7_init 1 none q.1 q.2 := List.forall_mem_cons.mpr ⟨s_aload_n d_X7_init_137 rfl, List.forall_mem_cons.mpr ⟨s_cV (T := TX7) (N := 30) rfl d_X7_init_138 rfl k_4_9 k_4_11 k_0_18 k_1_12 k_4_12 ⟨by decide, by decide⟩ (by decide +kernel) (by decide), List.forall_mem_cons.mpr ⟨s_aload_n d_X7_init_141 rfl, List.forall_mem_cons.mpr ⟨s_iconst d_X7_init_142 rfl, List.forall_mem_cons.mpr ⟨s_bipush d_X7_init_143 rfl, List.forall_mem_cons.mpr ⟨s_cV (T := TX7) (N := 30) rfl d_X7_init_145 rfl k_4_13 k_4_15 k_0_19 k_1_12 k_4_16 ⟨by decide, by decide⟩ (by decide +kernel) (by decide), List.forall_mem_cons.mpr ⟨s_aload_n d_X7_init_148 rfl, List.forall_mem_cons.mpr ⟨s_iconst d_X7_init_149 rfl, List.forall_mem_cons.mpr ⟨s_bipush d_X7_init_150 rfl, List.forall_mem_cons.mpr ⟨s_cV (T := TX7) (N := 30) rfl d_X7_init_152 rfl k_4_13 k_4_15 k_0_19 k_1_12 k_4_16 ⟨by decide, by decide⟩ (by decide +kernel) (by decide), List.forall_mem_cons.mpr ⟨s_aload_n d_X7_init_155 rfl, List.forall_mem_cons.mpr ⟨s_iconst d_X7_init_156 rfl, fun _ h => absurd h List.not_mem_nil⟩⟩⟩⟩⟩⟩⟩⟩⟩⟩⟩⟩
def tl_M_1 : List (Nat × QO) := [(157, o_k 9 159), (159, o_cV 0 7 110 3 3 162), (162, o_al 0 163), (163, o_k 3 164), (164, o_k 6 166), (166, o_cV 0 7 110 3 3 169), (169, o_al 0 170), (170, o_k 0 171), (171, o_k 30 173), (173, o_cV 0 7 110 3 3 176), (176, o_al 0 177), (177, o_k 1 178)]
theorem tl_M_1_ok (sx : QX) : ∀ q ∈ tl_M_1, q_Snd sx RX7 cX7_init 1 none q.1 q.2 := List.forall_mem_cons.mpr ⟨s_bipush d_X7_init_157 rfl, List.forall_mem_cons.mpr ⟨s_cV (T := TX7) (N := 30) rfl d_X7_init_159 rfl k_4_13 k_4_15 k_0_19 k_1_12 k_4_16 ⟨by decide, by decide⟩ (by decide +kernel) (by decide), List.forall_mem_cons.mpr ⟨s_aload_n d_X7_init_162 rfl, List.forall_mem_cons.mpr ⟨s_iconst d_X7_init_163 rfl, List.forall_mem_cons.mpr ⟨s_bipush d_X7_init_164 rfl, List.forall_mem_cons.mpr ⟨s_cV (T := TX7) (N := 30) rfl d_X7_init_166 rfl k_4_13 k_4_15 k_0_19 k_1_12 k_4_16 ⟨by decide, by decide⟩ (by decide +kernel) (by decide), List.forall_mem_cons.mpr ⟨s_aload_n d_X7_init_169 rfl, List.forall_mem_cons.mpr ⟨s_iconst d_X7_init_170 rfl, List.forall_mem_cons.mpr ⟨s_bipush d_X7_init_171 rfl, List.forall_mem_cons.mpr ⟨s_cV (T := TX7) (N := 30) rfl d_X7_init_173 rfl k_4_13 k_4_15 k_0_19 k_1_12 k_4_16 ⟨by decide, by decide⟩ (by decide +kernel) (by decide), List.forall_mem_cons.mpr ⟨s_aload_n d_X7_init_176 rfl, List.forall_mem_cons.mpr ⟨s_iconst d_X7_init_177 rfl, fun _ h => absurd h List.not_mem_nil⟩⟩⟩⟩⟩⟩⟩⟩⟩⟩⟩⟩
def tl_M_2 : List (Nat × QO) := [(178, o_k 25 180), (180, o_cV 0 7 110 3 3 183), (183, o_al 0 184), (184, o_k 6 186), (186, o_cV 0 7 111 2 2 189), (189, o_al 0 190), (190, o_k 4 191), (191, o_cV 0 7 111 2 2 194), (194, o_al 0 195), (195, o_k 5 196), (196, o_cV 0 7 111 2 2 199), (199, o_al 0 200)]
theorem tl_M_2_ok (sx : QX) : ∀ q ∈ tl_M_2, q_Snd sx RX7 cX7_init 1 none q.1 q.2 := List.forall_mem_cons.mpr ⟨s_bipush d_X7_init_178 rfl, List.forall_mem_cons.mpr ⟨s_cV (T := TX7) (N := 30) rfl d_X7_init_180 rfl k_4_13 k_4_15 k_0_19 k_1_12 k_4_16 ⟨by decide, by decide⟩ (by decide +kernel) (by decide), List.forall_mem_cons.mpr ⟨s_aload_n d_X7_init_183 rfl, List.forall_mem_cons.mpr ⟨s_bipush d_X7_init_184 rfl, List.forall_mem_cons.mpr ⟨s_cV (T := TX7) (N := 30) rfl d_X7_init_186 rfl k_4_17 k_4_19 k_0_20 k_1_12 k_4_20 ⟨by decide, by decide⟩ (by decide +kernel) (by decide), List.forall_mem_cons.mpr ⟨s_aload_n d_X7_init_189 rfl, List.forall_mem_cons.mpr ⟨s_iconst d_X7_init_190 rfl, List.forall_mem_cons.mpr ⟨s_cV (T := TX7) (N := 30) rfl d_X7_init_191 rfl k_4_17 k_4_19 k_0_20 k_1_12 k_4_20 ⟨by decide, by decide⟩ (by decide +kernel) (by decide), List.forall_mem_cons.mpr ⟨s_aload_n d_X7_init_194 rfl, List.forall_mem_cons.mpr ⟨s_iconst d_X7_init_195 rfl, List.forall_mem_cons.mpr ⟨s_cV (T := TX7) (N := 30) rfl d_X7_init_196 rfl k_4_17 k_4_19 k_0_20 k_1_12 k_4_20 ⟨by decide, by decide⟩ (by decide +kernel) (by decide), List.forall_mem_cons.mpr ⟨s_aload_n d_X7_init_199 rfl, fun _ h => absurd h List.not_mem_nil⟩⟩⟩⟩⟩⟩⟩⟩⟩⟩⟩⟩
def tl_M_3 : List (Nat × QO) := [(200, o_k 9 202), (202, o_cV 0 7 111 2 2 205), (205, o_al 0 206), (206, o_k 2 207), (207, o_cV 0 7 111 2 2 210), (210, o_al 0 211), (211, o_k 0 212), (212, o_k 4 213), (213, o_cV 0 7 112 3 3 216), (216, o_al 0 217), (217, o_k 1 218), (218, o_k 6 220)]
theorem tl_M_3_ok (sx : QX) : ∀ q ∈ tl_M_3, q_Snd sx RX7 cX7_init 1 none q.1 q.2 := List.forall_mem_cons.mpr ⟨s_bipush d_X7_init_200 rfl, List.forall_mem_cons.mpr ⟨s_cV (T := TX7) (N := 30) rfl d_X7_init_202 rfl k_4_17 k_4_19 k_0_20 k_1_12 k_4_20 ⟨by decide, by decide⟩ (by decide +kernel) (by decide), List.forall_mem_cons.mpr ⟨s_aload_n d_X7_init_205 rfl, List.forall_mem_cons.mpr ⟨s_iconst d_X7_init_206 rfl, List.forall_mem_cons.mpr ⟨s_cV (T := TX7) (N := 30) rfl d_X7_init_207 rfl k_4_17 k_4_19 k_0_20 k_1_12 k_4_20 ⟨by decide, by decide⟩ (by decide +kernel) (by decide), List.forall_mem_cons.mpr ⟨s_aload_n d_X7_init_210 rfl, List.forall_mem_cons.mpr ⟨s_iconst d_X7_init_211 rfl, List.forall_mem_cons.mpr ⟨s_iconst d_X7_init_212 rfl, List.forall_mem_cons.mpr ⟨s_cV (T := TX7) (N := 30) rfl d_X7_init_213 rfl k_4_21 k_4_23 k_0_21 k_1_12 k_4_24 ⟨by decide, by decide⟩ (by decide +kernel) (by decide), List.forall_mem_cons.mpr ⟨s_aload_n d_X7_init_216 rfl, List.forall_mem_cons.mpr ⟨s_iconst d_X7_init_217 rfl, List.forall_mem_cons.mpr ⟨s_bipush d_X7_init_218 rfl, fun _ h => absurd h List.not_mem_nil⟩⟩⟩⟩⟩⟩⟩⟩⟩⟩⟩⟩
def tl_M_4 : List (Nat × QO) := [(220, o_cV 0 7 112 3 3 223), (223, o_al 0 224), (224, o_k 2 225), (225, o_k 2 226), (226, o_cV 0 7 112 3 3 229), (229, o_al 0 230), (230, o_k 3 231), (231, o_k 3 232), (232, o_cV 0 7 112 3 3 235), (235, o_al 0 236), (236, o_k 2 237), (237, o_pf 7 22 240)]
theorem tl_M_4_ok (sx : QX) : ∀ q ∈ tl_M_4, q_Snd sx RX7 cX7_init 1 none q.1 q.2 := List.forall_mem_cons.mpr ⟨s_cV (T := TX7) (N := 30) rfl d_X7_init_220 rfl k_4_21 k_4_23 k_0_21 k_1_12 k_4_24 ⟨by decide, by decide⟩ (by decide +kernel) (by decide), List.forall_mem_cons.mpr ⟨s_aload_n d_X7_init_223 rfl, List.forall_mem_cons.mpr ⟨s_iconst d_X7_init_224 rfl, List.forall_mem_cons.mpr ⟨s_iconst d_X7_init_225 rfl, List.forall_mem_cons.mpr ⟨s_cV (T := TX7) (N := 30) rfl d_X7_init_226 rfl k_4_21 k_4_23 k_0_21 k_1_12 k_4_24 ⟨by decide, by decide⟩ (by decide +kernel) (by decide), List.forall_mem_cons.mpr ⟨s_aload_n d_X7_init_229 rfl, List.forall_mem_cons.mpr ⟨s_iconst d_X7_init_230 rfl, List.forall_mem_cons.mpr ⟨s_iconst d_X7_init_231 rfl, List.forall_mem_cons.mpr ⟨s_cV (T := TX7) (N := 30) rfl d_X7_init_232 rfl k_4_21 k_4_23 k_0_21 k_1_12 k_4_24 ⟨by decide, by decide⟩ (by decide +kernel) (by decide), List.forall_mem_cons.mpr ⟨s_aload_n d_X7_init_235 rfl, List.forall_mem_cons.mpr ⟨s_iconst d_X7_init_236 rfl, List.forall_mem_cons.mpr ⟨s_pf tyX7 d_X7_init_237 rfl (by decide) n_X7 in_X7 rfl k_4_51 tyX7_ok nmX7 rfl rfl, fun _ h => absurd h List.not_mem_nil⟩⟩⟩⟩⟩⟩⟩⟩⟩⟩⟩⟩
def tl_M_5 : List (Nat × QO) := [(240, o_al 0 241), (241, o_gf 7 23 244), (244, o_k 0 245), (245, o_k 3 246), (246, o_iast 247), (247, o_al 0 248), (248, o_gf 7 23 251), (251, o_k 6 253), (253, o_k 5 254), (254, o_iast 255), (255, o_al 0 256), (256, o_gf 7 23 259)]
theorem tl_M_5_ok (sx : QX) : ∀ q ∈ tl_M_5, q_Snd sx RX7 cX7_init 1 none q.1 q.2 := List.forall_mem_cons.mpr ⟨s_aload_n d_X7_init_240 rfl, List.forall_mem_cons.mpr ⟨s_gf d_X7_init_241 rfl (by decide) n_X7 in_X7 rfl k_4_52, List.forall_mem_cons.mpr ⟨s_iconst d_X7_init_244 rfl, List.forall_mem_cons.mpr ⟨s_iconst d_X7_init_245 rfl, List.forall_mem_cons.mpr ⟨s_iast d_X7_init_246, List.forall_mem_cons.mpr ⟨s_aload_n d_X7_init_247 rfl, List.forall_mem_cons.mpr ⟨s_gf d_X7_init_248 rfl (by decide) n_X7 in_X7 rfl k_4_52, List.forall_mem_cons.mpr ⟨s_bipush d_X7_init_251 rfl, List.forall_mem_cons.mpr ⟨s_iconst d_X7_init_253 rfl, List.forall_mem_cons.mpr ⟨s_iast d_X7_init_254, List.forall_mem_cons.mpr ⟨s_aload_n d_X7_init_255 rfl, List.forall_mem_cons.mpr ⟨s_gf d_X7_init_256 rfl (by decide) n_X7 in_X7 rfl k_4_52, fun _ h => absurd h List.not_mem_nil⟩⟩⟩⟩⟩⟩⟩⟩⟩⟩⟩⟩
def tl_M_6 : List (Nat × QO) := [(259, o_k 8 261), (261, o_k 1 262), (262, o_iast 263), (263, o_al 0 264), (264, o_cV 0 7 113 2 1 267), (267, o_vr)]
theorem tl_M_6_ok (sx : QX) : ∀ q ∈ tl_M_6, q_Snd sx RX7 cX7_init 1 none q.1 q.2 := List.forall_mem_cons.mpr ⟨s_bipush d_X7_init_259 rfl, List.forall_mem_cons.mpr ⟨s_iconst d_X7_init_261 rfl, List.forall_mem_cons.mpr ⟨s_iast d_X7_init_262, List.forall_mem_cons.mpr ⟨s_aload_n d_X7_init_263 rfl, List.forall_mem_cons.mpr ⟨s_cV (T := TX7) (N := 30) rfl d_X7_init_264 rfl k_4_25 k_4_27 k_0_22 k_1_12 k_4_28 ⟨by decide, by decide⟩ (by decide +kernel) (by decide), List.forall_mem_cons.mpr ⟨s_vr d_X7_init_267 rfl, fun _ h => absurd h List.not_mem_nil⟩⟩⟩⟩⟩⟩
def tl_M (pc : Nat) : Option QO := cond (Nat.ble pc 156) (q_look tl_M_0 pc) (cond (Nat.ble pc 177) (q_look tl_M_1 pc) (cond (Nat.ble pc 199) (q_look tl_M_2 pc) (cond (Nat.ble pc 218) (q_look tl_M_3 pc) (cond (Nat.ble pc 237) (q_look tl_M_4 pc) (cond (Nat.ble pc 256) (q_look tl_M_5 pc) (q_look tl_M_6 pc))))))
theorem tl_M_ok (sx : QX) (pc : Nat) : ∀ o, tl_M pc = some o → q_Snd sx RX7 cX7_init 1 none pc o := by
  unfold tl_M
  exact q_cb (q_look_all (tl_M_0_ok sx)) (q_cb (q_look_all (tl_M_1_ok sx)) (q_cb (q_look_all (tl_M_2_ok sx)) (q_cb (q_look_all (tl_M_3_ok sx)) (q_cb (q_look_all (tl_M_4_ok sx)) (q_cb (q_look_all (tl_M_5_ok sx)) (q_look_all (tl_M_6_ok sx)))))))
theorem d_X6_init_151 : decode cX6_init 151 = .ok (.invokevirtual 78, 3) := by decide +kernel
theorem s_append (sx : QX) : q_Snd sx RX6 cX6_init 2 none 151 (o_cV 0 5 50 2 2 154) := s_cV (T := TX5) (N := 4) rfl d_X6_init_151 rfl k_2_18 k_2_19 k_2_20 k_1_2 k_2_21 ⟨by decide, by decide⟩ (by decide +kernel) (by decide)
