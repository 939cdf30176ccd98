/-! THE TEXT at first, out of the JVM's own string -/
theorem kc_1_8 : Cond.initialized RJ0 ∈ q_tw := q_w1 (i := 8) rfl rfl
theorem kc_1_9 : Cond.initialized RJ1 ∈ q_tw := q_w1 (i := 9) rfl rfl
theorem kc_1_10 : Cond.initialized RJ3 ∈ q_tw := q_w1 (i := 10) rfl rfl
theorem kc_1_214 : Cond.methodLink RJ0 335 yJ0_coder_7d493 ∈ q_tw := q_w1 (i := 214) rfl rfl
theorem kc_1_215 : Cond.instanceMethod yJ0_coder_7d493 ∈ q_tw := q_w1 (i := 215) rfl rfl
theorem kc_1_216 : Cond.selects RJ0 yJ0_coder_7d493 yJ0_coder_7d493 ∈ q_tw := q_w1 (i := 216) rfl rfl
theorem kc_1_217 : Cond.code yJ0_coder_7d493 cJ0_coder_7d493 1 (some .byte) ∈ q_tw := q_w1 (i := 217) rfl rfl
theorem kc_1_218 : Cond.fieldLink RJ0 38 RJ0 "COMPACT_STRINGS" "Z" ∈ q_tw := q_w1 (i := 218) rfl rfl
theorem kc_1_224 : Cond.methodLink RJ0 492 yJ0_isLatin1_aae02 ∈ q_tw := q_w1 (i := 224) rfl rfl
theorem kc_1_225 : Cond.instanceMethod yJ0_isLatin1_aae02 ∈ q_tw := q_w1 (i := 225) rfl rfl
theorem kc_1_226 : Cond.selects RJ0 yJ0_isLatin1_aae02 yJ0_isLatin1_aae02 ∈ q_tw := q_w1 (i := 226) rfl rfl
theorem kc_1_227 : Cond.code yJ0_isLatin1_aae02 cJ0_isLatin1_aae02 1 (some .boolean) ∈ q_tw := q_w1 (i := 227) rfl rfl
theorem kc_1_228 : Cond.methodLink RJ0 495 yJ1_charAt_3b067 ∈ q_tw := q_w1 (i := 228) rfl rfl
theorem kc_1_229 : Cond.static yJ1_charAt_3b067 ∈ q_tw := q_w1 (i := 229) rfl rfl
theorem kc_1_230 : Cond.code yJ1_charAt_3b067 cJ1_charAt_3b067 2 (some .char) ∈ q_tw := q_w1 (i := 230) rfl rfl
theorem kc_1_231 : Cond.methodLink RJ1 9 yJ0_checkIndex_df160 ∈ q_tw := q_w1 (i := 231) rfl rfl
theorem kc_1_232 : Cond.static yJ0_checkIndex_df160 ∈ q_tw := q_w1 (i := 232) rfl rfl
theorem kc_1_233 : Cond.code yJ0_checkIndex_df160 cJ0_checkIndex_df160 2 none ∈ q_tw := q_w1 (i := 233) rfl rfl
theorem kc_1_234 : Cond.fieldLink RJ0 1053 RJ3 "SIOOBE_FORMATTER" "Ljava/util/function/BiFunction;" ∈ q_tw := q_w1 (i := 234) rfl rfl
theorem kc_1_236 : Cond.methodLink RJ0 1059 yJ3_checkIndex_8e157 ∈ q_tw := q_w1 (i := 236) rfl rfl
theorem kc_1_237 : Cond.static yJ3_checkIndex_8e157 ∈ q_tw := q_w1 (i := 237) rfl rfl
theorem kc_1_238 : Cond.code yJ3_checkIndex_8e157 cJ3_checkIndex_8e157 3 (some .int) ∈ q_tw := q_w1 (i := 238) rfl rfl
theorem kc_5_171 : Cond.fieldLink RJ0 9 RJ0 "value" "[B" ∈ q_tw := q_w5 (i := 171) rfl rfl
theorem kc_5_172 : Cond.fieldLink RJ0 15 RJ0 "coder" "B" ∈ q_tw := q_w5 (i := 172) rfl rfl
def q_txt : List Nat := [98, 48, 44, 50, 48, 59, 98, 49, 44, 49, 52, 59, 98, 50, 44, 57, 59, 98, 51, 44, 54, 59, 98, 48, 44, 51, 48, 59, 98, 49, 44, 50, 53, 59, 119, 54, 59, 119, 52, 59, 119, 53, 59, 119, 57, 59, 119, 50, 59, 115, 48, 44, 52, 59, 115, 49, 44, 54, 59, 115, 50, 44, 50, 59, 115, 51, 44, 51, 59, 102, 50, 59, 112, 48, 44, 48, 44, 51, 59, 112, 49, 44, 48, 44, 53, 59, 112, 49, 44, 50, 44, 49, 59]
def q_txb : List Int32 := [98, 48, 44, 50, 48, 59, 98, 49, 44, 49, 52, 59, 98, 50, 44, 57, 59, 98, 51, 44, 54, 59, 98, 48, 44, 51, 48, 59, 98, 49, 44, 50, 53, 59, 119, 54, 59, 119, 52, 59, 119, 53, 59, 119, 57, 59, 119, 50, 59, 115, 48, 44, 52, 59, 115, 49, 44, 54, 59, 115, 50, 44, 50, 59, 115, 51, 44, 51, 59, 102, 50, 59, 112, 48, 44, 48, 44, 51, 59, 112, 49, 44, 48, 44, 53, 59, 112, 49, 44, 50, 44, 49, 59]
def k_EA (A : Nat → Prop) (adK adV : Nat → Nat) (U : State) : Prop := vk_S 1 [93] [q_txb] adK adV A U U.heap ∧ (va_Z "java/lang/String" "COMPACT_STRINGS" "Z" (.int 1) A U U.heap ∧ va_Zq "jdk/internal/util/Preconditions" "SIOOBE_FORMATTER" "Ljava/util/function/BiFunction;" A U U.heap)
abbrev k_E (adK adV : Nat → Nat) (U : State) : Prop := k_EA (fun _ => False) adK adV U
theorem k_EA.at {A : Nat → Prop} {adK adV : Nat → Nat} {s U : State} {H : Heap} {locs : List Loc} (hE : k_EA A adK adV s) (hS : va_S A s.heap H locs) (hU : U.heap = H) (hvm : s.vm.Alike U.vm) : k_EA A adK adV U := by
  subst hU
  exact ⟨vk_S.moved hvm (hE.1.kept hS.2.1), va_Z.moved hvm (hE.2.1.kept hS.2.1), va_Zq.moved hvm (hE.2.2.kept hS.2.1)⟩
theorem k_EA.narrow {A B : Nat → Prop} {adK adV : Nat → Nat} {s : State} (hE : k_EA A adK adV s) (h : ∀ q, B q → A q) : k_EA B adK adV s := ⟨hE.1.narrow h, hE.2.1.narrow h, hE.2.2.narrow h⟩
theorem k_EA.call {A : Nat → Prop} {adK adV : Nat → Nat} {U : State} {a : Array Value} {gf : JFrame} {mk : MethodId} (hE : k_EA A adK adV U) : k_EA A adK adV (U.calling gf mk a) := ⟨vk_S.moved (u := U) (U := U.calling gf mk a) (Vm.Alike.refl U.vm) hE.1, va_Z.moved (u := U) (U := U.calling gf mk a) (Vm.Alike.refl U.vm) hE.2.1, va_Zq.moved (u := U) (U := U.calling gf mk a) (Vm.Alike.refl U.vm) hE.2.2⟩
theorem k_Ebl (adK adV : Nat → Nat) (av : List Value) : FrameBlind (va_Pc av (k_E adK adV)) := fun a U gf mk q => ⟨q.1, k_EA.call (a := a) (gf := gf) (mk := mk) q.2⟩
theorem k_Tbl (av : List Value) : FrameBlind (va_Pc av (fun _ => True)) := fun a U gf mk q => ⟨q.1, trivial⟩
abbrev k_Ri (r : Int32) : Array Value → State → Outcome → State → Prop := va_Qi (S := Unit) (fun x _ => x = r) (fun _ _ => True) (fun _ => False)
abbrev k_Rv : Array Value → State → Outcome → State → Prop := va_Qv (S := Unit) (fun _ => True) (fun _ _ => True) (fun _ => False)
def q_chr (k : Nat) : Int32 := (((q_txb.getD k 0) &&& 255).toUInt32 % 65536).toInt32
theorem q_chr_eq : ∀ k, k < 93 → q_chr k = nI (q_txt.getD k 0) := by decide +kernel
theorem q_chr_nar : ∀ k, k < 93 → ((q_chr k).toUInt32 % 65536).toInt32 = q_chr k := by decide +kernel
theorem d_J0_coder_7d493_0 : decode cJ0_coder_7d493 0 = .ok (.getstatic 38, 3) := by decide +kernel
theorem d_J0_coder_7d493_3 : decode cJ0_coder_7d493 3 = .ok (.ifCond .eq 10, 3) := by decide +kernel
theorem d_J0_coder_7d493_6 : decode cJ0_coder_7d493 6 = .ok (.aload_n 0, 1) := by decide +kernel
theorem d_J0_coder_7d493_7 : decode cJ0_coder_7d493 7 = .ok (.getfield 15, 3) := by decide +kernel
theorem d_J0_coder_7d493_10 : decode cJ0_coder_7d493 10 = .ok (.goto 4, 3) := by decide +kernel
theorem d_J0_coder_7d493_13 : decode cJ0_coder_7d493 13 = .ok (.iconst 1, 1) := by decide +kernel
theorem d_J0_coder_7d493_14 : decode cJ0_coder_7d493 14 = .ok (.ireturn, 1) := by decide +kernel
theorem d_J0_isLatin1_aae02_0 : decode cJ0_isLatin1_aae02 0 = .ok (.getstatic 38, 3) := by decide +kernel
theorem d_J0_isLatin1_aae02_3 : decode cJ0_isLatin1_aae02 3 = .ok (.ifCond .eq 14, 3) := by decide +kernel
theorem d_J0_isLatin1_aae02_6 : decode cJ0_isLatin1_aae02 6 = .ok (.aload_n 0, 1) := by decide +kernel
theorem d_J0_isLatin1_aae02_7 : decode cJ0_isLatin1_aae02 7 = .ok (.getfield 15, 3) := by decide +kernel
theorem d_J0_isLatin1_aae02_10 : decode cJ0_isLatin1_aae02 10 = .ok (.ifCond .ne 7, 3) := by decide +kernel
theorem d_J0_isLatin1_aae02_13 : decode cJ0_isLatin1_aae02 13 = .ok (.iconst 1, 1) := by decide +kernel
theorem d_J0_isLatin1_aae02_14 : decode cJ0_isLatin1_aae02 14 = .ok (.goto 4, 3) := by decide +kernel
theorem d_J0_isLatin1_aae02_17 : decode cJ0_isLatin1_aae02 17 = .ok (.iconst 0, 1) := by decide +kernel
theorem d_J0_isLatin1_aae02_18 : decode cJ0_isLatin1_aae02 18 = .ok (.ireturn, 1) := by decide +kernel
theorem d_J0_length_8abf5_0 : decode cJ0_length_8abf5 0 = .ok (.aload_n 0, 1) := by decide +kernel
theorem d_J0_length_8abf5_1 : decode cJ0_length_8abf5 1 = .ok (.getfield 9, 3) := by decide +kernel
theorem d_J0_length_8abf5_4 : decode cJ0_length_8abf5 4 = .ok (.arraylength, 1) := by decide +kernel
theorem d_J0_length_8abf5_5 : decode cJ0_length_8abf5 5 = .ok (.aload_n 0, 1) := by decide +kernel
theorem d_J0_length_8abf5_6 : decode cJ0_length_8abf5 6 = .ok (.invokevirtual 335, 3) := by decide +kernel
theorem d_J0_length_8abf5_9 : decode cJ0_length_8abf5 9 = .ok (.ishr, 1) := by decide +kernel
theorem d_J0_length_8abf5_10 : decode cJ0_length_8abf5 10 = .ok (.ireturn, 1) := by decide +kernel
theorem d_J0_charAt_5068e_0 : decode cJ0_charAt_5068e 0 = .ok (.aload_n 0, 1) := by decide +kernel
theorem d_J0_charAt_5068e_1 : decode cJ0_charAt_5068e 1 = .ok (.invokevirtual 492, 3) := by decide +kernel
theorem d_J0_charAt_5068e_4 : decode cJ0_charAt_5068e 4 = .ok (.ifCond .eq 12, 3) := by decide +kernel
theorem d_J0_charAt_5068e_7 : decode cJ0_charAt_5068e 7 = .ok (.aload_n 0, 1) := by decide +kernel
theorem d_J0_charAt_5068e_8 : decode cJ0_charAt_5068e 8 = .ok (.getfield 9, 3) := by decide +kernel
theorem d_J0_charAt_5068e_11 : decode cJ0_charAt_5068e 11 = .ok (.iload_n 1, 1) := by decide +kernel
theorem d_J0_charAt_5068e_12 : decode cJ0_charAt_5068e 12 = .ok (.invokestatic 495, 3) := by decide +kernel
theorem d_J0_charAt_5068e_15 : decode cJ0_charAt_5068e 15 = .ok (.ireturn, 1) := by decide +kernel
theorem d_J0_charAt_5068e_16 : decode cJ0_charAt_5068e 16 = .ok (.aload_n 0, 1) := by decide +kernel
theorem d_J0_charAt_5068e_17 : decode cJ0_charAt_5068e 17 = .ok (.getfield 9, 3) := by decide +kernel
theorem d_J0_charAt_5068e_20 : decode cJ0_charAt_5068e 20 = .ok (.iload_n 1, 1) := by decide +kernel
theorem d_J0_charAt_5068e_21 : decode cJ0_charAt_5068e 21 = .ok (.invokestatic 498, 3) := by decide +kernel
theorem d_J0_charAt_5068e_24 : decode cJ0_charAt_5068e 24 = .ok (.ireturn, 1) := by decide +kernel
theorem d_J0_checkIndex_df160_0 : decode cJ0_checkIndex_df160 0 = .ok (.iload_n 0, 1) := by decide +kernel
theorem d_J0_checkIndex_df160_1 : decode cJ0_checkIndex_df160 1 = .ok (.iload_n 1, 1) := by decide +kernel
theorem d_J0_checkIndex_df160_2 : decode cJ0_checkIndex_df160 2 = .ok (.getstatic 1053, 3) := by decide +kernel
theorem d_J0_checkIndex_df160_5 : decode cJ0_checkIndex_df160 5 = .ok (.invokestatic 1059, 3) := by decide +kernel
theorem d_J0_checkIndex_df160_8 : decode cJ0_checkIndex_df160 8 = .ok (.pop, 1) := by decide +kernel
theorem d_J0_checkIndex_df160_9 : decode cJ0_checkIndex_df160 9 = .ok (.return_, 1) := by decide +kernel
theorem d_J1_charAt_3b067_0 : decode cJ1_charAt_3b067 0 = .ok (.iload_n 1, 1) := by decide +kernel
theorem d_J1_charAt_3b067_1 : decode cJ1_charAt_3b067 1 = .ok (.aload_n 0, 1) := by decide +kernel
theorem d_J1_charAt_3b067_2 : decode cJ1_charAt_3b067 2 = .ok (.arraylength, 1) := by decide +kernel
theorem d_J1_charAt_3b067_3 : decode cJ1_charAt_3b067 3 = .ok (.invokestatic 9, 3) := by decide +kernel
theorem d_J1_charAt_3b067_6 : decode cJ1_charAt_3b067 6 = .ok (.aload_n 0, 1) := by decide +kernel
theorem d_J1_charAt_3b067_7 : decode cJ1_charAt_3b067 7 = .ok (.iload_n 1, 1) := by decide +kernel
theorem d_J1_charAt_3b067_8 : decode cJ1_charAt_3b067 8 = .ok (.baload, 1) := by decide +kernel
theorem d_J1_charAt_3b067_9 : decode cJ1_charAt_3b067 9 = .ok (.sipush 255, 3) := by decide +kernel
theorem d_J1_charAt_3b067_12 : decode cJ1_charAt_3b067 12 = .ok (.iand, 1) := by decide +kernel
theorem d_J1_charAt_3b067_13 : decode cJ1_charAt_3b067 13 = .ok (.i2c, 1) := by decide +kernel
theorem d_J1_charAt_3b067_14 : decode cJ1_charAt_3b067 14 = .ok (.ireturn, 1) := by decide +kernel
theorem d_J3_checkIndex_8e157_0 : decode cJ3_checkIndex_8e157 0 = .ok (.iload_n 0, 1) := by decide +kernel
theorem d_J3_checkIndex_8e157_1 : decode cJ3_checkIndex_8e157 1 = .ok (.ifCond .lt 8, 3) := by decide +kernel
theorem d_J3_checkIndex_8e157_4 : decode cJ3_checkIndex_8e157 4 = .ok (.iload_n 0, 1) := by decide +kernel
theorem d_J3_checkIndex_8e157_5 : decode cJ3_checkIndex_8e157 5 = .ok (.iload_n 1, 1) := by decide +kernel
theorem d_J3_checkIndex_8e157_6 : decode cJ3_checkIndex_8e157 6 = .ok (.if_icmp .lt 10, 3) := by decide +kernel
theorem d_J3_checkIndex_8e157_9 : decode cJ3_checkIndex_8e157 9 = .ok (.aload_n 2, 1) := by decide +kernel
theorem d_J3_checkIndex_8e157_10 : decode cJ3_checkIndex_8e157 10 = .ok (.iload_n 0, 1) := by decide +kernel
theorem d_J3_checkIndex_8e157_11 : decode cJ3_checkIndex_8e157 11 = .ok (.iload_n 1, 1) := by decide +kernel
theorem d_J3_checkIndex_8e157_12 : decode cJ3_checkIndex_8e157 12 = .ok (.invokestatic 95, 3) := by decide +kernel
theorem d_J3_checkIndex_8e157_15 : decode cJ3_checkIndex_8e157 15 = .ok (.athrow, 1) := by decide +kernel
theorem d_J3_checkIndex_8e157_16 : decode cJ3_checkIndex_8e157 16 = .ok (.iload_n 0, 1) := by decide +kernel
theorem d_J3_checkIndex_8e157_17 : decode cJ3_checkIndex_8e157 17 = .ok (.ireturn, 1) := by decide +kernel
set_option maxHeartbeats 4000000 in
set_option maxRecDepth 100000 in
theorem c_coder (l : Launch) (adK adV : Nat → Nat) : Met l yJ0_coder_7d493 (k_ws yJ0_coder_7d493 cJ0_coder_7d493 1 (some .byte)) ({ frames := 1, cells := 0, slots := 0, locals := 40 }) (va_Pc [.ref (adK 0)] (k_E adK adV)) (k_Ri (nI 0)) 0 0 (fun _ => False) := by
  refine Met.ofW (cc := cJ0_coder_7d493) (maxL := 1) (ret := some .byte) (by decide) rfl ?_
  intro p e s m args below meth c s₁ B hml hv
  obtain ⟨rfl, hE⟩ := hv
  have hx := B.exec
  have hb := B.bytes
  have hr := B.returns
  have hts0 := atoms_spec (ws := k_ws yJ0_coder_7d493 cJ0_coder_7d493 1 (some .byte)) B.pre
  have hts : ∀ w ∈ q_tw, w.before _ s = true := fun w h => hts0 w (List.mem_cons_of_mem _ h)
  have hown : s.vm.findClass RJ0 = some m.cls := findClass_of_methodNamed B.named
  have hS : va_S (fun _ => False) s.heap s.heap [] := va_S.rf
  have hl := lv_entry ([.ref (adK 0)]) (n := 1) (Nat.le_of_ble_eq_true rfl)
  rw [lg_entry_eq]
  generalize (lg_sl ([.ref (adK 0)]) ++ List.replicate (1 - (lg_sl ([.ref (adK 0)])).length) Slot.unset).toArray = ls at hl ⊢
  have hl : lv_has ls 1 [(0, .ref (adK 0))] := hl
  refine va_gets (v := .int (nI 1)) hx hb hE.2.1 hS hown (hts _ kc_1_218) (fun _ h9 => h9) d_J0_coder_7d493_0 ?_
  refine lv_if_eq (tgt := 13) hx hb d_J0_coder_7d493_3 (by decide) (fun k => absurd k (by decide)) (fun _ => ?_)
  refine lv_aload_n hx hb d_J0_coder_7d493_6 rfl (lv_at hl 0 rfl) ?_
  refine vk_getf (v := .int (nI 0)) hx hb (hE.1.1 0 (by decide)).2.1 hS hown (hts _ kc_5_172) (fun _ h9 => h9) d_J0_coder_7d493_7 ?_
  refine lv_goto (tgt := 14) hx hb d_J0_coder_7d493_10 (by decide) ?_
  exact W.zret hx hb hr rfl (fun t ht _ => ⟨⟨_, (), rfl, rfl, trivial⟩, hS.F ht⟩) hS.2.2 d_J0_coder_7d493_14
set_option maxHeartbeats 4000000 in
set_option maxRecDepth 100000 in
theorem c_isLatin1 (l : Launch) (adK adV : Nat → Nat) : Met l yJ0_isLatin1_aae02 (k_ws yJ0_isLatin1_aae02 cJ0_isLatin1_aae02 1 (some .boolean)) ({ frames := 1, cells := 0, slots := 0, locals := 40 }) (va_Pc [.ref (adK 0)] (k_E adK adV)) (k_Ri (nI 1)) 0 0 (fun _ => False) := by
  refine Met.ofW (cc := cJ0_isLatin1_aae02) (maxL := 1) (ret := some .boolean) (by decide) rfl ?_
  intro p e s m args below meth c s₁ B hml hv
  obtain ⟨rfl, hE⟩ := hv
  have hx := B.exec
  have hb := B.bytes
  have hr := B.returns
  have hts0 := atoms_spec (ws := k_ws yJ0_isLatin1_aae02 cJ0_isLatin1_aae02 1 (some .boolean)) B.pre
  have hts : ∀ w ∈ q_tw, w.before _ s = true := fun w h => hts0 w (List.mem_cons_of_mem _ h)
  have hown : s.vm.findClass RJ0 = some m.cls := findClass_of_methodNamed B.named
  have hS : va_S (fun _ => False) s.heap s.heap [] := va_S.rf
  have hl := lv_entry ([.ref (adK 0)]) (n := 1) (Nat.le_of_ble_eq_true rfl)
  rw [lg_entry_eq]
  generalize (lg_sl ([.ref (adK 0)]) ++ List.replicate (1 - (lg_sl ([.ref (adK 0)])).length) Slot.unset).toArray = ls at hl ⊢
  have hl : lv_has ls 1 [(0, .ref (adK 0))] := hl
  refine va_gets (v := .int (nI 1)) hx hb hE.2.1 hS hown (hts _ kc_1_218) (fun _ h9 => h9) d_J0_isLatin1_aae02_0 ?_
  refine lv_if_eq (tgt := 17) hx hb d_J0_isLatin1_aae02_3 (by decide) (fun k => absurd k (by decide)) (fun _ => ?_)
  refine lv_aload_n hx hb d_J0_isLatin1_aae02_6 rfl (lv_at hl 0 rfl) ?_
  refine vk_getf (v := .int (nI 0)) hx hb (hE.1.1 0 (by decide)).2.1 hS hown (hts _ kc_5_172) (fun _ h9 => h9) d_J0_isLatin1_aae02_7 ?_
  refine lv_if_ne (tgt := 17) hx hb d_J0_isLatin1_aae02_10 (by decide) (fun k => absurd (show nI 0 = 0 by decide) k) (fun _ => ?_)
  refine lv_iconst (v := nI 1) hx hb d_J0_isLatin1_aae02_13 (by decide) ?_
  refine lv_goto (tgt := 18) hx hb d_J0_isLatin1_aae02_14 (by decide) ?_
  exact W.zret hx hb hr rfl (fun t ht _ => ⟨⟨_, (), rfl, rfl, trivial⟩, hS.F ht⟩) hS.2.2 d_J0_isLatin1_aae02_18
set_option maxHeartbeats 4000000 in
set_option maxRecDepth 100000 in
theorem c_length (l : Launch) (adK adV : Nat → Nat) : Met l yJ0_length_8abf5 (k_ws yJ0_length_8abf5 cJ0_length_8abf5 1 (some .int)) ({ frames := 2, cells := 0, slots := 0, locals := 80 }) (va_Pc [.ref (adK 0)] (k_E adK adV)) (k_Ri (nI 93)) 0 0 (fun _ => False) := by
  refine Met.ofW (cc := cJ0_length_8abf5) (maxL := 1) (ret := some .int) (by decide) rfl ?_
  intro p e s m args below meth c s₁ B hml hv
  obtain ⟨rfl, hE⟩ := hv
  have hx := B.exec
  have hb := B.bytes
  have hr := B.returns
  have hts0 := atoms_spec (ws := k_ws yJ0_length_8abf5 cJ0_length_8abf5 1 (some .int)) B.pre
  have hts : ∀ w ∈ q_tw, w.before _ s = true := fun w h => hts0 w (List.mem_cons_of_mem _ h)
  have hown : s.vm.findClass RJ0 = some m.cls := findClass_of_methodNamed B.named
  have hS : va_S (fun _ => False) s.heap s.heap [] := va_S.rf
  have hl := lv_entry ([.ref (adK 0)]) (n := 1) (Nat.le_of_ble_eq_true rfl)
  rw [lg_entry_eq]
  generalize (lg_sl ([.ref (adK 0)]) ++ List.replicate (1 - (lg_sl ([.ref (adK 0)])).length) Slot.unset).toArray = ls at hl ⊢
  have hl : lv_has ls 1 [(0, .ref (adK 0))] := hl
  refine lv_aload_n hx hb d_J0_length_8abf5_0 rfl (lv_at hl 0 rfl) ?_
  refine vk_getf (v := .ref (adV 0)) hx hb (hE.1.1 0 (by decide)).2.2.1 hS hown (hts _ kc_5_171) (fun _ h9 => h9) d_J0_length_8abf5_1 ?_
  refine va_tlen (v := nI 93) hx hb (hE.1.1 0 (by decide)).2.2.2 hS rfl d_J0_length_8abf5_4 ?_
  refine lv_aload_n hx hb d_J0_length_8abf5_5 rfl (lv_at hl 0 rfl) ?_
  refine va_calli (va_runV (C := RJ0) (b := adK 0) (As := []) (rest := [.int (nI 93)]) (n := 0) ⟨hx, hb, hml, hown, hts⟩ (c_coder l adK adV) ⟨callB_of 0 hts (k_good kc_1_217) rfl rfl rfl (hts _ kc_1_8) (hts _ kc_1_214) (by decide +kernel) ⟨Nat.le_of_ble_eq_true rfl, Nat.le_of_ble_eq_true rfl⟩, hts _ kc_1_215, hts _ kc_1_216⟩ ⟨k_Ebl adK adV _, vk_recv hE.1 (by decide) hS, fun U hU hW => ⟨rfl, hE.at hS hU hW.alike⟩⟩ rfl rfl hl.1 rfl (lv_room (Nat.le_of_ble_eq_true rfl)) d_J0_length_8abf5_6 ⟨Nat.le_refl _, Nat.le_refl _⟩) hS (fun _ _ h => h) (fun _ h => h) (fun r u t H locs ht hvm hw hB hz1 hk1 hS => ?_)
  subst hw
  refine lv_ishr hx hb d_J0_length_8abf5_9 ?_
  have e9 : nI 93 >>> (nI 0 &&& 31) = nI 93 := by decide
  rw [e9]
  exact W.zret hx hb hr rfl (fun t ht _ => ⟨⟨_, (), rfl, rfl, trivial⟩, hS.F ht⟩) hS.2.2 d_J0_length_8abf5_10
set_option maxHeartbeats 4000000 in
set_option maxRecDepth 100000 in
theorem c_preN (l : Launch) (i n : Nat) (hi : i < n) (hn : n < 1000) : Met l yJ3_checkIndex_8e157 (k_ws yJ3_checkIndex_8e157 cJ3_checkIndex_8e157 3 (some .int)) ({ frames := 1, cells := 0, slots := 0, locals := 40 }) (va_Pc [.int (nI i), .int (nI n), .null] (fun _ => True)) (k_Ri (nI i)) 0 0 (fun _ => False) := by
  refine Met.ofW (cc := cJ3_checkIndex_8e157) (maxL := 3) (ret := some .int) (by decide) rfl ?_
  intro p e s m args below meth c s₁ B hml hv
  obtain ⟨rfl, hE⟩ := hv
  have hx := B.exec
  have hb := B.bytes
  have hr := B.returns
  have hts0 := atoms_spec (ws := k_ws yJ3_checkIndex_8e157 cJ3_checkIndex_8e157 3 (some .int)) B.pre
  have hts : ∀ w ∈ q_tw, w.before _ s = true := fun w h => hts0 w (List.mem_cons_of_mem _ h)
  have hown : s.vm.findClass RJ3 = some m.cls := findClass_of_methodNamed B.named
  have hS : va_S (fun _ => False) s.heap s.heap [] := va_S.rf
  have hl := lv_entry ([.int (nI i), .int (nI n), .null]) (n := 3) (Nat.le_of_ble_eq_true rfl)
  rw [lg_entry_eq]
  generalize (lg_sl ([.int (nI i), .int (nI n), .null]) ++ List.replicate (3 - (lg_sl ([.int (nI i), .int (nI n), .null])).length) Slot.unset).toArray = ls at hl ⊢
  have hl : lv_has ls 3 [(0, .int (nI i)), (1, .int (nI n)), (2, .null)] := hl
  refine lv_iload_n hx hb d_J3_checkIndex_8e157_0 rfl (lv_at hl 0 rfl) ?_
  refine lv_if_lt (tgt := 9) hx hb d_J3_checkIndex_8e157_1 (by decide) (fun k => absurd k (nI_pos (by omega))) (fun _ => ?_)
  refine lv_iload_n hx hb d_J3_checkIndex_8e157_4 rfl (lv_at hl 0 rfl) ?_
  refine lv_iload_n hx hb d_J3_checkIndex_8e157_5 rfl (lv_at hl 1 rfl) ?_
  refine lv_icmp_lt (tgt := 16) hx hb d_J3_checkIndex_8e157_6 (by decide) (fun _ => ?_) (fun k => absurd ((nI_ltI (by omega) (by omega)).mpr hi) k)
  refine lv_iload_n hx hb d_J3_checkIndex_8e157_16 rfl (lv_at hl 0 rfl) ?_
  exact W.zret hx hb hr rfl (fun t ht _ => ⟨⟨_, (), rfl, rfl, trivial⟩, hS.F ht⟩) hS.2.2 d_J3_checkIndex_8e157_17
set_option maxHeartbeats 4000000 in
set_option maxRecDepth 100000 in
theorem c_preR (l : Launch) (t : Nat) (i n : Nat) (hi : i < n) (hn : n < 1000) : Met l yJ3_checkIndex_8e157 (k_ws yJ3_checkIndex_8e157 cJ3_checkIndex_8e157 3 (some .int)) ({ frames := 1, cells := 0, slots := 0, locals := 40 }) (va_Pc [.int (nI i), .int (nI n), .ref t] (fun _ => True)) (k_Ri (nI i)) 0 0 (fun _ => False) := by
  refine Met.ofW (cc := cJ3_checkIndex_8e157) (maxL := 3) (ret := some .int) (by decide) rfl ?_
  intro p e s m args below meth c s₁ B hml hv
  obtain ⟨rfl, hE⟩ := hv
  have hx := B.exec
  have hb := B.bytes
  have hr := B.returns
  have hts0 := atoms_spec (ws := k_ws yJ3_checkIndex_8e157 cJ3_checkIndex_8e157 3 (some .int)) B.pre
  have hts : ∀ w ∈ q_tw, w.before _ s = true := fun w h => hts0 w (List.mem_cons_of_mem _ h)
  have hown : s.vm.findClass RJ3 = some m.cls := findClass_of_methodNamed B.named
  have hS : va_S (fun _ => False) s.heap s.heap [] := va_S.rf
  have hl := lv_entry ([.int (nI i), .int (nI n), .ref t]) (n := 3) (Nat.le_of_ble_eq_true rfl)
  rw [lg_entry_eq]
  generalize (lg_sl ([.int (nI i), .int (nI n), .ref t]) ++ List.replicate (3 - (lg_sl ([.int (nI i), .int (nI n), .ref t])).length) Slot.unset).toArray = ls at hl ⊢
  have hl : lv_has ls 3 [(0, .int (nI i)), (1, .int (nI n)), (2, .ref t)] := hl
  refine lv_iload_n hx hb d_J3_checkIndex_8e157_0 rfl (lv_at hl 0 rfl) ?_
  refine lv_if_lt (tgt := 9) hx hb d_J3_checkIndex_8e157_1 (by decide) (fun k => absurd k (nI_pos (by omega))) (fun _ => ?_)
  refine lv_iload_n hx hb d_J3_checkIndex_8e157_4 rfl (lv_at hl 0 rfl) ?_
  refine lv_iload_n hx hb d_J3_checkIndex_8e157_5 rfl (lv_at hl 1 rfl) ?_
  refine lv_icmp_lt (tgt := 16) hx hb d_J3_checkIndex_8e157_6 (by decide) (fun _ => ?_) (fun k => absurd ((nI_ltI (by omega) (by omega)).mpr hi) k)
  refine lv_iload_n hx hb d_J3_checkIndex_8e157_16 rfl (lv_at hl 0 rfl) ?_
  exact W.zret hx hb hr rfl (fun t ht _ => ⟨⟨_, (), rfl, rfl, trivial⟩, hS.F ht⟩) hS.2.2 d_J3_checkIndex_8e157_17
set_option maxHeartbeats 4000000 in
set_option maxRecDepth 100000 in
theorem c_chk (l : Launch) (adK adV : Nat → Nat) (i n : Nat) (hi : i < n) (hn : n < 1000) : Met l yJ0_checkIndex_df160 (k_ws yJ0_checkIndex_df160 cJ0_checkIndex_df160 2 (none)) ({ frames := 2, cells := 0, slots := 0, locals := 80 }) (va_Pc [.int (nI i), .int (nI n)] (k_E adK adV)) k_Rv 0 0 (fun _ => False) := by
  refine Met.ofW (cc := cJ0_checkIndex_df160) (maxL := 2) (ret := none) (by decide) rfl ?_
  intro p e s m args below meth c s₁ B hml hv
  obtain ⟨rfl, hE⟩ := hv
  have hx := B.exec
  have hb := B.bytes
  have hr := B.returns
  have hts0 := atoms_spec (ws := k_ws yJ0_checkIndex_df160 cJ0_checkIndex_df160 2 (none)) B.pre
  have hts : ∀ w ∈ q_tw, w.before _ s = true := fun w h => hts0 w (List.mem_cons_of_mem _ h)
  have hown : s.vm.findClass RJ0 = some m.cls := findClass_of_methodNamed B.named
  have hS : va_S (fun _ => False) s.heap s.heap [] := va_S.rf
  have hl := lv_entry ([.int (nI i), .int (nI n)]) (n := 2) (Nat.le_of_ble_eq_true rfl)
  rw [lg_entry_eq]
  generalize (lg_sl ([.int (nI i), .int (nI n)]) ++ List.replicate (2 - (lg_sl ([.int (nI i), .int (nI n)])).length) Slot.unset).toArray = ls at hl ⊢
  have hl : lv_has ls 2 [(0, .int (nI i)), (1, .int (nI n))] := hl
  refine lv_iload_n hx hb d_J0_checkIndex_df160_0 rfl (lv_at hl 0 rfl) ?_
  refine lv_iload_n hx hb d_J0_checkIndex_df160_1 rfl (lv_at hl 1 rfl) ?_
  rcases hE.2.2 with hz | ⟨t, hz⟩
  · refine va_gets (v := .null) hx hb hz hS hown (hts _ kc_1_234) (fun _ h9 => h9) d_J0_checkIndex_df160_2 ?_
    refine va_calli (va_runS (As := [.int (nI i), .int (nI n), .null]) (rest := []) (n := 3) ⟨hx, hb, hml, hown, hts⟩ (c_preN l i n hi hn) ⟨callB_of 3 hts (k_good kc_1_238) rfl rfl rfl (hts _ kc_1_10) (hts _ kc_1_236) (by decide +kernel) ⟨Nat.le_of_ble_eq_true rfl, Nat.le_of_ble_eq_true rfl⟩, hts _ kc_1_237⟩ ⟨k_Tbl _, fun U hU hW => ⟨rfl, trivial⟩⟩ rfl rfl hl.1 rfl (lv_room (Nat.le_of_ble_eq_true rfl)) d_J0_checkIndex_df160_5 ⟨Nat.le_refl _, Nat.le_refl _⟩) hS (fun _ _ h => h) (fun _ h => h) (fun r u t9 H locs ht hvm hw hB hz1 hk1 hS => ?_)
    refine lv_pop hx hb d_J0_checkIndex_df160_8 rfl ?_
    exact W.vret hx hb hr (fun t ht _ => ⟨⟨(), rfl, trivial, trivial⟩, hS.F ht⟩) hS.2.2 d_J0_checkIndex_df160_9
  · refine va_gets (v := .ref t) hx hb hz hS hown (hts _ kc_1_234) (fun _ h9 => h9) d_J0_checkIndex_df160_2 ?_
    refine va_calli (va_runS (As := [.int (nI i), .int (nI n), .ref t]) (rest := []) (n := 3) ⟨hx, hb, hml, hown, hts⟩ (c_preR l t i n hi hn) ⟨callB_of 3 hts (k_good kc_1_238) rfl rfl rfl (hts _ kc_1_10) (hts _ kc_1_236) (by decide +kernel) ⟨Nat.le_of_ble_eq_true rfl, Nat.le_of_ble_eq_true rfl⟩, hts _ kc_1_237⟩ ⟨k_Tbl _, fun U hU hW => ⟨rfl, trivial⟩⟩ rfl rfl hl.1 rfl (lv_room (Nat.le_of_ble_eq_true rfl)) d_J0_checkIndex_df160_5 ⟨Nat.le_refl _, Nat.le_refl _⟩) hS (fun _ _ h => h) (fun _ h => h) (fun r u t9 H locs ht hvm hw hB hz1 hk1 hS => ?_)
    refine lv_pop hx hb d_J0_checkIndex_df160_8 rfl ?_
    exact W.vret hx hb hr (fun t ht _ => ⟨⟨(), rfl, trivial, trivial⟩, hS.F ht⟩) hS.2.2 d_J0_checkIndex_df160_9
set_option maxHeartbeats 4000000 in
set_option maxRecDepth 100000 in
theorem c_lat (l : Launch) (adK adV : Nat → Nat) (k : Nat) (hk : k < 93) : Met l yJ1_charAt_3b067 (k_ws yJ1_charAt_3b067 cJ1_charAt_3b067 2 (some .char)) ({ frames := 3, cells := 0, slots := 0, locals := 120 }) (va_Pc [.ref (adV 0), .int (nI k)] (k_E adK adV)) (k_Ri (q_chr k)) 0 0 (fun _ => False) := by
  refine Met.ofW (cc := cJ1_charAt_3b067) (maxL := 2) (ret := some .char) (by decide) rfl ?_
  intro p e s m args below meth c s₁ B hml hv
  obtain ⟨rfl, hE⟩ := hv
  have hx := B.exec
  have hb := B.bytes
  have hr := B.returns
  have hts0 := atoms_spec (ws := k_ws yJ1_charAt_3b067 cJ1_charAt_3b067 2 (some .char)) B.pre
  have hts : ∀ w ∈ q_tw, w.before _ s = true := fun w h => hts0 w (List.mem_cons_of_mem _ h)
  have hown : s.vm.findClass RJ1 = some m.cls := findClass_of_methodNamed B.named
  have hS : va_S (fun _ => False) s.heap s.heap [] := va_S.rf
  have hl := lv_entry ([.ref (adV 0), .int (nI k)]) (n := 2) (Nat.le_of_ble_eq_true rfl)
  rw [lg_entry_eq]
  generalize (lg_sl ([.ref (adV 0), .int (nI k)]) ++ List.replicate (2 - (lg_sl ([.ref (adV 0), .int (nI k)])).length) Slot.unset).toArray = ls at hl ⊢
  have hl : lv_has ls 2 [(0, .ref (adV 0)), (1, .int (nI k))] := hl
  refine lv_iload_n hx hb d_J1_charAt_3b067_0 rfl (lv_at hl 1 rfl) ?_
  refine lv_aload_n hx hb d_J1_charAt_3b067_1 rfl (lv_at hl 0 rfl) ?_
  refine va_tlen (v := nI 93) hx hb (hE.1.1 0 (by decide)).2.2.2 hS rfl d_J1_charAt_3b067_2 ?_
  refine va_callv (va_runS (As := [.int (nI k), .int (nI 93)]) (rest := []) (n := 2) ⟨hx, hb, hml, hown, hts⟩ (c_chk l adK adV k 93 hk (by decide)) ⟨callB_of 2 hts (k_good kc_1_233) rfl rfl rfl (hts _ kc_1_8) (hts _ kc_1_231) (by decide +kernel) ⟨Nat.le_of_ble_eq_true rfl, Nat.le_of_ble_eq_true rfl⟩, hts _ kc_1_232⟩ ⟨k_Ebl adK adV _, fun U hU hW => ⟨rfl, hE.at hS hU hW.alike⟩⟩ rfl rfl hl.1 rfl (lv_room (Nat.le_of_ble_eq_true rfl)) d_J1_charAt_3b067_3 ⟨Nat.le_refl _, Nat.le_refl _⟩) hS (fun _ _ h => h) (fun _ h => h) (fun u t9 H locs ht hvm hw hB hz1 hk1 hS => ?_)
  refine lv_aload_n hx hb d_J1_charAt_3b067_6 rfl (lv_at hl 0 rfl) ?_
  refine lv_iload_n hx hb d_J1_charAt_3b067_7 rfl (lv_at hl 1 rfl) ?_
  refine va_tb (v := .int (q_txb.getD k 0)) hx hb (hE.1.1 0 (by decide)).2.2.2 hS (vp_in_nI hk (by decide)) (by rw [nI_clamp (by omega)]; rfl) d_J1_charAt_3b067_8 ?_
  refine lv_sipush (v := nI 255) hx hb d_J1_charAt_3b067_9 (by decide) ?_
  refine lv_iand hx hb d_J1_charAt_3b067_12 ?_
  refine lv_i2c (v := q_chr k) hx hb d_J1_charAt_3b067_13 rfl ?_
  exact W.zret hx hb hr (congrArg Value.int (q_chr_nar k hk)) (fun t ht _ => ⟨⟨_, (), rfl, rfl, trivial⟩, hS.F ht⟩) hS.2.2 d_J1_charAt_3b067_14
set_option maxHeartbeats 4000000 in
set_option maxRecDepth 100000 in
theorem c_charAt (l : Launch) (adK adV : Nat → Nat) (k : Nat) (hk : k < 93) : Met l yJ0_charAt_5068e (k_ws yJ0_charAt_5068e cJ0_charAt_5068e 2 (some .char)) ({ frames := 4, cells := 0, slots := 0, locals := 160 }) (va_Pc [.ref (adK 0), .int (nI k)] (k_E adK adV)) (k_Ri (q_chr k)) 0 0 (fun _ => False) := by
  refine Met.ofW (cc := cJ0_charAt_5068e) (maxL := 2) (ret := some .char) (by decide) rfl ?_
  intro p e s m args below meth c s₁ B hml hv
  obtain ⟨rfl, hE⟩ := hv
  have hx := B.exec
  have hb := B.bytes
  have hr := B.returns
  have hts0 := atoms_spec (ws := k_ws yJ0_charAt_5068e cJ0_charAt_5068e 2 (some .char)) B.pre
  have hts : ∀ w ∈ q_tw, w.before _ s = true := fun w h => hts0 w (List.mem_cons_of_mem _ h)
  have hown : s.vm.findClass RJ0 = some m.cls := findClass_of_methodNamed B.named
  have hS : va_S (fun _ => False) s.heap s.heap [] := va_S.rf
  have hl := lv_entry ([.ref (adK 0), .int (nI k)]) (n := 2) (Nat.le_of_ble_eq_true rfl)
  rw [lg_entry_eq]
  generalize (lg_sl ([.ref (adK 0), .int (nI k)]) ++ List.replicate (2 - (lg_sl ([.ref (adK 0), .int (nI k)])).length) Slot.unset).toArray = ls at hl ⊢
  have hl : lv_has ls 2 [(0, .ref (adK 0)), (1, .int (nI k))] := hl
  refine lv_aload_n hx hb d_J0_charAt_5068e_0 rfl (lv_at hl 0 rfl) ?_
  refine va_calli (va_runV (C := RJ0) (b := adK 0) (As := []) (rest := []) (n := 0) ⟨hx, hb, hml, hown, hts⟩ (c_isLatin1 l adK adV) ⟨callB_of 0 hts (k_good kc_1_227) rfl rfl rfl (hts _ kc_1_8) (hts _ kc_1_224) (by decide +kernel) ⟨Nat.le_of_ble_eq_true rfl, Nat.le_of_ble_eq_true rfl⟩, hts _ kc_1_225, hts _ kc_1_226⟩ ⟨k_Ebl adK adV _, vk_recv hE.1 (by decide) hS, fun U hU hW => ⟨rfl, hE.at hS hU hW.alike⟩⟩ rfl rfl hl.1 rfl (lv_room (Nat.le_of_ble_eq_true rfl)) d_J0_charAt_5068e_1 ⟨Nat.le_refl _, Nat.le_refl _⟩) hS (fun _ _ h => h) (fun _ h => h) (fun r u t H locs ht hvm hw hB hz1 hk1 hS => ?_)
  subst hw
  refine lv_if_eq (tgt := 16) hx hb d_J0_charAt_5068e_4 (by decide) (fun k => absurd k (by decide)) (fun _ => ?_)
  refine lv_aload_n hx hb d_J0_charAt_5068e_7 rfl (lv_at hl 0 rfl) ?_
  refine vk_getf (v := .ref (adV 0)) hx hb (hE.1.1 0 (by decide)).2.2.1 hS hown (hts _ kc_5_171) (fun _ h9 => h9) d_J0_charAt_5068e_8 ?_
  refine lv_iload_n hx hb d_J0_charAt_5068e_11 rfl (lv_at hl 1 rfl) ?_
  refine va_calli (va_runS (As := [.ref (adV 0), .int (nI k)]) (rest := []) (n := 2) ⟨hx, hb, hml, hown, hts⟩ (c_lat l adK adV k hk) ⟨callB_of 2 hts (k_good kc_1_230) rfl rfl rfl (hts _ kc_1_9) (hts _ kc_1_228) (by decide +kernel) ⟨Nat.le_of_ble_eq_true rfl, Nat.le_of_ble_eq_true rfl⟩, hts _ kc_1_229⟩ ⟨k_Ebl adK adV _, fun U hU hW => ⟨rfl, hE.at hS hU hW.alike⟩⟩ rfl rfl hl.1 rfl (lv_room (Nat.le_of_ble_eq_true rfl)) d_J0_charAt_5068e_12 ⟨Nat.le_refl _, Nat.le_refl _⟩) hS (fun _ _ h => h) (fun _ h => h) (fun r u t9 H locs ht hvm hw hB hz1 hk1 hS => ?_)
  subst hw
  exact W.zret hx hb hr (congrArg Value.int (q_chr_nar k hk)) (fun t ht _ => ⟨⟨_, (), rfl, rfl, trivial⟩, hS.F ht⟩) hS.2.2 d_J0_charAt_5068e_15
