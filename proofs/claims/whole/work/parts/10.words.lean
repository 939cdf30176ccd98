theorem inl_X0 : ∀ k, k < 12 → u_lay RX0 TX0 k ∈ q_tw := fun k hk => match k, hk with
  | 0, _ => q_w1 (i := 82) rfl rfl
  | 1, _ => q_w1 (i := 84) rfl rfl
  | 2, _ => q_w1 (i := 86) rfl rfl
  | 3, _ => q_w1 (i := 88) rfl rfl
  | 4, _ => q_w1 (i := 90) rfl rfl
  | 5, _ => q_w1 (i := 92) rfl rfl
  | 6, _ => q_w1 (i := 94) rfl rfl
  | 7, _ => q_w1 (i := 96) rfl rfl
  | 8, _ => q_w1 (i := 98) rfl rfl
  | 9, _ => q_w1 (i := 100) rfl rfl
  | 10, _ => q_w1 (i := 102) rfl rfl
  | 11, _ => q_w1 (i := 104) rfl rfl
  | k + 12, h => absurd h (by omega)
theorem in_X0 : ∀ w ∈ u_ws RX0 TX0 12, w ∈ q_tw := fun w hw => by
  obtain ⟨k, hk, rfl⟩ := List.mem_map.mp hw
  exact inl_X0 k (List.mem_range.mp hk)
theorem n_X0 : ∀ k, q_cio k = 0 → q_nf k = 12 := fun k h => by
  obtain ⟨h1, h2⟩ := q_cio_lt (by omega) h
  have : ∀ k, k < 10 → q_cio k = 0 → q_nf k = 12 := by decide +kernel
  exact this k h1 h
theorem inl_X1 : ∀ k, k < 5 → u_lay RX1 TX1 k ∈ q_tw := fun k hk => match k, hk with
  | 0, _ => q_w1 (i := 198) rfl rfl
  | 1, _ => q_w1 (i := 200) rfl rfl
  | 2, _ => q_w1 (i := 202) rfl rfl
  | 3, _ => q_w1 (i := 204) rfl rfl
  | 4, _ => q_w1 (i := 206) rfl rfl
  | k + 5, h => absurd h (by omega)
theorem in_X1 : ∀ w ∈ u_ws RX1 TX1 5, w ∈ q_tw := fun w hw => by
  obtain ⟨k, hk, rfl⟩ := List.mem_map.mp hw
  exact inl_X1 k (List.mem_range.mp hk)
theorem n_X1 : ∀ k, q_cio k = 1 → q_nf k = 5 := fun k h => by
  obtain ⟨h1, h2⟩ := q_cio_lt (by omega) h
  have : ∀ k, k < 10 → q_cio k = 1 → q_nf k = 5 := by decide +kernel
  exact this k h1 h
theorem inl_X2 : ∀ k, k < 3 → u_lay RX2 TX2 k ∈ q_tw := fun k hk => match k, hk with
  | 0, _ => q_w1 (i := 161) rfl rfl
  | 1, _ => q_w1 (i := 163) rfl rfl
  | 2, _ => q_w1 (i := 165) rfl rfl
  | k + 3, h => absurd h (by omega)
theorem in_X2 : ∀ w ∈ u_ws RX2 TX2 3, w ∈ q_tw := fun w hw => by
  obtain ⟨k, hk, rfl⟩ := List.mem_map.mp hw
  exact inl_X2 k (List.mem_range.mp hk)
theorem n_X2 : ∀ k, q_cio k = 2 → q_nf k = 3 := fun k h => by
  obtain ⟨h1, h2⟩ := q_cio_lt (by omega) h
  have : ∀ k, k < 10 → q_cio k = 2 → q_nf k = 3 := by decide +kernel
  exact this k h1 h
theorem inl_X3 : ∀ k, k < 8 → u_lay RX3 TX3 k ∈ q_tw := fun k hk => match k, hk with
  | 0, _ => q_w1 (i := 131) rfl rfl
  | 1, _ => q_w1 (i := 133) rfl rfl
  | 2, _ => q_w1 (i := 135) rfl rfl
  | 3, _ => q_w1 (i := 137) rfl rfl
  | 4, _ => q_w1 (i := 139) rfl rfl
  | 5, _ => q_w1 (i := 141) rfl rfl
  | 6, _ => q_w1 (i := 143) rfl rfl
  | 7, _ => q_w1 (i := 145) rfl rfl
  | k + 8, h => absurd h (by omega)
theorem in_X3 : ∀ w ∈ u_ws RX3 TX3 8, w ∈ q_tw := fun w hw => by
  obtain ⟨k, hk, rfl⟩ := List.mem_map.mp hw
  exact inl_X3 k (List.mem_range.mp hk)
theorem n_X3 : ∀ k, q_cio k = 3 → q_nf k = 8 := fun k h => by
  obtain ⟨h1, h2⟩ := q_cio_lt (by omega) h
  have : ∀ k, k < 10 → q_cio k = 3 → q_nf k = 8 := by decide +kernel
  exact this k h1 h
theorem inl_X4 : ∀ k, k < 2 → u_lay RX4 TX4 k ∈ q_tw := fun k hk => match k, hk with
  | 0, _ => q_w1 (i := 177) rfl rfl
  | 1, _ => q_w1 (i := 179) rfl rfl
  | k + 2, h => absurd h (by omega)
theorem in_X4 : ∀ w ∈ u_ws RX4 TX4 2, w ∈ q_tw := fun w hw => by
  obtain ⟨k, hk, rfl⟩ := List.mem_map.mp hw
  exact inl_X4 k (List.mem_range.mp hk)
theorem n_X4 : ∀ k, q_cio k = 4 → q_nf k = 2 := fun k h => by
  obtain ⟨h1, h2⟩ := q_cio_lt (by omega) h
  have : ∀ k, k < 10 → q_cio k = 4 → q_nf k = 2 := by decide +kernel
  exact this k h1 h
theorem inl_X5 : ∀ k, k < 4 → u_lay RX5 TX5 k ∈ q_tw := fun k hk => match k, hk with
  | 0, _ => q_w1 (i := 34) rfl rfl
  | 1, _ => q_w1 (i := 36) rfl rfl
  | 2, _ => q_w1 (i := 38) rfl rfl
  | 3, _ => q_w1 (i := 40) rfl rfl
  | k + 4, h => absurd h (by omega)
theorem in_X5 : ∀ w ∈ u_ws RX5 TX5 4, w ∈ q_tw := fun w hw => by
  obtain ⟨k, hk, rfl⟩ := List.mem_map.mp hw
  exact inl_X5 k (List.mem_range.mp hk)
theorem n_X5 : ∀ k, q_cio k = 5 → q_nf k = 4 := fun k h => by
  obtain ⟨h1, h2⟩ := q_cio_lt (by omega) h
  have : ∀ k, k < 10 → q_cio k = 5 → q_nf k = 4 := by decide +kernel
  exact this k h1 h
theorem inl_X6 : ∀ k, k < 9 → u_lay RX6 TX6 k ∈ q_tw := fun k hk => match k, hk with
  | 0, _ => q_w2 (i := 126) rfl rfl
  | 1, _ => q_w2 (i := 128) rfl rfl
  | 2, _ => q_w2 (i := 130) rfl rfl
  | 3, _ => q_w2 (i := 132) rfl rfl
  | 4, _ => q_w2 (i := 134) rfl rfl
  | 5, _ => q_w2 (i := 136) rfl rfl
  | 6, _ => q_w2 (i := 138) rfl rfl
  | 7, _ => q_w2 (i := 140) rfl rfl
  | 8, _ => q_w2 (i := 142) rfl rfl
  | k + 9, h => absurd h (by omega)
theorem in_X6 : ∀ w ∈ u_ws RX6 TX6 9, w ∈ q_tw := fun w hw => by
  obtain ⟨k, hk, rfl⟩ := List.mem_map.mp hw
  exact inl_X6 k (List.mem_range.mp hk)
theorem n_X6 : ∀ k, q_cio k = 6 → q_nf k = 9 := fun k h => by
  obtain ⟨h1, h2⟩ := q_cio_lt (by omega) h
  have : ∀ k, k < 10 → q_cio k = 6 → q_nf k = 9 := by decide +kernel
  exact this k h1 h
theorem inl_X7 : ∀ k, k < 30 → u_lay RX7 TX7 k ∈ q_tw := fun k hk => match k, hk with
  | 0, _ => q_w4 (i := 59) rfl rfl
  | 1, _ => q_w4 (i := 61) rfl rfl
  | 2, _ => q_w4 (i := 63) rfl rfl
  | 3, _ => q_w4 (i := 65) rfl rfl
  | 4, _ => q_w4 (i := 67) rfl rfl
  | 5, _ => q_w4 (i := 69) rfl rfl
  | 6, _ => q_w4 (i := 71) rfl rfl
  | 7, _ => q_w4 (i := 73) rfl rfl
  | 8, _ => q_w4 (i := 75) rfl rfl
  | 9, _ => q_w4 (i := 77) rfl rfl
  | 10, _ => q_w4 (i := 79) rfl rfl
  | 11, _ => q_w4 (i := 81) rfl rfl
  | 12, _ => q_w4 (i := 83) rfl rfl
  | 13, _ => q_w4 (i := 85) rfl rfl
  | 14, _ => q_w4 (i := 87) rfl rfl
  | 15, _ => q_w4 (i := 89) rfl rfl
  | 16, _ => q_w4 (i := 91) rfl rfl
  | 17, _ => q_w4 (i := 93) rfl rfl
  | 18, _ => q_w4 (i := 95) rfl rfl
  | 19, _ => q_w4 (i := 97) rfl rfl
  | 20, _ => q_w4 (i := 99) rfl rfl
  | 21, _ => q_w4 (i := 101) rfl rfl
  | 22, _ => q_w4 (i := 103) rfl rfl
  | 23, _ => q_w4 (i := 105) rfl rfl
  | 24, _ => q_w4 (i := 107) rfl rfl
  | 25, _ => q_w4 (i := 109) rfl rfl
  | 26, _ => q_w4 (i := 111) rfl rfl
  | 27, _ => q_w4 (i := 113) rfl rfl
  | 28, _ => q_w4 (i := 115) rfl rfl
  | 29, _ => q_w4 (i := 117) rfl rfl
  | k + 30, h => absurd h (by omega)
theorem in_X7 : ∀ w ∈ u_ws RX7 TX7 30, w ∈ q_tw := fun w hw => by
  obtain ⟨k, hk, rfl⟩ := List.mem_map.mp hw
  exact inl_X7 k (List.mem_range.mp hk)
theorem n_X7 : ∀ k, q_cio k = 7 → q_nf k = 30 := fun k h => by
  obtain ⟨h1, h2⟩ := q_cio_lt (by omega) h
  have : ∀ k, k < 10 → q_cio k = 7 → q_nf k = 30 := by decide +kernel
  exact this k h1 h
def q_look : List (Nat × QO) → Nat → Option QO
  | [], _ => none
  | (k, o) :: l, pc => cond (Nat.beq k pc) (some o) (q_look l pc)
theorem q_look_all {sx : QX} {own : String} {cc : ByteArray} {nL : Nat} {rt : Option FieldType} {l : List (Nat × QO)} {pc : Nat} (h : ∀ q ∈ l, q_Snd sx own cc nL rt q.1 q.2) : ∀ o, q_look l pc = some o → q_Snd sx own cc nL rt pc o := by
  induction l with
  | nil => intro o h; cases h
  | cons q l ih =>
    obtain ⟨k, z⟩ := q
    intro o ho
    have ho : cond (Nat.beq k pc) (some z) (q_look l pc) = some o := ho
    cases hk : Nat.beq k pc with
    | true =>
      rw [hk] at ho
      cases ho
      rw [← Nat.eq_of_beq_eq_true hk]
      exact h _ List.mem_cons_self
    | false =>
      rw [hk] at ho
      exact ih (fun q hq => h q (List.mem_cons_of_mem _ hq)) o ho
theorem q_cb {P : QO → Prop} {b : Bool} {x y : Option QO} (h1 : ∀ o, x = some o → P o) (h2 : ∀ o, y = some o → P o) : ∀ o, cond b x y = some o → P o := by
  cases b
  · exact h2
  · exact h1
theorem k_0_0 : Cond.selects RX6 yX6_layOut yX6_layOut ∈ q_tw := q_w0 (i := 0) rfl rfl
theorem k_0_1 : Cond.selects RX5 yX5_readItem yX5_readItem ∈ q_tw := q_w0 (i := 1) rfl rfl
theorem k_0_2 : Cond.selects RX5 yX5_letterAt yX5_letterAt ∈ q_tw := q_w0 (i := 2) rfl rfl
theorem k_0_3 : Cond.selects RX5 yX5_readNumbers yX5_readNumbers ∈ q_tw := q_w0 (i := 3) rfl rfl
theorem k_0_4 : Cond.selects RX5 yX5_readNumber yX5_readNumber ∈ q_tw := q_w0 (i := 4) rfl rfl
theorem k_0_5 : Cond.selects RX0 yX0_plainWorth yX0_plainWorth ∈ q_tw := q_w0 (i := 5) rfl rfl
theorem k_0_6 : Cond.selects RX0 yX0_spokenWorth yX0_spokenWorth ∈ q_tw := q_w0 (i := 6) rfl rfl
theorem k_0_7 : Cond.selects RX6 yX6_isBlock yX6_isBlock ∈ q_tw := q_w0 (i := 7) rfl rfl
theorem k_0_8 : Cond.selects RX6 yX6_isWord yX6_isWord ∈ q_tw := q_w0 (i := 8) rfl rfl
theorem k_0_9 : Cond.selects RX6 yX6_isSpeaker yX6_isSpeaker ∈ q_tw := q_w0 (i := 9) rfl rfl
theorem k_0_10 : Cond.selects RX6 yX6_isSaying yX6_isSaying ∈ q_tw := q_w0 (i := 10) rfl rfl
theorem k_0_11 : Cond.selects RX3 yX3_hearsThrough yX3_hearsThrough ∈ q_tw := q_w0 (i := 11) rfl rfl
theorem k_0_12 : Cond.selects RX3 yX3_soften yX3_soften ∈ q_tw := q_w0 (i := 12) rfl rfl
theorem k_0_13 : Cond.selects RX3 yX3_belies yX3_belies ∈ q_tw := q_w0 (i := 13) rfl rfl
theorem k_0_14 : Cond.selects RX4 yX4_shift yX4_shift ∈ q_tw := q_w0 (i := 14) rfl rfl
theorem k_0_15 : Cond.selects RX3 yX3_dearestWord yX3_dearestWord ∈ q_tw := q_w0 (i := 15) rfl rfl
theorem k_0_16 : Cond.selects RX3 yX3_harmOf yX3_harmOf ∈ q_tw := q_w0 (i := 16) rfl rfl
theorem k_0_17 : Cond.selects RX3 yX3_explainsOne yX3_explainsOne ∈ q_tw := q_w0 (i := 17) rfl rfl
theorem k_0_18 : Cond.selects RX7 yX7_starts yX7_starts ∈ q_tw := q_w0 (i := 18) rfl rfl
theorem k_0_19 : Cond.selects RX7 yX7_addsBlock yX7_addsBlock ∈ q_tw := q_w0 (i := 19) rfl rfl
theorem k_0_20 : Cond.selects RX7 yX7_addsWord yX7_addsWord ∈ q_tw := q_w0 (i := 20) rfl rfl
theorem k_0_21 : Cond.selects RX7 yX7_addsSpeaker yX7_addsSpeaker ∈ q_tw := q_w0 (i := 21) rfl rfl
theorem k_0_22 : Cond.selects RX7 yX7_begins yX7_begins ∈ q_tw := q_w0 (i := 22) rfl rfl
theorem k_0_23 : Cond.selects RX7 yX7_faultOf yX7_faultOf ∈ q_tw := q_w0 (i := 23) rfl rfl
theorem k_0_24 : Cond.selects RX7 yX7_takesItem yX7_takesItem ∈ q_tw := q_w0 (i := 24) rfl rfl
theorem k_0_25 : Cond.selects RX7 yX7_letterAt yX7_letterAt ∈ q_tw := q_w0 (i := 25) rfl rfl
theorem k_0_26 : Cond.selects RX7 yX7_takesBlock yX7_takesBlock ∈ q_tw := q_w0 (i := 26) rfl rfl
theorem k_0_27 : Cond.selects RX7 yX7_takesNumber yX7_takesNumber ∈ q_tw := q_w0 (i := 27) rfl rfl
theorem k_0_28 : Cond.selects RX7 yX7_takesWord yX7_takesWord ∈ q_tw := q_w0 (i := 28) rfl rfl
theorem k_0_29 : Cond.selects RX7 yX7_takesSpeaker yX7_takesSpeaker ∈ q_tw := q_w0 (i := 29) rfl rfl
theorem k_0_30 : Cond.selects RX7 yX7_takesFrost yX7_takesFrost ∈ q_tw := q_w0 (i := 30) rfl rfl
theorem k_0_31 : Cond.selects RX7 yX7_takesPromise yX7_takesPromise ∈ q_tw := q_w0 (i := 31) rfl rfl
theorem k_0_32 : Cond.selects RX7 yX7_isBlock yX7_isBlock ∈ q_tw := q_w0 (i := 32) rfl rfl
theorem k_0_33 : Cond.selects RX7 yX7_isWord yX7_isWord ∈ q_tw := q_w0 (i := 33) rfl rfl
theorem k_0_34 : Cond.selects RX7 yX7_isSpeaker yX7_isSpeaker ∈ q_tw := q_w0 (i := 34) rfl rfl
theorem k_0_35 : Cond.selects RX7 yX7_worthOf yX7_worthOf ∈ q_tw := q_w0 (i := 35) rfl rfl
theorem k_0_36 : Cond.selects RX7 yX7_spoken yX7_spoken ∈ q_tw := q_w0 (i := 36) rfl rfl
theorem k_0_37 : Cond.selects RX7 yX7_byKind yX7_byKind ∈ q_tw := q_w0 (i := 37) rfl rfl
theorem k_0_38 : Cond.selects RX7 yX7_heardOf yX7_heardOf ∈ q_tw := q_w0 (i := 38) rfl rfl
theorem k_0_39 : Cond.selects RX7 yX7_canSay yX7_canSay ∈ q_tw := q_w0 (i := 39) rfl rfl
theorem k_0_40 : Cond.selects RX7 yX7_inBed yX7_inBed ∈ q_tw := q_w0 (i := 40) rfl rfl
theorem k_0_41 : Cond.selects RX7 yX7_minds yX7_minds ∈ q_tw := q_w0 (i := 41) rfl rfl
theorem k_0_42 : Cond.selects RX7 yX7_copy yX7_copy ∈ q_tw := q_w0 (i := 42) rfl rfl
theorem k_0_43 : Cond.selects RX7 yX7_says yX7_says ∈ q_tw := q_w0 (i := 43) rfl rfl
theorem k_0_44 : Cond.selects RX7 yX7_hears yX7_hears ∈ q_tw := q_w0 (i := 44) rfl rfl
theorem k_0_45 : Cond.selects RX7 yX7_comes yX7_comes ∈ q_tw := q_w0 (i := 45) rfl rfl
theorem k_0_46 : Cond.selects RX7 yX7_takesFor yX7_takesFor ∈ q_tw := q_w0 (i := 46) rfl rfl
theorem k_0_47 : Cond.selects RX7 yX7_isElse yX7_isElse ∈ q_tw := q_w0 (i := 47) rfl rfl
theorem k_0_48 : Cond.selects RX7 yX7_passes yX7_passes ∈ q_tw := q_w0 (i := 48) rfl rfl
theorem k_0_49 : Cond.selects RX7 yX7_bringsOut yX7_bringsOut ∈ q_tw := q_w0 (i := 49) rfl rfl
theorem k_0_50 : Cond.selects RX7 yX7_bestOf yX7_bestOf ∈ q_tw := q_w0 (i := 50) rfl rfl
theorem k_0_51 : Cond.selects RX7 yX7_bestOrder yX7_bestOrder ∈ q_tw := q_w0 (i := 51) rfl rfl
theorem k_0_52 : Cond.selects RX7 yX7_bedOf yX7_bedOf ∈ q_tw := q_w0 (i := 52) rfl rfl
theorem k_0_53 : Cond.selects RX7 yX7_asks yX7_asks ∈ q_tw := q_w0 (i := 53) rfl rfl
theorem k_0_54 : Cond.selects RX7 yX7_tries yX7_tries ∈ q_tw := q_w0 (i := 54) rfl rfl
theorem k_0_55 : Cond.selects RX7 yX7_bestWord yX7_bestWord ∈ q_tw := q_w0 (i := 55) rfl rfl
theorem k_0_56 : Cond.selects RX7 yX7_harmOf yX7_harmOf ∈ q_tw := q_w0 (i := 56) rfl rfl
theorem k_0_57 : Cond.selects RX7 yX7_lies yX7_lies ∈ q_tw := q_w0 (i := 57) rfl rfl
theorem k_0_58 : Cond.selects RX7 yX7_doesBy yX7_doesBy ∈ q_tw := q_w0 (i := 58) rfl rfl
theorem k_0_59 : Cond.selects RX7 yX7_manyHow yX7_manyHow ∈ q_tw := q_w0 (i := 59) rfl rfl
theorem k_1_1 : Cond.initialized RX6 ∈ q_tw := q_w1 (i := 1) rfl rfl
theorem k_1_2 : Cond.initialized RX5 ∈ q_tw := q_w1 (i := 2) rfl rfl
theorem k_1_3 : Cond.initialized RX0 ∈ q_tw := q_w1 (i := 3) rfl rfl
theorem k_1_4 : Cond.initialized RX3 ∈ q_tw := q_w1 (i := 4) rfl rfl
theorem k_1_5 : Cond.initialized RX2 ∈ q_tw := q_w1 (i := 5) rfl rfl
theorem k_1_6 : Cond.initialized RX4 ∈ q_tw := q_w1 (i := 6) rfl rfl
theorem k_1_7 : Cond.initialized RX1 ∈ q_tw := q_w1 (i := 7) rfl rfl
theorem k_1_12 : Cond.initialized RX7 ∈ q_tw := q_w1 (i := 12) rfl rfl
theorem k_1_13 : Cond.initialized "java/lang/Math" ∈ q_tw := q_w1 (i := 13) rfl rfl
theorem k_1_14 : Cond.initialized RJ6 ∈ q_tw := q_w1 (i := 14) rfl rfl
theorem k_1_29 : Cond.fieldLink RX5 9 RX5 "letters" "[I" ∈ q_tw := q_w1 (i := 29) rfl rfl
theorem k_1_30 : Cond.fieldLink RX5 15 RX5 "numbers" "[I" ∈ q_tw := q_w1 (i := 30) rfl rfl
theorem k_1_31 : Cond.fieldLink RX6 85 RX5 "length" "I" ∈ q_tw := q_w1 (i := 31) rfl rfl
theorem k_1_32 : Cond.fieldLink RX5 18 RX5 "length" "I" ∈ q_tw := q_w1 (i := 32) rfl rfl
theorem k_1_33 : Cond.fieldLink RX5 31 RX5 "place" "I" ∈ q_tw := q_w1 (i := 33) rfl rfl
theorem k_1_50 : Cond.fieldLink RX0 36 RX0 "blocks" "I" ∈ q_tw := q_w1 (i := 50) rfl rfl
theorem k_1_51 : Cond.fieldLink RX1 58 RX0 "blocks" "I" ∈ q_tw := q_w1 (i := 51) rfl rfl
theorem k_1_52 : Cond.fieldLink RX3 58 RX0 "blocks" "I" ∈ q_tw := q_w1 (i := 52) rfl rfl
theorem k_1_53 : Cond.fieldLink RX6 96 RX0 "blocks" "I" ∈ q_tw := q_w1 (i := 53) rfl rfl
theorem k_1_54 : Cond.fieldLink RX0 40 RX0 "words" "I" ∈ q_tw := q_w1 (i := 54) rfl rfl
theorem k_1_55 : Cond.fieldLink RX4 53 RX0 "words" "I" ∈ q_tw := q_w1 (i := 55) rfl rfl
theorem k_1_56 : Cond.fieldLink RX3 122 RX0 "words" "I" ∈ q_tw := q_w1 (i := 56) rfl rfl
theorem k_1_57 : Cond.fieldLink RX6 247 RX0 "words" "I" ∈ q_tw := q_w1 (i := 57) rfl rfl
theorem k_1_58 : Cond.fieldLink RX0 43 RX0 "speakers" "I" ∈ q_tw := q_w1 (i := 58) rfl rfl
theorem k_1_59 : Cond.fieldLink RX4 40 RX0 "speakers" "I" ∈ q_tw := q_w1 (i := 59) rfl rfl
theorem k_1_60 : Cond.fieldLink RX3 61 RX0 "speakers" "I" ∈ q_tw := q_w1 (i := 60) rfl rfl
theorem k_1_61 : Cond.fieldLink RX6 233 RX0 "speakers" "I" ∈ q_tw := q_w1 (i := 61) rfl rfl
theorem k_1_62 : Cond.fieldLink RX0 46 RX0 "chill" "I" ∈ q_tw := q_w1 (i := 62) rfl rfl
theorem k_1_63 : Cond.fieldLink RX0 9 RX0 "blockKinds" "[I" ∈ q_tw := q_w1 (i := 63) rfl rfl
theorem k_1_64 : Cond.fieldLink RX6 103 RX0 "blockKinds" "[I" ∈ q_tw := q_w1 (i := 64) rfl rfl
theorem k_1_65 : Cond.fieldLink RX3 108 RX0 "blockKinds" "[I" ∈ q_tw := q_w1 (i := 65) rfl rfl
theorem k_1_66 : Cond.fieldLink RX0 15 RX0 "needs" "[I" ∈ q_tw := q_w1 (i := 66) rfl rfl
theorem k_1_67 : Cond.fieldLink RX6 111 RX0 "needs" "[I" ∈ q_tw := q_w1 (i := 67) rfl rfl
theorem k_1_68 : Cond.fieldLink RX3 64 RX0 "needs" "[I" ∈ q_tw := q_w1 (i := 68) rfl rfl
theorem k_1_69 : Cond.fieldLink RX0 18 RX0 "wordWorths" "[I" ∈ q_tw := q_w1 (i := 69) rfl rfl
theorem k_1_70 : Cond.fieldLink RX6 126 RX0 "wordWorths" "[I" ∈ q_tw := q_w1 (i := 70) rfl rfl
theorem k_1_71 : Cond.fieldLink RX0 21 RX0 "speakerKinds" "[I" ∈ q_tw := q_w1 (i := 71) rfl rfl
theorem k_1_72 : Cond.fieldLink RX6 132 RX0 "speakerKinds" "[I" ∈ q_tw := q_w1 (i := 72) rfl rfl
theorem k_1_73 : Cond.fieldLink RX0 24 RX0 "dayHours" "[I" ∈ q_tw := q_w1 (i := 73) rfl rfl
theorem k_1_74 : Cond.fieldLink RX3 42 RX0 "dayHours" "[I" ∈ q_tw := q_w1 (i := 74) rfl rfl
theorem k_1_75 : Cond.fieldLink RX6 135 RX0 "dayHours" "[I" ∈ q_tw := q_w1 (i := 75) rfl rfl
theorem k_1_76 : Cond.fieldLink RX0 27 RX0 "firstVows" "[I" ∈ q_tw := q_w1 (i := 76) rfl rfl
theorem k_1_77 : Cond.fieldLink RX3 51 RX0 "firstVows" "[I" ∈ q_tw := q_w1 (i := 77) rfl rfl
theorem k_1_78 : Cond.fieldLink RX0 30 RX0 "plainWorths" "[I" ∈ q_tw := q_w1 (i := 78) rfl rfl
theorem k_1_79 : Cond.fieldLink RX3 144 RX0 "plainWorths" "[I" ∈ q_tw := q_w1 (i := 79) rfl rfl
theorem k_1_80 : Cond.fieldLink RX0 33 RX0 "freshWorths" "[I" ∈ q_tw := q_w1 (i := 80) rfl rfl
theorem k_1_81 : Cond.fieldLink RX3 71 RX0 "freshWorths" "[I" ∈ q_tw := q_w1 (i := 81) rfl rfl
theorem k_1_113 : Cond.fieldLink RX3 30 RX3 "bed" "LStoneApologies$Bed;" ∈ q_tw := q_w1 (i := 113) rfl rfl
theorem k_1_114 : Cond.fieldLink RX4 36 RX3 "bed" "LStoneApologies$Bed;" ∈ q_tw := q_w1 (i := 114) rfl rfl
theorem k_1_115 : Cond.fieldLink RX1 54 RX3 "bed" "LStoneApologies$Bed;" ∈ q_tw := q_w1 (i := 115) rfl rfl
theorem k_1_116 : Cond.fieldLink RX6 291 RX3 "bed" "LStoneApologies$Bed;" ∈ q_tw := q_w1 (i := 116) rfl rfl
theorem k_1_117 : Cond.fieldLink RX3 34 RX3 "day" "I" ∈ q_tw := q_w1 (i := 117) rfl rfl
theorem k_1_118 : Cond.fieldLink RX6 183 RX3 "day" "I" ∈ q_tw := q_w1 (i := 118) rfl rfl
theorem k_1_119 : Cond.fieldLink RX3 9 RX3 "softness" "[I" ∈ q_tw := q_w1 (i := 119) rfl rfl
theorem k_1_120 : Cond.fieldLink RX4 72 RX3 "softness" "[I" ∈ q_tw := q_w1 (i := 120) rfl rfl
theorem k_1_121 : Cond.fieldLink RX6 114 RX3 "softness" "[I" ∈ q_tw := q_w1 (i := 121) rfl rfl
theorem k_1_122 : Cond.fieldLink RX3 15 RX3 "places" "[I" ∈ q_tw := q_w1 (i := 122) rfl rfl
theorem k_1_123 : Cond.fieldLink RX6 117 RX3 "places" "[I" ∈ q_tw := q_w1 (i := 123) rfl rfl
theorem k_1_124 : Cond.fieldLink RX3 18 RX3 "takenFor" "[I" ∈ q_tw := q_w1 (i := 124) rfl rfl
theorem k_1_125 : Cond.fieldLink RX6 120 RX3 "takenFor" "[I" ∈ q_tw := q_w1 (i := 125) rfl rfl
theorem k_1_126 : Cond.fieldLink RX3 21 RX3 "hours" "[I" ∈ q_tw := q_w1 (i := 126) rfl rfl
theorem k_1_127 : Cond.fieldLink RX4 46 RX3 "hours" "[I" ∈ q_tw := q_w1 (i := 127) rfl rfl
theorem k_1_128 : Cond.fieldLink RX6 138 RX3 "hours" "[I" ∈ q_tw := q_w1 (i := 128) rfl rfl
theorem k_1_129 : Cond.fieldLink RX3 24 RX3 "hearings" "[I" ∈ q_tw := q_w1 (i := 129) rfl rfl
theorem k_1_130 : Cond.fieldLink RX3 27 RX3 "vows" "[I" ∈ q_tw := q_w1 (i := 130) rfl rfl
theorem k_1_157 : Cond.fieldLink RX2 9 RX2 "slots" "[LStoneApologies$Quarry;" ∈ q_tw := q_w1 (i := 157) rfl rfl
theorem k_1_158 : Cond.fieldLink RX2 22 RX2 "next" "I" ∈ q_tw := q_w1 (i := 158) rfl rfl
theorem k_1_159 : Cond.fieldLink RX2 18 RX2 "size" "I" ∈ q_tw := q_w1 (i := 159) rfl rfl
theorem k_1_160 : Cond.fieldLink RX6 190 RX2 "size" "I" ∈ q_tw := q_w1 (i := 160) rfl rfl
theorem k_1_174 : Cond.fieldLink RX4 15 RX4 "trial" "LStoneApologies$Quarry;" ∈ q_tw := q_w1 (i := 174) rfl rfl
theorem k_1_175 : Cond.fieldLink RX4 9 RX4 "row" "[I" ∈ q_tw := q_w1 (i := 175) rfl rfl
theorem k_1_176 : Cond.fieldLink RX6 200 RX4 "row" "[I" ∈ q_tw := q_w1 (i := 176) rfl rfl
theorem k_1_190 : Cond.fieldLink RX1 11 RX1 "steps" "[LStoneApologies$Quarry;" ∈ q_tw := q_w1 (i := 190) rfl rfl
theorem k_1_191 : Cond.fieldLink RX1 17 RX1 "row" "[I" ∈ q_tw := q_w1 (i := 191) rfl rfl
theorem k_1_192 : Cond.fieldLink RX1 21 RX1 "found" "[I" ∈ q_tw := q_w1 (i := 192) rfl rfl
theorem k_1_193 : Cond.fieldLink RX6 215 RX1 "found" "[I" ∈ q_tw := q_w1 (i := 193) rfl rfl
theorem k_1_194 : Cond.fieldLink RX1 39 RX1 "asked" "I" ∈ q_tw := q_w1 (i := 194) rfl rfl
theorem k_1_195 : Cond.fieldLink RX6 212 RX1 "asked" "I" ∈ q_tw := q_w1 (i := 195) rfl rfl
theorem k_1_196 : Cond.fieldLink RX1 43 RX1 "most" "I" ∈ q_tw := q_w1 (i := 196) rfl rfl
theorem k_1_197 : Cond.fieldLink RX6 209 RX1 "most" "I" ∈ q_tw := q_w1 (i := 197) rfl rfl
theorem k_2_18 : Cond.methodLink RX6 78 yX5_append ∈ q_tw := q_w2 (i := 18) rfl rfl
theorem k_2_19 : Cond.instanceMethod yX5_append ∈ q_tw := q_w2 (i := 19) rfl rfl
theorem k_2_20 : Cond.selects RX5 yX5_append yX5_append ∈ q_tw := q_w2 (i := 20) rfl rfl
theorem k_2_21 : Cond.code yX5_append cX5_append 2 none ∈ q_tw := q_w2 (i := 21) rfl rfl
theorem k_2_23 : Cond.static yX6_put ∈ q_tw := q_w2 (i := 23) rfl rfl
theorem k_2_24 : Cond.code yX6_put cX6_put 3 none ∈ q_tw := q_w2 (i := 24) rfl rfl
theorem k_2_25 : Cond.methodLink RX6 82 yX6_layOut ∈ q_tw := q_w2 (i := 25) rfl rfl
theorem k_2_27 : Cond.instanceMethod yX6_layOut ∈ q_tw := q_w2 (i := 27) rfl rfl
theorem k_2_28 : Cond.code yX6_layOut cX6_layOut 1 none ∈ q_tw := q_w2 (i := 28) rfl rfl
theorem k_2_29 : Cond.methodLink RX6 88 yX5_readInto ∈ q_tw := q_w2 (i := 29) rfl rfl
theorem k_2_30 : Cond.instanceMethod yX5_readInto ∈ q_tw := q_w2 (i := 30) rfl rfl
theorem k_2_31 : Cond.selects RX5 yX5_readInto yX5_readInto ∈ q_tw := q_w2 (i := 31) rfl rfl
theorem k_2_32 : Cond.code yX5_readInto cX5_readInto 4 (some .int) ∈ q_tw := q_w2 (i := 32) rfl rfl
theorem k_2_33 : Cond.methodLink RX5 26 yX0_clear ∈ q_tw := q_w2 (i := 33) rfl rfl
theorem k_2_34 : Cond.instanceMethod yX0_clear ∈ q_tw := q_w2 (i := 34) rfl rfl
theorem k_2_35 : Cond.selects RX0 yX0_clear yX0_clear ∈ q_tw := q_w2 (i := 35) rfl rfl
theorem k_2_36 : Cond.code yX0_clear cX0_clear 1 none ∈ q_tw := q_w2 (i := 36) rfl rfl
theorem k_2_38 : Cond.static yX6_fill ∈ q_tw := q_w2 (i := 38) rfl rfl
theorem k_2_39 : Cond.code yX6_fill cX6_fill 3 none ∈ q_tw := q_w2 (i := 39) rfl rfl
theorem k_2_40 : Cond.methodLink RX5 34 yX5_readItem ∈ q_tw := q_w2 (i := 40) rfl rfl
theorem k_2_42 : Cond.instanceMethod yX5_readItem ∈ q_tw := q_w2 (i := 42) rfl rfl
theorem k_2_43 : Cond.code yX5_readItem cX5_readItem 6 (some .boolean) ∈ q_tw := q_w2 (i := 43) rfl rfl
theorem k_2_44 : Cond.methodLink RX5 38 yX5_letterAt ∈ q_tw := q_w2 (i := 44) rfl rfl
theorem k_2_46 : Cond.instanceMethod yX5_letterAt ∈ q_tw := q_w2 (i := 46) rfl rfl
theorem k_2_47 : Cond.code yX5_letterAt cX5_letterAt 2 (some .int) ∈ q_tw := q_w2 (i := 47) rfl rfl
theorem k_2_48 : Cond.methodLink RX5 42 yX5_readNumbers ∈ q_tw := q_w2 (i := 48) rfl rfl
theorem k_2_50 : Cond.instanceMethod yX5_readNumbers ∈ q_tw := q_w2 (i := 50) rfl rfl
theorem k_2_51 : Cond.code yX5_readNumbers cX5_readNumbers 4 (some .int) ∈ q_tw := q_w2 (i := 51) rfl rfl
theorem k_2_52 : Cond.methodLink RX5 68 yX5_readNumber ∈ q_tw := q_w2 (i := 52) rfl rfl
theorem k_2_54 : Cond.instanceMethod yX5_readNumber ∈ q_tw := q_w2 (i := 54) rfl rfl
theorem k_2_55 : Cond.code yX5_readNumber cX5_readNumber 3 (some .int) ∈ q_tw := q_w2 (i := 55) rfl rfl
theorem k_2_57 : Cond.static yX6_at ∈ q_tw := q_w2 (i := 57) rfl rfl
theorem k_2_58 : Cond.code yX6_at cX6_at 2 (some .int) ∈ q_tw := q_w2 (i := 58) rfl rfl
theorem k_2_59 : Cond.methodLink RX5 50 yX0_addBlock ∈ q_tw := q_w2 (i := 59) rfl rfl
theorem k_2_60 : Cond.instanceMethod yX0_addBlock ∈ q_tw := q_w2 (i := 60) rfl rfl
theorem k_2_61 : Cond.selects RX0 yX0_addBlock yX0_addBlock ∈ q_tw := q_w2 (i := 61) rfl rfl
theorem k_2_62 : Cond.code yX0_addBlock cX0_addBlock 3 (some .boolean) ∈ q_tw := q_w2 (i := 62) rfl rfl
theorem k_2_64 : Cond.methodLink RX5 54 yX0_addWord ∈ q_tw := q_w2 (i := 64) rfl rfl
theorem k_2_65 : Cond.instanceMethod yX0_addWord ∈ q_tw := q_w2 (i := 65) rfl rfl
theorem k_2_66 : Cond.selects RX0 yX0_addWord yX0_addWord ∈ q_tw := q_w2 (i := 66) rfl rfl
theorem k_2_67 : Cond.code yX0_addWord cX0_addWord 2 (some .boolean) ∈ q_tw := q_w2 (i := 67) rfl rfl
theorem k_2_68 : Cond.methodLink RX5 58 yX0_addSpeaker ∈ q_tw := q_w2 (i := 68) rfl rfl
theorem k_2_69 : Cond.instanceMethod yX0_addSpeaker ∈ q_tw := q_w2 (i := 69) rfl rfl
theorem k_2_70 : Cond.selects RX0 yX0_addSpeaker yX0_addSpeaker ∈ q_tw := q_w2 (i := 70) rfl rfl
theorem k_2_71 : Cond.code yX0_addSpeaker cX0_addSpeaker 3 (some .boolean) ∈ q_tw := q_w2 (i := 71) rfl rfl
theorem k_2_72 : Cond.methodLink RX5 61 yX0_setFrost ∈ q_tw := q_w2 (i := 72) rfl rfl
theorem k_2_73 : Cond.instanceMethod yX0_setFrost ∈ q_tw := q_w2 (i := 73) rfl rfl
theorem k_2_74 : Cond.selects RX0 yX0_setFrost yX0_setFrost ∈ q_tw := q_w2 (i := 74) rfl rfl
theorem k_2_75 : Cond.code yX0_setFrost cX0_setFrost 2 (some .boolean) ∈ q_tw := q_w2 (i := 75) rfl rfl
theorem k_2_76 : Cond.methodLink RX5 64 yX0_addVow ∈ q_tw := q_w2 (i := 76) rfl rfl
theorem k_2_77 : Cond.instanceMethod yX0_addVow ∈ q_tw := q_w2 (i := 77) rfl rfl
theorem k_2_78 : Cond.selects RX0 yX0_addVow yX0_addVow ∈ q_tw := q_w2 (i := 78) rfl rfl
theorem k_2_79 : Cond.code yX0_addVow cX0_addVow 4 (some .boolean) ∈ q_tw := q_w2 (i := 79) rfl rfl
theorem k_2_81 : Cond.static yX6_isUse ∈ q_tw := q_w2 (i := 81) rfl rfl
theorem k_2_82 : Cond.code yX6_isUse cX6_isUse 1 (some .boolean) ∈ q_tw := q_w2 (i := 82) rfl rfl
theorem k_2_83 : Cond.methodLink RX0 61 yX0_vowPlace ∈ q_tw := q_w2 (i := 83) rfl rfl
theorem k_2_84 : Cond.static yX0_vowPlace ∈ q_tw := q_w2 (i := 84) rfl rfl
theorem k_2_85 : Cond.code yX0_vowPlace cX0_vowPlace 2 (some .int) ∈ q_tw := q_w2 (i := 85) rfl rfl
theorem k_2_86 : Cond.methodLink RX6 279 yX0_reckon ∈ q_tw := q_w2 (i := 86) rfl rfl
theorem k_2_87 : Cond.instanceMethod yX0_reckon ∈ q_tw := q_w2 (i := 87) rfl rfl
theorem k_2_88 : Cond.selects RX0 yX0_reckon yX0_reckon ∈ q_tw := q_w2 (i := 88) rfl rfl
theorem k_2_89 : Cond.code yX0_reckon cX0_reckon 5 none ∈ q_tw := q_w2 (i := 89) rfl rfl
theorem k_2_91 : Cond.methodLink RX0 69 yX0_plainWorth ∈ q_tw := q_w2 (i := 91) rfl rfl
theorem k_2_93 : Cond.instanceMethod yX0_plainWorth ∈ q_tw := q_w2 (i := 93) rfl rfl
theorem k_2_94 : Cond.code yX0_plainWorth cX0_plainWorth 4 (some .int) ∈ q_tw := q_w2 (i := 94) rfl rfl
theorem k_2_95 : Cond.methodLink RX0 72 yX0_wordPlace ∈ q_tw := q_w2 (i := 95) rfl rfl
theorem k_2_96 : Cond.static yX0_wordPlace ∈ q_tw := q_w2 (i := 96) rfl rfl
theorem k_2_97 : Cond.code yX0_wordPlace cX0_wordPlace 2 (some .int) ∈ q_tw := q_w2 (i := 97) rfl rfl
theorem k_2_98 : Cond.methodLink RX0 75 yX0_sayingPlace ∈ q_tw := q_w2 (i := 98) rfl rfl
theorem k_2_99 : Cond.static yX0_sayingPlace ∈ q_tw := q_w2 (i := 99) rfl rfl
theorem k_2_100 : Cond.code yX0_sayingPlace cX0_sayingPlace 3 (some .int) ∈ q_tw := q_w2 (i := 100) rfl rfl
theorem k_2_101 : Cond.methodLink RX0 79 yX0_spokenWorth ∈ q_tw := q_w2 (i := 101) rfl rfl
theorem k_2_103 : Cond.instanceMethod yX0_spokenWorth ∈ q_tw := q_w2 (i := 103) rfl rfl
theorem k_2_104 : Cond.code yX0_spokenWorth cX0_spokenWorth 5 (some .int) ∈ q_tw := q_w2 (i := 104) rfl rfl
theorem k_2_105 : Cond.methodLink RX6 282 yX3_begin ∈ q_tw := q_w2 (i := 105) rfl rfl
theorem k_2_106 : Cond.instanceMethod yX3_begin ∈ q_tw := q_w2 (i := 106) rfl rfl
theorem k_2_107 : Cond.selects RX3 yX3_begin yX3_begin ∈ q_tw := q_w2 (i := 107) rfl rfl
theorem k_2_108 : Cond.code yX3_begin cX3_begin 1 none ∈ q_tw := q_w2 (i := 108) rfl rfl
theorem k_2_111 : Cond.static yX6_copy ∈ q_tw := q_w2 (i := 111) rfl rfl
theorem k_2_112 : Cond.code yX6_copy cX6_copy 3 none ∈ q_tw := q_w2 (i := 112) rfl rfl
theorem k_2_113 : Cond.methodLink RX6 273 yX2_clear ∈ q_tw := q_w2 (i := 113) rfl rfl
theorem k_2_114 : Cond.instanceMethod yX2_clear ∈ q_tw := q_w2 (i := 114) rfl rfl
theorem k_2_115 : Cond.selects RX2 yX2_clear yX2_clear ∈ q_tw := q_w2 (i := 115) rfl rfl
theorem k_2_116 : Cond.code yX2_clear cX2_clear 1 none ∈ q_tw := q_w2 (i := 116) rfl rfl
theorem k_2_117 : Cond.fieldLink RX6 10 RX6 "text" "LStoneApologies$Text;" ∈ q_tw := q_w2 (i := 117) rfl rfl
theorem k_2_118 : Cond.fieldLink RX6 19 RX6 "bed" "LStoneApologies$Bed;" ∈ q_tw := q_w2 (i := 118) rfl rfl
theorem k_2_119 : Cond.fieldLink RX6 23 RX6 "draft" "LStoneApologies$Bed;" ∈ q_tw := q_w2 (i := 119) rfl rfl
theorem k_2_120 : Cond.fieldLink RX6 31 RX6 "now" "LStoneApologies$Quarry;" ∈ q_tw := q_w2 (i := 120) rfl rfl
theorem k_2_121 : Cond.fieldLink RX6 35 RX6 "trial" "LStoneApologies$Quarry;" ∈ q_tw := q_w2 (i := 121) rfl rfl
theorem k_2_122 : Cond.fieldLink RX6 43 RX6 "past" "LStoneApologies$Pile;" ∈ q_tw := q_w2 (i := 122) rfl rfl
theorem k_2_123 : Cond.fieldLink RX6 47 RX6 "kept" "LStoneApologies$Pile;" ∈ q_tw := q_w2 (i := 123) rfl rfl
theorem k_2_124 : Cond.fieldLink RX6 55 RX6 "rows" "LStoneApologies$Rows;" ∈ q_tw := q_w2 (i := 124) rfl rfl
theorem k_2_125 : Cond.fieldLink RX6 62 RX6 "orders" "LStoneApologies$Orders;" ∈ q_tw := q_w2 (i := 125) rfl rfl
theorem k_2_162 : Cond.methodLink RX6 92 yX0_isWhole ∈ q_tw := q_w2 (i := 162) rfl rfl
theorem k_2_163 : Cond.instanceMethod yX0_isWhole ∈ q_tw := q_w2 (i := 163) rfl rfl
theorem k_2_164 : Cond.selects RX0 yX0_isWhole yX0_isWhole ∈ q_tw := q_w2 (i := 164) rfl rfl
theorem k_2_165 : Cond.code yX0_isWhole cX0_isWhole 1 (some .boolean) ∈ q_tw := q_w2 (i := 165) rfl rfl
theorem k_2_170 : Cond.methodLink RX6 99 yX6_isBlock ∈ q_tw := q_w2 (i := 170) rfl rfl
theorem k_2_172 : Cond.instanceMethod yX6_isBlock ∈ q_tw := q_w2 (i := 172) rfl rfl
theorem k_2_173 : Cond.code yX6_isBlock cX6_isBlock 2 (some .boolean) ∈ q_tw := q_w2 (i := 173) rfl rfl
theorem k_2_174 : Cond.methodLink RX6 107 yX6_at ∈ q_tw := q_w2 (i := 174) rfl rfl
theorem k_2_179 : Cond.methodLink RX6 123 yX6_isWord ∈ q_tw := q_w2 (i := 179) rfl rfl
theorem k_2_181 : Cond.instanceMethod yX6_isWord ∈ q_tw := q_w2 (i := 181) rfl rfl
theorem k_2_182 : Cond.code yX6_isWord cX6_isWord 2 (some .boolean) ∈ q_tw := q_w2 (i := 182) rfl rfl
theorem k_2_187 : Cond.methodLink RX6 129 yX6_isSpeaker ∈ q_tw := q_w2 (i := 187) rfl rfl
theorem k_2_189 : Cond.instanceMethod yX6_isSpeaker ∈ q_tw := q_w2 (i := 189) rfl rfl
theorem k_2_190 : Cond.code yX6_isSpeaker cX6_isSpeaker 2 (some .boolean) ∈ q_tw := q_w2 (i := 190) rfl rfl
theorem k_2_195 : Cond.methodLink RX6 141 yX3_timesHeard ∈ q_tw := q_w2 (i := 195) rfl rfl
theorem k_2_196 : Cond.instanceMethod yX3_timesHeard ∈ q_tw := q_w2 (i := 196) rfl rfl
theorem k_2_197 : Cond.selects RX3 yX3_timesHeard yX3_timesHeard ∈ q_tw := q_w2 (i := 197) rfl rfl
theorem k_2_198 : Cond.code yX3_timesHeard cX3_timesHeard 3 (some .int) ∈ q_tw := q_w2 (i := 198) rfl rfl
theorem k_2_199 : Cond.methodLink RX3 67 yX0_wordPlace ∈ q_tw := q_w2 (i := 199) rfl rfl
theorem k_2_205 : Cond.methodLink RX6 145 yX3_vowOf ∈ q_tw := q_w2 (i := 205) rfl rfl
theorem k_2_206 : Cond.instanceMethod yX3_vowOf ∈ q_tw := q_w2 (i := 206) rfl rfl
theorem k_2_207 : Cond.selects RX3 yX3_vowOf yX3_vowOf ∈ q_tw := q_w2 (i := 207) rfl rfl
theorem k_2_208 : Cond.code yX3_vowOf cX3_vowOf 3 (some .int) ∈ q_tw := q_w2 (i := 208) rfl rfl
theorem k_2_209 : Cond.methodLink RX3 83 yX0_vowPlace ∈ q_tw := q_w2 (i := 209) rfl rfl
theorem k_2_214 : Cond.methodLink RX6 148 yX6_isSaying ∈ q_tw := q_w2 (i := 214) rfl rfl
theorem k_2_216 : Cond.instanceMethod yX6_isSaying ∈ q_tw := q_w2 (i := 216) rfl rfl
theorem k_2_217 : Cond.code yX6_isSaying cX6_isSaying 4 (some .boolean) ∈ q_tw := q_w2 (i := 217) rfl rfl
theorem k_2_218 : Cond.methodLink RX6 152 yX3_worthOf ∈ q_tw := q_w2 (i := 218) rfl rfl
theorem k_2_219 : Cond.instanceMethod yX3_worthOf ∈ q_tw := q_w2 (i := 219) rfl rfl
theorem k_2_220 : Cond.selects RX3 yX3_worthOf yX3_worthOf ∈ q_tw := q_w2 (i := 220) rfl rfl
theorem k_2_221 : Cond.code yX3_worthOf cX3_worthOf 5 (some .int) ∈ q_tw := q_w2 (i := 221) rfl rfl
theorem k_2_222 : Cond.methodLink RX3 74 yX0_sayingPlace ∈ q_tw := q_w2 (i := 222) rfl rfl
theorem k_2_223 : Cond.methodLink RX3 78 Lib.Math.max.name ∈ q_tw := q_w2 (i := 223) rfl rfl
theorem k_2_224 : Cond.static Lib.Math.max.name ∈ q_tw := q_w2 (i := 224) rfl rfl
theorem k_2_225 : Cond.code Lib.Math.max.name Lib.Math.max.code 2 (some .int) ∈ q_tw := q_w2 (i := 225) rfl rfl
theorem k_2_230 : Cond.methodLink RX6 156 yX3_canSay ∈ q_tw := q_w2 (i := 230) rfl rfl
theorem k_2_231 : Cond.instanceMethod yX3_canSay ∈ q_tw := q_w2 (i := 231) rfl rfl
theorem k_2_232 : Cond.selects RX3 yX3_canSay yX3_canSay ∈ q_tw := q_w2 (i := 232) rfl rfl
theorem k_2_233 : Cond.code yX3_canSay cX3_canSay 3 (some .boolean) ∈ q_tw := q_w2 (i := 233) rfl rfl
theorem k_2_234 : Cond.methodLink RX6 160 yX2_push ∈ q_tw := q_w2 (i := 234) rfl rfl
theorem k_2_235 : Cond.instanceMethod yX2_push ∈ q_tw := q_w2 (i := 235) rfl rfl
theorem k_2_236 : Cond.selects RX2 yX2_push yX2_push ∈ q_tw := q_w2 (i := 236) rfl rfl
theorem k_2_237 : Cond.code yX2_push cX2_push 3 none ∈ q_tw := q_w2 (i := 237) rfl rfl
theorem k_2_239 : Cond.static yX6_pick ∈ q_tw := q_w2 (i := 239) rfl rfl
theorem k_3_0 : Cond.code yX6_pick cX6_pick 2 (some (.object "StoneApologies$Quarry")) ∈ q_tw := q_w3 (i := 0) rfl rfl
theorem k_3_1 : Cond.methodLink RX2 31 yX3_copyFrom ∈ q_tw := q_w3 (i := 1) rfl rfl
theorem k_3_2 : Cond.instanceMethod yX3_copyFrom ∈ q_tw := q_w3 (i := 2) rfl rfl
theorem k_3_3 : Cond.selects RX3 yX3_copyFrom yX3_copyFrom ∈ q_tw := q_w3 (i := 3) rfl rfl
theorem k_3_4 : Cond.code yX3_copyFrom cX3_copyFrom 2 none ∈ q_tw := q_w3 (i := 4) rfl rfl
theorem k_3_5 : Cond.methodLink RX6 163 yX3_speak ∈ q_tw := q_w3 (i := 5) rfl rfl
theorem k_3_6 : Cond.instanceMethod yX3_speak ∈ q_tw := q_w3 (i := 6) rfl rfl
theorem k_3_7 : Cond.selects RX3 yX3_speak yX3_speak ∈ q_tw := q_w3 (i := 7) rfl rfl
theorem k_3_8 : Cond.code yX3_speak cX3_speak 6 none ∈ q_tw := q_w3 (i := 8) rfl rfl
theorem k_3_9 : Cond.methodLink RX3 86 yX3_worthOf ∈ q_tw := q_w3 (i := 9) rfl rfl
theorem k_3_11 : Cond.methodLink RX3 93 yX3_hearsThrough ∈ q_tw := q_w3 (i := 11) rfl rfl
theorem k_3_13 : Cond.instanceMethod yX3_hearsThrough ∈ q_tw := q_w3 (i := 13) rfl rfl
theorem k_3_14 : Cond.code yX3_hearsThrough cX3_hearsThrough 4 (some .boolean) ∈ q_tw := q_w3 (i := 14) rfl rfl
theorem k_3_15 : Cond.methodLink RX3 97 yX3_hear ∈ q_tw := q_w3 (i := 15) rfl rfl
theorem k_3_16 : Cond.instanceMethod yX3_hear ∈ q_tw := q_w3 (i := 16) rfl rfl
theorem k_3_17 : Cond.selects RX3 yX3_hear yX3_hear ∈ q_tw := q_w3 (i := 17) rfl rfl
theorem k_3_18 : Cond.code yX3_hear cX3_hear 5 none ∈ q_tw := q_w3 (i := 18) rfl rfl
theorem k_3_19 : Cond.methodLink RX3 101 yX3_soften ∈ q_tw := q_w3 (i := 19) rfl rfl
theorem k_3_21 : Cond.instanceMethod yX3_soften ∈ q_tw := q_w3 (i := 21) rfl rfl
theorem k_3_22 : Cond.code yX3_soften cX3_soften 4 none ∈ q_tw := q_w3 (i := 22) rfl rfl
theorem k_3_27 : Cond.methodLink RX6 167 yX6_isUse ∈ q_tw := q_w3 (i := 27) rfl rfl
theorem k_3_28 : Cond.methodLink RX6 170 yX3_isIn ∈ q_tw := q_w3 (i := 28) rfl rfl
theorem k_3_29 : Cond.instanceMethod yX3_isIn ∈ q_tw := q_w3 (i := 29) rfl rfl
theorem k_3_30 : Cond.selects RX3 yX3_isIn yX3_isIn ∈ q_tw := q_w3 (i := 30) rfl rfl
theorem k_3_31 : Cond.code yX3_isIn cX3_isIn 3 (some .boolean) ∈ q_tw := q_w3 (i := 31) rfl rfl
theorem k_3_32 : Cond.methodLink RX6 173 yX3_vow ∈ q_tw := q_w3 (i := 32) rfl rfl
theorem k_3_33 : Cond.instanceMethod yX3_vow ∈ q_tw := q_w3 (i := 33) rfl rfl
theorem k_3_34 : Cond.selects RX3 yX3_vow yX3_vow ∈ q_tw := q_w3 (i := 34) rfl rfl
theorem k_3_35 : Cond.code yX3_vow cX3_vow 4 none ∈ q_tw := q_w3 (i := 35) rfl rfl
theorem k_3_40 : Cond.methodLink RX6 176 yX3_carryOff ∈ q_tw := q_w3 (i := 40) rfl rfl
theorem k_3_41 : Cond.instanceMethod yX3_carryOff ∈ q_tw := q_w3 (i := 41) rfl rfl
theorem k_3_42 : Cond.selects RX3 yX3_carryOff yX3_carryOff ∈ q_tw := q_w3 (i := 42) rfl rfl
theorem k_3_43 : Cond.code yX3_carryOff cX3_carryOff 3 none ∈ q_tw := q_w3 (i := 43) rfl rfl
theorem k_3_44 : Cond.methodLink RX3 105 yX3_wouldCrack ∈ q_tw := q_w3 (i := 44) rfl rfl
theorem k_3_45 : Cond.instanceMethod yX3_wouldCrack ∈ q_tw := q_w3 (i := 45) rfl rfl
theorem k_3_46 : Cond.selects RX3 yX3_wouldCrack yX3_wouldCrack ∈ q_tw := q_w3 (i := 46) rfl rfl
theorem k_3_47 : Cond.code yX3_wouldCrack cX3_wouldCrack 4 (some .boolean) ∈ q_tw := q_w3 (i := 47) rfl rfl
theorem k_3_48 : Cond.methodLink RX3 111 yX3_belies ∈ q_tw := q_w3 (i := 48) rfl rfl
theorem k_3_50 : Cond.instanceMethod yX3_belies ∈ q_tw := q_w3 (i := 50) rfl rfl
theorem k_3_51 : Cond.code yX3_belies cX3_belies 5 (some .boolean) ∈ q_tw := q_w3 (i := 51) rfl rfl
theorem k_3_52 : Cond.methodLink RX3 115 yX3_vowOf ∈ q_tw := q_w3 (i := 52) rfl rfl
theorem k_3_57 : Cond.methodLink RX6 180 yX3_night ∈ q_tw := q_w3 (i := 57) rfl rfl
theorem k_3_58 : Cond.instanceMethod yX3_night ∈ q_tw := q_w3 (i := 58) rfl rfl
theorem k_3_59 : Cond.selects RX3 yX3_night yX3_night ∈ q_tw := q_w3 (i := 59) rfl rfl
theorem k_3_60 : Cond.code yX3_night cX3_night 2 none ∈ q_tw := q_w3 (i := 60) rfl rfl
theorem k_3_61 : Cond.methodLink RX3 118 yX0_coldFor ∈ q_tw := q_w3 (i := 61) rfl rfl
theorem k_3_62 : Cond.instanceMethod yX0_coldFor ∈ q_tw := q_w3 (i := 62) rfl rfl
theorem k_3_63 : Cond.selects RX0 yX0_coldFor yX0_coldFor ∈ q_tw := q_w3 (i := 63) rfl rfl
theorem k_3_64 : Cond.code yX0_coldFor cX0_coldFor 2 (some .int) ∈ q_tw := q_w3 (i := 64) rfl rfl
theorem k_3_69 : Cond.methodLink RX6 186 yX2_pop ∈ q_tw := q_w3 (i := 69) rfl rfl
theorem k_3_70 : Cond.instanceMethod yX2_pop ∈ q_tw := q_w3 (i := 70) rfl rfl
theorem k_3_71 : Cond.selects RX2 yX2_pop yX2_pop ∈ q_tw := q_w3 (i := 71) rfl rfl
theorem k_3_72 : Cond.code yX2_pop cX2_pop 4 (some .boolean) ∈ q_tw := q_w3 (i := 72) rfl rfl
theorem k_3_77 : Cond.methodLink RX6 193 yX3_copyFrom ∈ q_tw := q_w3 (i := 77) rfl rfl
theorem k_3_78 : Cond.methodLink RX6 196 yX4_shortest ∈ q_tw := q_w3 (i := 78) rfl rfl
theorem k_3_79 : Cond.instanceMethod yX4_shortest ∈ q_tw := q_w3 (i := 79) rfl rfl
theorem k_3_80 : Cond.selects RX4 yX4_shortest yX4_shortest ∈ q_tw := q_w3 (i := 80) rfl rfl
theorem k_3_81 : Cond.code yX4_shortest cX4_shortest 3 (some .int) ∈ q_tw := q_w3 (i := 81) rfl rfl
theorem k_3_82 : Cond.methodLink RX4 19 yX4_extend ∈ q_tw := q_w3 (i := 82) rfl rfl
theorem k_3_83 : Cond.static yX4_extend ∈ q_tw := q_w3 (i := 83) rfl rfl
theorem k_3_84 : Cond.code yX4_extend cX4_extend 11 (some .boolean) ∈ q_tw := q_w3 (i := 84) rfl rfl
theorem k_3_85 : Cond.methodLink RX4 23 yX3_lackOf ∈ q_tw := q_w3 (i := 85) rfl rfl
theorem k_3_86 : Cond.instanceMethod yX3_lackOf ∈ q_tw := q_w3 (i := 86) rfl rfl
theorem k_3_87 : Cond.selects RX3 yX3_lackOf yX3_lackOf ∈ q_tw := q_w3 (i := 87) rfl rfl
theorem k_3_88 : Cond.code yX3_lackOf cX3_lackOf 2 (some .int) ∈ q_tw := q_w3 (i := 88) rfl rfl
theorem k_3_89 : Cond.methodLink RX4 29 yX3_dearest ∈ q_tw := q_w3 (i := 89) rfl rfl
theorem k_3_90 : Cond.instanceMethod yX3_dearest ∈ q_tw := q_w3 (i := 90) rfl rfl
theorem k_3_91 : Cond.selects RX3 yX3_dearest yX3_dearest ∈ q_tw := q_w3 (i := 91) rfl rfl
theorem k_3_92 : Cond.code yX3_dearest cX3_dearest 7 (some .int) ∈ q_tw := q_w3 (i := 92) rfl rfl
theorem k_3_94 : Cond.static yX6_saying ∈ q_tw := q_w3 (i := 94) rfl rfl
theorem k_3_95 : Cond.code yX6_saying cX6_saying 2 (some .int) ∈ q_tw := q_w3 (i := 95) rfl rfl
theorem k_3_96 : Cond.methodLink RX4 32 yX3_worthOf ∈ q_tw := q_w3 (i := 96) rfl rfl
theorem k_3_100 : Cond.methodLink RX4 64 yX4_shift ∈ q_tw := q_w3 (i := 100) rfl rfl
theorem k_3_102 : Cond.instanceMethod yX4_shift ∈ q_tw := q_w3 (i := 102) rfl rfl
theorem k_3_103 : Cond.code yX4_shift cX4_shift 6 none ∈ q_tw := q_w3 (i := 103) rfl rfl
theorem k_3_104 : Cond.methodLink RX4 68 yX3_hear ∈ q_tw := q_w3 (i := 104) rfl rfl
theorem k_3_109 : Cond.methodLink RX6 203 yX3_dearest ∈ q_tw := q_w3 (i := 109) rfl rfl
theorem k_3_114 : Cond.methodLink RX6 206 yX1_seek ∈ q_tw := q_w3 (i := 114) rfl rfl
theorem k_3_115 : Cond.instanceMethod yX1_seek ∈ q_tw := q_w3 (i := 115) rfl rfl
theorem k_3_116 : Cond.selects RX1 yX1_seek yX1_seek ∈ q_tw := q_w3 (i := 116) rfl rfl
theorem k_3_117 : Cond.code yX1_seek cX1_seek 3 none ∈ q_tw := q_w3 (i := 117) rfl rfl
theorem k_3_119 : Cond.methodLink RX1 31 yX3_copyFrom ∈ q_tw := q_w3 (i := 119) rfl rfl
theorem k_3_120 : Cond.methodLink RX1 35 yX3_tally ∈ q_tw := q_w3 (i := 120) rfl rfl
theorem k_3_121 : Cond.instanceMethod yX3_tally ∈ q_tw := q_w3 (i := 121) rfl rfl
theorem k_3_122 : Cond.selects RX3 yX3_tally yX3_tally ∈ q_tw := q_w3 (i := 122) rfl rfl
theorem k_3_123 : Cond.code yX3_tally cX3_tally 4 (some .int) ∈ q_tw := q_w3 (i := 123) rfl rfl
theorem k_3_124 : Cond.methodLink RX1 46 yX1_extend ∈ q_tw := q_w3 (i := 124) rfl rfl
theorem k_3_125 : Cond.static yX1_extend ∈ q_tw := q_w3 (i := 125) rfl rfl
theorem k_3_126 : Cond.code yX1_extend cX1_extend 8 none ∈ q_tw := q_w3 (i := 126) rfl rfl
theorem k_3_128 : Cond.methodLink RX1 63 yX3_isIn ∈ q_tw := q_w3 (i := 128) rfl rfl
theorem k_3_130 : Cond.methodLink RX1 71 yX3_askAll ∈ q_tw := q_w3 (i := 130) rfl rfl
theorem k_3_131 : Cond.instanceMethod yX3_askAll ∈ q_tw := q_w3 (i := 131) rfl rfl
theorem k_3_132 : Cond.selects RX3 yX3_askAll yX3_askAll ∈ q_tw := q_w3 (i := 132) rfl rfl
theorem k_3_133 : Cond.code yX3_askAll cX3_askAll 4 none ∈ q_tw := q_w3 (i := 133) rfl rfl
theorem k_3_134 : Cond.methodLink RX3 128 yX3_hoursLeft ∈ q_tw := q_w3 (i := 134) rfl rfl
theorem k_3_135 : Cond.instanceMethod yX3_hoursLeft ∈ q_tw := q_w3 (i := 135) rfl rfl
theorem k_3_136 : Cond.selects RX3 yX3_hoursLeft yX3_hoursLeft ∈ q_tw := q_w3 (i := 136) rfl rfl
theorem k_3_137 : Cond.code yX3_hoursLeft cX3_hoursLeft 3 (some .int) ∈ q_tw := q_w3 (i := 137) rfl rfl
theorem k_3_138 : Cond.methodLink RX3 132 yX3_dearest ∈ q_tw := q_w3 (i := 138) rfl rfl
theorem k_3_139 : Cond.methodLink RX3 135 yX3_speak ∈ q_tw := q_w3 (i := 139) rfl rfl
theorem k_3_144 : Cond.methodLink RX6 218 yX3_askOne ∈ q_tw := q_w3 (i := 144) rfl rfl
theorem k_3_145 : Cond.instanceMethod yX3_askOne ∈ q_tw := q_w3 (i := 145) rfl rfl
theorem k_3_146 : Cond.selects RX3 yX3_askOne yX3_askOne ∈ q_tw := q_w3 (i := 146) rfl rfl
theorem k_3_147 : Cond.code yX3_askOne cX3_askOne 5 none ∈ q_tw := q_w3 (i := 147) rfl rfl
theorem k_3_148 : Cond.methodLink RX3 138 yX3_dearestWord ∈ q_tw := q_w3 (i := 148) rfl rfl
theorem k_3_150 : Cond.instanceMethod yX3_dearestWord ∈ q_tw := q_w3 (i := 150) rfl rfl
theorem k_3_151 : Cond.code yX3_dearestWord cX3_dearestWord 7 (some .int) ∈ q_tw := q_w3 (i := 151) rfl rfl
theorem k_3_156 : Cond.methodLink RX6 221 yX0_coldFor ∈ q_tw := q_w3 (i := 156) rfl rfl
theorem k_3_157 : Cond.methodLink RX6 224 yX3_lackOf ∈ q_tw := q_w3 (i := 157) rfl rfl
theorem k_3_162 : Cond.methodLink RX6 227 yX3_wouldCrack ∈ q_tw := q_w3 (i := 162) rfl rfl
theorem k_3_167 : Cond.methodLink RX6 230 yX3_mildest ∈ q_tw := q_w3 (i := 167) rfl rfl
theorem k_3_168 : Cond.instanceMethod yX3_mildest ∈ q_tw := q_w3 (i := 168) rfl rfl
theorem k_3_169 : Cond.selects RX3 yX3_mildest yX3_mildest ∈ q_tw := q_w3 (i := 169) rfl rfl
theorem k_3_170 : Cond.code yX3_mildest cX3_mildest 10 (some .int) ∈ q_tw := q_w3 (i := 170) rfl rfl
theorem k_3_171 : Cond.methodLink RX3 141 yX3_harmOf ∈ q_tw := q_w3 (i := 171) rfl rfl
theorem k_3_173 : Cond.instanceMethod yX3_harmOf ∈ q_tw := q_w3 (i := 173) rfl rfl
theorem k_3_174 : Cond.code yX3_harmOf cX3_harmOf 6 (some .int) ∈ q_tw := q_w3 (i := 174) rfl rfl
theorem k_3_175 : Cond.methodLink RX3 147 yX3_timesHeard ∈ q_tw := q_w3 (i := 175) rfl rfl
theorem k_3_180 : Cond.methodLink RX6 236 yJ6_bitCount_0f7a4 ∈ q_tw := q_w3 (i := 180) rfl rfl
theorem k_3_181 : Cond.static yJ6_bitCount_0f7a4 ∈ q_tw := q_w3 (i := 181) rfl rfl
theorem k_3_182 : Cond.code yJ6_bitCount_0f7a4 cJ6_bitCount_0f7a4 1 (some .int) ∈ q_tw := q_w3 (i := 182) rfl rfl
theorem k_3_183 : Cond.constant RJ6 265 (1431655765) ∈ q_tw := q_w3 (i := 183) rfl rfl
theorem k_3_184 : Cond.constant RJ6 266 (858993459) ∈ q_tw := q_w3 (i := 184) rfl rfl
theorem k_3_185 : Cond.constant RJ6 267 (252645135) ∈ q_tw := q_w3 (i := 185) rfl rfl
theorem k_3_186 : Cond.methodLink RX6 241 yX3_explains ∈ q_tw := q_w3 (i := 186) rfl rfl
theorem k_3_187 : Cond.instanceMethod yX3_explains ∈ q_tw := q_w3 (i := 187) rfl rfl
theorem k_3_188 : Cond.selects RX3 yX3_explains yX3_explains ∈ q_tw := q_w3 (i := 188) rfl rfl
theorem k_3_189 : Cond.code yX3_explains cX3_explains 3 (some .boolean) ∈ q_tw := q_w3 (i := 189) rfl rfl
theorem k_3_190 : Cond.methodLink RX3 150 yX3_explainsOne ∈ q_tw := q_w3 (i := 190) rfl rfl
theorem k_3_192 : Cond.instanceMethod yX3_explainsOne ∈ q_tw := q_w3 (i := 192) rfl rfl
theorem k_3_193 : Cond.code yX3_explainsOne cX3_explainsOne 4 (some .boolean) ∈ q_tw := q_w3 (i := 193) rfl rfl
theorem k_3_198 : Cond.methodLink RX6 244 yX6_isPart ∈ q_tw := q_w3 (i := 198) rfl rfl
theorem k_3_199 : Cond.static yX6_isPart ∈ q_tw := q_w3 (i := 199) rfl rfl
theorem k_3_200 : Cond.code yX6_isPart cX6_isPart 1 (some .boolean) ∈ q_tw := q_w3 (i := 200) rfl rfl
theorem k_3_201 : Cond.methodLink RX6 250 yX6_saying ∈ q_tw := q_w3 (i := 201) rfl rfl
theorem k_3_206 : Cond.methodLink RX6 253 yX3_softerBy ∈ q_tw := q_w3 (i := 206) rfl rfl
theorem k_3_207 : Cond.instanceMethod yX3_softerBy ∈ q_tw := q_w3 (i := 207) rfl rfl
theorem k_3_208 : Cond.selects RX3 yX3_softerBy yX3_softerBy ∈ q_tw := q_w3 (i := 208) rfl rfl
theorem k_3_209 : Cond.code yX3_softerBy cX3_softerBy 8 (some .int) ∈ q_tw := q_w3 (i := 209) rfl rfl
theorem k_3_210 : Cond.methodLink RX6 257 yX6_weight ∈ q_tw := q_w3 (i := 210) rfl rfl
theorem k_3_211 : Cond.static yX6_weight ∈ q_tw := q_w3 (i := 211) rfl rfl
theorem k_3_212 : Cond.code yX6_weight cX6_weight 5 (some .int) ∈ q_tw := q_w3 (i := 212) rfl rfl
theorem k_3_213 : Cond.methodLink RX6 260 yX6_commonMeasure ∈ q_tw := q_w3 (i := 213) rfl rfl
theorem k_3_214 : Cond.static yX6_commonMeasure ∈ q_tw := q_w3 (i := 214) rfl rfl
theorem k_3_215 : Cond.code yX6_commonMeasure cX6_commonMeasure 4 (some .int) ∈ q_tw := q_w3 (i := 215) rfl rfl
theorem k_3_220 : Cond.methodLink RX6 263 yX6_drawOf ∈ q_tw := q_w3 (i := 220) rfl rfl
theorem k_3_221 : Cond.static yX6_drawOf ∈ q_tw := q_w3 (i := 221) rfl rfl
theorem k_3_222 : Cond.code yX6_drawOf cX6_drawOf 4 (some .int) ∈ q_tw := q_w3 (i := 222) rfl rfl
theorem k_3_223 : Cond.constantLong RX6 285 (7919) ∈ q_tw := q_w3 (i := 223) rfl rfl
theorem k_3_224 : Cond.constantLong RX6 287 (6151) ∈ q_tw := q_w3 (i := 224) rfl rfl
theorem k_3_225 : Cond.constantLong RX6 289 (65521) ∈ q_tw := q_w3 (i := 225) rfl rfl
theorem k_3_226 : Cond.methodLink RX6 266 yX6_live ∈ q_tw := q_w3 (i := 226) rfl rfl
theorem k_3_227 : Cond.static yX6_live ∈ q_tw := q_w3 (i := 227) rfl rfl
theorem k_3_228 : Cond.code yX6_live cX6_live 6 none ∈ q_tw := q_w3 (i := 228) rfl rfl
theorem k_3_229 : Cond.methodLink RX6 270 yX3_tally ∈ q_tw := q_w3 (i := 229) rfl rfl
theorem k_4_2 : Cond.methodLink RX6 276 yX3_hoursLeft ∈ q_tw := q_w4 (i := 2) rfl rfl
theorem k_4_9 : Cond.methodLink RX7 61 yX7_starts ∈ q_tw := q_w4 (i := 9) rfl rfl
theorem k_4_11 : Cond.instanceMethod yX7_starts ∈ q_tw := q_w4 (i := 11) rfl rfl
theorem k_4_12 : Cond.code yX7_starts cX7_starts 2 none ∈ q_tw := q_w4 (i := 12) rfl rfl
theorem k_4_13 : Cond.methodLink RX7 64 yX7_addsBlock ∈ q_tw := q_w4 (i := 13) rfl rfl
theorem k_4_15 : Cond.instanceMethod yX7_addsBlock ∈ q_tw := q_w4 (i := 15) rfl rfl
theorem k_4_16 : Cond.code yX7_addsBlock cX7_addsBlock 3 none ∈ q_tw := q_w4 (i := 16) rfl rfl
theorem k_4_17 : Cond.methodLink RX7 68 yX7_addsWord ∈ q_tw := q_w4 (i := 17) rfl rfl
theorem k_4_19 : Cond.instanceMethod yX7_addsWord ∈ q_tw := q_w4 (i := 19) rfl rfl
theorem k_4_20 : Cond.code yX7_addsWord cX7_addsWord 2 none ∈ q_tw := q_w4 (i := 20) rfl rfl
theorem k_4_21 : Cond.methodLink RX7 72 yX7_addsSpeaker ∈ q_tw := q_w4 (i := 21) rfl rfl
theorem k_4_23 : Cond.instanceMethod yX7_addsSpeaker ∈ q_tw := q_w4 (i := 23) rfl rfl
theorem k_4_24 : Cond.code yX7_addsSpeaker cX7_addsSpeaker 3 none ∈ q_tw := q_w4 (i := 24) rfl rfl
theorem k_4_25 : Cond.methodLink RX7 79 yX7_begins ∈ q_tw := q_w4 (i := 25) rfl rfl
theorem k_4_27 : Cond.instanceMethod yX7_begins ∈ q_tw := q_w4 (i := 27) rfl rfl
theorem k_4_28 : Cond.code yX7_begins cX7_begins 2 none ∈ q_tw := q_w4 (i := 28) rfl rfl
theorem k_4_29 : Cond.fieldLink RX7 7 RX7 "w" "[I" ∈ q_tw := q_w4 (i := 29) rfl rfl
theorem k_4_30 : Cond.fieldLink RX7 107 RX7 "undoes" "I" ∈ q_tw := q_w4 (i := 30) rfl rfl
theorem k_4_31 : Cond.fieldLink RX7 110 RX7 "kept" "I" ∈ q_tw := q_w4 (i := 31) rfl rfl
theorem k_4_32 : Cond.fieldLink RX7 82 RX7 "blocks" "I" ∈ q_tw := q_w4 (i := 32) rfl rfl
theorem k_4_33 : Cond.fieldLink RX7 13 RX7 "kind" "[I" ∈ q_tw := q_w4 (i := 33) rfl rfl
theorem k_4_34 : Cond.fieldLink RX7 16 RX7 "needs" "[I" ∈ q_tw := q_w4 (i := 34) rfl rfl
theorem k_4_35 : Cond.fieldLink RX7 89 RX7 "words" "I" ∈ q_tw := q_w4 (i := 35) rfl rfl
theorem k_4_36 : Cond.fieldLink RX7 19 RX7 "told" "[I" ∈ q_tw := q_w4 (i := 36) rfl rfl
theorem k_4_37 : Cond.fieldLink RX7 92 RX7 "speakers" "I" ∈ q_tw := q_w4 (i := 37) rfl rfl
theorem k_4_38 : Cond.fieldLink RX7 22 RX7 "speaks" "[I" ∈ q_tw := q_w4 (i := 38) rfl rfl
theorem k_4_39 : Cond.fieldLink RX7 25 RX7 "daily" "[I" ∈ q_tw := q_w4 (i := 39) rfl rfl
theorem k_4_40 : Cond.fieldLink RX7 104 RX7 "cold" "I" ∈ q_tw := q_w4 (i := 40) rfl rfl
theorem k_4_41 : Cond.fieldLink RX7 28 RX7 "text" "[I" ∈ q_tw := q_w4 (i := 41) rfl rfl
theorem k_4_42 : Cond.fieldLink RX7 117 RX7 "texted" "I" ∈ q_tw := q_w4 (i := 42) rfl rfl
theorem k_4_43 : Cond.fieldLink RX7 120 RX7 "place" "I" ∈ q_tw := q_w4 (i := 43) rfl rfl
theorem k_4_44 : Cond.fieldLink RX7 123 RX7 "number" "I" ∈ q_tw := q_w4 (i := 44) rfl rfl
theorem k_4_45 : Cond.fieldLink RX7 95 RX7 "readBlocks" "I" ∈ q_tw := q_w4 (i := 45) rfl rfl
theorem k_4_46 : Cond.fieldLink RX7 31 RX7 "readBlock" "[I" ∈ q_tw := q_w4 (i := 46) rfl rfl
theorem k_4_47 : Cond.fieldLink RX7 98 RX7 "readWords" "I" ∈ q_tw := q_w4 (i := 47) rfl rfl
theorem k_4_48 : Cond.fieldLink RX7 34 RX7 "readWord" "[I" ∈ q_tw := q_w4 (i := 48) rfl rfl
theorem k_4_49 : Cond.fieldLink RX7 101 RX7 "readSpeakers" "I" ∈ q_tw := q_w4 (i := 49) rfl rfl
theorem k_4_50 : Cond.fieldLink RX7 37 RX7 "readSpeaker" "[I" ∈ q_tw := q_w4 (i := 50) rfl rfl
theorem k_4_51 : Cond.fieldLink RX7 75 RX7 "readCold" "I" ∈ q_tw := q_w4 (i := 51) rfl rfl
theorem k_4_52 : Cond.fieldLink RX7 40 RX7 "readPromised" "[I" ∈ q_tw := q_w4 (i := 52) rfl rfl
theorem k_4_53 : Cond.fieldLink RX7 43 RX7 "tried" "[I" ∈ q_tw := q_w4 (i := 53) rfl rfl
theorem k_4_54 : Cond.fieldLink RX7 46 RX7 "softBy" "[I" ∈ q_tw := q_w4 (i := 54) rfl rfl
theorem k_4_55 : Cond.fieldLink RX7 49 RX7 "timesSaid" "[I" ∈ q_tw := q_w4 (i := 55) rfl rfl
theorem k_4_56 : Cond.fieldLink RX7 52 RX7 "hoursSpoken" "[I" ∈ q_tw := q_w4 (i := 56) rfl rfl
theorem k_4_57 : Cond.fieldLink RX7 55 RX7 "asked" "[I" ∈ q_tw := q_w4 (i := 57) rfl rfl
theorem k_4_58 : Cond.fieldLink RX7 58 RX7 "bestAsked" "[I" ∈ q_tw := q_w4 (i := 58) rfl rfl
theorem k_4_124 : Cond.constantLong RX7 113 (32) ∈ q_tw := q_w4 (i := 124) rfl rfl
theorem k_4_125 : Cond.constantLong RX7 115 (126) ∈ q_tw := q_w4 (i := 125) rfl rfl
theorem k_4_126 : Cond.methodLink RX7 85 yX7_in ∈ q_tw := q_w4 (i := 126) rfl rfl
theorem k_4_127 : Cond.static yX7_in ∈ q_tw := q_w4 (i := 127) rfl rfl
theorem k_4_128 : Cond.code yX7_in cX7_in 6 (some .boolean) ∈ q_tw := q_w4 (i := 128) rfl rfl
theorem k_4_137 : Cond.methodLink RX7 157 yX7_faultOf ∈ q_tw := q_w4 (i := 137) rfl rfl
theorem k_4_139 : Cond.instanceMethod yX7_faultOf ∈ q_tw := q_w4 (i := 139) rfl rfl
theorem k_4_140 : Cond.code yX7_faultOf cX7_faultOf 2 (some .int) ∈ q_tw := q_w4 (i := 140) rfl rfl
theorem k_4_141 : Cond.methodLink RX7 154 yX7_takesItem ∈ q_tw := q_w4 (i := 141) rfl rfl
theorem k_4_143 : Cond.instanceMethod yX7_takesItem ∈ q_tw := q_w4 (i := 143) rfl rfl
theorem k_4_144 : Cond.code yX7_takesItem cX7_takesItem 2 (some .boolean) ∈ q_tw := q_w4 (i := 144) rfl rfl
theorem k_4_145 : Cond.methodLink RX7 126 yX7_letterAt ∈ q_tw := q_w4 (i := 145) rfl rfl
theorem k_4_147 : Cond.instanceMethod yX7_letterAt ∈ q_tw := q_w4 (i := 147) rfl rfl
theorem k_4_148 : Cond.code yX7_letterAt cX7_letterAt 2 (some .int) ∈ q_tw := q_w4 (i := 148) rfl rfl
theorem k_4_149 : Cond.methodLink RX7 138 yX7_takesBlock ∈ q_tw := q_w4 (i := 149) rfl rfl
theorem k_4_151 : Cond.instanceMethod yX7_takesBlock ∈ q_tw := q_w4 (i := 151) rfl rfl
theorem k_4_152 : Cond.code yX7_takesBlock cX7_takesBlock 2 (some .boolean) ∈ q_tw := q_w4 (i := 152) rfl rfl
theorem k_4_153 : Cond.methodLink RX7 134 yX7_takesNumber ∈ q_tw := q_w4 (i := 153) rfl rfl
theorem k_4_155 : Cond.instanceMethod yX7_takesNumber ∈ q_tw := q_w4 (i := 155) rfl rfl
theorem k_4_156 : Cond.code yX7_takesNumber cX7_takesNumber 5 (some .boolean) ∈ q_tw := q_w4 (i := 156) rfl rfl
theorem k_4_157 : Cond.constantLong RX7 130 (48) ∈ q_tw := q_w4 (i := 157) rfl rfl
theorem k_4_158 : Cond.constantLong RX7 132 (57) ∈ q_tw := q_w4 (i := 158) rfl rfl
theorem k_4_159 : Cond.methodLink RX7 142 yX7_takesWord ∈ q_tw := q_w4 (i := 159) rfl rfl
theorem k_4_161 : Cond.instanceMethod yX7_takesWord ∈ q_tw := q_w4 (i := 161) rfl rfl
theorem k_4_162 : Cond.code yX7_takesWord cX7_takesWord 1 (some .boolean) ∈ q_tw := q_w4 (i := 162) rfl rfl
theorem k_4_163 : Cond.methodLink RX7 145 yX7_takesSpeaker ∈ q_tw := q_w4 (i := 163) rfl rfl
theorem k_4_165 : Cond.instanceMethod yX7_takesSpeaker ∈ q_tw := q_w4 (i := 165) rfl rfl
theorem k_4_166 : Cond.code yX7_takesSpeaker cX7_takesSpeaker 2 (some .boolean) ∈ q_tw := q_w4 (i := 166) rfl rfl
theorem k_4_167 : Cond.methodLink RX7 148 yX7_takesFrost ∈ q_tw := q_w4 (i := 167) rfl rfl
theorem k_4_169 : Cond.instanceMethod yX7_takesFrost ∈ q_tw := q_w4 (i := 169) rfl rfl
theorem k_4_170 : Cond.code yX7_takesFrost cX7_takesFrost 1 (some .boolean) ∈ q_tw := q_w4 (i := 170) rfl rfl
theorem k_4_171 : Cond.methodLink RX7 151 yX7_takesPromise ∈ q_tw := q_w4 (i := 171) rfl rfl
theorem k_4_173 : Cond.instanceMethod yX7_takesPromise ∈ q_tw := q_w4 (i := 173) rfl rfl
theorem k_4_174 : Cond.code yX7_takesPromise cX7_takesPromise 3 (some .boolean) ∈ q_tw := q_w4 (i := 174) rfl rfl
theorem k_4_183 : Cond.methodLink RX7 161 yX7_isBlock ∈ q_tw := q_w4 (i := 183) rfl rfl
theorem k_4_185 : Cond.instanceMethod yX7_isBlock ∈ q_tw := q_w4 (i := 185) rfl rfl
theorem k_4_186 : Cond.code yX7_isBlock cX7_isBlock 2 (some .boolean) ∈ q_tw := q_w4 (i := 186) rfl rfl
theorem k_4_191 : Cond.methodLink RX7 165 yX7_isWord ∈ q_tw := q_w4 (i := 191) rfl rfl
theorem k_4_193 : Cond.instanceMethod yX7_isWord ∈ q_tw := q_w4 (i := 193) rfl rfl
theorem k_4_194 : Cond.code yX7_isWord cX7_isWord 2 (some .boolean) ∈ q_tw := q_w4 (i := 194) rfl rfl
theorem k_4_199 : Cond.methodLink RX7 168 yX7_isSpeaker ∈ q_tw := q_w4 (i := 199) rfl rfl
theorem k_4_201 : Cond.instanceMethod yX7_isSpeaker ∈ q_tw := q_w4 (i := 201) rfl rfl
theorem k_4_202 : Cond.code yX7_isSpeaker cX7_isSpeaker 2 (some .boolean) ∈ q_tw := q_w4 (i := 202) rfl rfl
theorem k_4_215 : Cond.methodLink RX7 185 yX7_worthOf ∈ q_tw := q_w4 (i := 215) rfl rfl
theorem k_4_217 : Cond.instanceMethod yX7_worthOf ∈ q_tw := q_w4 (i := 217) rfl rfl
theorem k_4_218 : Cond.code yX7_worthOf cX7_worthOf 5 (some .int) ∈ q_tw := q_w4 (i := 218) rfl rfl
theorem k_4_219 : Cond.methodLink RX7 175 yX7_spoken ∈ q_tw := q_w4 (i := 219) rfl rfl
theorem k_4_221 : Cond.instanceMethod yX7_spoken ∈ q_tw := q_w4 (i := 221) rfl rfl
theorem k_4_222 : Cond.code yX7_spoken cX7_spoken 5 (some .int) ∈ q_tw := q_w4 (i := 222) rfl rfl
theorem k_4_223 : Cond.methodLink RX7 171 yX7_byKind ∈ q_tw := q_w4 (i := 223) rfl rfl
theorem k_4_225 : Cond.instanceMethod yX7_byKind ∈ q_tw := q_w4 (i := 225) rfl rfl
theorem k_4_226 : Cond.code yX7_byKind cX7_byKind 3 (some .int) ∈ q_tw := q_w4 (i := 226) rfl rfl
theorem k_4_227 : Cond.methodLink RX7 179 yX7_heardOf ∈ q_tw := q_w4 (i := 227) rfl rfl
theorem k_4_229 : Cond.instanceMethod yX7_heardOf ∈ q_tw := q_w4 (i := 229) rfl rfl
theorem k_4_230 : Cond.code yX7_heardOf cX7_heardOf 4 (some .int) ∈ q_tw := q_w4 (i := 230) rfl rfl
theorem k_4_231 : Cond.methodLink RX7 182 yX7_less ∈ q_tw := q_w4 (i := 231) rfl rfl
theorem k_4_232 : Cond.static yX7_less ∈ q_tw := q_w4 (i := 232) rfl rfl
theorem k_4_233 : Cond.code yX7_less cX7_less 2 (some .int) ∈ q_tw := q_w4 (i := 233) rfl rfl
theorem k_4_238 : Cond.methodLink RX7 205 yX7_canSay ∈ q_tw := q_w4 (i := 238) rfl rfl
theorem k_5_0 : Cond.instanceMethod yX7_canSay ∈ q_tw := q_w5 (i := 0) rfl rfl
theorem k_5_1 : Cond.code yX7_canSay cX7_canSay 4 (some .boolean) ∈ q_tw := q_w5 (i := 1) rfl rfl
theorem k_5_2 : Cond.methodLink RX7 189 yX7_inBed ∈ q_tw := q_w5 (i := 2) rfl rfl
theorem k_5_4 : Cond.instanceMethod yX7_inBed ∈ q_tw := q_w5 (i := 4) rfl rfl
theorem k_5_5 : Cond.code yX7_inBed cX7_inBed 3 (some .boolean) ∈ q_tw := q_w5 (i := 5) rfl rfl
theorem k_5_6 : Cond.methodLink RX7 208 yX7_minds ∈ q_tw := q_w5 (i := 6) rfl rfl
theorem k_5_8 : Cond.instanceMethod yX7_minds ∈ q_tw := q_w5 (i := 8) rfl rfl
theorem k_5_9 : Cond.code yX7_minds cX7_minds 2 none ∈ q_tw := q_w5 (i := 9) rfl rfl
theorem k_5_10 : Cond.methodLink RX7 202 yX7_copy ∈ q_tw := q_w5 (i := 10) rfl rfl
theorem k_5_12 : Cond.instanceMethod yX7_copy ∈ q_tw := q_w5 (i := 12) rfl rfl
theorem k_5_13 : Cond.code yX7_copy cX7_copy 4 none ∈ q_tw := q_w5 (i := 13) rfl rfl
theorem k_5_14 : Cond.methodLink RX7 211 yX7_says ∈ q_tw := q_w5 (i := 14) rfl rfl
theorem k_5_16 : Cond.instanceMethod yX7_says ∈ q_tw := q_w5 (i := 16) rfl rfl
theorem k_5_17 : Cond.code yX7_says cX7_says 6 none ∈ q_tw := q_w5 (i := 17) rfl rfl
theorem k_5_18 : Cond.methodLink RX7 193 yX7_hears ∈ q_tw := q_w5 (i := 18) rfl rfl
theorem k_5_20 : Cond.instanceMethod yX7_hears ∈ q_tw := q_w5 (i := 20) rfl rfl
theorem k_5_21 : Cond.code yX7_hears cX7_hears 5 (some .boolean) ∈ q_tw := q_w5 (i := 21) rfl rfl
theorem k_5_22 : Cond.methodLink RX7 196 yX7_comes ∈ q_tw := q_w5 (i := 22) rfl rfl
theorem k_5_24 : Cond.instanceMethod yX7_comes ∈ q_tw := q_w5 (i := 24) rfl rfl
theorem k_5_25 : Cond.code yX7_comes cX7_comes 3 none ∈ q_tw := q_w5 (i := 25) rfl rfl
theorem k_5_30 : Cond.constantLong RX7 215 (7) ∈ q_tw := q_w5 (i := 30) rfl rfl
theorem k_5_35 : Cond.methodLink RX7 217 yX7_takesFor ∈ q_tw := q_w5 (i := 35) rfl rfl
theorem k_5_37 : Cond.instanceMethod yX7_takesFor ∈ q_tw := q_w5 (i := 37) rfl rfl
theorem k_5_38 : Cond.code yX7_takesFor cX7_takesFor 4 none ∈ q_tw := q_w5 (i := 38) rfl rfl
theorem k_5_39 : Cond.methodLink RX7 199 yX7_isElse ∈ q_tw := q_w5 (i := 39) rfl rfl
theorem k_5_41 : Cond.instanceMethod yX7_isElse ∈ q_tw := q_w5 (i := 41) rfl rfl
theorem k_5_42 : Cond.code yX7_isElse cX7_isElse 7 (some .boolean) ∈ q_tw := q_w5 (i := 42) rfl rfl
theorem k_5_47 : Cond.constantLong RX7 221 (20) ∈ q_tw := q_w5 (i := 47) rfl rfl
theorem k_5_48 : Cond.methodLink RX7 223 yX7_passes ∈ q_tw := q_w5 (i := 48) rfl rfl
theorem k_5_50 : Cond.instanceMethod yX7_passes ∈ q_tw := q_w5 (i := 50) rfl rfl
theorem k_5_51 : Cond.code yX7_passes cX7_passes 3 none ∈ q_tw := q_w5 (i := 51) rfl rfl
theorem k_5_60 : Cond.methodLink RX7 226 yX7_bringsOut ∈ q_tw := q_w5 (i := 60) rfl rfl
theorem k_5_62 : Cond.instanceMethod yX7_bringsOut ∈ q_tw := q_w5 (i := 62) rfl rfl
theorem k_5_63 : Cond.code yX7_bringsOut cX7_bringsOut 7 (some .boolean) ∈ q_tw := q_w5 (i := 63) rfl rfl
theorem k_5_68 : Cond.methodLink RX7 229 yX7_bestOf ∈ q_tw := q_w5 (i := 68) rfl rfl
theorem k_5_70 : Cond.instanceMethod yX7_bestOf ∈ q_tw := q_w5 (i := 70) rfl rfl
theorem k_5_71 : Cond.code yX7_bestOf cX7_bestOf 8 (some .int) ∈ q_tw := q_w5 (i := 71) rfl rfl
theorem k_5_76 : Cond.methodLink RX7 244 yX7_bestOrder ∈ q_tw := q_w5 (i := 76) rfl rfl
theorem k_5_78 : Cond.instanceMethod yX7_bestOrder ∈ q_tw := q_w5 (i := 78) rfl rfl
theorem k_5_79 : Cond.code yX7_bestOrder cX7_bestOrder 9 (some .int) ∈ q_tw := q_w5 (i := 79) rfl rfl
theorem k_5_80 : Cond.methodLink RX7 232 yX7_bedOf ∈ q_tw := q_w5 (i := 80) rfl rfl
theorem k_5_82 : Cond.instanceMethod yX7_bedOf ∈ q_tw := q_w5 (i := 82) rfl rfl
theorem k_5_83 : Cond.code yX7_bedOf cX7_bedOf 3 (some .int) ∈ q_tw := q_w5 (i := 83) rfl rfl
theorem k_5_84 : Cond.methodLink RX7 235 yX7_ones ∈ q_tw := q_w5 (i := 84) rfl rfl
theorem k_5_85 : Cond.static yX7_ones ∈ q_tw := q_w5 (i := 85) rfl rfl
theorem k_5_86 : Cond.code yX7_ones cX7_ones 3 (some .int) ∈ q_tw := q_w5 (i := 86) rfl rfl
theorem k_5_87 : Cond.methodLink RX7 238 yX7_has ∈ q_tw := q_w5 (i := 87) rfl rfl
theorem k_5_88 : Cond.static yX7_has ∈ q_tw := q_w5 (i := 88) rfl rfl
theorem k_5_89 : Cond.code yX7_has cX7_has 2 (some .boolean) ∈ q_tw := q_w5 (i := 89) rfl rfl
theorem k_5_90 : Cond.methodLink RX7 241 yX7_asks ∈ q_tw := q_w5 (i := 90) rfl rfl
theorem k_5_92 : Cond.instanceMethod yX7_asks ∈ q_tw := q_w5 (i := 92) rfl rfl
theorem k_5_93 : Cond.code yX7_asks cX7_asks 4 none ∈ q_tw := q_w5 (i := 93) rfl rfl
theorem k_5_98 : Cond.methodLink RX7 247 yX7_tries ∈ q_tw := q_w5 (i := 98) rfl rfl
theorem k_5_100 : Cond.instanceMethod yX7_tries ∈ q_tw := q_w5 (i := 100) rfl rfl
theorem k_5_101 : Cond.code yX7_tries cX7_tries 1 none ∈ q_tw := q_w5 (i := 101) rfl rfl
theorem k_5_102 : Cond.methodLink RX7 250 yX7_bestWord ∈ q_tw := q_w5 (i := 102) rfl rfl
theorem k_5_104 : Cond.instanceMethod yX7_bestWord ∈ q_tw := q_w5 (i := 104) rfl rfl
theorem k_5_105 : Cond.code yX7_bestWord cX7_bestWord 7 (some .int) ∈ q_tw := q_w5 (i := 105) rfl rfl
theorem k_5_118 : Cond.constant RX7 253 (1000000) ∈ q_tw := q_w5 (i := 118) rfl rfl
theorem k_5_119 : Cond.methodLink RX7 254 yX7_harmOf ∈ q_tw := q_w5 (i := 119) rfl rfl
theorem k_5_121 : Cond.instanceMethod yX7_harmOf ∈ q_tw := q_w5 (i := 121) rfl rfl
theorem k_5_122 : Cond.code yX7_harmOf cX7_harmOf 5 (some .int) ∈ q_tw := q_w5 (i := 122) rfl rfl
theorem k_5_127 : Cond.methodLink RX7 257 yX7_lies ∈ q_tw := q_w5 (i := 127) rfl rfl
theorem k_5_129 : Cond.instanceMethod yX7_lies ∈ q_tw := q_w5 (i := 129) rfl rfl
theorem k_5_130 : Cond.code yX7_lies cX7_lies 6 (some .boolean) ∈ q_tw := q_w5 (i := 130) rfl rfl
theorem k_5_135 : Cond.constantLong RX7 260 (99) ∈ q_tw := q_w5 (i := 135) rfl rfl
theorem k_5_140 : Cond.constantLong RX7 262 (8) ∈ q_tw := q_w5 (i := 140) rfl rfl
theorem k_5_141 : Cond.constantLong RX7 264 (10) ∈ q_tw := q_w5 (i := 141) rfl rfl
theorem k_5_146 : Cond.constantLong RX7 266 (9999) ∈ q_tw := q_w5 (i := 146) rfl rfl
theorem k_5_147 : Cond.constantLong RX7 268 (60) ∈ q_tw := q_w5 (i := 147) rfl rfl
theorem k_5_148 : Cond.constantLong RX7 270 (7919) ∈ q_tw := q_w5 (i := 148) rfl rfl
theorem k_5_149 : Cond.constantLong RX7 272 (6151) ∈ q_tw := q_w5 (i := 149) rfl rfl
theorem k_5_150 : Cond.constantLong RX7 274 (65521) ∈ q_tw := q_w5 (i := 150) rfl rfl
theorem k_5_151 : Cond.methodLink RX7 276 yX7_doesBy ∈ q_tw := q_w5 (i := 151) rfl rfl
theorem k_5_153 : Cond.instanceMethod yX7_doesBy ∈ q_tw := q_w5 (i := 153) rfl rfl
theorem k_5_154 : Cond.code yX7_doesBy cX7_doesBy 5 none ∈ q_tw := q_w5 (i := 154) rfl rfl
theorem k_5_155 : Cond.methodLink RX7 279 yX7_manyHow ∈ q_tw := q_w5 (i := 155) rfl rfl
theorem k_5_157 : Cond.instanceMethod yX7_manyHow ∈ q_tw := q_w5 (i := 157) rfl rfl
theorem k_5_158 : Cond.code yX7_manyHow cX7_manyHow 5 (some .int) ∈ q_tw := q_w5 (i := 158) rfl rfl
