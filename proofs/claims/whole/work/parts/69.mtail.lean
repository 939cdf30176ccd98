/-! StoneApologiesModel(): behind its rows, a run of the little machine -/
theorem m_sg_137 (sx : QX) (n : Nat) (H : QH) : k_ev sx tl_M 20 (n + 2) (137, ([(0, vr 9 165)], ([], H))) = q_cV (q_CL (q_tb sx) q_kpt 20 (109, ([vr 9 165], H))) (fun H1 => k_ev sx tl_M 20 (n) (141, ([(0, vr 9 165)], ([], H1)))) := rfl
theorem m_sg_141 (sx : QX) (n : Nat) (H : QH) : k_ev sx tl_M 20 (n + 4) (141, ([(0, vr 9 165)], ([], H))) = q_cV (q_CL (q_tb sx) q_kpt 20 (110, ([vr 9 165, vn 0, vn 20], H))) (fun H1 => k_ev sx tl_M 20 (n) (148, ([(0, vr 9 165)], ([], H1)))) := rfl
theorem m_sg_148 (sx : QX) (n : Nat) (H : QH) : k_ev sx tl_M 20 (n + 4) (148, ([(0, vr 9 165)], ([], H))) = q_cV (q_CL (q_tb sx) q_kpt 20 (110, ([vr 9 165, vn 1, vn 14], H))) (fun H1 => k_ev sx tl_M 20 (n) (155, ([(0, vr 9 165)], ([], H1)))) := rfl
theorem m_sg_155 (sx : QX) (n : Nat) (H : QH) : k_ev sx tl_M 20 (n + 4) (155, ([(0, vr 9 165)], ([], H))) = q_cV (q_CL (q_tb sx) q_kpt 20 (110, ([vr 9 165, vn 2, vn 9], H))) (fun H1 => k_ev sx tl_M 20 (n) (162, ([(0, vr 9 165)], ([], H1)))) := rfl
theorem m_sg_162 (sx : QX) (n : Nat) (H : QH) : k_ev sx tl_M 20 (n + 4) (162, ([(0, vr 9 165)], ([], H))) = q_cV (q_CL (q_tb sx) q_kpt 20 (110, ([vr 9 165, vn 3, vn 6], H))) (fun H1 => k_ev sx tl_M 20 (n) (169, ([(0, vr 9 165)], ([], H1)))) := rfl
theorem m_sg_169 (sx : QX) (n : Nat) (H : QH) : k_ev sx tl_M 20 (n + 4) (169, ([(0, vr 9 165)], ([], H))) = q_cV (q_CL (q_tb sx) q_kpt 20 (110, ([vr 9 165, vn 0, vn 30], H))) (fun H1 => k_ev sx tl_M 20 (n) (176, ([(0, vr 9 165)], ([], H1)))) := rfl
theorem m_sg_176 (sx : QX) (n : Nat) (H : QH) : k_ev sx tl_M 20 (n + 4) (176, ([(0, vr 9 165)], ([], H))) = q_cV (q_CL (q_tb sx) q_kpt 20 (110, ([vr 9 165, vn 1, vn 25], H))) (fun H1 => k_ev sx tl_M 20 (n) (183, ([(0, vr 9 165)], ([], H1)))) := rfl
theorem m_sg_183 (sx : QX) (n : Nat) (H : QH) : k_ev sx tl_M 20 (n + 3) (183, ([(0, vr 9 165)], ([], H))) = q_cV (q_CL (q_tb sx) q_kpt 20 (111, ([vr 9 165, vn 6], H))) (fun H1 => k_ev sx tl_M 20 (n) (189, ([(0, vr 9 165)], ([], H1)))) := rfl
theorem m_sg_189 (sx : QX) (n : Nat) (H : QH) : k_ev sx tl_M 20 (n + 3) (189, ([(0, vr 9 165)], ([], H))) = q_cV (q_CL (q_tb sx) q_kpt 20 (111, ([vr 9 165, vn 4], H))) (fun H1 => k_ev sx tl_M 20 (n) (194, ([(0, vr 9 165)], ([], H1)))) := rfl
theorem m_sg_194 (sx : QX) (n : Nat) (H : QH) : k_ev sx tl_M 20 (n + 3) (194, ([(0, vr 9 165)], ([], H))) = q_cV (q_CL (q_tb sx) q_kpt 20 (111, ([vr 9 165, vn 5], H))) (fun H1 => k_ev sx tl_M 20 (n) (199, ([(0, vr 9 165)], ([], H1)))) := rfl
theorem m_sg_199 (sx : QX) (n : Nat) (H : QH) : k_ev sx tl_M 20 (n + 3) (199, ([(0, vr 9 165)], ([], H))) = q_cV (q_CL (q_tb sx) q_kpt 20 (111, ([vr 9 165, vn 9], H))) (fun H1 => k_ev sx tl_M 20 (n) (205, ([(0, vr 9 165)], ([], H1)))) := rfl
theorem m_sg_205 (sx : QX) (n : Nat) (H : QH) : k_ev sx tl_M 20 (n + 3) (205, ([(0, vr 9 165)], ([], H))) = q_cV (q_CL (q_tb sx) q_kpt 20 (111, ([vr 9 165, vn 2], H))) (fun H1 => k_ev sx tl_M 20 (n) (210, ([(0, vr 9 165)], ([], H1)))) := rfl
theorem m_sg_210 (sx : QX) (n : Nat) (H : QH) : k_ev sx tl_M 20 (n + 4) (210, ([(0, vr 9 165)], ([], H))) = q_cV (q_CL (q_tb sx) q_kpt 20 (112, ([vr 9 165, vn 0, vn 4], H))) (fun H1 => k_ev sx tl_M 20 (n) (216, ([(0, vr 9 165)], ([], H1)))) := rfl
theorem m_sg_216 (sx : QX) (n : Nat) (H : QH) : k_ev sx tl_M 20 (n + 4) (216, ([(0, vr 9 165)], ([], H))) = q_cV (q_CL (q_tb sx) q_kpt 20 (112, ([vr 9 165, vn 1, vn 6], H))) (fun H1 => k_ev sx tl_M 20 (n) (223, ([(0, vr 9 165)], ([], H1)))) := rfl
theorem m_sg_223 (sx : QX) (n : Nat) (H : QH) : k_ev sx tl_M 20 (n + 4) (223, ([(0, vr 9 165)], ([], H))) = q_cV (q_CL (q_tb sx) q_kpt 20 (112, ([vr 9 165, vn 2, vn 2], H))) (fun H1 => k_ev sx tl_M 20 (n) (229, ([(0, vr 9 165)], ([], H1)))) := rfl
theorem m_sg_229 (sx : QX) (n : Nat) (H : QH) : k_ev sx tl_M 20 (n + 4) (229, ([(0, vr 9 165)], ([], H))) = q_cV (q_CL (q_tb sx) q_kpt 20 (112, ([vr 9 165, vn 3, vn 3], H))) (fun H1 => k_ev sx tl_M 20 (n) (235, ([(0, vr 9 165)], ([], H1)))) := rfl
theorem m_sg_235 (sx : QX) (n : Nat) (H : QH) : k_ev sx tl_M 20 (n + 3) (235, ([(0, vr 9 165)], ([], H))) = k_ev sx tl_M 20 (n) (240, ([(0, vr 9 165)], ([], (q_hs H 165 22 (nI 2))))) := rfl
theorem m_sg_240 (sx : QX) (n : Nat) (H : QH) : k_ev sx tl_M 20 (n + 5) (240, ([(0, vr 9 165)], ([], H))) = k_ev sx tl_M 20 (n) (247, ([(0, vr 9 165)], ([], (q_hs H 176 0 (nI 3))))) := rfl
theorem m_sg_247 (sx : QX) (n : Nat) (H : QH) : k_ev sx tl_M 20 (n + 5) (247, ([(0, vr 9 165)], ([], H))) = k_ev sx tl_M 20 (n) (255, ([(0, vr 9 165)], ([], (q_hs H 176 6 (nI 5))))) := rfl
theorem m_sg_255 (sx : QX) (n : Nat) (H : QH) : k_ev sx tl_M 20 (n + 5) (255, ([(0, vr 9 165)], ([], H))) = k_ev sx tl_M 20 (n) (263, ([(0, vr 9 165)], ([], (q_hs H 176 8 (nI 1))))) := rfl
theorem m_sg_263 (sx : QX) (n : Nat) (H : QH) : k_ev sx tl_M 20 (n + 2) (263, ([(0, vr 9 165)], ([], H))) = q_cV (q_CL (q_tb sx) q_kpt 20 (113, ([vr 9 165], H))) (fun H1 => k_ev sx tl_M 20 (n) (267, ([(0, vr 9 165)], ([], H1)))) := rfl
theorem m_sg_267 (sx : QX) (n : Nat) (H : QH) : k_ev sx tl_M 20 (n + 1) (267, ([(0, vr 9 165)], ([], H))) = some (none, H) := rfl
theorem m_tail (sx : QX) (H : QH) (hz : H 165 13 = nI 0) : ∃ H', k_ev sx tl_M 20 (78) (137, ([(0, vr 9 165)], ([], H))) = some (none, H') ∧ q_RM q_A0 H' ∧ ∀ a, a < 165 → H' a = H a := by
  obtain ⟨H1, r1, f1, b1⟩ := m_starts sx 19 H
  have g1 : ∀ a, a < 165 → H1 a = H a := fun a ha => f1.1 a (by omega) (by omega)
  have z1 : H1 165 13 = nI 0 := (f1.2 13 (by omega)).trans hz
  obtain ⟨H2, r2, o2, p2, b2⟩ := m_addsBlock sx 19 0 20 H1 _ b1 (by decide)
  have g2 : ∀ a, a < 165 → H2 a = H a := fun a ha => (o2 a (by omega) (by omega)).trans (g1 a ha)
  have z2 : H2 165 13 = nI 0 := (p2 13 (by omega)).trans z1
  obtain ⟨H3, r3, o3, p3, b3⟩ := m_addsBlock sx 19 1 14 H2 _ b2 (by decide)
  have g3 : ∀ a, a < 165 → H3 a = H a := fun a ha => (o3 a (by omega) (by omega)).trans (g2 a ha)
  have z3 : H3 165 13 = nI 0 := (p3 13 (by omega)).trans z2
  obtain ⟨H4, r4, o4, p4, b4⟩ := m_addsBlock sx 19 2 9 H3 _ b3 (by decide)
  have g4 : ∀ a, a < 165 → H4 a = H a := fun a ha => (o4 a (by omega) (by omega)).trans (g3 a ha)
  have z4 : H4 165 13 = nI 0 := (p4 13 (by omega)).trans z3
  obtain ⟨H5, r5, o5, p5, b5⟩ := m_addsBlock sx 19 3 6 H4 _ b4 (by decide)
  have g5 : ∀ a, a < 165 → H5 a = H a := fun a ha => (o5 a (by omega) (by omega)).trans (g4 a ha)
  have z5 : H5 165 13 = nI 0 := (p5 13 (by omega)).trans z4
  obtain ⟨H6, r6, o6, p6, b6⟩ := m_addsBlock sx 19 0 30 H5 _ b5 (by decide)
  have g6 : ∀ a, a < 165 → H6 a = H a := fun a ha => (o6 a (by omega) (by omega)).trans (g5 a ha)
  have z6 : H6 165 13 = nI 0 := (p6 13 (by omega)).trans z5
  obtain ⟨H7, r7, o7, p7, b7⟩ := m_addsBlock sx 19 1 25 H6 _ b6 (by decide)
  have g7 : ∀ a, a < 165 → H7 a = H a := fun a ha => (o7 a (by omega) (by omega)).trans (g6 a ha)
  have z7 : H7 165 13 = nI 0 := (p7 13 (by omega)).trans z6
  obtain ⟨H8, r8, o8, p8, b8⟩ := m_addsWord sx 19 6 H7 _ b7 (by decide)
  have g8 : ∀ a, a < 165 → H8 a = H a := fun a ha => (o8 a (by omega) (by omega)).trans (g7 a ha)
  have z8 : H8 165 13 = nI 0 := (p8 13 (by omega)).trans z7
  obtain ⟨H9, r9, o9, p9, b9⟩ := m_addsWord sx 19 4 H8 _ b8 (by decide)
  have g9 : ∀ a, a < 165 → H9 a = H a := fun a ha => (o9 a (by omega) (by omega)).trans (g8 a ha)
  have z9 : H9 165 13 = nI 0 := (p9 13 (by omega)).trans z8
  obtain ⟨H10, r10, o10, p10, b10⟩ := m_addsWord sx 19 5 H9 _ b9 (by decide)
  have g10 : ∀ a, a < 165 → H10 a = H a := fun a ha => (o10 a (by omega) (by omega)).trans (g9 a ha)
  have z10 : H10 165 13 = nI 0 := (p10 13 (by omega)).trans z9
  obtain ⟨H11, r11, o11, p11, b11⟩ := m_addsWord sx 19 9 H10 _ b10 (by decide)
  have g11 : ∀ a, a < 165 → H11 a = H a := fun a ha => (o11 a (by omega) (by omega)).trans (g10 a ha)
  have z11 : H11 165 13 = nI 0 := (p11 13 (by omega)).trans z10
  obtain ⟨H12, r12, o12, p12, b12⟩ := m_addsWord sx 19 2 H11 _ b11 (by decide)
  have g12 : ∀ a, a < 165 → H12 a = H a := fun a ha => (o12 a (by omega) (by omega)).trans (g11 a ha)
  have z12 : H12 165 13 = nI 0 := (p12 13 (by omega)).trans z11
  obtain ⟨H13, r13, o13, p13, b13⟩ := m_addsSpeaker sx 19 0 4 H12 _ b12 (by decide)
  have g13 : ∀ a, a < 165 → H13 a = H a := fun a ha => (o13 a (by omega) (by omega)).trans (g12 a ha)
  have z13 : H13 165 13 = nI 0 := (p13 13 (by omega)).trans z12
  obtain ⟨H14, r14, o14, p14, b14⟩ := m_addsSpeaker sx 19 1 6 H13 _ b13 (by decide)
  have g14 : ∀ a, a < 165 → H14 a = H a := fun a ha => (o14 a (by omega) (by omega)).trans (g13 a ha)
  have z14 : H14 165 13 = nI 0 := (p14 13 (by omega)).trans z13
  obtain ⟨H15, r15, o15, p15, b15⟩ := m_addsSpeaker sx 19 2 2 H14 _ b14 (by decide)
  have g15 : ∀ a, a < 165 → H15 a = H a := fun a ha => (o15 a (by omega) (by omega)).trans (g14 a ha)
  have z15 : H15 165 13 = nI 0 := (p15 13 (by omega)).trans z14
  obtain ⟨H16, r16, o16, p16, b16⟩ := m_addsSpeaker sx 19 3 3 H15 _ b15 (by decide)
  have g16 : ∀ a, a < 165 → H16 a = H a := fun a ha => (o16 a (by omega) (by omega)).trans (g15 a ha)
  have z16 : H16 165 13 = nI 0 := (p16 13 (by omega)).trans z15
  have b17 := m_setFrost (a := 2) b16
  have g17 : ∀ a, a < 165 → (q_hs H16 165 22 (nI 2)) a = H a := fun a ha => (q_hs_ne (by omega)).trans (g16 a ha)
  have z17 : (q_hs H16 165 22 (nI 2)) 165 13 = nI 0 := (q_hs_ix (by omega)).trans z16
  generalize hH17 : q_hs H16 165 22 (nI 2) = H17 at b17 g17 z17
  have b18 : m_bed (q_hs H17 176 0 (nI 3)) _ := m_setVow (s := 0) (b := 0) (u := 3) b17
  have g18 : ∀ a, a < 165 → (q_hs H17 176 0 (nI 3)) a = H a := fun a ha => (q_hs_ne (by omega)).trans (g17 a ha)
  have z18 : (q_hs H17 176 0 (nI 3)) 165 13 = nI 0 := by rw [q_hs_ne (by omega)]; exact z17
  generalize hH18 : q_hs H17 176 0 (nI 3) = H18 at b18 g18 z18
  have b19 : m_bed (q_hs H18 176 6 (nI 5)) _ := m_setVow (s := 1) (b := 0) (u := 5) b18
  have g19 : ∀ a, a < 165 → (q_hs H18 176 6 (nI 5)) a = H a := fun a ha => (q_hs_ne (by omega)).trans (g18 a ha)
  have z19 : (q_hs H18 176 6 (nI 5)) 165 13 = nI 0 := by rw [q_hs_ne (by omega)]; exact z18
  generalize hH19 : q_hs H18 176 6 (nI 5) = H19 at b19 g19 z19
  have b20 : m_bed (q_hs H19 176 8 (nI 1)) _ := m_setVow (s := 1) (b := 2) (u := 1) b19
  have g20 : ∀ a, a < 165 → (q_hs H19 176 8 (nI 1)) a = H a := fun a ha => (q_hs_ne (by omega)).trans (g19 a ha)
  have z20 : (q_hs H19 176 8 (nI 1)) 165 13 = nI 0 := by rw [q_hs_ne (by omega)]; exact z19
  generalize hH20 : q_hs H19 176 8 (nI 1) = H20 at b20 g20 z20
  obtain ⟨H21, r21, o21, y1, y2, y3, y4, y5⟩ := m_begins sx 19 H20 q_R q_R_ok (m_bed_R b20)
  refine ⟨H21, ?_, RM_lay (A := ((0, q_T), (q_R, (z_w0 q_R, ([], []))))) (R := q_R) q_R_ok (y1.trans z20) (fun j hj => absurd hj (Nat.not_lt_zero _)) y2 y3 y4 y5, fun a ha => (o21 a (Or.inl ha)).trans (g20 a ha)⟩
  rw [m_sg_137 sx 76 H, r1, q_cVs, m_sg_141 sx 72 H1, r2, q_cVs, m_sg_148 sx 68 H2, r3, q_cVs, m_sg_155 sx 64 H3, r4, q_cVs, m_sg_162 sx 60 H4, r5, q_cVs, m_sg_169 sx 56 H5, r6, q_cVs, m_sg_176 sx 52 H6, r7, q_cVs, m_sg_183 sx 49 H7, r8, q_cVs, m_sg_189 sx 46 H8, r9, q_cVs, m_sg_194 sx 43 H9, r10, q_cVs, m_sg_199 sx 40 H10, r11, q_cVs, m_sg_205 sx 37 H11, r12, q_cVs, m_sg_210 sx 33 H12, r13, q_cVs, m_sg_216 sx 29 H13, r14, q_cVs, m_sg_223 sx 25 H14, r15, q_cVs, m_sg_229 sx 21 H15, r16, q_cVs, m_sg_235 sx 18 H16, hH17, m_sg_240 sx 13 H17, hH18, m_sg_247 sx 8 H18, hH19, m_sg_255 sx 3 H19, hH20, m_sg_263 sx 1 H20, r21, q_cVs, m_sg_267 sx 0 H21]
