/-! THE OBJECTS of StoneApologies() as places -/
def k_text (cI : ClassId) (h : Nat) (u : Nat → Nat) : va_W := [(h, .inr (5, [.ref (u 1), .ref (u 2), .int (nI 0), .int (nI 0)])), (u 1, .inl (cI, (200, .inl (fun _ => nI 0)))), (u 2, .inl (cI, (3, .inl (fun _ => nI 0))))]
def k_bed (cI : ClassId) (h : Nat) (u : Nat → Nat) : va_W := [(h, .inr (0, [.int (nI 0), .int (nI 0), .int (nI 0), .int (nI 0), .ref (u 1), .ref (u 2), .ref (u 3), .ref (u 4), .ref (u 5), .ref (u 6), .ref (u 7), .ref (u 8)])), (u 1, .inl (cI, (6, .inl (fun _ => nI 0)))), (u 2, .inl (cI, (6, .inl (fun _ => nI 0)))), (u 3, .inl (cI, (6, .inl (fun _ => nI 0)))), (u 4, .inl (cI, (4, .inl (fun _ => nI 0)))), (u 5, .inl (cI, (4, .inl (fun _ => nI 0)))), (u 6, .inl (cI, (24, .inl (fun _ => nI 0)))), (u 7, .inl (cI, (36, .inl (fun _ => nI 0)))), (u 8, .inl (cI, (144, .inl (fun _ => nI 0))))]
def k_pile (cI cQ : ClassId) (bd n h : Nat) (u : Nat × (Nat → Nat → Nat)) : va_W := ((h, .inr (2, [.ref u.1, .int (nI 0), .int (nI 0)])) :: (u.1, k_ar cQ n u.2 n) :: []) ++ k_qs cI bd u.2 n
def k_rows (cI : ClassId) (tr h : Nat) (u : Nat → Nat) : va_W := [(h, .inr (4, [.ref tr, .ref (u 1)])), (u 1, .inl (cI, (4, .inl (fun _ => nI 0))))]
def k_ord (cI cQ : ClassId) (bd h : Nat) (u : (Nat → Nat) × (Nat → Nat → Nat)) : va_W := ((h, .inr (1, [.ref (u.1 1), .ref (u.1 2), .ref (u.1 3), .int (nI 0), .int (nI 0)])) :: (u.1 1, k_ar cQ 7 u.2 7) :: []) ++ (k_qs cI bd u.2 7 ++ [(u.1 2, .inl (cI, (6, .inl (fun _ => nI 0)))), (u.1 3, .inl (cI, (6, .inl (fun _ => nI 0))))])
def k_all (cI cQ : ClassId) (h0 t0 : Nat) (uT : Nat → Nat) (b1 : Nat) (uB : Nat → Nat) (b2 : Nat) (uC : Nat → Nat) (n0 : Nat) (uN : Nat → Nat) (r0 : Nat) (uR : Nat → Nat) (p8 : Nat) (P8 : Nat × (Nat → Nat → Nat)) (p2 : Nat) (P2 : Nat × (Nat → Nat → Nat)) (w0 : Nat) (uW : Nat → Nat) (o0 : Nat) (uO : (Nat → Nat) × (Nat → Nat → Nat)) : va_W := (h0, .inr (6, [.ref t0, .ref b1, .ref b2, .ref n0, .ref r0, .ref p8, .ref p2, .ref w0, .ref o0])) :: (((((((((([] : va_W) ++ k_text cI t0 uT) ++ k_bed cI b1 uB) ++ k_bed cI b2 uC) ++ k_qy cI b1 n0 uN) ++ k_qy cI b1 r0 uR) ++ k_pile cI cQ b1 8 p8 P8) ++ k_pile cI cQ b1 2 p2 P2) ++ k_rows cI r0 w0 uW) ++ k_ord cI cQ b1 o0 uO)
def k_sel (x : Nat) (u : Nat → Nat) (i : Nat) : Nat := if i = 0 then x else u i
def k_ad (h0 t0 : Nat) (uT : Nat → Nat) (b1 : Nat) (uB : Nat → Nat) (b2 : Nat) (uC : Nat → Nat) (n0 : Nat) (uN : Nat → Nat) (r0 : Nat) (uR : Nat → Nat) (p8 : Nat) (P8 : Nat × (Nat → Nat → Nat)) (p2 : Nat) (P2 : Nat × (Nat → Nat → Nat)) (w0 : Nat) (uW : Nat → Nat) (o0 : Nat) (uO : (Nat → Nat) × (Nat → Nat → Nat)) (b sz hs : Nat) (p : Nat) : Nat := if p < 1 then h0 else if p < 4 then k_sel t0 uT (p - 1) else if p < 13 then k_sel b1 uB (p - 4) else if p < 22 then k_sel b2 uC (p - 13) else if p < 29 then k_sel n0 uN (p - 22) else if p < 36 then k_sel r0 uR (p - 29) else if p < 38 then (if p = 36 then p8 else P8.1) else if p < 94 then P8.2 ((p - 38) / 7) ((p - 38) % 7) else if p < 96 then (if p = 94 then p2 else P2.1) else if p < 110 then P2.2 ((p - 96) / 7) ((p - 96) % 7) else if p < 112 then k_sel w0 uW (p - 110) else if p < 114 then k_sel o0 uO.1 (p - 112) else if p < 163 then uO.2 ((p - 114) / 7) ((p - 114) % 7) else if p < 165 then uO.1 (p - 161) else if p = 183 then b else if p = 184 then 1 else if p = 185 then sz else hs + p
def k_g (D : va_G) (cI cQ : ClassId) (f : Nat → Nat) : QG := (D, (f, (cI, cQ)))
theorem k_arrV {cA : ClassId} {n : Nat} {f g : Nat → Value} (h : ∀ j, j < n → f j = g j) : arrV cA n f = arrV cA n g := by
  unfold arrV
  congr 1
  congr 1
  funext j
  exact h j.val j.isLt
def k_rf (cQ : ClassId) (n : Nat) (f : Nat → Nat) : va_E := .inl (cQ, (n, .inr (.inr (.inr (.inr (fun j => some (f j)))))))
theorem k_rf_at {D : va_G} {cl : List vw_C} {cQ : ClassId} {n a : Nat} {F : Nat → Nat → Nat} {f : Nat → Nat} {H : Heap} (h : va_at D cl (a, k_ar cQ n F n) H) (hf : ∀ j, j < n → f j = F j 0) : va_at D cl (a, k_rf cQ n f) H := by
  have h : H[a]? = some (vp_cell cQ (n, .inr (.inr (.inr (.inr (fun j => if j < n then some (F j 0) else none)))))) := h
  show H[a]? = some (vp_cell cQ (n, .inr (.inr (.inr (.inr (fun j => some (f j)))))))
  rw [h, vp_cell_q, vp_cell_q]
  exact congrArg some (k_arrV (fun j hj => by rw [if_pos hj, hf j hj]))
section KW
variable {D : va_G} {cI cQ : ClassId} {h0 t0 : Nat} {uT : Nat → Nat} {b1 : Nat} {uB : Nat → Nat} {b2 : Nat} {uC : Nat → Nat} {n0 : Nat} {uN : Nat → Nat} {r0 : Nat} {uR : Nat → Nat} {p8 : Nat} {P8 : Nat × (Nat → Nat → Nat)} {p2 : Nat} {P2 : Nat × (Nat → Nat → Nat)} {w0 : Nat} {uW : Nat → Nat} {o0 : Nat} {uO : (Nat → Nat) × (Nat → Nat → Nat)} {b sz hs : Nat} {A : Nat → Prop} {H : Heap}
theorem k_ad_8 (j : Nat) (hj : j < 8) : k_ad h0 t0 uT b1 uB b2 uC n0 uN r0 uR p8 P8 p2 P2 w0 uW o0 uO b sz hs (38 + 7 * j) = P8.2 j 0 := by
  unfold k_ad
  rw [if_neg (by omega), if_neg (by omega), if_neg (by omega), if_neg (by omega), if_neg (by omega), if_neg (by omega), if_neg (by omega), if_pos (by omega), show (38 + 7 * j - 38) / 7 = j by omega, show (38 + 7 * j - 38) % 7 = 0 by omega]
theorem k_ad_2 (j : Nat) (hj : j < 2) : k_ad h0 t0 uT b1 uB b2 uC n0 uN r0 uR p8 P8 p2 P2 w0 uW o0 uO b sz hs (96 + 7 * j) = P2.2 j 0 := by
  unfold k_ad
  rw [if_neg (by omega), if_neg (by omega), if_neg (by omega), if_neg (by omega), if_neg (by omega), if_neg (by omega), if_neg (by omega), if_neg (by omega), if_neg (by omega), if_pos (by omega), show (96 + 7 * j - 96) / 7 = j by omega, show (96 + 7 * j - 96) % 7 = 0 by omega]
theorem k_ad_7 (j : Nat) (hj : j < 7) : k_ad h0 t0 uT b1 uB b2 uC n0 uN r0 uR p8 P8 p2 P2 w0 uW o0 uO b sz hs (114 + 7 * j) = uO.2 j 0 := by
  unfold k_ad
  rw [if_neg (by omega), if_neg (by omega), if_neg (by omega), if_neg (by omega), if_neg (by omega), if_neg (by omega), if_neg (by omega), if_neg (by omega), if_neg (by omega), if_neg (by omega), if_neg (by omega), if_neg (by omega), if_pos (by omega), show (114 + 7 * j - 114) / 7 = j by omega, show (114 + 7 * j - 114) % 7 = 0 by omega]
set_option maxHeartbeats 4000000 in
set_option maxRecDepth 100000 in
theorem k_all_eq : q_wd (k_g D cI cQ (k_ad h0 t0 uT b1 uB b2 uC n0 uN r0 uR p8 P8 p2 P2 w0 uW o0 uO b sz hs)) (fun _ _ => nI 0) = (((k_all cI cQ h0 t0 uT b1 uB b2 uC n0 uN r0 uR p8 P8 p2 P2 w0 uW o0 uO).set 37 (P8.1, k_rf cQ 8 (fun j => k_ad h0 t0 uT b1 uB b2 uC n0 uN r0 uR p8 P8 p2 P2 w0 uW o0 uO b sz hs (37 + 1 + 7 * j)))).set 95 (P2.1, k_rf cQ 2 (fun j => k_ad h0 t0 uT b1 uB b2 uC n0 uN r0 uR p8 P8 p2 P2 w0 uW o0 uO b sz hs (95 + 1 + 7 * j)))).set 113 (uO.1 1, k_rf cQ 7 (fun j => k_ad h0 t0 uT b1 uB b2 uC n0 uN r0 uR p8 P8 p2 P2 w0 uW o0 uO b sz hs (113 + 1 + 7 * j))) := by
  rfl
end KW
