theorem q_bF {a b : Nat} (h : a ≠ b) : Nat.beq a b = false := by
  cases e : Nat.beq a b
  · rfl
  · exact absurd (Nat.eq_of_beq_eq_true e) h
theorem q_bT {a b : Nat} (h : a = b) : Nat.beq a b = true := by subst h; exact Nat.beq_refl a
theorem q_lT {a b : Nat} (h : a ≤ b) : Nat.ble a b = true := Nat.ble_eq_true_of_le h
theorem q_lF {a b : Nat} (h : b < a) : Nat.ble a b = false := by
  cases e : Nat.ble a b
  · rfl
  · exact absurd (Nat.le_of_ble_eq_true e) (by omega)
/-! WORLDS of the little machine: the shape of all cells, fixed for ever once the two objects are made; what a state of it says of the machine's own heap -/
abbrev QX : Type := Nat × (Nat → Int32)
abbrev QG : Type := ((Nat → ClassId) × (Nat → Nat → Nat)) × ((Nat → Nat) × (ClassId × ClassId))
def q_ad (g : QG) : Nat → Nat := g.2.1
def q_c (g : QG) : QV → Value
  | .inl x => .int x
  | .inr (.inl x) => .long x
  | .inr (.inr (0, _)) => .null
  | .inr (.inr (_ + 1, p)) => .ref (q_ad g p)
def q_cl (g : QG) (q : Nat × QV) : Nat × Value := (q.1, q_c g q.2)
-- kinds: 1 Bed, 2 Orders, 3 the Pile of 8, 4 the Pile of 2, 5 Quarry, 6 Rows, 7 Text, 8 StoneApologies, 9 StoneApologiesModel, 10 the script; 20 + n: n Quarries; 100 + n: n ints
def q_shq : List Nat := [5, 106, 106, 106, 104, 136, 124]
def q_shb : List Nat := [1, 106, 106, 106, 104, 104, 124, 136, 244]
def q_shl : List Nat := [8, 7, 300, 103] ++ q_shb ++ q_shb ++ q_shq ++ q_shq ++ [3, 28] ++ q_shq ++ q_shq ++ q_shq ++ q_shq ++ q_shq ++ q_shq ++ q_shq ++ q_shq ++ [4, 22] ++ q_shq ++ q_shq ++ [6, 104] ++ [2, 27] ++ q_shq ++ q_shq ++ q_shq ++ q_shq ++ q_shq ++ q_shq ++ q_shq ++ [106, 106] ++ [9, 1677, 106, 106, 106, 104, 104, 300, 112, 106, 108, 124, 105, 105, 106, 104, 107, 106]
def q_sh (p : Nat) : Nat := q_shl.getD p 0
def q_cio (k : Nat) : Nat := [99, 0, 1, 2, 2, 3, 4, 5, 6, 7].getD k 99
def q_nf (k : Nat) : Nat := [0, 12, 5, 3, 3, 8, 2, 4, 9, 30].getD k 0
/-- an object's field that is a reference: the kind of what it holds; whether its place is told from the object's own; how far -/
def q_frl : List (List (Option (Nat × (Bool × Nat)))) := [[],
  [none, none, none, none, some (106, (true, 1)), some (106, (true, 2)), some (106, (true, 3)), some (104, (true, 4)), some (104, (true, 5)), some (124, (true, 6)), some (136, (true, 7)), some (244, (true, 8))],
  [some (27, (true, 1)), some (106, (true, 51)), some (106, (true, 52)), none, none],
  [some (28, (true, 1)), none, none],
  [some (22, (true, 1)), none, none],
  [some (1, (false, 4)), none, some (106, (true, 1)), some (106, (true, 2)), some (106, (true, 3)), some (104, (true, 4)), some (136, (true, 5)), some (124, (true, 6))],
  [some (5, (false, 29)), some (104, (true, 1))],
  [some (300, (true, 1)), some (103, (true, 2)), none, none],
  [some (7, (false, 1)), some (1, (false, 4)), some (1, (false, 13)), some (5, (false, 22)), some (5, (false, 29)), some (3, (false, 36)), some (4, (false, 94)), some (6, (false, 110)), some (2, (false, 112))],
  [some (1677, (true, 1)), none, none, none, some (106, (true, 2)), some (106, (true, 3)), none, some (106, (true, 4)), none, some (104, (true, 5)), some (104, (true, 6)), none, some (300, (true, 7)), none, none, none, none, some (112, (true, 8)), none, some (106, (true, 9)), none, some (108, (true, 10)), none, some (124, (true, 11)), some (105, (true, 12)), some (105, (true, 13)), some (106, (true, 14)), some (104, (true, 15)), some (107, (true, 16)), some (106, (true, 17))]]
def q_fr (k j : Nat) : Option (Nat × (Bool × Nat)) := (q_frl.getD k []).getD j none
def q_tg (p : Nat) (o : Nat × (Bool × Nat)) : Nat := cond o.2.1 (p + o.2.2) o.2.2
def q_rv (p : Nat) (o : Nat × (Bool × Nat)) : QV := .inr (.inr (o.1, q_tg p o))
def q_fv (g : QG) (H : QH) (k p j : Nat) : Value := match q_fr k j with
  | none => .int (H p j)
  | some o => q_c g (q_rv p o)
def q_fs (g : QG) (H : QH) (k p : Nat) : List Value := (List.range (q_nf k)).map (q_fv g H k p)
def q_ek (g : QG) (H : QH) (k p : Nat) : va_E := if 100 ≤ k then .inl (g.2.2.1, (k - 100, .inl (H p))) else if 20 ≤ k then .inl (g.2.2.2, (k - 20, .inr (.inr (.inr (.inr (fun j => some (q_ad g (p + 1 + 7 * j)))))))) else .inr (q_cio k, q_fs g H k p)
def q_en (g : QG) (H : QH) (p : Nat) : va_E := q_ek g H (q_sh p) p
/-- how many places live: all, or, as long as place 184 says so, the class's alone -/
def q_np (g : QG) : Nat := cond (Nat.beq (q_ad g 184) 0) 183 165
theorem q_np_or (g : QG) : q_np g = 183 ∨ q_np g = 165 := by
  unfold q_np
  cases Nat.beq (q_ad g 184) 0
  · exact Or.inr rfl
  · exact Or.inl rfl
theorem q_np_le (g : QG) : q_np g ≤ 183 := by rcases q_np_or g with h | h <;> omega
def q_wd (g : QG) (H : QH) : va_W := (List.range (q_np g)).map (fun p => (q_ad g p, q_en g H p))
/-- what may be written: the cells of the world, and, from where place 185 says on, all that is new -/
def q_A (g : QG) : Nat → Prop := fun q => (∃ p, p < q_np g ∧ q = q_ad g p) ∨ (1 ≤ q_ad g 185 ∧ q_ad g 185 ≤ q)
def q_hs (H : QH) (p j : Nat) (x : Int32) : QH := fun a b => cond (Nat.beq a p) (cond (Nat.beq b j) x (H a b)) (H a b)
theorem q_hs_ne {H : QH} {p j a : Nat} {x : Int32} (h : a ≠ p) : q_hs H p j x a = H a := by
  funext b
  unfold q_hs
  rw [show Nat.beq a p = false from q_bF h]
  rfl
theorem q_hs_eq {H : QH} {p j : Nat} {x : Int32} : q_hs H p j x p = upd (H p) j x := by
  funext b
  unfold q_hs upd
  rw [show Nat.beq p p = true from q_bT rfl]
  by_cases hb : b = j
  · subst hb; rw [q_bT rfl]; simp
  · rw [show Nat.beq b j = false from q_bF hb]; simp [hb]
theorem q_wd_get (g : QG) (H : QH) {p : Nat} (h : p < q_np g) : (q_wd g H)[p]? = some (q_ad g p, q_en g H p) := by
  unfold q_wd
  rw [List.getElem?_map, List.getElem?_range h]
  rfl
theorem q_wd_in {g : QG} {H : QH} {k : Nat} {q : Nat × va_E} (h : (q_wd g H)[k]? = some q) : k < q_np g ∧ q = (q_ad g k, q_en g H k) := by
  have hl : k < (q_wd g H).length := (List.getElem?_eq_some_iff.mp h).1
  have hk : k < q_np g := by simpa [q_wd] using hl
  rw [q_wd_get g H hk] at h
  exact ⟨hk, (Option.some.inj h).symm⟩
theorem q_wd_set (g : QG) {H H' : QH} {p : Nat} (hp : p < q_np g) (hq : ∀ q, q ≠ p → H' q = H q) : (q_wd g H).set p (q_ad g p, q_en g H' p) = q_wd g H' := by
  refine List.ext_getElem? fun i => ?_
  have hlen : (q_wd g H).length = q_np g := by simp [q_wd]
  by_cases hi : i = p
  · subst hi
    rw [List.getElem?_set_self (by rw [hlen]; exact hp), q_wd_get g H' hp]
  · rw [List.getElem?_set_ne (Ne.symm hi)]
    by_cases hl : i < q_np g
    · rw [q_wd_get g H hl, q_wd_get g H' hl]
      have e : q_en g H i = q_en g H' i := by
        have h1 := hq i hi
        unfold q_en q_ek q_fs
        have e2 : q_fv g H (q_sh i) i = q_fv g H' (q_sh i) i := by
          funext j
          unfold q_fv
          rw [h1]
        rw [h1, e2]
      rw [e]
    · have h1 : (q_wd g H).length ≤ i := by rw [hlen]; omega
      have h2 : (q_wd g H').length ≤ i := by simp [q_wd]; omega
      rw [List.getElem?_eq_none h1, List.getElem?_eq_none h2]
def q_inj (g : QG) : Prop := (∀ i j, i < 184 → j < 184 → q_ad g i = q_ad g j → i = j) ∧ (1 ≤ q_ad g 185 → q_ad g 183 < q_ad g 185)
theorem q_wd_D {g : QG} (hJ : q_inj g) (H : QH) : va_D (q_A g) (q_wd g H) := by
  refine ⟨fun i j x y hi hj hxy => ?_, fun k q hk => ?_⟩
  · obtain ⟨h1, rfl⟩ := q_wd_in hi
    obtain ⟨h2, rfl⟩ := q_wd_in hj
    have hn := q_np_le g
    exact hJ.1 i j (by omega) (by omega) hxy
  · obtain ⟨h1, rfl⟩ := q_wd_in hk
    exact Or.inl ⟨k, h1, rfl⟩
/-- a value that is a reference is the place of a cell of its kind -/
def q_vd (g : QG) : QV → Prop
  | .inr (.inr (k + 1, p)) => (k + 1 = 10 ∧ p = 183) ∨ (p < q_np g ∧ q_sh p = k + 1)
  | _ => True
def q_okL (g : QG) (ls : QL) : Prop := ∀ q ∈ ls, q_vd g q.2
def q_okS (g : QG) (st : List QV) : Prop := ∀ v ∈ st, q_vd g v
def q_ok (g : QG) (t : QS) : Prop := q_okL g t.2.1 ∧ q_okS g t.2.2.1
def q_okR (g : QG) (r : QR) : Prop := ∀ v, r.1 = some v → q_vd g v
def q_cats : List QV → Nat
  | [] => 0
  | v :: st => cond (q_big v) 2 1 + q_cats st
theorem q_okS_nil {g : QG} : q_okS g [] := fun _ h => by cases h
theorem q_okS_cons {g : QG} {v : QV} {st : List QV} (h1 : q_vd g v) (h2 : q_okS g st) : q_okS g (v :: st) := fun w hw => (List.mem_cons.mp hw).elim (fun e => e ▸ h1) (h2 w)
theorem q_okS_tl {g : QG} {v : QV} {st : List QV} (h : q_okS g (v :: st)) : q_okS g st := fun w hw => h w (List.mem_cons_of_mem _ hw)
theorem q_okS_hd {g : QG} {v : QV} {st : List QV} (h : q_okS g (v :: st)) : q_vd g v := h v List.mem_cons_self
theorem q_vI {g : QG} (x : Int32) : q_vd g (.inl x) := trivial
theorem q_vJ {g : QG} (x : Int64) : q_vd g (.inr (.inl x)) := trivial
-- shapes are consistent
def q_chk (p : Nat) : Bool := (List.range (q_nf (q_sh p))).all (fun j => match q_fr (q_sh p) j with
  | none => true
  | some o => Nat.beq (q_sh (q_tg p o)) o.1 && Nat.ble (q_tg p o + 1) (cond (Nat.ble 165 p) 183 165) && !(Nat.beq o.1 10) && Nat.ble 1 o.1)
def q_chq (p : Nat) : Bool := cond (Nat.ble 100 (q_sh p)) true (cond (Nat.ble 20 (q_sh p)) ((List.range (q_sh p - 20)).all (fun i => Nat.beq (q_sh (p + 1 + 7 * i)) 5 && Nat.ble (p + 1 + 7 * i + 1) (cond (Nat.ble 165 p) 183 165))) (Nat.ble 1 (q_sh p) && Nat.ble (q_sh p) 9))
theorem q_chk_all : (List.range 183).all (fun p => q_chk p && q_chq p) = true := by decide +kernel
theorem q_chk_at {p : Nat} (hp : p < 183) : q_chk p = true ∧ q_chq p = true := by
  have h := List.all_eq_true.mp q_chk_all p (List.mem_range.mpr hp)
  simpa [Bool.and_eq_true] using h
theorem q_fr_lt : ∀ k j o, q_fr k j = some o → j < q_nf k ∧ k < 10 := by
  intro k j o h
  have hk : k < 10 := by
    rcases Nat.lt_or_ge k 10 with h1 | h1
    · exact h1
    · exfalso
      have e : q_frl.getD k [] = [] := by rw [List.getD_eq_getElem?_getD, List.getElem?_eq_none (show q_frl.length ≤ k from h1)]; rfl
      unfold q_fr at h
      rw [e] at h
      simp at h
  refine ⟨?_, hk⟩
  rcases Nat.lt_or_ge j (q_nf k) with h1 | h1
  · exact h1
  · exfalso
    unfold q_fr at h
    have hl : (q_frl.getD k []).length = q_nf k := by
      have : ∀ k, k < 10 → (q_frl.getD k []).length = q_nf k := by decide +kernel
      exact this k hk
    rw [List.getD_eq_getElem?_getD (l := q_frl.getD k []), List.getElem?_eq_none (by rw [hl]; exact h1)] at h
    simp at h
theorem q_np_up {g : QG} {p q : Nat} (hp : p < q_np g) (h : q + 1 ≤ cond (Nat.ble 165 p) 183 165) : q < q_np g := by
  rcases q_np_or g with e | e
  · rw [e]
    cases hb : Nat.ble 165 p <;> rw [hb] at h
    · have : q + 1 ≤ 165 := h
      omega
    · have : q + 1 ≤ 183 := h
      omega
  · rw [e] at hp ⊢
    rw [q_lF (show p < 165 from hp)] at h
    have : q + 1 ≤ 165 := h
    omega
theorem q_fr_ok {g : QG} {p j : Nat} {o : Nat × (Bool × Nat)} (hp : p < q_np g) (h : q_fr (q_sh p) j = some o) : q_vd g (q_rv p o) ∧ 1 ≤ o.1 := by
  have h1 := (q_chk_at (Nat.lt_of_lt_of_le hp (q_np_le g))).1
  have h2 := List.all_eq_true.mp h1 j (List.mem_range.mpr (q_fr_lt _ _ _ h).1)
  rw [h] at h2
  obtain ⟨k, o2⟩ := o
  simp only [Bool.and_eq_true] at h2
  obtain ⟨⟨⟨h3, h4⟩, h5⟩, h6⟩ := h2
  have h3 := Nat.eq_of_beq_eq_true h3
  have h4 := Nat.le_of_ble_eq_true h4
  have h6 : 1 ≤ k := Nat.le_of_ble_eq_true h6
  obtain ⟨k, rfl⟩ : ∃ k', k = k' + 1 := ⟨k - 1, by omega⟩
  exact ⟨Or.inr ⟨q_np_up hp h4, h3⟩, h6⟩
theorem q_el_ok {g : QG} {p i : Nat} (hp : p < q_np g) (h1 : 20 ≤ q_sh p) (h2 : q_sh p < 100) (hi : i < q_sh p - 20) : q_vd g (.inr (.inr (5, p + 1 + 7 * i))) := by
  have h := (q_chk_at (Nat.lt_of_lt_of_le hp (q_np_le g))).2
  unfold q_chq at h
  rw [show Nat.ble 100 (q_sh p) = false from q_lF h2, show Nat.ble 20 (q_sh p) = true from q_lT h1] at h
  have h3 := List.all_eq_true.mp h i (List.mem_range.mpr hi)
  simp only [Bool.and_eq_true] at h3
  have h5 := Nat.le_of_ble_eq_true h3.2
  exact Or.inr ⟨q_np_up hp h5, Nat.eq_of_beq_eq_true h3.1⟩
-- locals
theorem q_lk_mem {ls : QL} {i : Nat} {v : QV} (h : q_lk ls i = some v) : (i, v) ∈ ls := by
  induction ls with
  | nil => cases h
  | cons q ls ih =>
    obtain ⟨j, w⟩ := q
    unfold q_lk at h
    by_cases hj : j = i
    · subst hj
      rw [q_bT rfl] at h
      cases h
      exact List.mem_cons_self
    · rw [show Nat.beq j i = false from q_bF hj] at h
      exact List.mem_cons_of_mem _ (ih h)
theorem q_kp_mem {ks : List Nat} {ls : QL} {q : Nat × QV} (h : q ∈ q_kp ks ls) : q ∈ ls := by
  induction ls with
  | nil => exact h
  | cons r ls ih =>
    obtain ⟨j, w⟩ := r
    unfold q_kp at h
    cases hm : q_mem j ks with
    | true =>
      rw [hm] at h
      rcases List.mem_cons.mp h with h1 | h1
      · rw [h1]; exact List.mem_cons_self
      · exact List.mem_cons_of_mem _ (ih h1)
    | false =>
      rw [hm] at h
      exact List.mem_cons_of_mem _ (ih h)
theorem q_in_mem {i : Nat} {v : QV} {ls : QL} {q : Nat × QV} (h : q ∈ q_in i v ls) : q = (i, v) ∨ q ∈ ls := by
  induction ls with
  | nil => exact Or.inl (by simpa [q_in] using h)
  | cons r ls ih =>
    obtain ⟨j, w⟩ := r
    unfold q_in at h
    cases hm : Nat.ble i j with
    | true =>
      rw [hm] at h
      rcases List.mem_cons.mp h with h1 | h1
      · exact Or.inl h1
      · exact Or.inr h1
    | false =>
      rw [hm] at h
      rcases List.mem_cons.mp h with h1 | h1
      · exact Or.inr (by rw [h1]; exact List.mem_cons_self)
      · rcases ih h1 with h2 | h2
        · exact Or.inl h2
        · exact Or.inr (List.mem_cons_of_mem _ h2)
theorem q_rm_mem {i : Nat} {ls : QL} {q : Nat × QV} (h : q ∈ q_rm i ls) : q ∈ ls ∧ q.1 ≠ i ∧ ¬ (q.1 + 1 = i ∧ q_big q.2 = true) := by
  induction ls with
  | nil => cases h
  | cons r ls ih =>
    obtain ⟨j, w⟩ := r
    unfold q_rm at h
    by_cases hj : j = i
    · subst hj
      rw [q_bT rfl] at h
      obtain ⟨h1, h2, h3⟩ := ih h
      exact ⟨List.mem_cons_of_mem _ h1, h2, h3⟩
    · rw [show Nat.beq j i = false from q_bF hj] at h
      by_cases hb : j + 1 = i ∧ q_big w = true
      · rw [show Nat.beq (j + 1) i = true from q_bT hb.1, hb.2] at h
        obtain ⟨h1, h2, h3⟩ := ih h
        exact ⟨List.mem_cons_of_mem _ h1, h2, h3⟩
      · have e : cond (Nat.beq (j + 1) i) (q_big w) false = false := by
          by_cases h1 : j + 1 = i
          · rw [show Nat.beq (j + 1) i = true from q_bT h1]
            cases hw : q_big w with
            | true => exact absurd ⟨h1, hw⟩ hb
            | false => rfl
          · rw [show Nat.beq (j + 1) i = false from q_bF h1]; rfl
        rw [e] at h
        rcases List.mem_cons.mp h with h1 | h1
        · rw [h1]; exact ⟨List.mem_cons_self, hj, hb⟩
        · obtain ⟨h2, h3, h4⟩ := ih h1
          exact ⟨List.mem_cons_of_mem _ h2, h3, h4⟩
theorem q_big_cat (g : QG) (v : QV) : (q_c g v).category = if q_big v = true then 2 else 1 := by
  rcases v with x | x | ⟨k, p⟩
  · rfl
  · rfl
  · cases k <;> rfl
theorem q_cat1 {g : QG} {v : QV} (h : q_big v = false) : (q_c g v).category = 1 := by rw [q_big_cat, h]; rfl
theorem q_has_sub {ls : Array Slot} {n : Nat} {l1 l2 : List (Nat × Value)} (h : lv_has ls n l1) (hs : ∀ q ∈ l2, q ∈ l1) : lv_has ls n l2 := ⟨h.1, h.2.1, fun q hq => h.2.2 q (hs q hq)⟩
theorem q_lk_at {g : QG} {ls : Array Slot} {n : Nat} {lv : QL} {i : Nat} {v : QV} (h : lv_has ls n (lv.map (q_cl g))) (hk : q_lk lv i = some v) : ls[i]? = some (.val (q_c g v)) := h.2.2 (i, q_c g v) (List.mem_map.mpr ⟨(i, v), q_lk_mem hk, rfl⟩)
theorem q_st_has {g : QG} {ls : Array Slot} {n i : Nat} {lv : QL} {v : QV} (h : lv_has ls n ((i, q_c g v) :: (lv.map (q_cl g)).filter (fun q => !(q.1 == i) && !(q.1 + 1 == i && q.2.category == 2)))) : lv_has ls n ((q_st i v lv).map (q_cl g)) := by
  refine q_has_sub h fun q hq => ?_
  obtain ⟨⟨j, w⟩, hr, rfl⟩ := List.mem_map.mp hq
  rcases q_in_mem hr with h1 | h1
  · cases h1; exact List.mem_cons_self
  · obtain ⟨h2, h3, h4⟩ := q_rm_mem h1
    refine List.mem_cons_of_mem _ (List.mem_filter.mpr ⟨List.mem_map.mpr ⟨_, h2, rfl⟩, ?_⟩)
    simp only [q_cl, q_big_cat]
    have h5 : (j == i) = false := by simpa using h3
    rw [h5]
    by_cases hb : q_big w = true
    · have h6 : (j + 1 == i) = false := by simpa [hb] using h4
      simp [h6]
    · simp [hb]
theorem q_st2_has {g : QG} {ls : Array Slot} {n i : Nat} {lv : QL} {v : QV} (h : lv_has ls n ((i, q_c g v) :: (lv.map (q_cl g)).filter (fun q => !(q.1 == i) && (!(q.1 == i + 1) && !(q.1 + 1 == i && q.2.category == 2))))) : lv_has ls n ((q_st2 i v lv).map (q_cl g)) := by
  refine q_has_sub h fun q hq => ?_
  obtain ⟨⟨j, w⟩, hr, rfl⟩ := List.mem_map.mp hq
  rcases q_in_mem hr with h1 | h1
  · cases h1; exact List.mem_cons_self
  · obtain ⟨h1a, h3a, h4a⟩ := q_rm_mem h1
    obtain ⟨h2, h3, h4⟩ := q_rm_mem h1a
    refine List.mem_cons_of_mem _ (List.mem_filter.mpr ⟨List.mem_map.mpr ⟨_, h2, rfl⟩, ?_⟩)
    simp only [q_cl, q_big_cat]
    have h5 : (j == i) = false := by simpa using h3
    have h5a : (j == i + 1) = false := by simpa using h3a
    rw [h5, h5a]
    by_cases hb : q_big w = true
    · have h6 : (j + 1 == i) = false := by simpa [hb] using h4
      simp [h6]
    · simp [hb]
theorem q_okL_in {g : QG} {i : Nat} {v : QV} {ls : QL} (h1 : q_vd g v) (h2 : q_okL g ls) : q_okL g (q_st i v ls) := fun q hq => (q_in_mem hq).elim (fun e => by rw [e]; exact h1) (fun h => h2 q (q_rm_mem h).1)
theorem q_okL_in2 {g : QG} {i : Nat} {v : QV} {ls : QL} (h1 : q_vd g v) (h2 : q_okL g ls) : q_okL g (q_st2 i v ls) := fun q hq => (q_in_mem hq).elim (fun e => by rw [e]; exact h1) (fun h => h2 q (q_rm_mem (q_rm_mem h).1).1)
theorem q_la_map (g : QG) : ∀ (i : Nat) (vs : List QV), (q_la i vs).map (q_cl g) = lv_args i (vs.map (q_c g)) := by
  intro i vs
  induction vs generalizing i with
  | nil => rfl
  | cons v vs ih =>
    show (i, q_c g v) :: (q_la _ vs).map (q_cl g) = (i, q_c g v) :: lv_args _ (vs.map (q_c g))
    rw [ih, q_big_cat]
    cases q_big v <;> rfl
theorem q_la_ok {g : QG} : ∀ (i : Nat) (vs : List QV), q_okS g vs → q_okL g (q_la i vs) := by
  intro i vs
  induction vs generalizing i with
  | nil => intro _ q hq; cases hq
  | cons v vs ih =>
    intro h q hq
    rcases List.mem_cons.mp hq with h1 | h1
    · rw [h1]; exact q_okS_hd h
    · exact ih _ (q_okS_tl h) q h1

-- the tables' words that every method may be told
def q_tw : List Cond := lw_tbl.filter goodWord
theorem q_tw_of {w : Cond} (h : w ∈ lw_tbl) (hg : goodWord w = true) : w ∈ q_tw := List.mem_filter.mpr ⟨h, hg⟩
theorem q_tw_lw {w : Cond} (h : w ∈ q_tw) : w ∈ lw_tbl := (List.mem_filter.mp h).1
theorem q_tw_good {w : Cond} (h : w ∈ q_tw) : (w.onTables && w.keeps) = true ∨ ∃ ty, w = .arrayClass ty := good_of_word (List.mem_filter.mp h).2
theorem q_w1 {i : Nat} {w : Cond} (h : tables_1_1[i]? = some w) (hg : goodWord w = true) : w ∈ q_tw := q_tw_of (List.mem_append_right _ (List.mem_append_left _ (List.mem_of_getElem? h))) hg
theorem q_w2 {i : Nat} {w : Cond} (h : tables_1_2[i]? = some w) (hg : goodWord w = true) : w ∈ q_tw := q_tw_of (List.mem_append_right _ (List.mem_append_right _ (List.mem_append_left _ (List.mem_of_getElem? h)))) hg
theorem q_w3 {i : Nat} {w : Cond} (h : tables_1_3[i]? = some w) (hg : goodWord w = true) : w ∈ q_tw := q_tw_of (List.mem_append_right _ (List.mem_append_right _ (List.mem_append_right _ (List.mem_append_left _ (List.mem_of_getElem? h))))) hg
theorem q_w4 {i : Nat} {w : Cond} (h : tables_1_4[i]? = some w) (hg : goodWord w = true) : w ∈ q_tw := q_tw_of (List.mem_append_right _ (List.mem_append_right _ (List.mem_append_right _ (List.mem_append_right _ (List.mem_append_left _ (List.mem_of_getElem? h)))))) hg
theorem q_w5 {i : Nat} {w : Cond} (h : tables_1_5[i]? = some w) (hg : goodWord w = true) : w ∈ q_tw := q_tw_of (List.mem_append_right _ (List.mem_append_right _ (List.mem_append_right _ (List.mem_append_right _ (List.mem_append_right _ (List.mem_of_getElem? h)))))) hg
theorem q_w0 {i : Nat} {w : Cond} (h : (k2_sels lw_privs)[i]? = some w) (hg : goodWord w = true) : w ∈ q_tw := q_tw_of (List.mem_append_left _ (List.mem_of_getElem? h)) hg
def q_nests : List Cond := [Cond.methodLinkNest RX6 9 yX5_init "StoneApologies", Cond.methodLinkNest RX6 18 yX0_init "StoneApologies", Cond.methodLinkNest RX5 22 yX6_put "StoneApologies", Cond.methodLinkNest RX0 49 yX6_fill "StoneApologies", Cond.methodLinkNest RX5 46 yX6_at "StoneApologies", Cond.methodLinkNest RX0 53 yX6_put "StoneApologies", Cond.methodLinkNest RX0 57 yX6_isUse "StoneApologies", Cond.methodLinkNest RX0 65 yX6_at "StoneApologies", Cond.methodLinkNest RX3 38 yX6_fill "StoneApologies", Cond.methodLinkNest RX3 47 yX6_copy "StoneApologies", Cond.methodLinkNest RX3 54 yX6_at "StoneApologies", Cond.methodLinkNest RX2 25 yX6_pick "StoneApologies", Cond.methodLinkNest RX3 89 yX6_put "StoneApologies", Cond.methodLinkNest RX3 125 yX6_saying "StoneApologies", Cond.methodLinkNest RX4 49 yX6_at "StoneApologies", Cond.methodLinkNest RX4 56 yX6_saying "StoneApologies", Cond.methodLinkNest RX4 60 yX6_put "StoneApologies", Cond.methodLinkNest RX1 27 yX6_pick "StoneApologies", Cond.methodLinkNest RX1 50 yX6_copy "StoneApologies", Cond.methodLinkNest RX1 67 yX6_put "StoneApologies"]
theorem q_nests_on : ∀ w ∈ q_nests, w.onTables = true := by
  intro w hw
  simp only [q_nests, List.mem_cons, List.not_mem_nil, or_false] at hw
  rcases hw with rfl | rfl | rfl | rfl | rfl | rfl | rfl | rfl | rfl | rfl | rfl | rfl | rfl | rfl | rfl | rfl | rfl | rfl | rfl | rfl <;> rfl
theorem q_nests_warm {s U : State} (hW : s.WarmedH U.vm) : ∀ w ∈ q_nests, va_Nw w s → va_Nw w U := by
  intro w hw
  simp only [q_nests, List.mem_cons, List.not_mem_nil, or_false] at hw
  rcases hw with rfl | rfl | rfl | rfl | rfl | rfl | rfl | rfl | rfl | rfl | rfl | rfl | rfl | rfl | rfl | rfl | rfl | rfl | rfl | rfl <;> exact fun h => va_Nw.warmM hW h
def q_infl : List (MethodName × (ByteArray × (Nat × Option FieldType))) := [(yX0_clear, (cX0_clear, (1, none))),
  (yX0_isWhole, (cX0_isWhole, (1, (some .boolean)))),
  (yX0_addBlock, (cX0_addBlock, (3, (some .boolean)))),
  (yX0_addWord, (cX0_addWord, (2, (some .boolean)))),
  (yX0_addSpeaker, (cX0_addSpeaker, (3, (some .boolean)))),
  (yX0_setFrost, (cX0_setFrost, (2, (some .boolean)))),
  (yX0_addVow, (cX0_addVow, (4, (some .boolean)))),
  (yX0_reckon, (cX0_reckon, (5, none))),
  (yX0_plainWorth, (cX0_plainWorth, (4, (some .int)))),
  (yX0_spokenWorth, (cX0_spokenWorth, (5, (some .int)))),
  (yX0_coldFor, (cX0_coldFor, (2, (some .int)))),
  (yX0_vowPlace, (cX0_vowPlace, (2, (some .int)))),
  (yX0_wordPlace, (cX0_wordPlace, (2, (some .int)))),
  (yX0_sayingPlace, (cX0_sayingPlace, (3, (some .int)))),
  (yX1_seek, (cX1_seek, (3, none))),
  (yX1_extend, (cX1_extend, (8, none))),
  (yX2_clear, (cX2_clear, (1, none))),
  (yX2_push, (cX2_push, (3, none))),
  (yX2_pop, (cX2_pop, (4, (some .boolean)))),
  (yX3_begin, (cX3_begin, (1, none))),
  (yX3_copyFrom, (cX3_copyFrom, (2, none))),
  (yX3_isIn, (cX3_isIn, (3, (some .boolean)))),
  (yX3_tally, (cX3_tally, (4, (some .int)))),
  (yX3_hoursLeft, (cX3_hoursLeft, (3, (some .int)))),
  (yX3_lackOf, (cX3_lackOf, (2, (some .int)))),
  (yX3_timesHeard, (cX3_timesHeard, (3, (some .int)))),
  (yX3_worthOf, (cX3_worthOf, (5, (some .int)))),
  (yX3_vowOf, (cX3_vowOf, (3, (some .int)))),
  (yX3_canSay, (cX3_canSay, (3, (some .boolean)))),
  (yX3_speak, (cX3_speak, (6, none))),
  (yX3_hear, (cX3_hear, (5, none))),
  (yX3_hearsThrough, (cX3_hearsThrough, (4, (some .boolean)))),
  (yX3_soften, (cX3_soften, (4, none))),
  (yX3_vow, (cX3_vow, (4, none))),
  (yX3_carryOff, (cX3_carryOff, (3, none))),
  (yX3_wouldCrack, (cX3_wouldCrack, (4, (some .boolean)))),
  (yX3_belies, (cX3_belies, (5, (some .boolean)))),
  (yX3_night, (cX3_night, (2, none))),
  (yX3_dearest, (cX3_dearest, (7, (some .int)))),
  (yX3_askAll, (cX3_askAll, (4, none))),
  (yX3_askOne, (cX3_askOne, (5, none))),
  (yX3_dearestWord, (cX3_dearestWord, (7, (some .int)))),
  (yX3_mildest, (cX3_mildest, (10, (some .int)))),
  (yX3_harmOf, (cX3_harmOf, (6, (some .int)))),
  (yX3_explains, (cX3_explains, (3, (some .boolean)))),
  (yX3_explainsOne, (cX3_explainsOne, (4, (some .boolean)))),
  (yX3_softerBy, (cX3_softerBy, (8, (some .int)))),
  (yX4_shortest, (cX4_shortest, (3, (some .int)))),
  (yX4_extend, (cX4_extend, (11, (some .boolean)))),
  (yX4_shift, (cX4_shift, (6, none))),
  (yX5_append, (cX5_append, (2, none))),
  (yX5_readInto, (cX5_readInto, (4, (some .int)))),
  (yX5_readItem, (cX5_readItem, (6, (some .boolean)))),
  (yX5_readNumbers, (cX5_readNumbers, (4, (some .int)))),
  (yX5_readNumber, (cX5_readNumber, (3, (some .int)))),
  (yX5_letterAt, (cX5_letterAt, (2, (some .int)))),
  (yX6_write, (cX6_write, (2, (some .int)))),
  (yX6_wipe, (cX6_wipe, (2, (some .int)))),
  (yX6_fault, (cX6_fault, (1, (some .int)))),
  (yX6_lay, (cX6_lay, (1, (some .int)))),
  (yX6_block, (cX6_block, (3, (some .int)))),
  (yX6_word, (cX6_word, (2, (some .int)))),
  (yX6_speaker, (cX6_speaker, (3, (some .int)))),
  (yX6_heard, (cX6_heard, (3, (some .int)))),
  (yX6_promised, (cX6_promised, (3, (some .int)))),
  (yX6_worth, (cX6_worth, (4, (some .int)))),
  (yX6_say, (cX6_say, (4, (some .int)))),
  (yX6_promise, (cX6_promise, (5, (some .int)))),
  (yX6_take, (cX6_take, (3, (some .int)))),
  (yX6_pass, (cX6_pass, (3, (some .int)))),
  (yX6_undo, (cX6_undo, (1, (some .int)))),
  (yX6_least, (cX6_least, (4, (some .int)))),
  (yX6_best, (cX6_best, (2, (some .int)))),
  (yX6_order, (cX6_order, (2, (some .int)))),
  (yX6_days, (cX6_days, (4, (some .int)))),
  (yX6_frost, (cX6_frost, (4, (some .int)))),
  (yX6_uses, (cX6_uses, (4, (some .int)))),
  (yX6_harm, (cX6_harm, (2, (some .int)))),
  (yX6_liars, (cX6_liars, (4, (some .int)))),
  (yX6_said, (cX6_said, (8, (some .int)))),
  (yX6_deaf, (cX6_deaf, (10, (some .int)))),
  (yX6_year, (cX6_year, (5, (some .int)))),
  (yX6_keep, (cX6_keep, (1, (some .int)))),
  (yX6_back, (cX6_back, (1, (some .int)))),
  (yX6_count, (cX6_count, (2, (some .int)))),
  (yX6_layOut, (cX6_layOut, (1, none))),
  (yX6_isBlock, (cX6_isBlock, (2, (some .boolean)))),
  (yX6_isWord, (cX6_isWord, (2, (some .boolean)))),
  (yX6_isSpeaker, (cX6_isSpeaker, (2, (some .boolean)))),
  (yX6_isSaying, (cX6_isSaying, (4, (some .boolean)))),
  (yX6_isUse, (cX6_isUse, (1, (some .boolean)))),
  (yX6_isPart, (cX6_isPart, (1, (some .boolean)))),
  (yX6_saying, (cX6_saying, (2, (some .int)))),
  (yX6_weight, (cX6_weight, (5, (some .int)))),
  (yX6_commonMeasure, (cX6_commonMeasure, (4, (some .int)))),
  (yX6_drawOf, (cX6_drawOf, (4, (some .int)))),
  (yX6_live, (cX6_live, (6, none))),
  (yX6_at, (cX6_at, (2, (some .int)))),
  (yX6_put, (cX6_put, (3, none))),
  (yX6_fill, (cX6_fill, (3, none))),
  (yX6_copy, (cX6_copy, (3, none))),
  (yX6_pick, (cX6_pick, (2, (some (.object "StoneApologies$Quarry"))))),
  (yX7_in, (cX7_in, (6, (some .boolean)))),
  (yX7_has, (cX7_has, (2, (some .boolean)))),
  (yX7_ones, (cX7_ones, (3, (some .int)))),
  (yX7_copy, (cX7_copy, (4, none))),
  (yX7_isBlock, (cX7_isBlock, (2, (some .boolean)))),
  (yX7_isWord, (cX7_isWord, (2, (some .boolean)))),
  (yX7_isSpeaker, (cX7_isSpeaker, (2, (some .boolean)))),
  (yX7_starts, (cX7_starts, (2, none))),
  (yX7_addsBlock, (cX7_addsBlock, (3, none))),
  (yX7_addsWord, (cX7_addsWord, (2, none))),
  (yX7_addsSpeaker, (cX7_addsSpeaker, (3, none))),
  (yX7_begins, (cX7_begins, (2, none))),
  (yX7_write, (cX7_write, (2, (some .int)))),
  (yX7_wipe, (cX7_wipe, (2, (some .int)))),
  (yX7_letterAt, (cX7_letterAt, (2, (some .int)))),
  (yX7_takesNumber, (cX7_takesNumber, (5, (some .boolean)))),
  (yX7_takesBlock, (cX7_takesBlock, (2, (some .boolean)))),
  (yX7_takesWord, (cX7_takesWord, (1, (some .boolean)))),
  (yX7_takesSpeaker, (cX7_takesSpeaker, (2, (some .boolean)))),
  (yX7_takesFrost, (cX7_takesFrost, (1, (some .boolean)))),
  (yX7_takesPromise, (cX7_takesPromise, (3, (some .boolean)))),
  (yX7_takesItem, (cX7_takesItem, (2, (some .boolean)))),
  (yX7_faultOf, (cX7_faultOf, (2, (some .int)))),
  (yX7_fault, (cX7_fault, (1, (some .int)))),
  (yX7_lay, (cX7_lay, (1, (some .int)))),
  (yX7_block, (cX7_block, (3, (some .int)))),
  (yX7_word, (cX7_word, (2, (some .int)))),
  (yX7_speaker, (cX7_speaker, (3, (some .int)))),
  (yX7_heard, (cX7_heard, (3, (some .int)))),
  (yX7_promised, (cX7_promised, (3, (some .int)))),
  (yX7_byKind, (cX7_byKind, (3, (some .int)))),
  (yX7_less, (cX7_less, (2, (some .int)))),
  (yX7_heardOf, (cX7_heardOf, (4, (some .int)))),
  (yX7_spoken, (cX7_spoken, (5, (some .int)))),
  (yX7_worthOf, (cX7_worthOf, (5, (some .int)))),
  (yX7_worth, (cX7_worth, (4, (some .int)))),
  (yX7_inBed, (cX7_inBed, (3, (some .boolean)))),
  (yX7_hears, (cX7_hears, (5, (some .boolean)))),
  (yX7_comes, (cX7_comes, (3, none))),
  (yX7_says, (cX7_says, (6, none))),
  (yX7_passes, (cX7_passes, (3, none))),
  (yX7_canSay, (cX7_canSay, (4, (some .boolean)))),
  (yX7_isElse, (cX7_isElse, (7, (some .boolean)))),
  (yX7_takesFor, (cX7_takesFor, (4, none))),
  (yX7_minds, (cX7_minds, (2, none))),
  (yX7_say, (cX7_say, (4, (some .int)))),
  (yX7_promise, (cX7_promise, (5, (some .int)))),
  (yX7_take, (cX7_take, (3, (some .int)))),
  (yX7_pass, (cX7_pass, (3, (some .int)))),
  (yX7_undo, (cX7_undo, (1, (some .int)))),
  (yX7_tries, (cX7_tries, (1, none))),
  (yX7_bringsOut, (cX7_bringsOut, (7, (some .boolean)))),
  (yX7_least, (cX7_least, (4, (some .int)))),
  (yX7_bestOf, (cX7_bestOf, (8, (some .int)))),
  (yX7_best, (cX7_best, (2, (some .int)))),
  (yX7_asks, (cX7_asks, (4, none))),
  (yX7_bedOf, (cX7_bedOf, (3, (some .int)))),
  (yX7_bestOrder, (cX7_bestOrder, (9, (some .int)))),
  (yX7_order, (cX7_order, (3, (some .int)))),
  (yX7_bestWord, (cX7_bestWord, (7, (some .int)))),
  (yX7_days, (cX7_days, (5, (some .int)))),
  (yX7_frost, (cX7_frost, (3, (some .int)))),
  (yX7_uses, (cX7_uses, (4, (some .int)))),
  (yX7_harmOf, (cX7_harmOf, (5, (some .int)))),
  (yX7_harm, (cX7_harm, (10, (some .int)))),
  (yX7_lies, (cX7_lies, (6, (some .boolean)))),
  (yX7_liars, (cX7_liars, (5, (some .int)))),
  (yX7_said, (cX7_said, (9, (some .int)))),
  (yX7_deaf, (cX7_deaf, (13, (some .int)))),
  (yX7_manyHow, (cX7_manyHow, (5, (some .int)))),
  (yX7_doesBy, (cX7_doesBy, (5, none))),
  (yX7_year, (cX7_year, (7, (some .int)))),
  (yX7_keep, (cX7_keep, (1, (some .int)))),
  (yX7_back, (cX7_back, (1, (some .int)))),
  (yX7_count, (cX7_count, (2, (some .int)))),
  (yJ6_bitCount_0f7a4, (cJ6_bitCount_0f7a4, (1, (some .int))))]
def q_inf (mid : Nat) : MethodName × (ByteArray × (Nat × Option FieldType)) := q_infl.getD mid (yL_law, (cL_law, (4, some .boolean)))
def q_ws (mid : Nat) : List Cond := Cond.code (q_inf mid).1 (q_inf mid).2.1 (q_inf mid).2.2.1 (q_inf mid).2.2.2 :: q_tw
def q_okE (g : QG) (e : QE) : Prop := q_okS g e.2.1 ∧ q_cats e.2.1 ≤ (q_inf e.1).2.2.1
def q_tys (g : QG) : List (ClassId × FieldType) := [(g.2.2.1, .int), (g.2.2.2, .object RX3)]
def q_WP (g : QG) (sx : QX) (H : QH) (U : State) : Prop := va_P g.1 vwCl (q_wd g H) U.heap ∧ va_K g.1 vwCl (q_tys g) U ∧ va_X (q_ad g 183) sx.1 sx.2 U U.heap ∧ ∀ w ∈ q_nests, va_Nw w U
def q_Pc (g : QG) (sx : QX) (e : QE) : Array Value → State → Prop := va_Pc (e.2.1.map (q_c g)) (fun U => q_WP g sx e.2.2 U)
def q_Qc (g : QG) (r : QR) : Array Value → State → Outcome → State → Prop := fun _ st oc t => (q_okR g r ∧ oc = .returned (r.1.map (q_c g)) ∧ va_P g.1 vwCl (q_wd g r.2) t.heap) ∧ va_F (q_A g) st t
def q_Met (g : QG) (sx : QX) (l : Launch) (rm : Room) (e : QE) (r : QR) : Prop := Met l (q_inf e.1).1 (q_ws e.1) rm (q_Pc g sx e) (q_Qc g r) 0 0 (q_A g)
theorem q_blind (g : QG) (sx : QX) (e : QE) : FrameBlind (q_Pc g sx e) := fun a U gf mk q => by
  obtain ⟨h1, h2, h3, h4, h5⟩ := q
  exact ⟨h1, h2, va_K.moved (u := U) (U := U.calling gf mk a) (Vm.Alike.refl U.vm) h3, va_X.moved (u := U) (U := U.calling gf mk a) (Vm.Alike.refl U.vm) h4, fun w hw => va_Nw.same (u := U) (U := U.calling gf mk a) (q_nests_on w hw) rfl (h5 w hw)⟩
def q_W (g : QG) (p : Program) (l : Launch) (e : Env) (R : Room) (s : State) (m : MethodId) (args : Array Value) (below : List Frame) (meth : Method) (c : Code) (cells slots : Nat) (Q : State → Prop) (nL : Nat) (t : QS) : Prop := ∀ (Hh : Heap) (locs : List Loc) (lsA : Array Slot), lv_has lsA nL (t.2.1.map (q_cl g)) → va_P g.1 vwCl (q_wd g t.2.2.2) Hh → va_S (q_A g) s.heap Hh locs → W p l e R s m args below meth c Hh locs cells slots Q (F0 m t.1 lsA (t.2.2.1.map (q_c g)))
/-- what the machine's own returns need at the end of a run with the answer r -/
def q_Ret (g : QG) (p : Program) (l : Launch) (e : Env) (R : Room) (s : State) (m : MethodId) (args : Array Value) (below : List Frame) (meth : Method) (c : Code) (cells slots : Nat) (Q : State → Prop) (cc : ByteArray) (rt : Option FieldType) (P : QR → Prop) : Prop :=
  (∀ (pc : Nat) (x : Int32) (H : QH) (Hh : Heap) (locs : List Loc) (lsA : Array Slot) (ty : FieldType), rt = some ty → narrow ty (.int x) = .int x → decode cc pc = .ok (.ireturn, 1) → P (some (.inl x), H) → va_P g.1 vwCl (q_wd g H) Hh → va_S (q_A g) s.heap Hh locs → W p l e R s m args below meth c Hh locs cells slots Q (F0 m pc lsA [.int x])) ∧
  (∀ (pc : Nat) (H : QH) (Hh : Heap) (locs : List Loc) (lsA : Array Slot), rt = none → decode cc pc = .ok (.return_, 1) → P (none, H) → va_P g.1 vwCl (q_wd g H) Hh → va_S (q_A g) s.heap Hh locs → W p l e R s m args below meth c Hh locs cells slots Q (F0 m pc lsA [])) ∧
  (∀ (pc k q : Nat) (H : QH) (Hh : Heap) (locs : List Loc) (lsA : Array Slot) (C : String), rt = some (.object C) → decode cc pc = .ok (.areturn, 1) → q_vd g (.inr (.inr (k, q))) → P (some (.inr (.inr (k, q))), H) → va_P g.1 vwCl (q_wd g H) Hh → va_S (q_A g) s.heap Hh locs → W p l e R s m args below meth c Hh locs cells slots Q (F0 m pc lsA [q_c g (.inr (.inr (k, q)))]))
def q_Cx (sx : QX) (g : QG) (p : Program) (l : Launch) (e : Env) (R : Room) (s : State) (m : MethodId) (args : Array Value) (below : List Frame) (meth : Method) (c : Code) (cells slots : Nat) (Q : State → Prop) (own : String) (cc : ByteArray) (nL : Nat) (rt : Option FieldType) (rm : Room) (P : QR → Prop) : Prop :=
  p.tables.exec = Jvm.exec ∧ c.code = cc ∧ c.maxLocals = nL ∧ s.vm.findClass own = some m.cls ∧ (∀ w ∈ q_tw, w.before args s = true) ∧ va_K g.1 vwCl (q_tys g) s ∧ va_X (q_ad g 183) sx.1 sx.2 s s.heap ∧ q_ad g 183 < s.heap.size ∧ (∀ w ∈ q_nests, va_Nw w s) ∧ q_inj g ∧ (rm.cells = 0 ∧ rm.slots = 0 ∧ rm.frames + 1 ≤ R.frames ∧ 60 + rm.locals ≤ R.locals ∧ cells ≤ R.cells ∧ slots ≤ R.slots) ∧ q_Ret g p l e R s m args below meth c cells slots Q cc rt P
/-- what an instruction's soundness says of its form -/
def q_Sp (sx : QX) (g : QG) (p : Program) (l : Launch) (e : Env) (R : Room) (s : State) (m : MethodId) (args : Array Value) (below : List Frame) (meth : Method) (c : Code) (cells slots : Nat) (Q : State → Prop) (nL : Nat) (rm : Room) (P : QR → Prop) (t : QS) : QN → Prop
  | none => True
  | some (.inl (b, u)) => b = true → q_ok g u ∧ (q_W g p l e R s m args below meth c cells slots Q nL u → q_W g p l e R s m args below meth c cells slots Q nL t)
  | some (.inr (.inl (b, (u, v)))) => (b = true → q_ok g u) ∧ (b = false → q_ok g v) ∧ ((b = true → q_W g p l e R s m args below meth c cells slots Q nL u) → (b = false → q_W g p l e R s m args below meth c cells slots Q nL v) → q_W g p l e R s m args below meth c cells slots Q nL t)
  | some (.inr (.inr (.inl (b, r)))) => b = true → q_okR g r ∧ (P r → q_W g p l e R s m args below meth c cells slots Q nL t)
  | some (.inr (.inr (.inr (.inl (b, (f, .inl k)))))) => b = true → q_okE g f ∧ ∀ H', q_ok g (k H') ∧ (q_Met g sx l rm f (none, H') → q_W g p l e R s m args below meth c cells slots Q nL (k H') → q_W g p l e R s m args below meth c cells slots Q nL t)
  | some (.inr (.inr (.inr (.inl (b, (f, .inr (.inl k))))))) => b = true → q_okE g f ∧ ∀ x H', q_ok g (k x H') ∧ (q_Met g sx l rm f (some (.inl x), H') → q_W g p l e R s m args below meth c cells slots Q nL (k x H') → q_W g p l e R s m args below meth c cells slots Q nL t)
  | some (.inr (.inr (.inr (.inl (b, (f, .inr (.inr (k0, k5)))))))) => b = true → q_okE g f ∧ (∀ y H', q_ok g (k0 H') ∧ (q_Met g sx l rm f (some (.inr (.inr (0, y))), H') → q_W g p l e R s m args below meth c cells slots Q nL (k0 H') → q_W g p l e R s m args below meth c cells slots Q nL t)) ∧ (∀ q H', (q_vd g (.inr (.inr (5, q))) → q_ok g (k5 q H')) ∧ (q_Met g sx l rm f (some (.inr (.inr (5, q))), H') → (q_vd g (.inr (.inr (5, q))) → q_W g p l e R s m args below meth c cells slots Q nL (k5 q H')) → q_W g p l e R s m args below meth c cells slots Q nL t))
  | some (.inr (.inr (.inr (.inr (x, (l9, d)))))) => q_ok g (q_pick x d l9) ∧ (q_W g p l e R s m args below meth c cells slots Q nL (q_pick x d l9) → q_W g p l e R s m args below meth c cells slots Q nL t)
def q_Snd (sx : QX) (own : String) (cc : ByteArray) (nL : Nat) (rt : Option FieldType) (pc : Nat) (o : QO) : Prop :=
  ∀ (g : QG) (p : Program) (l : Launch) (e : Env) (R : Room) (s : State) (m : MethodId) (args : Array Value) (below : List Frame) (meth : Method) (c : Code) (cells slots : Nat) (Q : State → Prop) (rm : Room) (P : QR → Prop), q_Cx sx g p l e R s m args below meth c cells slots Q own cc nL rt rm P → ∀ (ls : QL) (st : List QV) (H : QH), q_ok g (pc, (ls, (st, H))) → q_Sp sx g p l e R s m args below meth c cells slots Q nL rm P (pc, (ls, (st, H))) (o ls st H)
