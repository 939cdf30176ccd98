def q_pk (x : Int32) (d : Nat) : List (Int32 × Nat) → Nat
  | [] => d
  | (k, t) :: l => if x = k then t else q_pk x d l
def o_sw (l : List (Int32 × Nat)) (d : Nat) : QO := fun ls st H => match st with
  | .inl x :: st => some (.inr (.inr (.inr (.inr (x, (l.map (fun q => (q.1, (q.2, (ls, (st, H))))), (d, (ls, (st, H)))))))))
  | _ => none
theorem q_pick_pk (x : Int32) (d : Nat) (ls : QL) (st : List QV) (H : QH) (l : List (Int32 × Nat)) : q_pick x (d, (ls, (st, H))) (l.map (fun q => (q.1, (q.2, (ls, (st, H)))))) = (q_pk x d l, (ls, (st, H))) := by
  induction l with
  | nil => rfl
  | cons q l ih =>
    obtain ⟨k, t⟩ := q
    show (if x = k then _ else _) = ((if x = k then t else q_pk x d l), _)
    by_cases h : x = k
    · rw [if_pos h, if_pos h]
    · rw [if_neg h, if_neg h]; exact ih
def q_tck (pc : Int) : List Int → Int → List (Int32 × Nat) → Bool
  | [], _, [] => true
  | o :: os, k, (k', t) :: l => decide (k'.toInt = k) && (decide (pc + o = (t : Int)) && q_tck pc os (k + 1) l)
  | _, _, _ => false
theorem q_tck_out {pc : Int} {x : Int32} {d : Nat} : ∀ (os : List Int) (k : Int) (l : List (Int32 × Nat)), q_tck pc os k l = true → (x.toInt < k ∨ k + os.length ≤ x.toInt) → q_pk x d l = d
  | [], k, [], _, _ => rfl
  | [], k, _ :: _, h, _ => by cases h
  | _ :: _, k, [], h, _ => by cases h
  | o :: os, k, (k', t) :: l, h, hx => by
    simp only [q_tck, Bool.and_eq_true, decide_eq_true_eq] at h
    obtain ⟨h1, h2, h3⟩ := h
    have hne : ¬ x = k' := fun e => by
      subst e
      simp only [List.length_cons] at hx
      omega
    show (if x = k' then t else q_pk x d l) = d
    rw [if_neg hne]
    refine q_tck_out os (k + 1) l h3 ?_
    simp only [List.length_cons] at hx
    have : x.toInt ≠ k := fun e => hne (Int32.toInt_inj.mp (by rw [h1]; exact e))
    omega
theorem q_tck_in {pc : Int} {x : Int32} {d : Nat} : ∀ (os : List Int) (k : Int) (l : List (Int32 × Nat)), q_tck pc os k l = true → k ≤ x.toInt → x.toInt < k + os.length → ∃ off, os[(x.toInt - k).toNat]? = some off ∧ pc + off = (q_pk x d l : Int)
  | [], k, _, _, h1, h2 => by simp at h2; omega
  | _ :: _, k, [], h, _, _ => by cases h
  | o :: os, k, (k', t) :: l, h, hx1, hx2 => by
    simp only [q_tck, Bool.and_eq_true, decide_eq_true_eq] at h
    obtain ⟨h1, h2, h3⟩ := h
    by_cases hxk : x.toInt = k
    · have e : x = k' := Int32.toInt_inj.mp (by rw [h1]; exact hxk)
      refine ⟨o, by rw [hxk]; simp, ?_⟩
      show pc + o = ((if x = k' then t else q_pk x d l : Nat) : Int)
      rw [if_pos e]; exact h2
    · have hne : ¬ x = k' := fun e => hxk (by rw [e]; exact h1)
      simp only [List.length_cons] at hx2
      obtain ⟨off, e1, e2⟩ := q_tck_in (d := d) (x := x) os (k + 1) l h3 (by omega) (by omega)
      refine ⟨off, ?_, ?_⟩
      · have : (x.toInt - k).toNat = (x.toInt - (k + 1)).toNat + 1 := by omega
        rw [this, List.getElem?_cons_succ]; exact e1
      · show pc + off = ((if x = k' then t else q_pk x d l : Nat) : Int)
        rw [if_neg hne]; exact e2
theorem s_tsw {sx : QX} {own : String} {cc : ByteArray} {nL : Nat} {rt : Option FieldType} {pc : Nat} {l : List (Int32 × Nat)} {d : Nat} {dflt lo hi : Int} {offs : Array Int} {len : Nat} (hd : decode cc pc = .ok (.tableswitch dflt lo hi offs, len)) (hc : q_tck pc offs.toList lo l = true) (hh : hi = lo + offs.toList.length - 1) (hdf : (pc : Int) + dflt = (d : Int)) : q_Snd sx own cc nL rt pc (o_sw l d) := by
  intro g p l e R s m args below meth c cells slots Q rm P hC ls st H hok
  obtain ⟨hx, hb, hml, hown, hts, hK, hX, hbl, hN, hJ, hR, hret⟩ := hC
  unfold o_sw
  split
  · rename_i x st
    show q_ok g (q_pick _ _ _) ∧ (q_W g p l e R s m args below meth c cells slots Q nL (q_pick _ _ _) → _)
    rw [q_pick_pk]
    refine ⟨⟨hok.1, q_okS_tl hok.2⟩, fun kk Hh locs lsA hl hP hS => ?_⟩
    by_cases hb1 : x.toInt < lo ∨ hi < x.toInt
    · have e := q_tck_out (d := d) (x := x) _ _ _ hc (by omega)
      have kk := kk Hh locs lsA hl hP hS
      rw [e] at kk
      exact lv_tableOut hx hb hd hb1 hdf kk
    · obtain ⟨off, e1, e2⟩ := q_tck_in (d := d) (x := x) _ _ _ hc (by omega) (by omega)
      exact lv_tableIn hx hb hd (fun h => hb1 (Or.inl h)) (fun h => hb1 (Or.inr h)) (by rw [← Array.getElem?_toList]; exact e1) e2 (kk Hh locs lsA hl hP hS)
  · exact trivial
def q_lck (pc : Int) : List (Int × Int) → List (Int32 × Nat) → Bool
  | [], [] => true
  | (a, o) :: os, (k, t) :: l => decide (k.toInt = a) && (decide (pc + o = (t : Int)) && q_lck pc os l)
  | _, _ => false
theorem q_lck_ok {pc dflt : Int} {x : Int32} {d : Nat} (hdf : pc + dflt = (d : Int)) : ∀ (os : List (Int × Int)) (l : List (Int32 × Nat)), q_lck pc os l = true → pc + Op.lookupswitch.offset os dflt x.toInt = (q_pk x d l : Int)
  | [], [], _ => by
    show pc + Op.lookupswitch.offset [] dflt x.toInt = (d : Int)
    rw [← hdf]; rfl
  | [], _ :: _, h => by cases h
  | _ :: _, [], h => by cases h
  | (a, o) :: os, (k, t) :: l, h => by
    simp only [q_lck, Bool.and_eq_true, decide_eq_true_eq] at h
    obtain ⟨h1, h2, h3⟩ := h
    by_cases e : x = k
    · show _ = ((if x = k then t else q_pk x d l : Nat) : Int)
      rw [if_pos e, Op.lookupswitch.offset_cons, if_pos (by rw [e]; exact h1.symm)]
      exact h2
    · show _ = ((if x = k then t else q_pk x d l : Nat) : Int)
      rw [if_neg e, lv_osw e h1]
      exact q_lck_ok hdf os l h3
theorem s_lsw {sx : QX} {own : String} {cc : ByteArray} {nL : Nat} {rt : Option FieldType} {pc : Nat} {l : List (Int32 × Nat)} {d : Nat} {dflt : Int} {ps : Array (Int × Int)} {len : Nat} (hd : decode cc pc = .ok (.lookupswitch dflt ps, len)) (hp : (ps.toList.zip (ps.toList.drop 1)).all (fun (a, next) => a.1 < next.1) = true) (hc : q_lck pc ps.toList l = true) (hdf : (pc : Int) + dflt = (d : Int)) : q_Snd sx own cc nL rt pc (o_sw l d) := by
  intro g p l e R s m args below meth c cells slots Q rm P hC ls st H hok
  obtain ⟨hx, hb, hml, hown, hts, hK, hX, hbl, hN, hJ, hR, hret⟩ := hC
  unfold o_sw
  split
  · rename_i x st
    show q_ok g (q_pick _ _ _) ∧ (q_W g p l e R s m args below meth c cells slots Q nL (q_pick _ _ _) → _)
    rw [q_pick_pk]
    exact ⟨⟨hok.1, q_okS_tl hok.2⟩, fun kk Hh locs lsA hl hP hS => lv_lookup hx hb hd hp rfl (q_lck_ok hdf _ _ hc) (kk Hh locs lsA hl hP hS)⟩
  · exact trivial
/-! calls -/
def q_pop : Nat → List QV → List QV → Option (List QV × List QV)
  | 0, st, acc => some (acc, st)
  | n + 1, v :: st, acc => q_pop n st (v :: acc)
  | _ + 1, [], _ => none
theorem q_pop_eq : ∀ (n : Nat) (st acc as rest : List QV), q_pop n st acc = some (as, rest) → ∃ b, st = b ++ rest ∧ as = b.reverse ++ acc ∧ b.length = n
  | 0, st, acc, as, rest, h => by cases h; exact ⟨[], rfl, rfl, rfl⟩
  | n + 1, [], acc, as, rest, h => by cases h
  | n + 1, v :: st, acc, as, rest, h => by
    obtain ⟨b, h1, h2, h3⟩ := q_pop_eq n st (v :: acc) as rest h
    exact ⟨v :: b, by rw [h1]; rfl, by rw [h2]; simp, by simp [h3]⟩
theorem q_pop_0 {n : Nat} {st as rest : List QV} (h : q_pop n st [] = some (as, rest)) : st = as.reverse ++ rest ∧ as.length = n := by
  obtain ⟨b, h1, h2, h3⟩ := q_pop_eq n st [] as rest h
  rw [List.append_nil] at h2
  subst h2
  exact ⟨by rw [List.reverse_reverse]; exact h1, by simp [h3]⟩
theorem q_cats_eq (g : QG) : ∀ st : List QV, ((st.map (q_c g)).map fun v => v.category).sum = q_cats st
  | [] => rfl
  | v :: st => by
    have := q_cats_eq g st
    simp only [List.map_cons, List.sum_cons, this, q_big_cat, q_cats]
    cases q_big v <;> rfl
def q_kn (rk nx : Nat) (ls : QL) (rest : List QV) : QC := match rk with
  | 0 => .inl (fun H => (nx, (ls, (rest, H))))
  | 1 => .inr (.inl (fun x H => (nx, (ls, (.inl x :: rest, H)))))
  | _ => .inr (.inr ((fun H => (nx, (ls, (.inr (.inr (0, 0)) :: rest, H)))), (fun p H => (nx, (ls, (.inr (.inr (5, p)) :: rest, H))))))
def o_cS (rk mid ml n nx : Nat) : QO := fun ls st H => match q_pop n st [] with
  | some (as, rest) => some (.inr (.inr (.inr (.inl (cond (Nat.ble (q_cats as) ml) (Nat.ble (q_cats rest) 8) false, ((mid, (as, H)), q_kn rk nx ls rest))))))
  | none => none
def o_cV (rk ci mid ml n nx : Nat) : QO := fun ls st H => match q_pop n st [] with
  | some (.inr (.inr (k, p)) :: as, rest) => some (.inr (.inr (.inr (.inl (cond (Nat.beq (q_cio k) ci) (cond (Nat.ble (q_cats (.inr (.inr (k, p)) :: as)) ml) (Nat.ble (q_cats rest) 8) false) false, ((mid, (.inr (.inr (k, p)) :: as, H)), q_kn rk nx ls rest))))))
  | _ => none
def o_max (nx : Nat) : QO := fun ls st H => match st with
  | .inl y :: .inl x :: st => some (.inl (Nat.ble (q_cats st) 8, (nx, (ls, (.inl (if x < y then y else x) :: st, H)))))
  | _ => none
theorem q_back {g : QG} {p : Program} {l : Launch} {e : Env} {R : Room} {s : State} {m : MethodId} {args : Array Value} {below : List Frame} {meth : Method} {c : Code} {cells slots : Nat} {Q : State → Prop} {nL : Nat} {r : QR} {pc : Nat} {lsA : Array Slot} {st0 rest : List Value} {a : Array Value} {Hh : Heap} {locs : List Loc} (hr : va_Run p l e R s m args below meth c Hh locs cells slots 0 0 (F0 m pc lsA st0) rest (q_Qc g r a) (q_A g)) (hS : va_S (q_A g) s.heap Hh locs)
    (kk : ∀ (H1 : Heap) (locs1 : List Loc), q_okR g r → va_P g.1 vwCl (q_wd g r.2) H1 → va_S (q_A g) s.heap H1 locs1 → W p l e R s m args below meth c H1 locs1 cells slots Q (F0 m (pc + 3) lsA ((r.1.map (q_c g)).toList ++ rest))) : W p l e R s m args below meth c Hh locs cells slots Q (F0 m pc lsA st0) := by
  intro T hT X
  obtain ⟨v, st₀, t, T', L, h0, X', hL, e1, e2, ⟨⟨hvr, hv, hb⟩, hz, hk⟩, st⟩ := hr T hT X
  cases hv
  rw [h0] at hz hk
  obtain ⟨t2, a1, b1⟩ := kk T'.heap (locs ++ L) hvr (by rw [e1]; exact hb)
    ⟨Nat.le_trans hS.1 (by rw [e1]; exact hz), fun q h1 h2 => by rw [e1, hk q (Nat.lt_of_lt_of_le h1 hS.1) h2]; exact hS.2.1 q h1 h2, fun q hq => by
      rcases List.mem_append.mp hq with h | h
      · exact hS.2.2 q h
      · exact hL q h⟩ T' rfl X'
  exact ⟨t2, st t2 a1, b1⟩
theorem q_gd {a b c d : Nat} (h : cond (Nat.ble a b) (Nat.ble c d) false = true) : a ≤ b ∧ c ≤ d := by
  cases h1 : Nat.ble a b with
  | false => rw [h1] at h; cases h
  | true => rw [h1] at h; exact ⟨Nat.le_of_ble_eq_true h1, Nat.le_of_ble_eq_true h⟩
theorem q_gd0 {a b : Bool} (h : cond a b false = true) : a = true ∧ b = true := by
  cases a
  · cases h
  · exact ⟨rfl, h⟩
theorem q_sl_len (g : QG) : ∀ vs : List QV, (lg_sl (vs.map (q_c g))).length = q_cats vs
  | [] => rfl
  | v :: vs => by
    have h := q_sl_len g vs
    unfold lg_sl at h ⊢
    rw [List.map_cons, List.flatMap_cons, List.length_append, h, q_big_cat]
    show _ = cond (q_big v) 2 1 + q_cats vs
    cases q_big v <;> rfl
/-- what a call's end gives, whatever kind of answer it has -/
theorem q_callSp {sx : QX} {g : QG} {p : Program} {l : Launch} {e : Env} {R : Room} {s : State} {m : MethodId} {args : Array Value} {below : List Frame} {meth : Method} {c : Code} {cells slots : Nat} {Q : State → Prop} {nL : Nat} {rm : Room} {P : QR → Prop} {pc rk mid : Nat} {ls : QL} {st as rest : List QV} {H : QH} {b : Bool} {nx : Nat} (hnx : nx = pc + 3) (hcat : b = true → q_cats as ≤ (q_inf mid).2.2.1) (hok : q_ok g (pc, (ls, (st, H)))) (hst : st = as.reverse ++ rest)
    (hrun : b = true → ∀ (r : QR), q_Met g sx l rm (mid, (as, H)) r → ∀ (Hh : Heap) (locs : List Loc) (lsA : Array Slot), lv_has lsA nL (ls.map (q_cl g)) → va_P g.1 vwCl (q_wd g H) Hh → va_S (q_A g) s.heap Hh locs → ∃ a, va_Run p l e R s m args below meth c Hh locs cells slots 0 0 (F0 m pc lsA (st.map (q_c g))) (rest.map (q_c g)) (q_Qc g r a) (q_A g)) :
    q_Sp sx g p l e R s m args below meth c cells slots Q nL rm P (pc, (ls, (st, H))) (some (.inr (.inr (.inr (.inl (b, ((mid, (as, H)), q_kn rk nx ls rest))))))) := by
  subst hnx
  have hokR : q_okS g rest := fun v hv => hok.2 v (by rw [show st = _ from hst]; exact List.mem_append_right _ hv)
  have hokA : q_okS g as := fun v hv => hok.2 v (by rw [show st = _ from hst]; exact List.mem_append_left _ (List.mem_reverse.mpr hv))
  match rk with
  | 0 =>
    refine fun hb => ⟨⟨hokA, hcat hb⟩, fun H' => ⟨⟨hok.1, hokR⟩, fun hm kk Hh locs lsA hl hP hS => ?_⟩⟩
    obtain ⟨a, hr⟩ := hrun hb _ hm Hh locs lsA hl hP hS
    exact q_back (nL := nL) hr hS (fun H1 locs1 _ hP1 hS1 => kk H1 locs1 lsA hl hP1 hS1)
  | 1 =>
    refine fun hb => ⟨⟨hokA, hcat hb⟩, fun x H' => ⟨⟨hok.1, q_okS_cons (q_vI _) hokR⟩, fun hm kk Hh locs lsA hl hP hS => ?_⟩⟩
    obtain ⟨a, hr⟩ := hrun hb _ hm Hh locs lsA hl hP hS
    exact q_back (nL := nL) hr hS (fun H1 locs1 _ hP1 hS1 => kk H1 locs1 lsA hl hP1 hS1)
  | n + 2 =>
    refine fun hb => ⟨⟨hokA, hcat hb⟩, fun y H' => ⟨⟨hok.1, q_okS_cons trivial hokR⟩, fun hm kk Hh locs lsA hl hP hS => ?_⟩, fun q H' => ⟨fun hv => ⟨hok.1, q_okS_cons hv hokR⟩, fun hm kk Hh locs lsA hl hP hS => ?_⟩⟩
    · obtain ⟨a, hr⟩ := hrun hb _ hm Hh locs lsA hl hP hS
      exact q_back (nL := nL) hr hS (fun H1 locs1 _ hP1 hS1 => kk H1 locs1 lsA hl hP1 hS1)
    · obtain ⟨a, hr⟩ := hrun hb _ hm Hh locs lsA hl hP hS
      exact q_back (nL := nL) hr hS (fun H1 locs1 hvr hP1 hS1 => kk (hvr _ rfl) H1 locs1 lsA hl hP1 hS1)
theorem q_ws_good {mid : Nat} {y : MethodName} {bytes : ByteArray} {ml : Nat} {ret : Option FieldType} (hi : q_inf mid = (y, (bytes, (ml, ret)))) (h5 : Cond.code y bytes ml ret ∈ q_tw) : ∀ w ∈ q_ws mid, w ∈ q_tw ∧ ((w.onTables && w.keeps) = true ∨ ∃ ty, w = .arrayClass ty) := by
  intro w hw
  rcases List.mem_cons.mp hw with h | h
  · rw [hi] at h
    subst h
    exact ⟨h5, q_tw_good h5⟩
  · exact ⟨h, q_tw_good h⟩
theorem q_ws_code {mid : Nat} {y : MethodName} {bytes : ByteArray} {ml : Nat} {ret : Option FieldType} (hi : q_inf mid = (y, (bytes, (ml, ret)))) : Cond.code y bytes ml ret ∈ q_ws mid := by
  unfold q_ws
  rw [hi]
  exact List.mem_cons_self
/-- the world as a callee is told it -/
theorem q_pre {sx : QX} {g : QG} {s U : State} {Hh : Heap} {locs : List Loc} {H : QH} (hK : va_K g.1 vwCl (q_tys g) s) (hX : va_X (q_ad g 183) sx.1 sx.2 s s.heap) (hbl : q_ad g 183 < s.heap.size) (hN : ∀ w ∈ q_nests, va_Nw w s) (hJ : q_inj g) (hP : va_P g.1 vwCl (q_wd g H) Hh) (hS : va_S (q_A g) s.heap Hh locs) (hU : U.heap = Hh) (hW : s.WarmedH U.vm) : q_WP g sx H U :=
  ⟨by rw [hU]; exact hP, va_K.moved hW.alike hK, va_X.moved hW.alike (by rw [hU]; exact hX.kept (hS.2.1 _ hbl (q_A_b hJ))), fun w hw => q_nests_warm hW w hw (hN w hw)⟩
theorem s_cS {sx : QX} {own : String} {cc : ByteArray} {nL : Nat} {rt : Option FieldType} {pc : Nat} {rk mid n i : Nat} {y : MethodName} {bytes : ByteArray} {ml : Nat} {ret : Option FieldType} (hi : q_inf mid = (y, (bytes, (ml, ret)))) (hd : decode cc pc = .ok (.invokestatic i, 3)) (h1 : Cond.methodLink own i y ∈ q_tw) (h2 : Cond.static y ∈ q_tw) (h3 : Cond.initialized y.cls ∈ q_tw) (h5 : Cond.code y bytes ml ret ∈ q_tw) (hy : y.cls ≠ "java/lang/invoke/MethodHandle" ∧ y.cls ≠ "java/lang/invoke/VarHandle") (hn : (parseMethodDescriptor y.desc).map (fun d => d.parameters.length) = some n) (hl40 : ml ≤ 40) : q_Snd sx own cc nL rt pc (o_cS rk mid ml n (pc + 3)) := by
  intro g p l e R s m args below meth c cells slots Q rm P hC ls st H hok
  obtain ⟨hx, hb, hml, hown, hts, hK, hX, hbl, hN, hJ, hR, hret⟩ := hC
  unfold o_cS
  split
  · rename_i as rest hpop
    obtain ⟨hst, hlen⟩ := q_pop_0 hpop
    refine q_callSp rfl (fun hg => by rw [hi]; exact (q_gd hg).1) hok hst (fun hg r hm Hh locs lsA hl hP hS => ?_)
    have hg := (q_gd hg).2
    unfold q_Met at hm
    rw [hi] at hm
    obtain ⟨hr1, hr2, hr3, hr4, hr5, hr6⟩ := hR
    refine ⟨_, va_runS (As := as.map (q_c g)) (rest := rest.map (q_c g)) (n := n) ⟨hx, hb, hml, hown, hts⟩ hm ⟨⟨hr1, hr2, hr3, by omega, pay_in hts (q_ws_good hi h5), q_ws_code hi, hts _ h5, hts _ h3, hy, fun sig h => ?_, hts _ h1⟩, hts _ h2⟩ ⟨q_blind g sx _, fun U hU hW => ⟨rfl, q_pre hK hX hbl hN hJ hP hS hU hW⟩⟩ rfl (by simp [hlen]) hl.1 ?_ ?_ hd ⟨by omega, by omega⟩⟩
    · rw [h] at hn
      exact (Option.some.inj hn).symm
    · show (st.map (q_c g)) = _
      rw [hst, List.map_append, List.map_reverse]
    · show 2 * 0 + _ ≤ 8
      rw [q_cats_eq]; omega
  · exact trivial
theorem s_cN {sx : QX} {own : String} {cc : ByteArray} {nL : Nat} {rt : Option FieldType} {pc : Nat} {rk mid n i : Nat} {host : String} {y : MethodName} {bytes : ByteArray} {ml : Nat} {ret : Option FieldType} (hi : q_inf mid = (y, (bytes, (ml, ret)))) (hd : decode cc pc = .ok (.invokestatic i, 3)) (h1 : Cond.methodLinkNest own i y host ∈ q_nests) (h2 : Cond.static y ∈ q_tw) (h3 : Cond.initialized y.cls ∈ q_tw) (h5 : Cond.code y bytes ml ret ∈ q_tw) (hy : y.cls ≠ "java/lang/invoke/MethodHandle" ∧ y.cls ≠ "java/lang/invoke/VarHandle") (hn : (parseMethodDescriptor y.desc).map (fun d => d.parameters.length) = some n) (hl40 : ml ≤ 40) : q_Snd sx own cc nL rt pc (o_cS rk mid ml n (pc + 3)) := by
  intro g p l e R s m args below meth c cells slots Q rm P hC ls st H hok
  obtain ⟨hx, hb, hml, hown, hts, hK, hX, hbl, hN, hJ, hR, hret⟩ := hC
  unfold o_cS
  split
  · rename_i as rest hpop
    obtain ⟨hst, hlen⟩ := q_pop_0 hpop
    refine q_callSp rfl (fun hg => by rw [hi]; exact (q_gd hg).1) hok hst (fun hg r hm Hh locs lsA hl hP hS => ?_)
    have hg := (q_gd hg).2
    unfold q_Met at hm
    rw [hi] at hm
    obtain ⟨hr1, hr2, hr3, hr4, hr5, hr6⟩ := hR
    refine ⟨_, va_runSN (host := host) (As := as.map (q_c g)) (rest := rest.map (q_c g)) (n := n) ⟨hx, hb, hml, hown, hts⟩ hm ⟨⟨⟨hr1, hr2, hr3, by omega, pay_in hts (q_ws_good hi h5), q_ws_code hi⟩, hts _ h5, hts _ h3, hy, fun sig h => ?_, va_Nw.use rfl (hN _ h1)⟩, hts _ h2, trivial⟩ ⟨q_blind g sx _, fun U hU hW => ⟨rfl, q_pre hK hX hbl hN hJ hP hS hU hW⟩⟩ rfl (by simp [hlen]) hl.1 ?_ ?_ hd ⟨by omega, by omega⟩⟩
    · rw [h] at hn
      exact (Option.some.inj hn).symm
    · show (st.map (q_c g)) = _
      rw [hst, List.map_append, List.map_reverse]
    · show 2 * 0 + _ ≤ 8
      rw [q_cats_eq]; omega
  · exact trivial
theorem s_cV {sx : QX} {own : String} {cc : ByteArray} {nL : Nat} {rt : Option FieldType} {pc : Nat} {rk ci mid n i : Nat} {T : u_T} {N : Nat} {y : MethodName} {bytes : ByteArray} {ml : Nat} {ret : Option FieldType} (hi : q_inf mid = (y, (bytes, (ml, ret)))) (hd : decode cc pc = .ok (.invokevirtual i, 3)) (hc : vwCl[ci]? = some (y.cls, T, N)) (h1 : Cond.methodLink own i y ∈ q_tw) (h2 : Cond.instanceMethod y ∈ q_tw) (h4 : Cond.selects y.cls y y ∈ q_tw) (h3 : Cond.initialized y.cls ∈ q_tw) (h5 : Cond.code y bytes ml ret ∈ q_tw) (hy : y.cls ≠ "java/lang/invoke/MethodHandle" ∧ y.cls ≠ "java/lang/invoke/VarHandle") (hn : (parseMethodDescriptor y.desc).map (fun d => d.parameters.length) = some n) (hl40 : ml ≤ 40) : q_Snd sx own cc nL rt pc (o_cV rk ci mid ml (n + 1) (pc + 3)) := by
  intro g p l e R s m args below meth c cells slots Q rm P hC ls st H hok
  obtain ⟨hx, hb, hml, hown, hts, hK, hX, hbl, hN, hJ, hR, hret⟩ := hC
  unfold o_cV
  split
  · rename_i k a as rest hpop
    obtain ⟨hst, hlen⟩ := q_pop_0 hpop
    refine q_callSp rfl (fun hg => by rw [hi]; exact (q_gd (q_gd0 hg).2).1) hok hst (fun hg r hm Hh locs lsA hl hP hS => ?_)
    cases hk : Nat.beq (q_cio k) ci with
    | false => rw [hk] at hg; cases hg
    | true =>
      rw [hk] at hg
      have hk1 : q_cio k = ci := Nat.eq_of_beq_eq_true hk
      have hci : ci < 8 := (List.getElem?_eq_some_iff.mp hc).1
      obtain ⟨hk2, hk3⟩ := q_cio_lt (by omega) hk1
      have hva : q_vd g (.inr (.inr (k, a))) := hok.2 _ (by rw [show st = _ from hst]; simp)
      obtain ⟨hp, hsh⟩ := q_vd_at hva hk3 (by omega)
      have hcell := (q_wd_get g H hp).trans (by rw [q_en_obj hsh (by omega), hk1])
      have hg := (q_gd hg).2
      unfold q_Met at hm
      rw [hi] at hm
      obtain ⟨hr1, hr2, hr3, hr4, hr5, hr6⟩ := hR
      have hcv : ((.inr (.inr (k, a)) :: as : List QV)).map (q_c g) = Value.ref (q_ad g a) :: as.map (q_c g) := by
        show q_c g (.inr (.inr (k, a))) :: as.map (q_c g) = _
        rw [q_c_ref hk3]
      refine ⟨_, va_runV (C := y.cls) (b := q_ad g a) (As := as.map (q_c g)) (rest := rest.map (q_c g)) (n := n) ⟨hx, hb, hml, hown, hts⟩ hm ⟨⟨hr1, hr2, hr3, by omega, pay_in hts (q_ws_good hi h5), q_ws_code hi, hts _ h5, hts _ h3, hy, fun sig h => ?_, hts _ h1⟩, hts _ h2, hts _ h4⟩ ⟨q_blind g sx _, va_recv hK hP hc hcell, fun U hU hW => ⟨congrArg List.toArray hcv.symm, q_pre hK hX hbl hN hJ hP hS hU hW⟩⟩ rfl (by simp at hlen; simp [hlen]) hl.1 ?_ ?_ hd ⟨by omega, by omega⟩⟩
      · rw [h] at hn
        exact (Option.some.inj hn).symm
      · show (st.map (q_c g)) = _
        rw [hst, List.map_append, List.map_reverse, hcv]
        simp
      · show 2 * 0 + _ ≤ 8
        rw [q_cats_eq]; omega
  · exact trivial
theorem s_max {sx : QX} {own : String} {cc : ByteArray} {nL : Nat} {rt : Option FieldType} {pc : Nat} {i : Nat} (hd : decode cc pc = .ok (.invokestatic i, 3)) (h1 : Cond.methodLink own i Lib.Math.max.name ∈ q_tw) (h2 : Cond.static Lib.Math.max.name ∈ q_tw) (h3 : Cond.initialized "java/lang/Math" ∈ q_tw) (h5 : Cond.code Lib.Math.max.name Lib.Math.max.code 2 (some .int) ∈ q_tw) : q_Snd sx own cc nL rt pc (o_max (pc + 3)) := by
  intro g p l e R s m args below meth c cells slots Q rm P hC ls st H hok
  obtain ⟨hx, hb, hml, hown, hts, hK, hX, hbl, hN, hJ, hR, hret⟩ := hC
  unfold o_max
  split
  · rename_i y x st
    intro hg
    have hg := Nat.le_of_ble_eq_true hg
    obtain ⟨hr1, hr2, hr3, hr4, hr5, hr6⟩ := hR
    refine ⟨⟨hok.1, q_okS_cons (q_vI _) (q_okS_tl (q_okS_tl hok.2))⟩, fun kk Hh locs lsA hl hP hS => ?_⟩
    exact va_mmax hx hb (hml.trans hl.1.symm) hown (hts _ h1) (hts _ h2) (hts _ h3) (hts _ h5) (by omega) (by rw [q_cats_eq]; omega) hr5 hr6 hd (kk Hh locs lsA hl hP hS)
  · exact trivial
