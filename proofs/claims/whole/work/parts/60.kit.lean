/-! CONSTRUCTORS: what they share -/
def k_ws (y : MethodName) (bytes : ByteArray) (ml : Nat) (ret : Option FieldType) : List Cond := Cond.code y bytes ml ret :: q_tw
theorem k_good {y : MethodName} {bytes : ByteArray} {ml : Nat} {ret : Option FieldType} (h : Cond.code y bytes ml ret ∈ q_tw) : GoodIn q_tw (k_ws y bytes ml ret) := by
  intro w hw
  rcases List.mem_cons.mp hw with e | e
  · subst e; exact ⟨h, q_tw_good h⟩
  · exact ⟨e, q_tw_good e⟩
abbrev k_tys (cI cQ : ClassId) : List (ClassId × FieldType) := [(cI, .int), (cQ, .object RX3)]
theorem k_Pl {D : va_G} {cl : List vw_C} {X Y : va_W} {H : Heap} (h : va_P D cl (X ++ Y) H) : va_P D cl X H := fun k q hk => h k q (by rw [List.getElem?_append_left (List.getElem?_eq_some_iff.mp hk).1]; exact hk)
theorem k_Pr {D : va_G} {cl : List vw_C} {X Y : va_W} {H : Heap} (h : va_P D cl (X ++ Y) H) : va_P D cl Y H := fun k q hk => h (X.length + k) q (by rw [List.getElem?_append_right (Nat.le_add_right _ _), Nat.add_sub_cancel_left]; exact hk)
theorem k_apr {X Y : va_W} {j : Nat} {q : Nat × va_E} (h : Y[j]? = some q) : (X ++ Y)[X.length + j]? = some q := by
  rw [List.getElem?_append_right (Nat.le_add_right _ _), Nat.add_sub_cancel_left]
  exact h
theorem k_apl {X Y : va_W} {j : Nat} {q : Nat × va_E} (h : X[j]? = some q) : (X ++ Y)[j]? = some q := by
  rw [List.getElem?_append_left (List.getElem?_eq_some_iff.mp h).1]
  exact h
theorem k_Dl {A : Nat → Prop} {X Y : va_W} (h : va_D A (X ++ Y)) : va_D A X := ⟨fun i j p q hi hj e => h.1 i j p q (k_apl hi) (k_apl hj) e, fun k q hk => h.2 k q (k_apl hk)⟩
theorem k_Dr {A : Nat → Prop} {X Y : va_W} (h : va_D A (X ++ Y)) : va_D A Y := ⟨fun i j p q hi hj e => by
  have := h.1 (X.length + i) (X.length + j) p q (k_apr hi) (k_apr hj) e
  omega, fun k q hk => h.2 (X.length + k) q (k_apr hk)⟩
theorem k_Dx {A : Nat → Prop} {X Y : va_W} (h : va_D A (X ++ Y)) : ∀ (i j : Nat) (p q : Nat × va_E), X[i]? = some p → Y[j]? = some q → p.1 ≠ q.1 := fun i j p q hi hj e => by
  have h1 : i < X.length := (List.getElem?_eq_some_iff.mp hi).1
  have := h.1 i (X.length + j) p q (k_apl hi) (k_apr hj) e
  omega
theorem k_Ps {D : va_G} {cl : List vw_C} {X Y Z : va_W} {H : Heap} (h : va_P D cl (X ++ (Y ++ Z)) H) : va_P D cl (X ++ (Z ++ Y)) H := (k_Pl h).app ((k_Pr (k_Pr h)).app (k_Pl (k_Pr h)))
theorem k_Ds {A : Nat → Prop} {X Y Z : va_W} (h : va_D A (X ++ (Y ++ Z))) : va_D A (X ++ (Z ++ Y)) := by
  refine (k_Dl h).app ((k_Dr (k_Dr h)).app (k_Dl (k_Dr h)) (fun i j p q hi hj e => k_Dx (k_Dr h) j i q p hj hi e.symm)) (fun i j p q hi hj => ?_)
  by_cases c : j < Z.length
  · rw [List.getElem?_append_left c] at hj
    exact k_Dx h i (Y.length + j) p q hi (k_apr hj)
  · rw [List.getElem?_append_right (by omega)] at hj
    exact k_Dx h i (j - Z.length) p q hi (k_apl hj)
theorem k_join {A0 : Nat → Prop} {D : va_G} {cl : List vw_C} {X wc w1 : va_W} {H H1 : Heap} (hP : va_P D cl (X ++ wc) H) (hD : va_D A0 (X ++ wc)) (hk : ∀ q : Nat, q < H.size → ¬ va_A wc H.size q → H1[q]? = H[q]?) (hf : ∀ q, va_A wc H.size q → A0 q) (hP1 : va_P D cl w1 H1) (hD1 : va_D (va_A wc H.size) w1) : va_P D cl (X ++ w1) H1 ∧ va_D A0 (X ++ w1) := by
  have ha : ∀ (i : Nat) (p : Nat × va_E), X[i]? = some p → p.1 < H.size ∧ ¬ va_A wc H.size p.1 := fun i p hi => by
    have hl := (k_Pl hP i p hi).lt
    refine ⟨hl, fun q => ?_⟩
    rcases q with ⟨k, e, hk⟩ | q
    · exact k_Dx hD i k p (p.1, e) hi hk rfl
    · omega
  refine ⟨((k_Pl hP).kept (fun i p hi => hk _ (ha i p hi).1 (ha i p hi).2)).app hP1, (k_Dl hD).app (hD1.weaken (fun _ _ _ h => hf _ h)) (fun i j p q hi hj e => ?_)⟩
  exact (ha i p hi).2 (by rw [e]; exact hD1.2 j q hj)
theorem k_free {A0 : Nat → Prop} {X wc : va_W} {H0 H : Heap} {locs : List Loc} (hD : va_D A0 (X ++ wc)) (hS : va_S A0 H0 H locs) (hA : ∀ q : Nat, H0.size ≤ q → A0 q) : ∀ q, va_A wc H.size q → A0 q := fun q h => by
  rcases h with ⟨k, e, hk⟩ | h
  · exact (k_Dr hD).2 k (q, e) hk
  · exact hA q (Nat.le_trans hS.1 h)
def k_Pc (D : va_G) (tys : List (ClassId × FieldType)) (E : State → Prop) (av : List Value) (w : va_W) (sz : Nat) : Array Value → State → Prop := va_Pc av (fun U => U.heap.size = sz ∧ va_P D vwCl w U.heap ∧ va_K D vwCl tys U ∧ va_D (fun _ => True) w ∧ E U)
def k_ok (E : State → Prop) : Prop := ∀ u U : State, u.vm.Alike U.vm → U.heap = u.heap → E u → E U
theorem k_blind (D : va_G) (tys : List (ClassId × FieldType)) {E : State → Prop} (hE : k_ok E) (av : List Value) (w : va_W) (sz : Nat) : FrameBlind (k_Pc D tys E av w sz) := fun a U gf mk q => by
  obtain ⟨h1, h2, h3, h4, h5, h6⟩ := q
  exact ⟨h1, h2, h3, va_K.moved (u := U) (U := U.calling gf mk a) (Vm.Alike.refl U.vm) h4, h5, hE U (U.calling gf mk a) (Vm.Alike.refl U.vm) rfl h6⟩
theorem k_okT : k_ok (fun _ => True) := fun _ _ _ _ _ => trivial
theorem k_okA : k_ok (va_AO RX3) := fun _ _ h _ q => va_AO.moved h q
abbrev k_Qc {S : Type} (D : va_G) (tys : List (ClassId × FieldType)) (w : va_W) (sz : Nat) (f : S → va_W) : Array Value → State → Outcome → State → Prop := va_Qv (S := S) (fun _ => True) (fun u t => va_P D vwCl (f u) t.heap ∧ va_K D vwCl tys t ∧ va_D (va_A w sz) (f u)) (va_A w sz)
section KI
variable {S : Type} {p : Program} {l : Launch} {e : Env} {R : Room} {s : State} {m : MethodId} {args : Array Value} {below : List Frame} {meth : Method} {c : Code} {H : Heap} {locs : List Loc} {cells slots : Nat} {Q : State → Prop}
variable {cc : ByteArray} {pc : Nat} {ls : Array Slot} {rest : List Value} {D : va_G} {A : Nat → Prop} {tys : List (ClassId × FieldType)} {X wc : va_W} {H0 : Heap} {st0 : List Value} {mc ms : Nat} {f : S → va_W} {av : Array Value}
theorem k_call (hr : va_Run p l e R s m args below meth c H locs cells slots mc ms (F0 m pc ls st0) rest (k_Qc D tys wc H.size f av) (va_A wc H.size)) (hP : va_P D vwCl (X ++ wc) H) (hD : va_D A (X ++ wc)) (hS : va_S A H0 H locs) (hA : ∀ q : Nat, H0.size ≤ q → A q)
    (kk : ∀ (u : S) (H1 : Heap) (locs1 : List Loc), va_P D vwCl (X ++ f u) H1 → va_D A (X ++ f u) → va_S A H0 H1 locs1 → W p l e R s m args below meth c H1 locs1 (cells + mc) (slots + ms) Q (F0 m (pc + 3) ls rest)) : W p l e R s m args below meth c H locs cells slots Q (F0 m pc ls st0) := by
  have hf := k_free hD hS hA
  refine va_callv hr hS (fun q _ h => hf q h) hf (fun u t H1 locs1 ht hvm hw hB hz1 hk1 hS1 => ?_)
  obtain ⟨hP1, hK1, hD1⟩ := hB
  rw [ht] at hP1
  obtain ⟨hP', hD'⟩ := k_join hP hD hk1 hf hP1 hD1
  exact kk u H1 locs1 hP' hD' hS1
variable {nL index maxL n b : Nat} {own : String} {y : MethodName} {bytes : ByteArray} {rm : Room} {As : List Value} {E : State → Prop}
theorem k_initI (hx : p.tables.exec = Jvm.exec) (hb : c.code = cc) (hml : c.maxLocals = nL) (hown : s.vm.findClass own = some m.cls) (hts : ∀ w ∈ q_tw, w.before args s = true) (hK : va_K D vwCl tys s) (hM : Met l y (k_ws y bytes maxL none) rm (k_Pc D tys E (.ref b :: As) wc H.size) (k_Qc D tys wc H.size f) mc ms (va_A wc H.size)) (hE : k_ok E) (hEU : ∀ U : State, U.heap = H → s.WarmedH U.vm → E U)
    (hl1 : Cond.methodLink own index y ∈ q_tw) (hin : Cond.instanceMethod y ∈ q_tw) (hini : Cond.initialized y.cls ∈ q_tw) (hc : Cond.code y bytes maxL none ∈ q_tw) (hrc : rm.cells = mc) (hrs : rm.slots = ms) (hy1 : y.name = "<init>") (hd : y.cls ≠ "java/lang/invoke/MethodHandle" ∧ y.cls ≠ "java/lang/invoke/VarHandle" ∧ (parseMethodDescriptor y.desc).map (fun d => d.parameters.length) = some n) (hn : As.length = n) (hR : rm.frames + 1 ≤ R.frames ∧ 8 + (maxL + 11) + rm.locals ≤ R.locals) (hls : ls.size = nL) (hst : st0 = As.reverse ++ .ref b :: rest) (hroom : (rest.map fun v => v.category).sum ≤ 8) (hdg : decode cc pc = .ok (.invokespecial index, 3)) (hcs : cells + mc ≤ R.cells ∧ slots + ms ≤ R.slots)
    (hP : va_P D vwCl (X ++ wc) H) (hD : va_D A (X ++ wc)) (hS : va_S A H0 H locs) (hA : ∀ q : Nat, H0.size ≤ q → A q)
    (kk : ∀ (u : S) (H1 : Heap) (locs1 : List Loc), va_P D vwCl (X ++ f u) H1 → va_D A (X ++ f u) → va_S A H0 H1 locs1 → W p l e R s m args below meth c H1 locs1 (cells + mc) (slots + ms) Q (F0 m (pc + 3) ls rest)) : W p l e R s m args below meth c H locs cells slots Q (F0 m pc ls st0) :=
  k_call (va_runI (As := As) (rest := rest) ⟨hx, hb, hml, hown, hts⟩ hM (cwI n hts (k_good hc) rfl hrc hrs (hts _ hini) (hts _ hl1) (hts _ hin) hy1 hd hR) ⟨k_blind D tys hE _ wc _, fun U hU hW => ⟨rfl, by rw [hU], by rw [hU]; exact k_Pr hP, va_K.moved hW.alike hK, (k_Dr hD).weaken (fun _ _ _ _ => trivial), hEU U hU hW⟩⟩ rfl hn hls hst (lv_room hroom) hdg hcs) hP hD hS hA kk
theorem k_initN {host : String} (hx : p.tables.exec = Jvm.exec) (hb : c.code = cc) (hml : c.maxLocals = nL) (hown : s.vm.findClass own = some m.cls) (hts : ∀ w ∈ q_tw, w.before args s = true) (hK : va_K D vwCl tys s) (hM : Met l y (k_ws y bytes maxL none) rm (k_Pc D tys E (.ref b :: As) wc H.size) (k_Qc D tys wc H.size f) mc ms (va_A wc H.size)) (hE : k_ok E) (hEU : ∀ U : State, U.heap = H → s.WarmedH U.vm → E U)
    (hl1 : va_Nw (.methodLinkNest own index y host) s) (hin : Cond.instanceMethod y ∈ q_tw) (hini : Cond.initialized y.cls ∈ q_tw) (hc : Cond.code y bytes maxL none ∈ q_tw) (hrc : rm.cells = mc) (hrs : rm.slots = ms) (hy1 : y.name = "<init>") (hd : y.cls ≠ "java/lang/invoke/MethodHandle" ∧ y.cls ≠ "java/lang/invoke/VarHandle" ∧ (parseMethodDescriptor y.desc).map (fun d => d.parameters.length) = some n) (hn : As.length = n) (hR : rm.frames + 1 ≤ R.frames ∧ 8 + (maxL + 11) + rm.locals ≤ R.locals) (hls : ls.size = nL) (hst : st0 = As.reverse ++ .ref b :: rest) (hroom : (rest.map fun v => v.category).sum ≤ 8) (hdg : decode cc pc = .ok (.invokespecial index, 3)) (hcs : cells + mc ≤ R.cells ∧ slots + ms ≤ R.slots)
    (hP : va_P D vwCl (X ++ wc) H) (hD : va_D A (X ++ wc)) (hS : va_S A H0 H locs) (hA : ∀ q : Nat, H0.size ≤ q → A q)
    (kk : ∀ (u : S) (H1 : Heap) (locs1 : List Loc), va_P D vwCl (X ++ f u) H1 → va_D A (X ++ f u) → va_S A H0 H1 locs1 → W p l e R s m args below meth c H1 locs1 (cells + mc) (slots + ms) Q (F0 m (pc + 3) ls rest)) : W p l e R s m args below meth c H locs cells slots Q (F0 m pc ls st0) :=
  k_call (va_runIN (As := As) (rest := rest) ⟨hx, hb, hml, hown, hts⟩ hM ⟨va_cnB n hts (k_good hc) rfl hrc hrs hl1 (hts _ hini) hd hR, hy1, hts _ hin⟩ ⟨k_blind D tys hE _ wc _, fun U hU hW => ⟨rfl, by rw [hU], by rw [hU]; exact k_Pr hP, va_K.moved hW.alike hK, (k_Dr hD).weaken (fun _ _ _ _ => trivial), hEU U hU hW⟩⟩ rfl hn hls hst (lv_room hroom) hdg hcs) hP hD hS hA kk
theorem k_newI {cI cQ : ClassId} {ws : va_W} (hx : p.tables.exec = Jvm.exec) (hb : c.code = cc) (harr : (Cond.arrayClass .int).before args s = true) (hK : va_K D vwCl (k_tys cI cQ) s) (hP : va_P D vwCl ws H) (hD : va_D A ws) (hS : va_S A H0 H locs) (hA : ∀ q : Nat, H0.size ≤ q → A q) {n : Int32} {N' : Nat} (hn : ¬ n < 0) (hN : n.toNatClampNeg = N') (hbytes : N' * 4 ≤ 536870912) (hcells : cells + 1 ≤ R.cells) (hslots : slots + N' ≤ R.slots) (hdg : decode cc pc = .ok (.newarray .int, 2))
    (kk : ∀ (q : Nat) (H1 : Heap), va_P D vwCl (ws ++ [(q, .inl (cI, (N', .inl (fun _ => nI 0))))]) H1 → va_D A (ws ++ [(q, .inl (cI, (N', .inl (fun _ => nI 0))))]) → va_S A H0 H1 locs → W p l e R s m args below meth c H1 locs (cells + 1) (slots + N') Q (F0 m (pc + 2) ls (.ref q :: rest))) : W p l e R s m args below meth c H locs cells slots Q (F0 m pc ls (.int n :: rest)) := by
  refine va_newa (atype := .int) (ty := .int) (a0 := (N', .inl (fun _ => nI 0))) hx hb harr rfl hK hP hD hS hA (fun _ => rfl) hn hN hbytes hcells hslots hdg (fun q cA H1 hK1 hP1 hD1 hS1 => ?_)
  have h1 : s.vm.findClass ("[" ++ FieldType.int.toString) = some cA := (hK1.2 2 _ rfl).2
  have h2 : s.vm.findClass ("[" ++ FieldType.int.toString) = some cI := (hK1.2 0 _ rfl).2
  have e : cA = cI := Option.some.inj (h1.symm.trans h2)
  subst e
  exact kk q H1 hP1 hD1 hS1
theorem k_newQ {cI cQ : ClassId} {ws : va_W} (hx : p.tables.exec = Jvm.exec) (hb : c.code = cc) (hown : s.vm.findClass own = some m.cls) (hclink : (Cond.classLink own index RX3).before args s = true) (hover : va_AO RX3 s) (hK : va_K D vwCl (k_tys cI cQ) s) (hP : va_P D vwCl ws H) (hD : va_D A ws) (hS : va_S A H0 H locs) (hA : ∀ q : Nat, H0.size ≤ q → A q) {n : Int32} {N' : Nat} (hn : ¬ n < 0) (hN : n.toNatClampNeg = N') (hbytes : N' * 4 ≤ 536870912) (hcells : cells + 1 ≤ R.cells) (hslots : slots + N' ≤ R.slots) (hdg : decode cc pc = .ok (.anewarray index, 3))
    (kk : ∀ (q : Nat) (H1 : Heap), va_P D vwCl (ws ++ [(q, .inl (cQ, (N', .inr (.inr (.inr (.inr (fun _ => none)))))))]) H1 → va_D A (ws ++ [(q, .inl (cQ, (N', .inr (.inr (.inr (.inr (fun _ => none)))))))]) → va_S A H0 H1 locs → W p l e R s m args below meth c H1 locs (cells + 1) (slots + N') Q (F0 m (pc + 3) ls (.ref q :: rest))) : W p l e R s m args below meth c H locs cells slots Q (F0 m pc ls (.int n :: rest)) := by
  refine va_newq hx hb hown hclink hover hK hP hD hS hA hn hN hbytes hcells hslots hdg (fun q cA H1 hK1 hP1 hD1 hS1 => ?_)
  obtain ⟨k1, c1, -, -, -, h1⟩ := (hK1.2 2 _ rfl).2
  obtain ⟨k2, c2, -, -, -, h2⟩ := (hK1.2 1 _ rfl).2
  have e : cA = cQ := Option.some.inj (h1.symm.trans h2)
  subst e
  exact kk q H1 hP1 hD1 hS1
end KI
theorem k_cQ {s : State} {C : String} (h : va_AO C s) : ∃ cQ, ArrOfT s cQ (.object C) ∧ va_RA s cQ (.object C) := by
  obtain ⟨comp, cQ, k, h1, h2, h3, h4, h5⟩ := Cond.arrayOver_spec h
  exact ⟨cQ, fun N z => ⟨(fun k h => by cases h), k, h3, comp, h4⟩, k, comp, h3, h4, h1, h5⟩
theorem k_cI {args : Array Value} {s : State} (h : (Cond.arrayClass .int).before args s = true) : ∃ cI, ArrOfT s cI .int ∧ va_RA s cI .int := by
  obtain ⟨cI, k, comp, h1, h2, h3⟩ := Cond.arrayClass_spec h
  exact ⟨cI, fun N z => ⟨(fun k h => by cases h), k, h2, comp, h3⟩, h1⟩
