/-! the soundness of a run -/
def q_room (d : Nat) : Room := { frames := d, cells := 0, slots := 0, locals := 60 * d }
def q_TB (sx : QX) (tb : QT) : Prop := ∀ mid pc o, tb mid pc = some o → q_Snd sx (q_inf mid).1.cls (q_inf mid).2.1 (q_inf mid).2.2.1 (q_inf mid).2.2.2 pc o
theorem q_ok_cut {g : QG} {kp : QK} {mid : Nat} {t : QS} (h : q_ok g t) : q_ok g (q_cut kp mid t) := by
  unfold q_cut
  split
  · exact ⟨fun q hq => h.1 q (q_kp_mem hq), h.2⟩
  · exact h
theorem q_W_cut {g : QG} {p : Program} {l : Launch} {e : Env} {R : Room} {s : State} {m : MethodId} {args : Array Value} {below : List Frame} {meth : Method} {c : Code} {cells slots : Nat} {Q : State → Prop} {nL : Nat} {kp : QK} {mid : Nat} {t : QS} (h : q_W g p l e R s m args below meth c cells slots Q nL (q_cut kp mid t)) : q_W g p l e R s m args below meth c cells slots Q nL t := by
  intro Hh locs lsA hl hP hS
  unfold q_cut at h
  split at h
  · refine h Hh locs lsA (q_has_sub hl fun q hq => ?_) hP hS
    obtain ⟨r, hr, rfl⟩ := List.mem_map.mp hq
    exact List.mem_map.mpr ⟨r, q_kp_mem hr, rfl⟩
  · exact h Hh locs lsA hl hP hS
/-- from what the instructions say to what a run says: a run in a frame, its callees met -/
theorem q_run_ok {sx : QX} {g : QG} {p : Program} {l : Launch} {e : Env} {R : Room} {s : State} {m : MethodId} {args : Array Value} {below : List Frame} {meth : Method} {c : Code} {cells slots : Nat} {Q : State → Prop} {nL : Nat} {rm : Room} {P : QR → Prop} {r : QR} {t : QS} {Kc : QE → Option QR} {K : QS → Option QR} (hPr : P r) (hMc : ∀ f z, q_okE g f → Kc f = some z → q_Met g sx l rm f z) (hK : ∀ u, q_ok g u → K u = some r → q_W g p l e R s m args below meth c cells slots Q nL u) :
    ∀ (N : QN), q_Sp sx g p l e R s m args below meth c cells slots Q nL rm P t N → q_run Kc K N = some r → q_W g p l e R s m args below meth c cells slots Q nL t
  | none, _, h => by cases h
  | some (.inl (b, u)), hs, h => by
    obtain ⟨rfl, h2⟩ := q_cond h
    obtain ⟨h3, h4⟩ := hs rfl
    exact h4 (hK _ h3 h2)
  | some (.inr (.inl (b, (u, v)))), hs, h => by
    obtain ⟨h3, h4, h5⟩ := hs
    cases b with
    | true => exact h5 (fun _ => hK u (h3 rfl) h) (fun q => by cases q)
    | false => exact h5 (fun q => by cases q) (fun _ => hK v (h4 rfl) h)
  | some (.inr (.inr (.inl (b, z)))), hs, h => by
    obtain ⟨rfl, h2⟩ := q_cond h
    cases h2
    exact (hs rfl).2 hPr
  | some (.inr (.inr (.inr (.inl (b, (f, .inl k)))))), hs, h => by
    obtain ⟨rfl, h2⟩ := q_cond h
    obtain ⟨H', h3, h4⟩ := q_cV_some h2
    obtain ⟨h5, h6⟩ := hs rfl
    obtain ⟨h7, h8⟩ := h6 H'
    exact h8 (hMc _ _ h5 h3) (hK _ h7 h4)
  | some (.inr (.inr (.inr (.inl (b, (f, .inr (.inl k))))))), hs, h => by
    obtain ⟨rfl, h2⟩ := q_cond h
    obtain ⟨x, H', h3, h4⟩ := q_cI_some h2
    obtain ⟨h5, h6⟩ := hs rfl
    obtain ⟨h7, h8⟩ := h6 x H'
    exact h8 (hMc _ _ h5 h3) (hK _ h7 h4)
  | some (.inr (.inr (.inr (.inl (b, (f, .inr (.inr (k0, k5)))))))), hs, h => by
    obtain ⟨rfl, h2⟩ := q_cond h
    obtain ⟨h5, h6, h6'⟩ := hs rfl
    rcases q_cR_some h2 with ⟨y, H', h3, h4⟩ | ⟨y, H', h3, h4⟩
    · obtain ⟨h7, h8⟩ := h6 y H'
      exact h8 (hMc _ _ h5 h3) (hK _ h7 h4)
    · obtain ⟨h7, h8⟩ := h6' y H'
      exact h8 (hMc _ _ h5 h3) (fun hv => hK _ (h7 hv) h4)
  | some (.inr (.inr (.inr (.inr (x, (l9, d)))))), hs, h => by
    have h : q_sw K x d l9 = some r := h
    rw [q_sw_eq] at h
    obtain ⟨h3, h4⟩ := hs
    exact h4 (hK _ h3 h)
theorem q_plain : ∀ mid, plainName (q_inf mid).1.cls = true := by
  intro mid
  rcases Nat.lt_or_ge mid 178 with h | h
  · have : ∀ k, k < 178 → plainName (q_inf k).1.cls = true := by decide +kernel
    exact this mid h
  · have e : q_inf mid = (yL_law, (cL_law, (4, some .boolean))) := by
      unfold q_inf
      rw [List.getD_eq_getElem?_getD, List.getElem?_eq_none (show q_infl.length ≤ mid from h)]
      rfl
    rw [e]
    decide +kernel
theorem q_sound (sx : QX) (tb : QT) (kp : QK) (hTB : q_TB sx tb) (g : QG) (hJ : q_inj g) (l : Launch) : ∀ (n d mid : Nat) (t : QS) (r : QR), q_ev tb kp n (d + 1) mid t = some r → q_ok g t →
    ∀ (p : Program) (e : Env) (R : Room) (s : State) (m : MethodId) (args : Array Value) (below : List Frame) (meth : Method) (c : Code) (cells slots : Nat) (Q : State → Prop) (P : QR → Prop), q_Cx sx g p l e R s m args below meth c cells slots Q (q_inf mid).1.cls (q_inf mid).2.1 (q_inf mid).2.2.1 (q_inf mid).2.2.2 (q_room d) P → P r → q_W g p l e R s m args below meth c cells slots Q (q_inf mid).2.2.1 t := by
  intro n
  induction n with
  | zero => intro d mid t r h; cases h
  | succ n ih =>
    intro d mid t r h hok p e R s m args below meth c cells slots Q P hC hPr
    have h : q_step tb (fun e => q_ev tb kp n d e.1 (0, (q_la 0 e.2.1, ([], e.2.2)))) (fun u => q_ev tb kp n (d + 1) mid (q_cut kp mid u)) mid t = some r := h
    unfold q_step at h
    split at h
    · rename_i o ho
      have hs := hTB _ _ _ ho g p l e R s m args below meth c cells slots Q (q_room d) P hC t.2.1 t.2.2.1 t.2.2.2 hok
      refine q_run_ok (rm := q_room d) (nL := (q_inf mid).2.2.1) hPr (fun f z hf hz => ?_) (fun u hu hz => ?_) _ hs h
      · cases d with
        | zero => cases n <;> cases hz
        | succ d =>
          have hok0 : q_ok g (0, (q_la 0 f.2.1, ([], f.2.2))) := ⟨q_la_ok 0 _ hf.1, q_okS_nil⟩
          have key := ih d f.1 _ z hz hok0
          unfold q_Met
          refine Met.ofW (cc := (q_inf f.1).2.1) (maxL := (q_inf f.1).2.2.1) (ret := (q_inf f.1).2.2.2) (q_plain f.1) rfl ?_
          intro p e s m args below meth c s₁ B hml hv
          obtain ⟨rfl, hP, hK, hX, hN⟩ := hv
          have hts := atoms_spec (ws := q_ws f.1) B.pre
          have hX' := hX
          obtain ⟨scr, hscr, -⟩ := hX'
          have hbl : q_ad g 183 < s.heap.size := (Array.getElem?_eq_some_iff.mp hscr).1
          have W0 := key p e (headSpec (q_ws f.1) (q_room (d + 1))).room s m (f.2.1.map (q_c g)).toArray below meth c 0 0 (MQ below (q_Qc g z) (f.2.1.map (q_c g)).toArray s 0 0 (q_A g)) (fun r => r = z)
            ⟨B.exec, B.bytes, hml, findClass_of_methodNamed B.named, fun w hw => hts w (List.mem_cons_of_mem _ hw), hK, hX, hbl, hN, hJ, ⟨rfl, rfl, Nat.le_refl _, by show 60 + 60 * d ≤ 60 * (d + 1); omega, Nat.zero_le _, Nat.zero_le _⟩,
              ⟨fun pc x H Hh locs lsA ty hrt hn hd hPz hPh hS => ?_, fun pc H Hh locs lsA hrt hd hPz hPh hS => ?_, fun pc k q H Hh locs lsA C hrt hd hvd hPz hPh hS => ?_⟩⟩ rfl
          · have hl := lv_entry (f.2.1.map (q_c g)) (n := (q_inf f.1).2.2.1) ?_
            · rw [lg_entry_eq]
              refine W0 s.heap [] _ ?_ hP va_S.rf
              rw [q_la_map]
              exact hl
            · rw [q_sl_len]
              exact hf.2
          · subst hPz
            exact W.zret B.exec B.bytes (B.returns.trans hrt) hn (fun t ht _ => ⟨⟨fun v hv => by cases hv; exact trivial, rfl, by rw [ht]; exact hPh⟩, hS.F ht⟩) hS.2.2 hd B.notSynchronized
          · subst hPz
            exact W.vret B.exec B.bytes (B.returns.trans hrt) (fun t ht _ => ⟨⟨(fun v hv => by cases hv), rfl, by rw [ht]; exact hPh⟩, hS.F ht⟩) hS.2.2 hd B.notSynchronized
          · subst hPz
            refine W.aret B.exec B.bytes (B.returns.trans hrt) (Or.inl ⟨C, rfl⟩) ?_ (fun t ht _ => ⟨⟨fun v hv => by cases hv; exact hvd, rfl, by rw [ht]; exact hPh⟩, hS.F ht⟩) hS.2.2 hd B.notSynchronized
            cases k with
            | zero => exact Or.inl rfl
            | succ k => exact Or.inr ⟨_, rfl⟩
      · exact q_W_cut (ih d mid _ r hz (q_ok_cut hu) p e R s m args below meth c cells slots Q P hC hPr)
    · cases h
