/-! WHAT A BED AND A QUARRY ARE, for class and model alike: a bed B; a quarry w laid out as the model's row is (day 0; softness 1; place 7; taken for 13; heard 19; promised 55; hours 79) -/
abbrev SB : Type := (Nat × (Nat × Nat)) × (Nat → Nat → Int32)
def sNb (B : SB) : Nat := B.1.1
def sNw (B : SB) : Nat := B.1.2.1
def sNs (B : SB) : Nat := B.1.2.2
def sK (B : SB) (b : Nat) : Int32 := B.2 0 b
def sN (B : SB) (b : Nat) : Int32 := B.2 1 b
def sT (B : SB) (k : Nat) : Int32 := B.2 2 k
def sS (B : SB) (s : Nat) : Int32 := B.2 3 s
def sD (B : SB) (s : Nat) : Int32 := B.2 4 s
def sC (B : SB) : Int32 := B.2 5 0
abbrev SW : Type := Nat → Int32
def z_byKind (B : SB) (b k : Nat) : Int32 := if sK B b = nI 1 then (if k = 0 then nI 2 * sT B k else sT B k / nI 2) else if sK B b = nI 2 then (if k = 1 then nI 3 * sT B k else sT B k) else if sK B b = nI 3 then (if k = 2 then nI 0 else sT B k) else sT B k
def z_spk (B : SB) (s b k : Nat) : Int32 := if sS B s = nI 1 then nI 2 * z_byKind B b k else if sS B s = nI 2 then (if sN B b ≤ nI 10 then z_byKind B b k + nI 4 else z_byKind B b k) else if sS B s = nI 3 then (if k = 0 then z_byKind B b k + nI 3 else z_byKind B b k) else z_byKind B b k
def z_less (v y : Int32) : Int32 := if v < y then nI 0 else v - y
def z_worth (B : SB) (w : SW) (s b k : Nat) : Int32 := z_less (z_spk B s b k) (w (19 + 6 * b + k))
def z_in (B : SB) (w : SW) (b : Nat) : Bool := decide (b < sNb B) && decide (w (7 + b) = nI 0)
def z_hears (B : SB) (w : SW) (b o : Nat) : Bool := decide (o = b) || (z_in B w o && (decide (o + 1 = b ∨ b + 1 = o) || (decide (o + 2 = b ∨ b + 2 = o) && z_in B w ((b + o) / 2))))
def z_hear (B : SB) (w : SW) (b k : Nat) : SW := fun j => if 19 ≤ j ∧ j < 55 ∧ (j - 19) % 6 = k ∧ (j - 19) / 6 < sNb B ∧ z_hears B w b ((j - 19) / 6) = true then w j + nI 1 else w j
def z_soften (B : SB) (w : SW) (b : Nat) (x : Int32) : SW := if w (1 + b) + x < sN B b then upd w (1 + b) (w (1 + b) + x) else upd (upd w (1 + b) (w (1 + b) + x)) (7 + b) (nI 1)
def z_says (B : SB) (w : SW) (s b k : Nat) : SW := z_soften B (z_hear B (upd w (79 + s) (w (79 + s) - nI 1)) b k) b (z_worth B w s b k)
def z_cold (B : SB) (b : Nat) : Int32 := if sK B b = nI 2 then nI 2 * sC B else sC B
def z_tally (B : SB) (w : SW) (x : Int32) : Nat := z_fold (sNb B) (fun b n => if w (7 + b) = x then n + 1 else n) 0
def z_any : Nat → (Nat → Bool) → Bool
  | 0, _ => false
  | n + 1, c => z_any n c || c n
def z_bel (w : SW) (b : Nat) (u : Int32) (s : Nat) : Bool := decide (w (55 + 6 * s + b) ≠ -4) && decide (w (55 + 6 * s + b) ≠ u)
def z_else (B : SB) (w : SW) (b : Nat) (u : Int32) : Bool := z_any (sNs B) (z_bel w b u) && decide (sK B b ≠ nI 3)
def z_take (B : SB) (w : SW) (b : Nat) (u : Int32) : SW := upd (upd w (7 + b) (if z_else B w b u = true then nI 3 else nI 2)) (13 + b) u
def z_code : Option (Nat × Nat) → Int32
  | none => -4
  | some (s, k) => nI (10 * s + k)
def z_codeW : Option Nat → Int32
  | none => -4
  | some k => nI k
/-- the best saying to a block, and what it is worth -/
def z_bstep (B : SB) (w : SW) (b s k : Nat) (a : Option (Nat × Nat) × Int32) : Option (Nat × Nat) × Int32 := if a.2 < z_worth B w s b k then (some (s, k), z_worth B w s b k) else a
def z_bsp (B : SB) (w : SW) (b s : Nat) (a : Option (Nat × Nat) × Int32) : Option (Nat × Nat) × Int32 := if nI 0 < w (79 + s) then z_fold (sNw B) (z_bstep B w b s) a else a
def z_best (B : SB) (w : SW) (b : Nat) : Option (Nat × Nat) := (z_fold (sNs B) (z_bsp B w b) (none, nI 0)).1
def z_wstep (B : SB) (w : SW) (s b k : Nat) (a : Option Nat × Int32) : Option Nat × Int32 := if a.2 < z_worth B w s b k then (some k, z_worth B w s b k) else a
def z_bword (B : SB) (w : SW) (s b : Nat) : Option Nat := (z_fold (sNw B) (z_wstep B w s b) (none, nI 0)).1
def z_asks (B : SB) (b : Nat) : Nat → SW → SW
  | 0, w => w
  | n + 1, w => if w (7 + b) = nI 0 then (match z_best B w b with
    | some (s, k) => z_asks B b n (z_says B w s b k)
    | none => w) else w
def z_askW (B : SB) (s b : Nat) : Nat → SW → SW
  | 0, w => w
  | n + 1, w => if w (7 + b) = nI 0 then (match z_bword B w s b with
    | some k => z_askW B s b n (z_says B w s b k)
    | none => w) else w
def z_cstep (B : SB) (b : Nat) (w : SW) : SW := if w (7 + b) = nI 0 then z_soften B w b (z_cold B b) else w
def z_day (n : Nat) (dl : Nat → Int32) (w : SW) : SW := fun j => if 79 ≤ j ∧ j < 79 + n then dl (j - 79) else if j = 0 then w 0 + nI 1 else w j
def z_lies (B : SB) (w : SW) (m b : Nat) : Bool := z_any (sNs B) (fun s => decide (m / 2 ^ s % 2 = 1) && z_bel w b (w (13 + b)) s)
def z_expl (B : SB) (w : SW) (m : Nat) : Bool := !(z_any (sNb B) (fun b => decide (w (7 + b) = nI 3) && !(z_lies B w m b)))
def z_s8 (f : Int32) (m i : Nat) (a : Int32) : Int32 := if m / 2 ^ i % 2 = 1 then a + (if nI 0 < f - nI i then f - nI i else nI 0) else a
def z_hterm (B : SB) (w : SW) (b k o : Nat) : Int32 := if (decide (o ≠ b) && z_hears B w b o) = true then z_less (z_byKind B o k) (w (19 + 6 * o + k)) else nI 0
def z_harmOf (B : SB) (w : SW) (b k : Nat) : Int32 := z_fold (sNb B) (fun o a => a + z_hterm B w b k o) (nI 0)
def z_hmstep (B : SB) (w : SW) (b s k : Nat) (a : Option (Nat × Nat) × (Int32 × Int32)) : Option (Nat × Nat) × (Int32 × Int32) := if nI 0 < z_worth B w s b k then (if (a.1 = none ∨ z_harmOf B w b k < a.2.1) ∨ (z_harmOf B w b k = a.2.1 ∧ a.2.2 < z_worth B w s b k) then (some (s, k), (z_harmOf B w b k, z_worth B w s b k)) else a) else a
def z_hmsp (B : SB) (w : SW) (b s : Nat) (a : Option (Nat × Nat) × (Int32 × Int32)) : Option (Nat × Nat) × (Int32 × Int32) := if nI 0 < w (79 + s) then z_fold (sNw B) (z_hmstep B w b s) a else a
def z_harm (B : SB) (w : SW) (b : Nat) : Option (Nat × Nat) := (z_fold (sNs B) (z_hmsp B w b) (none, (nI 0, nI 0))).1
/-- a bed in order -/
def q_sB (B : SB) : Prop := (1 ≤ sNb B ∧ sNb B ≤ 6) ∧ (1 ≤ sNw B ∧ sNw B ≤ 6) ∧ (1 ≤ sNs B ∧ sNs B ≤ 4) ∧ (∀ b, b < sNb B → (∃ n, n < 4 ∧ sK B b = nI n) ∧ ∃ n, 1 ≤ n ∧ n ≤ 60 ∧ sN B b = nI n) ∧ (∀ k, k < sNw B → ∃ n, 1 ≤ n ∧ n ≤ 20 ∧ sT B k = nI n) ∧ (∀ s, s < sNs B → (∃ n, n < 4 ∧ sS B s = nI n) ∧ ∃ n, 1 ≤ n ∧ n ≤ 9 ∧ sD B s = nI n) ∧ ∃ n, n ≤ 9 ∧ sC B = nI n
theorem z_byKind_b {B : SB} (h : q_sB B) {b k : Nat} (hb : b < sNb B) (hk : k < sNw B) : ∃ n, n ≤ 60 ∧ z_byKind B b k = nI n := by
  obtain ⟨-, -, -, h1, h2, -, -⟩ := h
  obtain ⟨⟨c, hc, ec⟩, -⟩ := h1 b hb
  obtain ⟨t, ht1, ht2, et⟩ := h2 k hk
  unfold z_byKind
  rw [ec, et]
  repeat' split
  · exact ⟨2 * t, by omega, pk_mul 2 t⟩
  · exact ⟨t / 2, by omega, pk_div (by omega) (by omega) (by omega)⟩
  · exact ⟨3 * t, by omega, pk_mul 3 t⟩
  · exact ⟨t, by omega, rfl⟩
  · exact ⟨0, by omega, rfl⟩
  · exact ⟨t, by omega, rfl⟩
  · exact ⟨t, by omega, rfl⟩
theorem z_spk_b {B : SB} (h : q_sB B) {s b k : Nat} (hb : b < sNb B) (hk : k < sNw B) : ∃ n, n ≤ 120 ∧ z_spk B s b k = nI n := by
  obtain ⟨t, ht, et⟩ := z_byKind_b h hb hk
  unfold z_spk
  rw [et]
  repeat' split
  · exact ⟨2 * t, by omega, pk_mul 2 t⟩
  · exact ⟨t + 4, by omega, nI_add t 4⟩
  · exact ⟨t, by omega, rfl⟩
  · exact ⟨t + 3, by omega, nI_add t 3⟩
  · exact ⟨t, by omega, rfl⟩
  · exact ⟨t, by omega, rfl⟩
theorem z_less_n {a b : Nat} (ha : a < 1073741824) (hb : b < 1073741824) : z_less (nI a) (nI b) = nI (a - b) := by
  unfold z_less
  by_cases h : a < b
  · rw [if_pos ((nI_ltI (by omega) (by omega)).mpr h), show a - b = 0 by omega]
  · rw [if_neg (fun q => h ((nI_ltI (by omega) (by omega)).mp q)), pk_sub (by omega)]
theorem z_max_n {a b : Nat} (ha : a < 1073741824) (hb : b < 1073741824) : (if nI 0 < nI a - nI b then nI a - nI b else nI 0) = nI (a - b) := by
  by_cases h : a ≤ b
  · have h1 : ¬ nI 0 < nI a - nI b := by
      rw [Int32.lt_iff_toInt_lt, pk_sub_toInt ha hb, nI_toInt (by omega)]
      omega
    rw [if_neg h1, show a - b = 0 by omega]
  · rw [pk_sub (by omega), if_pos ((nI_ltI (by omega) (by omega)).mpr (by omega))]
/-- how often each word was heard: small -/
def q_hd (B : SB) (w : SW) (N : Nat) : Prop := ∀ b k, b < sNb B → k < sNw B → ∃ n, n ≤ N ∧ w (19 + 6 * b + k) = nI n
theorem z_worth_n {B : SB} {w : SW} {N : Nat} (h : q_sB B) (hw : q_hd B w N) (hN : N < 1000000) {s b k : Nat} (hb : b < sNb B) (hk : k < sNw B) : ∃ n, n ≤ 120 ∧ z_worth B w s b k = nI n ∧ (if nI 0 < z_spk B s b k - w (19 + 6 * b + k) then z_spk B s b k - w (19 + 6 * b + k) else nI 0) = nI n := by
  obtain ⟨t, ht, et⟩ := z_spk_b h (s := s) hb hk
  obtain ⟨u, hu, eu⟩ := hw b k hb hk
  refine ⟨t - u, by omega, ?_, ?_⟩
  · unfold z_worth; rw [et, eu, z_less_n (by omega) (by omega)]
  · rw [et, eu, z_max_n (by omega) (by omega)]
