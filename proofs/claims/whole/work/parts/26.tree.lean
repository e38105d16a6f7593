def enc (o : Option Nat) : Int32 := match o with
  | none => -9
  | some z => nI z
theorem enc_some (z : Nat) : enc (some z) = nI z := rfl
theorem enc_none : enc none = -9 := rfl
def P1 (n : Nat) : Prop := n &&& (n - 1) = 0
theorem p1_dec (n : Nat) : P1 n ∨ ¬ P1 n := Decidable.em (n &&& (n - 1) = 0)
theorem bc_eq : ∀ n, n < 64 → ∃ r, F_J6_bitCount_0f7a4 (nI n) = some r ∧ ((2 : Int32) ≤ r ↔ ¬ n &&& (n - 1) = 0) := by
  have H : ∀ n, n < 64 → ((F_J6_bitCount_0f7a4 (nI n)).isSome = true ∧ ((2 : Int32) ≤ (F_J6_bitCount_0f7a4 (nI n)).getD 0 ↔ ¬ n &&& (n - 1) = 0)) := by decide +kernel
  intro n hn
  obtain ⟨h1, h2⟩ := H n hn
  obtain ⟨r, hr⟩ := Option.isSome_iff_exists.mp h1
  rw [hr] at h2
  exact ⟨r, hr, h2⟩
theorem pw_eq : ∀ n, n < 64 → (nI n &&& (nI n - 1) = 0 ↔ n &&& (n - 1) = 0) := by decide +kernel
theorem and_split : ∀ n, n < 64 → ∀ a, a < 64 → (n &&& a) + (n &&& (63 ^^^ a)) = n := by decide +kernel
/-- what is left behind a parting of a heap by a sign -/
def pt (h : Nat → Nat) (B : Nat → Option Nat) (n k : Nat) : Option Nat :=
  if n &&& h k = 0 ∨ n &&& (63 ^^^ h k) = 0 then none else (B (n &&& h k)).bind fun a => (B (n &&& (63 ^^^ h k))).map fun b => a + b
/-- the best of the first k signs: seconds, sign -/
def fw (h : Nat → Nat) (B : Nat → Option Nat) (n : Nat) : Nat → Option (Nat × Nat)
  | 0 => none
  | k + 1 => match pt h B n k with
    | none => fw h B n k
    | some c => match fw h B n k with
      | none => some (c, k)
      | some p => if c < p.1 then some (c, k) else some p
theorem fw_none {h : Nat → Nat} {B : Nat → Option Nat} {n k : Nat} (e : pt h B n k = none) : fw h B n (k + 1) = fw h B n k := by
  show (match pt h B n k with | none => _ | some c => _) = _
  rw [e]
theorem fw_first {h : Nat → Nat} {B : Nat → Option Nat} {n k c : Nat} (e : pt h B n k = some c) (e2 : fw h B n k = none) : fw h B n (k + 1) = some (c, k) := by
  show (match pt h B n k with | none => _ | some c => _) = _
  rw [e]
  show (match fw h B n k with | none => _ | some p => _) = _
  rw [e2]
theorem fw_more {h : Nat → Nat} {B : Nat → Option Nat} {n k c : Nat} {p : Nat × Nat} (e : pt h B n k = some c) (e2 : fw h B n k = some p) : fw h B n (k + 1) = if c < p.1 then some (c, k) else some p := by
  show (match pt h B n k with | none => _ | some c => _) = _
  rw [e]
  show (match fw h B n k with | none => _ | some p => _) = _
  rw [e2]
theorem fw_sp {h : Nat → Nat} {B : Nat → Option Nat} {n : Nat} : ∀ k p, fw h B n k = some p → p.2 < k ∧ pt h B n p.2 = some p.1 ∧ (∀ i, i < k → ∀ c, pt h B n i = some c → p.1 ≤ c) ∧ ∀ i, i < p.2 → ¬ pt h B n i = some p.1 := by
  intro k
  induction k with
  | zero => intro p e; cases e
  | succ k ih =>
    intro p e
    cases hp : pt h B n k with
    | none =>
      rw [fw_none hp] at e
      obtain ⟨a, b, c, d⟩ := ih p e
      refine ⟨by omega, b, fun i hi z hz => ?_, d⟩
      by_cases q : i = k
      · subst q; rw [hp] at hz; cases hz
      · exact c i (by omega) z hz
    | some c =>
      cases hf : fw h B n k with
      | none =>
        rw [fw_first hp hf] at e
        obtain rfl := Option.some.inj e
        have nn : ∀ i, i < k → pt h B n i = none := by
          intro i hi
          cases hi2 : pt h B n i with
          | none => rfl
          | some z =>
            have : ∀ j, i < j → ¬ fw h B n j = none := by
              intro j
              induction j with
              | zero => intro hj; omega
              | succ j ihj =>
                intro hj
                by_cases q : i = j
                · subst q
                  cases hf2 : fw h B n i with
                  | none => rw [fw_first hi2 hf2]; intro z; cases z
                  | some p2 => rw [fw_more hi2 hf2]; split <;> (intro z; cases z)
                · have := ihj (by omega)
                  cases hp2 : pt h B n j with
                  | none => rw [fw_none hp2]; exact this
                  | some c2 =>
                    cases hf2 : fw h B n j with
                    | none => exact absurd hf2 this
                    | some p2 => rw [fw_more hp2 hf2]; split <;> (intro z; cases z)
            exact absurd hf (this k hi)
        refine ⟨by show k < k + 1; omega, hp, fun i hi z hz => ?_, fun i hi hz => ?_⟩
        · by_cases q : i = k
          · subst q; rw [hp] at hz; cases hz; exact Nat.le_refl _
          · rw [nn i (by omega)] at hz; cases hz
        · rw [nn i hi] at hz; cases hz
      | some p0 =>
        rw [fw_more hp hf] at e
        obtain ⟨a, b, cc, d⟩ := ih p0 hf
        by_cases q : c < p0.1
        · rw [if_pos q] at e
          obtain rfl := Option.some.inj e
          refine ⟨by show k < k + 1; omega, hp, fun i hi z hz => ?_, fun i hi hz => ?_⟩
          · by_cases y : i = k
            · subst y; rw [hp] at hz; cases hz; exact Nat.le_refl _
            · have := cc i (by omega) z hz
              show c ≤ z; omega
          · have := cc i hi _ hz
            have this : p0.1 ≤ c := this
            omega
        · rw [if_neg q] at e
          obtain rfl := Option.some.inj e
          refine ⟨by omega, b, fun i hi z hz => ?_, d⟩
          by_cases y : i = k
          · subst y; rw [hp] at hz; cases hz; omega
          · exact cc i (by omega) z hz
def tval (h g : Nat → Nat) (so sg : Nat) (B : Nat → Option Nat) (n : Nat) : Option Nat := if n &&& (n - 1) = 0 then some 0 else (fw h B n sg).map fun p => p.1 + wt g n so
def tfst (h : Nat → Nat) (sg : Nat) (B : Nat → Option Nat) (n : Nat) : Option Nat := if n &&& (n - 1) = 0 then none else (fw h B n sg).map fun p => p.2
def tb (h g : Nat → Nat) (so sg : Nat) : Nat → Nat → Option Nat
  | 0 => fun _ => none
  | n + 1 => fun s => if s = n then tval h g so sg (tb h g so sg n) n else tb h g so sg n s
/-- the fewest seconds of a heap by a tree; its first sign -/
def tv (h g : Nat → Nat) (so sg n : Nat) : Option Nat := tval h g so sg (tb h g so sg n) n
def tf (h g : Nat → Nat) (so sg n : Nat) : Option Nat := tfst h sg (tb h g so sg n) n
theorem tb_lt {h g : Nat → Nat} {so sg : Nat} : ∀ n s, s < n → tb h g so sg n s = tv h g so sg s := by
  intro n
  induction n with
  | zero => intro s hs; omega
  | succ n ih =>
    intro s hs
    show (if s = n then tval h g so sg (tb h g so sg n) n else tb h g so sg n s) = _
    by_cases e : s = n
    · subst e; rw [if_pos rfl]; rfl
    · rw [if_neg e, ih s (by omega)]
theorem tv_bd {h g : Nat → Nat} {so sg : Nat} (ho : so ≤ 6) (hh : ∀ k, k < sg → h k < 64) (hb : ∀ s, s < so → g s ≤ 180) : ∀ m n, n < m → n < 64 → ∀ z, tv h g so sg n = some z → z ≤ 1080 * n ∧ (0 < n → z + 1080 ≤ 1080 * n) := by
  intro m
  induction m with
  | zero => intro n hn; omega
  | succ m ih =>
    intro n hn h64 z hz
    unfold tv tval at hz
    by_cases c : n &&& (n - 1) = 0
    · rw [if_pos c] at hz
      cases hz
      exact ⟨Nat.zero_le _, fun h => by omega⟩
    · rw [if_neg c] at hz
      obtain ⟨p, hp, rfl⟩ := Option.map_eq_some_iff.mp hz
      obtain ⟨h1, h2, _, _⟩ := fw_sp sg p hp
      unfold pt at h2
      by_cases d : n &&& h p.2 = 0 ∨ n &&& (63 ^^^ h p.2) = 0
      · rw [if_pos d] at h2; cases h2
      · rw [if_neg d] at h2
        obtain ⟨a, ha, h3⟩ := Option.bind_eq_some_iff.mp h2
        obtain ⟨b, hb2, e⟩ := Option.map_eq_some_iff.mp h3
        have sp := and_split n h64 (h p.2) (hh _ h1)
        have d1 : 0 < n &&& h p.2 := Nat.pos_of_ne_zero (fun q => d (Or.inl q))
        have d2 : 0 < n &&& (63 ^^^ h p.2) := Nat.pos_of_ne_zero (fun q => d (Or.inr q))
        rw [tb_lt n _ (by omega)] at ha
        rw [tb_lt n _ (by omega)] at hb2
        have q1 := (ih _ (by omega) (by omega) a ha).2 d1
        have q2 := (ih _ (by omega) (by omega) b hb2).2 d2
        have q3 := wt_le (g := g) n so hb
        have q4 : wt g n so ≤ 1080 := by omega
        omega
theorem enc_ne {z : Nat} (h : z < 2 ^ 31) : ¬ enc (some z) = -9 := nI_ne9 h
theorem behind_eq {so sg n k : Nat} {h g : Nat → Nat} {sa : tSA} (ho : so ≤ 6) (hg5 : sg ≤ 5) (hh : ∀ k, k < sg → h k < 64 ∧ sa 8 k = nI (h k)) (hb : ∀ s, s < so → g s ≤ 180) (hn : n < 64) (hk : k < sg) (hA : ∀ s, s < n → sa 14 s = enc (tv h g so sg s)) (si : tSI) :
    F_X1_behindParting_r2 (nI n) (nI k) si sa = some (enc (pt h (tb h g so sg n) n k)) := by
  obtain ⟨h1, h2⟩ := hh k hk
  have hh1 : ∀ k, k < sg → h k < 64 := fun k hk => (hh k hk).1
  have la := and_lt (b := h k) hn
  have lb := and_lt (b := 63 ^^^ h k) hn
  have sp := and_split n hn (h k) h1
  have z0 : ∀ a, a < 64 → (nI a = 0 ↔ a = 0) := fun a ha => nI_i64 a ha 0 (by decide)
  unfold F_X1_behindParting_r2
  rw [ld_nI (show k < 5 by omega) (by decide), nI_c (show k < 2 ^ 31 by omega), h2, and_eq n hn _ h1, andn_eq n hn _ h1]
  simp only [ld_nI (show k < 5 by omega) (show 5 < 2 ^ 31 by decide), z0 _ la, z0 _ lb, ld_nI la (show 64 < 2 ^ 31 by decide), ld_nI lb (show 64 < 2 ^ 31 by decide), nI_c (show n &&& h k < 2 ^ 31 by omega), nI_c (show n &&& (63 ^^^ h k) < 2 ^ 31 by omega)]
  unfold pt
  by_cases a0 : n &&& h k = 0
  · rw [if_pos a0, if_pos (Or.inl a0)]; rfl
  · rw [if_neg a0]
    by_cases b0 : n &&& (63 ^^^ h k) = 0
    · rw [if_pos b0, if_pos (Or.inr b0)]; rfl
    · rw [if_neg b0, if_neg (show ¬ (n &&& h k = 0 ∨ n &&& (63 ^^^ h k) = 0) from fun z => z.elim a0 b0), hA _ (by omega), hA _ (by omega), tb_lt n _ (by omega), tb_lt n _ (by omega)]
      cases ea : tv h g so sg (n &&& h k) with
      | none => rw [enc_none, if_pos rfl]; rfl
      | some a =>
        have qa := (tv_bd ho hh1 hb 64 _ la la a ea).1
        rw [if_neg (enc_ne (z := a) (by omega))]
        cases eb : tv h g so sg (n &&& (63 ^^^ h k)) with
        | none => rw [enc_none, if_pos rfl]; rfl
        | some b =>
          have qb := (tv_bd ho hh1 hb 64 _ lb lb b eb).1
          rw [if_neg (enc_ne (z := b) (by omega)), enc_some, enc_some, nI_add]
          rfl
def opm (a b : Option Nat) : Option Nat := match b with
  | none => a
  | some c => match a with
    | none => some c
    | some p => if c < p then some c else some p
theorem fewer_eq {a b : Option Nat} (ha : ∀ z, a = some z → z < 2 ^ 30) (hb : ∀ z, b = some z → z < 2 ^ 30) : F_X1_fewer (enc a) (enc b) = some (enc (opm a b)) := by
  unfold F_X1_fewer
  cases a with
  | none =>
    rw [enc_none, if_pos rfl]
    cases b <;> rfl
  | some p =>
    have hp := ha p rfl
    rw [if_neg (enc_ne (z := p) (by omega))]
    cases b with
    | none => rw [enc_none, if_pos rfl]; rfl
    | some c =>
      have hc := hb c rfl
      rw [if_neg (enc_ne (z := c) (by omega)), enc_some, enc_some]
      by_cases d : c < p
      · rw [if_pos (nI_lt d (by omega))]
        show some (nI c) = some (enc (if c < p then some c else some p))
        rw [if_pos d]; rfl
      · rw [if_neg (nI_nlt (by omega) (by omega))]
        show some (nI p) = some (enc (if c < p then some c else some p))
        rw [if_neg d]; rfl
theorem pt_bd {so sg n k : Nat} {h g : Nat → Nat} (ho : so ≤ 6) (hh : ∀ k, k < sg → h k < 64) (hb : ∀ s, s < so → g s ≤ 180) (hn : n < 64) (hk : k < sg) : ∀ z, pt h (tb h g so sg n) n k = some z → z ≤ 1080 * 64 := by
  intro z hz
  unfold pt at hz
  by_cases d : n &&& h k = 0 ∨ n &&& (63 ^^^ h k) = 0
  · rw [if_pos d] at hz; cases hz
  · rw [if_neg d] at hz
    obtain ⟨a, ha, h3⟩ := Option.bind_eq_some_iff.mp hz
    obtain ⟨b, hb2, e⟩ := Option.map_eq_some_iff.mp h3
    have sp := and_split n hn (h k) (hh _ hk)
    have d1 : 0 < n &&& h k := Nat.pos_of_ne_zero (fun q => d (Or.inl q))
    have d2 : 0 < n &&& (63 ^^^ h k) := Nat.pos_of_ne_zero (fun q => d (Or.inr q))
    rw [tb_lt n _ (by omega)] at ha
    rw [tb_lt n _ (by omega)] at hb2
    have q1 := (tv_bd ho hh hb 64 _ (and_lt hn) (and_lt hn) a ha).1
    have q2 := (tv_bd ho hh hb 64 _ (and_lt hn) (and_lt hn) b hb2).1
    omega
theorem fw_map (h : Nat → Nat) (B : Nat → Option Nat) (n k : Nat) : (fw h B n (k + 1)).map (fun p => p.1) = opm ((fw h B n k).map (fun p => p.1)) (pt h B n k) := by
  cases hp : pt h B n k with
  | none => rw [fw_none hp]; rfl
  | some c =>
    cases hf : fw h B n k with
    | none => rw [fw_first hp hf]; rfl
    | some p =>
      rw [fw_more hp hf]
      show _ = if c < p.1 then some c else some p.1
      split <;> rfl
theorem fewestOf_eq {so sg n : Nat} {h g : Nat → Nat} {si : tSI} {sa : tSA} (C : CXS so sg h g si sa) (hn : n < 64) (hA : ∀ s, s < n → sa 14 s = enc (tv h g so sg s)) :
    F_X1_fewestOf_r2 (nI n) si sa = some (enc ((fw h (tb h g so sg n) n sg).map fun p => p.1 + wt g n so)) := by
  have C0 := C
  obtain ⟨ho, hg, x2, x3, hh, hkk, hww, hb⟩ := C
  have hh1 : ∀ k, k < sg → h k < 64 := fun k hk => (hh k hk).1
  have fbd : ∀ k, k ≤ sg → ∀ p, fw h (tb h g so sg n) n k = some p → p.1 ≤ 1080 * 64 := by
    intro k hk p hp
    obtain ⟨a, b, _, _⟩ := fw_sp k p hp
    exact pt_bd ho hh1 hb hn (by omega) _ b
  have L : lp (S_X1_fewestOf_r2_6 si (nI n) sa) 100 (0, -9) = some (enc ((fw h (tb h g so sg n) n sg).map fun p => p.1)) := by
    refine lp_seq sg (fun k => (nI k, enc ((fw h (tb h g so sg n) n k).map fun p => p.1))) ?_ ?_ 100 (by omega)
    · intro k hk rec
      unfold S_X1_fewestOf_r2_6
      dsimp only
      rw [x3, if_neg (nI_nle' hk (by omega)), behind_eq ho hg hh hb hn hk hA]
      simp only [Option.bind_some]
      rw [fewer_eq, fw_map]
      · simp only [Option.bind_some, nI_1]
      · intro z hz
        obtain ⟨p, hp, rfl⟩ := Option.map_eq_some_iff.mp hz
        have := fbd k (by omega) p hp
        omega
      · intro z hz
        have := pt_bd ho hh1 hb hn hk z hz
        omega
    · intro rec
      unfold S_X1_fewestOf_r2_6
      dsimp only
      rw [x3, if_pos (nI_le (Nat.le_refl sg) (by omega))]
  unfold F_X1_fewestOf_r2
  rw [L]
  simp only [Option.bind_some]
  cases hf : fw h (tb h g so sg n) n sg with
  | none => rfl
  | some p =>
    have := fbd sg (Nat.le_refl sg) p hf
    show (if enc (some p.1) = -9 then _ else _) = some (enc (some (p.1 + wt g n so)))
    rw [if_neg (enc_ne (by omega)), C0.secs hn]
    show some (nI p.1 + nI (wt g n so)) = some (nI (p.1 + wt g n so))
    rw [nI_add]
theorem trees_X {so sg : Nat} {h g : Nat → Nat} {si : tSI} {sa : tSA} (C : CXS so sg h g si sa) : F_X1_weighTrees_r2 si sa = some (si, va_up sa 14 (fun s => if s < 2 ^ so then enc (tv h g so sg s) else sa 14 s)) := by
  have C0 := C
  obtain ⟨ho, hg, x2, x3, hh, hkk, hww, hb⟩ := C
  have hp := p2le ho
  have hp0 : 0 < 2 ^ so := Nat.pow_pos (by decide)
  let A : Nat → Nat → Int32 := fun n s => if s < n then enc (tv h g so sg s) else sa 14 s
  have L : lp S_X1_weighTrees_r2_2 100 (nI 0, si, va_up sa 14 (A 0)) = some (si, va_up sa 14 (A (2 ^ so))) := by
    refine lp_seq (2 ^ so) (fun n => (nI n, si, va_up sa 14 (A n))) ?_ ?_ 100 (by omega)
    · intro n hn rec
      unfold S_X1_weighTrees_r2_2
      dsimp only
      have as : upd (A n) n (enc (tv h g so sg n)) = A (n + 1) := by
        funext q
        show upd (A n) n _ q = if q < n + 1 then enc (tv h g so sg q) else sa 14 q
        by_cases e : q = n
        · subst e; rw [upd_eq, if_pos (by omega)]
        · rw [upd_ne _ _ e]
          show (if q < n then _ else sa 14 q) = _
          by_cases z : q < n
          · rw [if_pos z, if_pos (by omega)]
          · rw [if_neg z, if_neg (by omega)]
      rw [every_eq x2 ho]
      simp only [Option.bind_some]
      rw [if_neg (nI_nlt (show n ≤ 2 ^ so - 1 by omega) (by omega))]
      obtain ⟨r, hr, hr2⟩ := bc_eq n (by omega)
      rw [hr]
      simp only [Option.bind_some]
      by_cases c : n &&& (n - 1) = 0
      · have tv0 : enc (tv h g so sg n) = 0 := by
          unfold tv tval; rw [if_pos c]; rfl
        rw [if_neg (fun z => (hr2.mp z) c), ld_nI (by omega) (by decide), nI_c (show n < 2 ^ 31 by omega), up_eq, up_up, nI_1, ← tv0, as]
      · rw [if_pos (hr2.mpr c), fewestOf_eq (so := so) (sg := sg) (h := h) (g := g) (si := si) (sa := va_up sa 14 (A n)) C0 (by omega) (fun s hs => if_pos hs)]
        simp only [Option.bind_some]
        have tvn : enc ((fw h (tb h g so sg n) n sg).map fun p => p.1 + wt g n so) = enc (tv h g so sg n) := by
          unfold tv tval; rw [if_neg c]
        rw [ld_nI (by omega) (by decide), nI_c (show n < 2 ^ 31 by omega), up_eq, up_up, nI_1, tvn, as]
    · intro rec
      unfold S_X1_weighTrees_r2_2
      dsimp only
      rw [every_eq x2 ho]
      simp only [Option.bind_some]
      rw [if_pos (nI_lt (show 2 ^ so - 1 < 2 ^ so by omega) (by omega))]
  have e0 : va_up sa 14 (A 0) = sa := by
    have : A 0 = sa 14 := by funext s; show (if s < 0 then _ else sa 14 s) = _; rw [if_neg (by omega)]
    rw [this, up_self]
  rw [e0] at L
  have L' : lp S_X1_weighTrees_r2_2 100 (0, si, sa) = some (si, va_up sa 14 (A (2 ^ so))) := L
  unfold F_X1_weighTrees_r2
  rw [L']
  rfl
