/-- the latest of those of a set, -9 where one has none -/
def LT (v : Nat) (P : Nat → Int32) : Nat → Int32
  | 0 => 0
  | n + 1 => if v.testBit n = true ∧ ¬ LT v P n < 0 ∧ (P n < 0 ∨ ¬ P n ≤ LT v P n) then P n else LT v P n
theorem LT_s (v : Nat) (P : Nat → Int32) (n : Nat) : LT v P (n + 1) = if v.testBit n = true ∧ ¬ LT v P n < 0 ∧ (P n < 0 ∨ ¬ P n ≤ LT v P n) then P n else LT v P n := rfl
theorem LT_ok {v : Nat} {P : Nat → Int32} : ∀ n, (∀ s, s < n → v.testBit s = true → ∃ z, z < 2 ^ 31 ∧ P s = nI z) → ∃ z, z < 2 ^ 31 ∧ LT v P n = nI z := by
  intro n
  induction n with
  | zero => intro _; exact ⟨0, by decide, rfl⟩
  | succ n ih =>
    intro h
    rw [LT_s]
    split
    · rename_i c
      exact h n (by omega) c.1
    · exact ih (fun s hs => h s (by omega))
theorem LT_neg {v : Nat} {P : Nat → Int32} {k : Nat} (h : LT v P k = -9) : ∀ n, k ≤ n → LT v P n = -9 := by
  intro n
  induction n with
  | zero => intro hk; have : k = 0 := by omega
            subst this; exact h
  | succ n ih =>
    intro hk
    by_cases e : k = n + 1
    · subst e; exact h
    · rw [LT_s, ih (by omega), if_neg]
      rintro ⟨_, a, _⟩
      exact a (by decide)
theorem nI_lt0 {z : Nat} (h : z < 2 ^ 31) : ¬ nI z < 0 := nI_pos h
theorem soon_X {so v : Nat} (ho : so ≤ 6) (hv : v < 2 ^ so) {P : Nat → Int32} (hP : ∀ s, s < so → P s = -9 ∨ ∃ z, z < 2 ^ 31 ∧ P s = nI z) {sa : tSA} (h12 : ∀ t, t < 6 → sa 12 t = if t < so then P t else -9) (si : tSI) : F_X4_allReadyBehind (nI v) si sa = some (LT v P so) := by
  have hv6 : v < 64 := Nat.lt_of_lt_of_le hv (p2le ho)
  have hbit : ∀ t, so ≤ t → v.testBit t = false := fun t ht => Nat.testBit_lt_two_pow (Nat.lt_of_lt_of_le hv (Nat.pow_le_pow_right (n := 2) (by decide) ht))
  have hle : ∀ i, i < 6 → ¬ (6 : Int32) ≤ nI i := by decide
  have step : ∀ i, i < 6 → ∀ (l : Int32) (rec : Int32 × Int32 → Option (Int32 ⊕ Int32)), S_X4_allReadyBehind_4 (nI v) sa rec (nI i, l) = (if v.testBit i = true then (if sa 12 i = -9 then some (.inl (-9)) else rec (nI (i + 1), if l < sa 12 i then sa 12 i else l)) else rec (nI (i + 1), l)) := by
    intro i hi l rec
    unfold S_X4_allReadyBehind_4
    dsimp only
    rw [if_neg (hle i hi), holds_eq v hv6 i (by omega)]
    by_cases c : v.testBit i = true
    · simp only [if_pos c, Option.bind_some, if_neg ne10, ld_nI hi (show 6 < 2 ^ 31 by decide), nI_c (show i < 2 ^ 31 by omega), nI_1]
    · simp only [if_neg c, Option.bind_some, if_true, nI_1]
  unfold F_X4_allReadyBehind
  rcases first_of (fun s => ¬ (v.testBit s = true ∧ P s = -9)) so with ⟨k, hk1, hk2, hk3⟩ | hall
  · have hk3 := Decidable.not_not.mp hk3
    have okb : ∀ s, s < k → v.testBit s = true → ∃ z, z < 2 ^ 31 ∧ P s = nI z := by
      intro s hs hb
      rcases hP s (by omega) with e | e
      · exact absurd ⟨hb, e⟩ (hk2 s hs)
      · exact e
    have L : lp (S_X4_allReadyBehind_4 (nI v) sa) 100 (0, 0) = some (.inl (-9)) := by
      refine lp_seq k (fun i => (nI i, LT v P i)) ?_ ?_ 100 (by omega)
      · intro i hi rec
        rw [step i (by omega), h12 i (by omega), if_pos (show i < so by omega), LT_s]
        obtain ⟨m, hm, em⟩ := LT_ok (v := v) (P := P) i (fun s hs => okb s (by omega))
        by_cases c : v.testBit i = true
        · obtain ⟨z, hz, ez⟩ := okb i hi c
          rw [if_pos c, ez, if_neg (nI_ne9 hz), em]
          by_cases d : nI m < nI z
          · rw [if_pos d, if_pos ⟨c, nI_lt0 hm, Or.inr (fun q => absurd d (by rw [i32_nlt]; exact q))⟩]
          · rw [if_neg d, if_neg]
            rintro ⟨_, _, q | q⟩
            · exact nI_lt0 hz q
            · exact q (i32_nlt.mp d)
        · rw [if_neg c, if_neg (fun q => c q.1)]
      · intro rec
        rw [step k (by omega), if_pos hk3.1, h12 k (by omega), if_pos hk1, if_pos hk3.2]
    rw [L]
    obtain ⟨m, hm, em⟩ := LT_ok (v := v) (P := P) k okb
    have : LT v P (k + 1) = -9 := by
      rw [LT_s, em, if_pos ⟨hk3.1, nI_lt0 hm, Or.inl (by rw [hk3.2]; decide)⟩]
      exact hk3.2
    rw [LT_neg this so (by omega)]
    rfl
  · have okb : ∀ s, s < so → v.testBit s = true → ∃ z, z < 2 ^ 31 ∧ P s = nI z := by
      intro s hs hb
      rcases hP s (by omega) with e | e
      · exact absurd ⟨hb, e⟩ (hall s hs)
      · exact e
    have L : lp (S_X4_allReadyBehind_4 (nI v) sa) 100 (0, 0) = some (.inr (LT v P so)) := by
      have h0 : ((0 : Int32), (0 : Int32)) = (fun i => (nI i, LT v P (min i so))) 0 := by
        show _ = (nI 0, LT v P (min 0 so))
        rw [Nat.zero_min]; rfl
      rw [h0]
      refine lp_seq 6 (fun i => (nI i, LT v P (min i so))) ?_ ?_ 100 (by omega)
      · intro i hi rec
        rw [step i hi]
        by_cases y : i < so
        · rw [h12 i hi, if_pos y, show min i so = i by omega, show min (i + 1) so = i + 1 by omega, LT_s]
          obtain ⟨m, hm, em⟩ := LT_ok (v := v) (P := P) i (fun s hs => okb s (by omega))
          by_cases c : v.testBit i = true
          · obtain ⟨z, hz, ez⟩ := okb i y c
            rw [if_pos c, ez, if_neg (nI_ne9 hz), em]
            by_cases d : nI m < nI z
            · rw [if_pos d, if_pos ⟨c, nI_lt0 hm, Or.inr (fun q => absurd d (by rw [i32_nlt]; exact q))⟩]
            · rw [if_neg d, if_neg]
              rintro ⟨_, _, q | q⟩
              · exact nI_lt0 hz q
              · exact q (i32_nlt.mp d)
          · rw [if_neg c, if_neg (fun q => c q.1)]
        · rw [hbit i (by omega), if_neg (by decide), show min i so = so by omega, show min (i + 1) so = so by omega]
      · intro rec
        unfold S_X4_allReadyBehind_4
        dsimp only
        rw [if_pos (by decide), show min 6 so = so by omega]
    rw [L]; rfl
theorem soon_M {so v : Nat} (ho : so ≤ 6) (hv : v < 64) {P : Nat → Int32} {ti : tSI} {ta : tSA} (t1 : ti 1 = nI so) (h11 : ∀ t, t < so → ta 11 t = P t) : lp (S_X6_soon_120 (ti, ta) (nI v)) 100 (0, 0) = some (LT v P so) := by
  refine lp_seq so (fun i => (nI i, LT v P i)) ?_ ?_ 100 (by omega)
  · intro i hi rec
    unfold S_X6_soon_120
    dsimp only
    rw [if_neg (show ¬ ti 1 ≤ nI i by rw [t1]; exact nI_nle' hi (by omega)), isIn_eq v hv i (by omega), LT_s]
    simp only [Option.bind_some, ld_nI (show i < 6 by omega) (show 6 < 2 ^ 31 by decide), nI_c (show i < 2 ^ 31 by omega), h11 i hi, nI_1]
    by_cases c : v.testBit i = true
    · rw [if_pos c, if_neg ne10]
      by_cases d : LT v P i < 0
      · rw [if_pos d, if_neg (fun q => q.2.1 d)]
        rfl
      · rw [if_neg d]
        by_cases e : P i < 0
        · rw [if_pos e, if_pos ⟨c, d, Or.inl e⟩]
          rfl
        · rw [if_neg e]
          by_cases f : P i ≤ LT v P i
          · rw [if_pos f, if_neg]
            · rfl
            · rintro ⟨_, _, q | q⟩
              · exact e q
              · exact q f
          · rw [if_neg f, if_pos ⟨c, d, Or.inr f⟩]
            rfl
    · rw [if_neg c, if_pos rfl, if_neg (fun q => c q.1)]
      rfl
  · intro rec
    unfold S_X6_soon_120
    dsimp only
    rw [if_pos (show ti 1 ≤ nI so by rw [t1]; exact nI_le (Nat.le_refl so) (by omega))]
theorem e_soon {si : tSI} {sa : tSA} {ti : tSI} {ta : tSA} (R : Rel si sa ti ta) (a1 a2 a3 a4 a5 : Int32) : ∃ r si' sa' ti' ta', F_X5_soon a1 a2 a3 a4 a5 si sa = some (r, si', sa') ∧ F_X6_soon a1 a2 a3 a4 a5 ti ta = some (r, ti', ta') ∧ Rel si' sa' ti' ta' := by
  have R0 := R
  obtain ⟨so, sg, rd, ho, ho2, hg, hd, x2, m1, x3, m2, x4, m8, htr, hfa, hki, hco, hse, hal, hrs, hrt, hln, hce, hsz, hkr, hcr, hsr, har, hhv, hrr⟩ := R
  unfold F_X5_soon F_X6_soon
  rw [noSheet_eq, refusal_eq (si := upd si 1 0) (so := so) x2 ho]
  by_cases h : 0 ≤ a2.toInt ∧ a2.toInt < 4
  · rw [if_pos h, if_pos h]
    obtain ⟨k, hk, rfl⟩ := nI_ex (n := 4) h.1 h.2
    rw [in32 (a := a3) (lo := 0) (hi := 2) 0 2 rfl rfl, in32 (a := a5) (lo := 0) (hi := 20) 0 20 rfl rfl]
    simp only [Option.bind_some, if_true]
    by_cases h2 : (0 ≤ a3.toInt ∧ a3.toInt < 3) ∧ 0 ≤ a5.toInt ∧ a5.toInt ≤ (20 : Int32).toInt
    · have h2c : a5.toInt ≤ 20 := h2.2.2
      rw [if_pos h2, if_pos (show 0 ≤ a3.toInt ∧ a3.toInt ≤ 2 by omega), if_neg ne10, if_pos (show 0 ≤ a5.toInt ∧ a5.toInt ≤ 20 from ⟨h2.2.1, h2c⟩), if_neg ne10, m1]
      by_cases c : so = 0
      · rw [if_pos c, if_pos ((nI_z so ho).mpr c)]
        exact ⟨_, _, _, _, _, rfl, rfl, R0.fault 0⟩
      · rw [if_neg c, if_neg (fun z => c ((nI_z so ho).mp z)), if_pos rfl, x3, all_eq m1 ho, isSet_eq (si := upd si 1 0) (so := so) x2 ho]
        simp only [Option.bind_some, inAll_eq ho]
        by_cases hs : 0 ≤ a1.toInt ∧ a1.toInt < ((2 ^ so : Nat) : Int)
        · rw [if_pos hs, if_neg ne10, if_neg ne10]
          obtain ⟨v, hv, rfl⟩ := nI_ex hs.1 hs.2
          have hso2 : 2 ≤ so := by omega
          obtain ⟨w, hw, rfl⟩ := nI_exle (a := a5) (n := 20) h2.2.1 h2c
          simp only [Option.bind_some, if_true]
          rcases take_cases hk (show w ≤ 60 by omega) (show sg ≤ 6 by omega) (hsz k hk) hln hce a3 a4 1 (Or.inr ⟨rfl, m2⟩) (upd si 1 0) with ⟨f, r, hr0, hr1, t1, t2⟩ | ⟨row, t1, t2⟩ | ⟨j, q, row, rfl, hj, hq, hrow, t1, t2⟩
          · rw [t1, t2]
            simp only [Option.bind_some, if_neg hr0, if_neg hr1]
            refine ⟨_, _, _, _, _, rfl, rfl, ?_⟩
            rw [upd_upd]
            exact R0.fault f
          · rw [t1, t2]
            refine ⟨_, _, _, _, _, rfl, rfl, ?_⟩
            exact ⟨so, sg, rd, ho, ho2, hg, hd, x2, m1, x3, m2, x4, m8, htr, rfl, hki, hco, hse, hal, hrs, hrt, hln, hce, hsz, hkr, hcr, hsr, har, hhv, hrr⟩
          · rw [t1, t2]
            simp only [Option.bind_some, if_true, show ((0 : Int32) ≤ 0) = True by decide]
            obtain ⟨hh, hm, g, CX, CM⟩ := rel_ctx ho hg x2 x3 m1 m2 hki hco hse hkr hcr hsr hhv
            have hh1 : ∀ k, k < sg → hh k < 64 := fun k hk => (CX.2.2.2.2.1 k hk).1
            rw [go_eq (so := so) (sg := sg) (h := hh) (g := g) (q := q) (si := upd si 1 0) (sa := va_up sa 0 row) CX hso2 (show w ≤ 60 by omega) (fun x hx => ⟨(hq x hx).1, hrow x hx⟩)]
            rw [ix2, goPlan_eq (so := so) (sg := sg) (h := hh) (hm := hm) (g := g) (q := q) (si := upd ti 0 0) (sa := ta) CM (show w ≤ 60 by omega) hj (fun x hx => ⟨(hq x hx).1, by rw [hce]; exact (hq x hx).2⟩)]
            simp only [Option.bind_some]
            have hP : ∀ s, s < so → PR so sg hh g q s w = -9 ∨ ∃ z, z < 2 ^ 31 ∧ PR so sg hh g q s w = nI z := by
              intro s hs
              rcases PR_or (q := q) ho hso2 hh1 CX.2.2.2.2.2.2.2 hs w (by omega) with a | a
              · exact Or.inl a.1
              · exact Or.inr a.1
            have SM := soon_M (so := so) (v := v) (P := fun s => PR so sg hh g q s w) (ti := upd (upd (upd ti 0 0) 6 (nI (PS so sg hh g q w))) 7 (PI so sg hh q w)) (ta := va_up (va_up ta 10 (fun t => if t < so then nI (HP so sg hh t (PU q w)) else ta 10 t)) 11 (fun t => if t < so then PR so sg hh g q t w else ta 11 t)) ho (Nat.lt_of_lt_of_le hv (p2le ho)) m1 (fun t ht => if_pos ht)
            have SX := soon_X (so := so) (v := v) (P := fun s => PR so sg hh g q s w) ho hv hP (sa := va_up (va_up sa 0 row) 12 (fun t => if t < 6 then (if t < so then PR so sg hh g q t w else -9) else va_up sa 0 row 12 t)) (fun t ht => if_pos ht)
            rw [SX, SM]
            exact ⟨_, _, _, _, _, rfl, rfl, so, sg, rd, ho, ho2, hg, hd, x2, m1, x3, m2, x4, m8, htr, rfl, hki, hco, hse, hal, hrs, hrt, hln, hce, hsz, hkr, hcr, hsr, har, hhv, hrr⟩
        · rw [if_neg hs, if_pos rfl, if_pos rfl]
          exact ⟨_, _, _, _, _, rfl, rfl, R0.fault 0⟩
    · rw [if_neg h2, if_neg (show ¬ (-2 : Int32) = 0 by decide)]
      simp only [Option.bind_some, if_neg (show ¬ (-2 : Int32) = 0 by decide)]
      by_cases l : 0 ≤ a3.toInt ∧ a3.toInt ≤ 2
      · rw [if_pos l, if_neg ne10]
        have h4 : ¬ (0 ≤ a5.toInt ∧ a5.toInt ≤ 20) := fun z => h2 ⟨by omega, z.1, z.2⟩
        rw [if_neg h4, if_pos rfl]
        exact ⟨_, _, _, _, _, rfl, rfl, R0.fault 0⟩
      · rw [if_neg l, if_pos rfl]
        exact ⟨_, _, _, _, _, rfl, rfl, R0.fault 0⟩
  · rw [if_neg h, if_neg h]
    exact ⟨_, _, _, _, _, rfl, rfl, R0.fault 0⟩
/-- how often a sort stands ahead of a place -/
def cn (q : Nat → Nat) (s : Nat) : Nat → Nat
  | 0 => 0
  | x + 1 => if q x = s then cn q s x + 1 else cn q s x
theorem cn_s (q : Nat → Nat) (s x : Nat) : cn q s (x + 1) = if q x = s then cn q s x + 1 else cn q s x := rfl
theorem cn_le (q : Nat → Nat) (s : Nat) : ∀ x, cn q s x ≤ x := by
  intro x
  induction x with
  | zero => exact Nat.le_refl _
  | succ x ih => rw [cn_s]; split <;> omega
theorem cn_c {q c : Nat → Nat} (s : Nat) : ∀ x, (∀ y, y < x → cn q (q y) y < c (q y)) → cn q s x ≤ c s := by
  intro x
  induction x with
  | zero => intro _; exact Nat.zero_le _
  | succ x ih =>
    intro h
    rw [cn_s]
    split
    · rename_i e
      have := h x (by omega)
      rw [e] at this
      exact this
    · exact ih (fun y hy => h y (by omega))
theorem short_X {so w : Nat} (ho : so ≤ 6) (hw : w ≤ 60) {q c : Nat → Nat} {sa : tSA} (hq : ∀ x, x < w → q x < so ∧ sa 0 x = nI (q x)) (hc : ∀ s, s < so → sa 5 s = nI (c s) ∧ c s ≤ 9) : ∀ x, x < w → ∀ rec : Int32 → Option (Int32 ⊕ Unit), S_X0_firstShort_r6_2 (nI w) sa rec (nI x) = (if cn q (q x) x < c (q x) then rec (nI (x + 1)) else some (.inl (nI x))) := by
  intro x hx rec
  have L : lp (S_X0_firstShort_r6_13 (nI x) sa) 100 (0, 0) = some (nI (cn q (q x) x)) := by
    refine lp_seq x (fun y => (nI y, nI (cn q (q x) y))) ?_ ?_ 100 (by omega)
    · intro y hy rec
      unfold S_X0_firstShort_r6_13
      dsimp only
      rw [if_neg (nI_nle' hy (by omega)), ld_nI (show y < 60 by omega) (by decide), ld_nI (show x < 60 by omega) (by decide), nI_c (show y < 2 ^ 31 by omega), nI_c (show x < 2 ^ 31 by omega), (hq y (by omega)).2, (hq x hx).2, cn_s]
      have h1 := (hq y (by omega)).1
      have h2 := (hq x hx).1
      simp only [nI_i64 _ (show q y < 64 by omega) _ (show q x < 64 by omega), nI_1, Int32.add_zero]
      split <;> rfl
    · intro rec
      unfold S_X0_firstShort_r6_13
      dsimp only
      rw [if_pos (nI_le (Nat.le_refl x) (by omega))]
  have h2 := (hq x hx).1
  have h3 := cn_le q (q x) x
  have h4 := (hc (q x) h2).2
  unfold S_X0_firstShort_r6_2
  rw [if_neg (nI_nle' hx (by omega)), L]
  simp only [Option.bind_some]
  rw [ld_nI (show x < 60 by omega) (by decide), nI_c (show x < 2 ^ 31 by omega), (hq x hx).2, ld_nI (show q x < 6 by omega) (by decide), nI_c (show q x < 2 ^ 31 by omega), (hc (q x) h2).1, nI_1]
  by_cases d : cn q (q x) x < c (q x)
  · rw [if_pos d, if_pos (nI_lt d (by omega))]
  · rw [if_neg d, if_neg (nI_nlt (show c (q x) ≤ cn q (q x) x by omega) (by omega))]
theorem e_line {si : tSI} {sa : tSA} {ti : tSI} {ta : tSA} (R : Rel si sa ti ta) (a1 a2 a3 a4 : Int32) : ∃ r si' sa' ti' ta', F_X5_line a1 a2 a3 a4 si sa = some (r, si', sa') ∧ F_X6_line a1 a2 a3 a4 ti ta = some (r, ti', ta') ∧ Rel si' sa' ti' ta' := by
  have R0 := R
  obtain ⟨so, sg, rd, ho, ho2, hg, hd, x2, m1, x3, m2, x4, m8, htr, hfa, hki, hco, hse, hal, hrs, hrt, hln, hce, hsz, hkr, hcr, hsr, har, hhv, hrr⟩ := R
  unfold F_X5_line F_X6_line
  rw [noSheet_eq, refusal_eq (si := upd si 1 0) (so := so) x2 ho]
  by_cases h : 0 ≤ a1.toInt ∧ a1.toInt < 4
  · rw [if_pos h, if_pos h]
    obtain ⟨k, hk, rfl⟩ := nI_ex (n := 4) h.1 h.2
    rw [in32 (a := a2) (lo := 0) (hi := 2) 0 2 rfl rfl, in32 (a := a4) (lo := 0) (hi := 60) 0 60 rfl rfl]
    simp only [Option.bind_some, if_true]
    by_cases h2 : (0 ≤ a2.toInt ∧ a2.toInt < 3) ∧ 0 ≤ a4.toInt ∧ a4.toInt ≤ (60 : Int32).toInt
    · have h2c : a4.toInt ≤ 60 := h2.2.2
      rw [if_pos h2, if_pos (show 0 ≤ a2.toInt ∧ a2.toInt ≤ 2 by omega), if_neg ne10, if_pos (show 0 ≤ a4.toInt ∧ a4.toInt ≤ 60 from ⟨h2.2.1, h2c⟩), if_neg ne10, m1]
      by_cases c : so = 0
      · rw [if_pos c, if_pos ((nI_z so ho).mpr c)]
        exact ⟨_, _, _, _, _, rfl, rfl, R0.fault 0⟩
      · rw [if_neg c, if_neg (fun z => c ((nI_z so ho).mp z)), if_pos rfl, x2]
        obtain ⟨w, hw, rfl⟩ := nI_exle (a := a4) (n := 60) h2.2.1 h2c
        rcases take_cases hk hw ho (hsz k hk) hln hce a2 a3 0 (Or.inl ⟨rfl, m1⟩) (upd si 1 0) with ⟨f, r, hr0, hr1, t1, t2⟩ | ⟨row, t1, t2⟩ | ⟨j, q, row, rfl, hj, hq, hrow, t1, t2⟩
        · rw [t1, t2]
          simp only [Option.bind_some, if_neg hr0, if_neg hr1]
          refine ⟨_, _, _, _, _, rfl, rfl, ?_⟩
          rw [upd_upd]
          exact R0.fault f
        · rw [t1, t2]
          refine ⟨_, _, _, _, _, rfl, rfl, ?_⟩
          exact ⟨so, sg, rd, ho, ho2, hg, hd, x2, m1, x3, m2, x4, m8, htr, rfl, hki, hco, hse, hal, hrs, hrt, hln, hce, hsz, hkr, hcr, hsr, har, hhv, hrr⟩
        · rw [t1, t2]
          simp only [Option.bind_some, if_true, show ((0 : Int32) ≤ 0) = True by decide]
          let cc : Nat → Nat := fun s => (sa 5 s).toNatClampNeg
          have hc : ∀ s, s < so → sa 5 s = nI (cc s) ∧ cc s ≤ 9 := by
            intro s hs
            obtain ⟨v, hv, e⟩ := hcr s hs
            show sa 5 s = nI (sa 5 s).toNatClampNeg ∧ (sa 5 s).toNatClampNeg ≤ 9
            rw [e, nI_c (by omega)]
            exact ⟨rfl, hv⟩
          have SX := short_X (sa := va_up sa 0 row) (q := q) (c := cc) ho hw (fun x hx => ⟨(hq x hx).1, hrow x hx⟩) hc
          -- the reference's counters
          let Z : Nat → Nat → Int32 := fun i t => if t < i then 0 else ta 12 t
          have LZ : lp S_X6_line_82 100 (0, upd ti 0 0, ta) = some (upd ti 0 0, va_up ta 12 (Z so)) := by
            have e0 : va_up ta 12 (Z 0) = ta := by
              have : Z 0 = ta 12 := by funext t; show (if t < 0 then (0 : Int32) else ta 12 t) = _; rw [if_neg (by omega)]
              rw [this, up_self]
            have H : lp S_X6_line_82 100 (nI 0, upd ti 0 0, va_up ta 12 (Z 0)) = some (upd ti 0 0, va_up ta 12 (Z so)) := by
              refine lp_seq so (fun i => (nI i, upd ti 0 0, va_up ta 12 (Z i))) ?_ ?_ 100 (by omega)
              · intro i hi rec
                unfold S_X6_line_82
                dsimp only
                have zs : upd (Z i) i 0 = Z (i + 1) := by
                  funext t
                  show upd (Z i) i 0 t = if t < i + 1 then (0 : Int32) else ta 12 t
                  by_cases e : t = i
                  · subst e; rw [upd_eq, if_pos (by omega)]
                  · rw [upd_ne _ _ e]
                    show (if t < i then (0 : Int32) else ta 12 t) = _
                    by_cases y : t < i
                    · rw [if_pos y, if_pos (by omega)]
                    · rw [if_neg y, if_neg (by omega)]
                rw [if_neg (show ¬ upd ti 0 0 1 ≤ nI i by rw [show upd ti 0 0 1 = nI so from m1]; exact nI_nle' hi (by omega)), ld_nI (show i < 6 by omega) (by decide), nI_c (show i < 2 ^ 31 by omega), up_eq, up_up, zs, nI_1]
              · intro rec
                unfold S_X6_line_82
                dsimp only
                rw [if_pos (show upd ti 0 0 1 ≤ nI so by rw [show upd ti 0 0 1 = nI so from m1]; exact nI_le (Nat.le_refl so) (by omega))]
            rw [e0] at H
            exact H
          let N : Nat → Nat → Int32 := fun x t => if t < so then nI (cn q t x) else ta 12 t
          have N0 : Z so = N 0 := rfl
          rw [N0] at LZ
          have SM : ∀ x, x < w → (∀ y, y < x → cn q (q y) y < cc (q y)) → ∀ rec : Int32 × tSI × tSA → Option ((Int32 × tSI × tSA) ⊕ (tSI × tSA)), S_X6_line_108 (nI w) (nI k) (nI j) rec (nI x, upd ti 0 0, va_up ta 12 (N x)) = (if cn q (q x) x < cc (q x) then rec (nI (x + 1), upd ti 0 0, va_up ta 12 (N (x + 1))) else some (.inl (nI x, upd ti 0 0, va_up ta 12 (N x)))) := by
            intro x hx hb rec
            unfold S_X6_line_108
            dsimp only
            have hqx := (hq x hx).1
            have le := cn_c (q := q) (c := cc) (q x) x hb
            have c9 := (hc (q x) hqx).2
            have nx : N x (q x) = nI (cn q (q x) x) := if_pos hqx
            have ns : upd (N x) (q x) (nI (cn q (q x) x + 1)) = N (x + 1) := by
              funext t
              show upd (N x) (q x) _ t = if t < so then nI (cn q t (x + 1)) else ta 12 t
              by_cases e : t = q x
              · subst e; rw [upd_eq, if_pos hqx, cn_s, if_pos rfl]
              · rw [upd_ne _ _ e]
                show (if t < so then nI (cn q t x) else ta 12 t) = _
                rw [cn_s, if_neg (show ¬ q x = t from fun z => e z.symm)]
            rw [if_neg (nI_nle' hx (by omega)), ix2, nI_add, ld_nI (by omega) (by decide), nI_c (show 60 * k + j + x < 2 ^ 31 by omega)]
            have e20 : va_up ta 12 (N x) 20 (60 * k + j + x) = nI (q x) := by
              show ta 20 (60 * k + j + x) = nI (q x)
              rw [hce]; exact (hq x hx).2
            have e1 : va_up ta 12 (N x) 1 = sa 5 := by show ta 1 = sa 5; exact hco
            simp only [e20, e1, ld_nI (show q x < 6 by omega) (show 6 < 2 ^ 31 by decide), nI_c (show q x < 2 ^ 31 by omega), up_eq, up_up, nx, (hc (q x) hqx).1, nI_i64 _ (show cn q (q x) x < 64 by omega) _ (show cc (q x) < 64 by omega), nI_1, ns]
            by_cases d : cn q (q x) x < cc (q x)
            · rw [if_pos d, if_neg (by omega)]
            · rw [if_neg d, if_pos (by omega)]
          rw [LZ]
          simp only [Option.bind_some]
          unfold F_X0_firstShort_r6
          have K : ∀ T : tSA, (∀ i, i ≠ 12 → T i = ta i) → Rel (upd si 1 0) (va_up sa 0 row) (upd ti 0 0) T := by
            intro T hT
            refine ⟨so, sg, rd, ho, ho2, hg, hd, x2, m1, x3, m2, x4, m8, htr, rfl, ?_, ?_, ?_, ?_, ?_, ?_, ?_, ?_, ?_, hkr, hcr, hsr, har, ?_, hrr⟩
            · rw [hT 0 (by decide)]; exact hki
            · rw [hT 1 (by decide)]; exact hco
            · rw [hT 2 (by decide)]; exact hse
            · rw [hT 3 (by decide)]; exact hal
            · rw [hT 16 (by decide)]; exact hrs
            · rw [hT 17 (by decide)]; exact hrt
            · rw [hT 19 (by decide)]; exact hln
            · rw [hT 20 (by decide)]; exact hce
            · rw [hT 18 (by decide)]; exact hsz
            · rw [hT 4 (by decide)]; exact hhv
          rcases first_of (fun x => cn q (q x) x < cc (q x)) w with ⟨y, hy1, hy2, hy3⟩ | hall
          · have L1 : lp (S_X0_firstShort_r6_2 (nI w) (va_up sa 0 row)) 100 0 = some (.inl (nI y)) := by
              refine lp_seq y (fun x => nI x) ?_ ?_ 100 (by omega)
              · intro x hx rec; rw [SX x (by omega), if_pos (hy2 x hx)]
              · intro rec; rw [SX y hy1, if_neg hy3]
            have L2 : lp (S_X6_line_108 (nI w) (nI k) (nI j)) 100 (0, upd ti 0 0, va_up ta 12 (N 0)) = some (.inl (nI y, upd ti 0 0, va_up ta 12 (N y))) := by
              refine lp_seq y (fun x => (nI x, upd ti 0 0, va_up ta 12 (N x))) ?_ ?_ 100 (by omega)
              · intro x hx rec; rw [SM x (by omega) (fun z hz => hy2 z (by omega)), if_pos (hy2 x hx)]
              · intro rec; rw [SM y hy1 hy2, if_neg hy3]
            rw [L1, L2]
            exact ⟨_, _, _, _, _, rfl, rfl, K _ (fun i hi => up_ne _ _ hi)⟩
          · have L1 : lp (S_X0_firstShort_r6_2 (nI w) (va_up sa 0 row)) 100 0 = some (.inr ()) := by
              refine lp_seq w (fun x => nI x) ?_ ?_ 100 (by omega)
              · intro x hx rec; rw [SX x hx, if_pos (hall x hx)]
              · intro rec
                unfold S_X0_firstShort_r6_2
                rw [if_pos (nI_le (Nat.le_refl w) (by omega))]
            have L2 : lp (S_X6_line_108 (nI w) (nI k) (nI j)) 100 (0, upd ti 0 0, va_up ta 12 (N 0)) = some (.inr (upd ti 0 0, va_up ta 12 (N w))) := by
              refine lp_seq w (fun x => (nI x, upd ti 0 0, va_up ta 12 (N x))) ?_ ?_ 100 (by omega)
              · intro x hx rec; rw [SM x hx (fun z hz => hall z (by omega)), if_pos (hall x hx)]
              · intro rec
                unfold S_X6_line_108
                dsimp only
                rw [if_pos (nI_le (Nat.le_refl w) (by omega))]
            rw [L1, L2]
            exact ⟨_, _, _, _, _, rfl, rfl, K _ (fun i hi => up_ne _ _ hi)⟩
    · rw [if_neg h2, if_neg (show ¬ (-2 : Int32) = 0 by decide)]
      simp only [Option.bind_some, if_neg (show ¬ (-2 : Int32) = 0 by decide)]
      by_cases l : 0 ≤ a2.toInt ∧ a2.toInt ≤ 2
      · rw [if_pos l, if_neg ne10]
        have h4 : ¬ (0 ≤ a4.toInt ∧ a4.toInt ≤ 60) := fun z => h2 ⟨by omega, z.1, z.2⟩
        rw [if_neg h4, if_pos rfl]
        exact ⟨_, _, _, _, _, rfl, rfl, R0.fault 0⟩
      · rw [if_neg l, if_pos rfl]
        exact ⟨_, _, _, _, _, rfl, rfl, R0.fault 0⟩
  · rw [if_neg h, if_neg h]
    exact ⟨_, _, _, _, _, rfl, rfl, R0.fault 0⟩
