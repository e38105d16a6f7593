def un (u : Nat) : Nat → Nat
  | 0 => 0
  | k + 1 => if u.testBit k = true then un u k else un u k + 1
theorem un_s (u k : Nat) : un u (k + 1) = if u.testBit k = true then un u k else un u k + 1 := rfl
theorem un_le (u : Nat) : ∀ n, un u n ≤ n := by
  intro n
  induction n with
  | zero => exact Nat.le_refl _
  | succ n ih => rw [un_s]; split <;> omega
theorem un_0 {u : Nat} : ∀ n, un u n = 0 → ∀ k, k < n → u.testBit k = true := by
  intro n
  induction n with
  | zero => intro _ k hk; omega
  | succ n ih =>
    intro e k hk
    rw [un_s] at e
    by_cases c : u.testBit n = true
    · rw [if_pos c] at e
      by_cases q : k = n
      · subst q; exact c
      · exact ih e k (by omega)
    · rw [if_neg c] at e; omega
theorem un_or {u k : Nat} (hk : ¬ u.testBit k = true) : ∀ n, (if k < n then un (u ||| 2 ^ k) n + 1 = un u n else un (u ||| 2 ^ k) n = un u n) := by
  intro n
  induction n with
  | zero => rw [if_neg (by omega)]; rfl
  | succ n ih =>
    rw [un_s, un_s, Nat.testBit_or, tb_p2]
    by_cases q : k = n
    · subst q
      rw [if_neg (by omega)] at ih
      have hk' : u.testBit k = false := by simpa using hk
      rw [if_pos (by omega), hk', ih]
      simp
    · have e : (u.testBit n || decide (k = n)) = u.testBit n := by simp [q]
      rw [e]
      by_cases y : k < n
      · rw [if_pos y] at ih
        rw [if_pos (by omega)]
        split <;> omega
      · rw [if_neg y] at ih
        rw [if_neg (by omega)]
        split <;> omega
section ORC
variable {so sg : Nat} {h g : Nat → Nat}
theorem Dm_next : ∀ m u, un u sg ≤ m → Dm so sg h g (m + 1) u = Dm so sg h g m u := by
  intro m
  induction m with
  | zero =>
    intro u hu
    have hall := un_0 sg (Nat.le_zero.mp hu)
    rw [Dm_s, gw_no (P := Pm so sg h g 0 u) (fun k hk => if_pos (hall k hk))]
    rfl
  | succ m ih =>
    intro u hu
    rw [Dm_s, Dm_s]
    have e : gw (Pm so sg h g (m + 1) u) sg = gw (Pm so sg h g m u) sg := by
      refine gw_congr fun k hk => ?_
      unfold Pm
      by_cases c : u.testBit k = true
      · rw [if_pos c, if_pos c]
      · rw [if_neg c, if_neg c, ih]
        have := un_or c sg
        rw [if_pos hk] at this
        omega
    rw [e]
theorem Dm_more {m u : Nat} (hu : un u sg ≤ m) : ∀ j, Dm so sg h g (m + j) u = Dm so sg h g m u := by
  intro j
  induction j with
  | zero => rfl
  | succ j ih => rw [← Nat.add_assoc, Dm_next (m + j) u (by omega), ih]
theorem Pm_more {m u k : Nat} (hk : k < sg) (hu : un u sg ≤ m + 1) (hm : m ≤ 5) : Pm so sg h g 5 u k = Pm so sg h g m u k := by
  unfold Pm
  by_cases c : u.testBit k = true
  · rw [if_pos c, if_pos c]
  · rw [if_neg c, if_neg c]
    have := un_or c sg
    rw [if_pos hk] at this
    have e := Dm_more (so := so) (sg := sg) (h := h) (g := g) (m := m) (u := u ||| 2 ^ k) (by omega) (5 - m)
    rwa [show m + (5 - m) = 5 by omega] at e
theorem D5_s (hg : sg ≤ 5) (u : Nat) : Dm so sg h g 5 u = if WT so sg h u = 0 then some 0 else (gw (Pm so sg h g 5 u) sg).map fun p => p.1 + Cu so sg h g u := by
  have hu := un_le u sg
  rw [Dm_s, gw_congr (P := Pm so sg h g 5 u) (Q := Pm so sg h g 4 u) (fun k hk => Pm_more hk (by omega) (by decide))]
theorem Cu_le (ho : so ≤ 6) (hb : ∀ s, s < so → g s ≤ 180) (u : Nat) : Cu so sg h g u ≤ 1080 := by
  have := wt_le (g := g) (WT so sg h u) so hb
  show wt g (WT so sg h u) so ≤ 1080
  omega
theorem Dm_bd (ho : so ≤ 6) (hb : ∀ s, s < so → g s ≤ 180) : ∀ m u z, Dm so sg h g m u = some z → z ≤ 1080 * m := by
  intro m
  induction m with
  | zero =>
    intro u z hz
    have hz : (if WT so sg h u = 0 then some 0 else none) = some z := hz
    split at hz <;> cases hz
    exact Nat.le_refl _
  | succ m ih =>
    intro u z hz
    rw [Dm_s] at hz
    split at hz
    · cases hz; exact Nat.zero_le _
    · obtain ⟨p, hp, rfl⟩ := Option.map_eq_some_iff.mp hz
      rcases gw_sp (P := Pm so sg h g m u) sg with ⟨a, _⟩ | ⟨p2, a, b, c, _, _⟩
      · rw [a] at hp; cases hp
      · rw [a] at hp
        have hp := Option.some.inj hp
        subst hp
        have h1 := ih _ _ (Pm_some so sg h g c).2
        have h2 := Cu_le (sg := sg) (h := h) ho hb u
        omega
theorem gw_map (P : Nat → Option Nat) (k : Nat) : (gw P (k + 1)).map (fun p => p.1) = opm ((gw P k).map (fun p => p.1)) (P k) := by
  cases hp : P k with
  | none => rw [gw_none hp]; rfl
  | some c =>
    cases hf : gw P k with
    | none => rw [gw_first hp hf]; rfl
    | some p =>
      rw [gw_more hp hf]
      show _ = if c < p.1 then some c else some p.1
      split <;> rfl
theorem orp_lt {u k : Nat} (hu : u < 2 ^ sg) (hk : k < sg) : u ||| 2 ^ k < 2 ^ sg := Nat.or_lt_two_pow hu (Nat.pow_lt_pow_right (by decide) hk)
theorem p2g {sg : Nat} (hg : sg ≤ 5) : 2 ^ sg ≤ 32 := Nat.pow_le_pow_right (n := 2) (by decide) hg
theorem gw_bd (ho : so ≤ 6) (hb : ∀ s, s < so → g s ≤ 180) (u k : Nat) : ∀ p, gw (Pm so sg h g 5 u) k = some p → p.1 ≤ 5400 ∧ p.2 < k ∧ Pm so sg h g 5 u p.2 = some p.1 := by
  intro p hp
  rcases gw_sp (P := Pm so sg h g 5 u) k with ⟨a, _⟩ | ⟨p2, a, b, c, _, _⟩
  · rw [a] at hp; cases hp
  · rw [a] at hp
    have hp := Option.some.inj hp
    subst hp
    exact ⟨Dm_bd ho hb 5 _ _ (Pm_some so sg h g c).2, b, c⟩
theorem fewestFrom_eq {u : Nat} {si : tSI} {sa : tSA} (C : CXS so sg h g si sa) (hu : u < 2 ^ sg) (hA : ∀ s, u < s → s < 2 ^ sg → sa 13 s = enc (Dm so sg h g 5 s)) :
    F_X1_fewestFrom_r2 (nI u) (nI (WT so sg h u)) si sa = some (enc ((gw (Pm so sg h g 5 u) sg).map fun p => p.1 + Cu so sg h g u)) := by
  have C0 := C
  obtain ⟨ho, hg, x2, x3, hh, hkk, hww, hb⟩ := C
  have hp := p2g hg
  have h64 : u < 64 := by omega
  have L : lp (S_X1_fewestFrom_r2_7 si (nI u) sa) 100 (0, -9) = some (enc ((gw (Pm so sg h g 5 u) sg).map fun p => p.1)) := by
    refine lp_seq sg (fun k => (nI k, enc ((gw (Pm so sg h g 5 u) k).map fun p => p.1))) ?_ ?_ 100 (by omega)
    · intro k hk rec
      unfold S_X1_fewestFrom_r2_7
      dsimp only
      have ol := orp_lt (sg := sg) hu hk
      rw [x3, if_neg (nI_nle' hk (by omega)), holds_eq u h64 k (by omega), shl_eq k (by omega), or_eq u h64 _ (p2_lt (by omega))]
      simp only [ld_nI (show u ||| 2 ^ k < 32 by omega) (show 32 < 2 ^ 31 by decide), nI_c (show u ||| 2 ^ k < 2 ^ 31 by omega)]
      by_cases c : u.testBit k = true
      · have pn : Pm so sg h g 5 u k = none := if_pos c
        rw [if_pos c, gw_none pn]
        simp only [Option.bind_some, if_neg ne10, nI_1]
      · have ps : Pm so sg h g 5 u k = Dm so sg h g 5 (u ||| 2 ^ k) := if_neg c
        have gt : u < u ||| 2 ^ k := by
          rcases Nat.lt_or_ge u (u ||| 2 ^ k) with z | z
          · exact z
          · exfalso
            have le := Nat.left_le_or (n := u) (m := 2 ^ k)
            have e : u ||| 2 ^ k = u := Nat.le_antisymm z le
            have : (u ||| 2 ^ k).testBit k = true := by rw [Nat.testBit_or, tb_p2]; simp
            rw [e] at this
            exact c this
        rw [if_neg c, hA _ gt ol, ← ps]
        simp only [Option.bind_some, if_true]
        rw [fewer_eq, gw_map]
        · simp only [Option.bind_some, nI_1]
        · intro z hz
          obtain ⟨p, hp, rfl⟩ := Option.map_eq_some_iff.mp hz
          have := (gw_bd ho hb u k p hp).1
          omega
        · intro z hz
          rw [ps] at hz
          have := Dm_bd ho hb 5 _ z hz
          omega
    · intro rec
      unfold S_X1_fewestFrom_r2_7
      dsimp only
      rw [x3, if_pos (nI_le (Nat.le_refl sg) (by omega))]
  unfold F_X1_fewestFrom_r2
  rw [L]
  simp only [Option.bind_some]
  cases hf : gw (Pm so sg h g 5 u) sg with
  | none => rfl
  | some p =>
    have := (gw_bd ho hb u sg p hf).1
    show (if enc (some p.1) = -9 then _ else _) = some (enc (some (p.1 + Cu so sg h g u)))
    rw [if_neg (enc_ne (by omega)), C0.secs (WTr_lt so sg h u so ho)]
    show some (nI p.1 + nI (wt g (WT so sg h u) so)) = some (nI (p.1 + wt g (WT so sg h u) so))
    rw [nI_add]
theorem weigh_eq {si : tSI} {sa : tSA} (C : CXS so sg h g si sa) : F_X1_weighOrders_r2 si sa = some (si, va_up sa 13 (fun s => if s < 2 ^ sg then enc (Dm so sg h g 5 s) else sa 13 s)) := by
  have C0 := C
  obtain ⟨ho, hg, x2, x3, hh, hkk, hww, hb⟩ := C
  have hp := p2g hg
  have hp0 : 0 < 2 ^ sg := Nat.pow_pos (by decide)
  let v : Nat → Int32 := fun i => if i < 2 ^ sg then nI (2 ^ sg - 1 - i) else -1
  let A : Nat → Nat → Int32 := fun i s => if 2 ^ sg - i ≤ s ∧ s < 2 ^ sg then enc (Dm so sg h g 5 s) else sa 13 s
  have L : lp S_X1_weighOrders_r2_9 100 (v 0, si, va_up sa 13 (A 0)) = some (si, va_up sa 13 (A (2 ^ sg))) := by
    refine lp_seq (2 ^ sg) (fun i => (v i, si, va_up sa 13 (A i))) ?_ ?_ 100 (by omega)
    · intro i hi rec
      have vi : v i = nI (2 ^ sg - 1 - i) := if_pos hi
      have vs : nI (2 ^ sg - 1 - i) + -1 = v (i + 1) := by
        show _ = if i + 1 < 2 ^ sg then nI (2 ^ sg - 1 - (i + 1)) else -1
        by_cases z : i + 1 < 2 ^ sg
        · rw [if_pos z, show 2 ^ sg - 1 - i = 2 ^ sg - 1 - (i + 1) + 1 by omega, pk_m1]
        · rw [if_neg z, show 2 ^ sg - 1 - i = 0 by omega]; rfl
      unfold S_X1_weighOrders_r2_9
      dsimp only
      rw [vi]
      have hu : 2 ^ sg - 1 - i < 2 ^ sg := by omega
      generalize hue : 2 ^ sg - 1 - i = u at hu vs ⊢
      have as : upd (A i) u (enc (Dm so sg h g 5 u)) = A (i + 1) := by
        funext q
        show upd (A i) u _ q = if 2 ^ sg - (i + 1) ≤ q ∧ q < 2 ^ sg then enc (Dm so sg h g 5 q) else sa 13 q
        by_cases e : q = u
        · subst e; rw [upd_eq, if_pos (by omega)]
        · rw [upd_ne _ _ e]
          show (if 2 ^ sg - i ≤ q ∧ q < 2 ^ sg then _ else sa 13 q) = _
          by_cases z : 2 ^ sg - i ≤ q ∧ q < 2 ^ sg
          · rw [if_pos z, if_pos (by omega)]
          · rw [if_neg z, if_neg (by omega)]
      have wq := waiting_eq (si := si) (sa := va_up sa 13 (A i)) (so := so) (sg := sg) (u := u) (h := h) x2 ho x3 hg hh (by omega)
      rw [if_neg (nI_pos (show u < 2 ^ 31 by omega)), wq]
      simp only [Option.bind_some]
      have z0 : nI (WTr so sg h u so) = 0 ↔ WT so sg h u = 0 := nI_i64 _ (WTr_lt so sg h u so ho) 0 (by decide)
      by_cases c : WT so sg h u = 0
      · have d0 : enc (Dm so sg h g 5 u) = 0 := by rw [D5_s hg, if_pos c]; rfl
        rw [if_pos (z0.mpr c), ld_nI (show u < 32 by omega) (by decide), nI_c (show u < 2 ^ 31 by omega), up_eq, up_up, vs, ← d0, as]
      · rw [if_neg (fun z => c (z0.mp z)), fewestFrom_eq (so := so) (sg := sg) (h := h) (g := g) (si := si) (sa := va_up sa 13 (A i)) C0 hu (fun s hs1 hs2 => if_pos (by omega))]
        have d0 : enc ((gw (Pm so sg h g 5 u) sg).map fun p => p.1 + Cu so sg h g u) = enc (Dm so sg h g 5 u) := by rw [D5_s hg, if_neg c]
        simp only [Option.bind_some]
        rw [ld_nI (show u < 32 by omega) (by decide), nI_c (show u < 2 ^ 31 by omega), up_eq, up_up, vs, d0, as]
    · intro rec
      unfold S_X1_weighOrders_r2_9
      dsimp only
      have vN : v (2 ^ sg) = -1 := if_neg (by omega)
      rw [if_pos (show v (2 ^ sg) < 0 by rw [vN]; decide)]
  have e0 : va_up sa 13 (A 0) = sa := by
    have : A 0 = sa 13 := by funext s; show (if 2 ^ sg - 0 ≤ s ∧ s < 2 ^ sg then _ else sa 13 s) = _; rw [if_neg (by omega)]
    rw [this, up_self]
  have eN : A (2 ^ sg) = fun s => if s < 2 ^ sg then enc (Dm so sg h g 5 s) else sa 13 s := by
    funext s
    show (if 2 ^ sg - 2 ^ sg ≤ s ∧ s < 2 ^ sg then _ else sa 13 s) = _
    by_cases z : s < 2 ^ sg
    · rw [if_pos z, if_pos (by omega)]
    · rw [if_neg z, if_neg (by omega)]
  rw [e0, eN] at L
  have v0 : v 0 = (1 : Int32) <<< (si 3 &&& 31) - 1 := by
    show (if 0 < 2 ^ sg then nI (2 ^ sg - 1 - 0) else -1) = _
    rw [if_pos hp0, x3, p2_64 sg (by omega)]; rfl
  rw [v0] at L
  unfold F_X1_weighOrders_r2
  rw [L]
  rfl
/-- the sign that is taken next -/
def nx (so sg : Nat) (h g : Nat → Nat) (u : Nat) : Option Nat := if WT so sg h u = 0 then none else (gw (Pm so sg h g 5 u) sg).map fun p => p.2
theorem nx_lt (ho : so ≤ 6) (hb : ∀ s, s < so → g s ≤ 180) {u j : Nat} (e : nx so sg h g u = some j) : j < sg ∧ ¬ u.testBit j = true := by
  unfold nx at e
  split at e
  · cases e
  · obtain ⟨p, hp, rfl⟩ := Option.map_eq_some_iff.mp e
    obtain ⟨_, a, b⟩ := gw_bd ho hb u sg p hp
    exact ⟨a, (Pm_some so sg h g b).1⟩
theorem nextSign_eq {u : Nat} {si : tSI} {sa : tSA} (C : CXS so sg h g si sa) (hu : u < 2 ^ sg) (hA : ∀ s, s < 2 ^ sg → sa 13 s = enc (Dm so sg h g 5 s)) : F_X1_nextSign_r2 (nI u) si sa = some (enc (nx so sg h g u)) := by
  have C0 := C
  obtain ⟨ho, hg, x2, x3, hh, hkk, hww, hb⟩ := C
  have hp := p2g hg
  have h64 : u < 64 := by omega
  have z0 : nI (WTr so sg h u so) = 0 ↔ WT so sg h u = 0 := nI_i64 _ (WTr_lt so sg h u so ho) 0 (by decide)
  unfold F_X1_nextSign_r2
  rw [waiting_eq x2 ho x3 hg hh h64]
  simp only [Option.bind_some, ld_nI (show u < 32 by omega) (show 32 < 2 ^ 31 by decide), nI_c (show u < 2 ^ 31 by omega), hA u hu, C0.secs (WTr_lt so sg h u so ho)]
  have D := D5_s (so := so) (h := h) (g := g) hg u
  unfold nx
  by_cases c : WT so sg h u = 0
  · rw [if_pos c] at D
    rw [D, if_pos c, if_neg (enc_ne (by decide)), if_pos (z0.mpr c)]
    rfl
  · rw [if_neg c] at D
    rw [if_neg c]
    cases hf : gw (Pm so sg h g 5 u) sg with
    | none =>
      rw [hf] at D
      rw [D]
      rfl
    | some p =>
      obtain ⟨pb, p2, p3⟩ := gw_bd ho hb u sg p hf
      have cb := Cu_le (sg := sg) (h := h) ho hb u
      have cb2 : wt g (WTr so sg h u so) so ≤ 1080 := cb
      rw [hf] at D
      have D : Dm so sg h g 5 u = some (p.1 + wt g (WTr so sg h u so) so) := D
      rw [D, if_neg (enc_ne (by omega)), if_neg (fun z => c (z0.mp z))]
      have st : ∀ k, k < sg → ∀ rec : Int32 → Option (Int32 ⊕ Unit), S_X1_nextSign_r2_41 si (nI u) sa (nI (wt g (WTr so sg h u so) so)) rec (nI k) = (if Pm so sg h g 5 u k = some p.1 then some (.inl (nI k)) else rec (nI (k + 1))) := by
        intro k hk rec
        have ol := orp_lt (sg := sg) hu hk
        unfold S_X1_nextSign_r2_41
        rw [x3, if_neg (nI_nle' hk (by omega)), holds_eq u h64 k (by omega), shl_eq k (by omega), or_eq u h64 _ (p2_lt (by omega))]
        simp only [ld_nI (show u ||| 2 ^ k < 32 by omega) (show 32 < 2 ^ 31 by decide), nI_c (show u ||| 2 ^ k < 2 ^ 31 by omega), nI_c (show u < 2 ^ 31 by omega), hA _ ol, hA u hu, D, enc_some, subI (show wt g (WTr so sg h u so) so ≤ p.1 + wt g (WTr so sg h u so) so by omega), show p.1 + wt g (WTr so sg h u so) so - wt g (WTr so sg h u so) so = p.1 by omega, nI_1]
        by_cases q : u.testBit k = true
        · have pn : Pm so sg h g 5 u k = none := if_pos q
          rw [if_pos q, pn, if_neg (show ¬ (none : Option Nat) = some p.1 from fun z => by cases z)]
          simp only [Option.bind_some, if_neg ne10]
        · have ps : Pm so sg h g 5 u k = Dm so sg h g 5 (u ||| 2 ^ k) := if_neg q
          rw [if_neg q, ps]
          simp only [Option.bind_some, if_true]
          cases hd : Dm so sg h g 5 (u ||| 2 ^ k) with
          | none => rw [enc_none, if_neg (fun z => nI_ne9 (show p.1 < 2 ^ 31 by omega) z.symm), if_neg (fun z => by cases z)]
          | some c2 =>
            have := Dm_bd ho hb 5 _ _ hd
            rw [enc_some]
            by_cases e : c2 = p.1
            · subst e; rw [if_pos rfl, if_pos rfl]
            · rw [if_neg (fun z => e ((nI_eq (by omega) (by omega)).mp z)), if_neg (fun z => e (Option.some.inj z))]
      have L : lp (S_X1_nextSign_r2_41 si (nI u) sa (nI (wt g (WTr so sg h u so) so))) 100 0 = some (.inl (nI p.2)) := by
        rcases gw_sp (P := Pm so sg h g 5 u) sg with ⟨a, _⟩ | ⟨pp, a, b, cc, d, e⟩
        · rw [a] at hf; cases hf
        · rw [a] at hf
          have hf := Option.some.inj hf
          subst hf
          refine lp_seq pp.2 (fun k => nI k) ?_ ?_ 100 (by omega)
          · intro k hk rec; rw [st k (by omega), if_neg (e k hk)]
          · intro rec; rw [st pp.2 b, if_pos cc]
      rw [L]
      rfl
/-- the k-th sign of the order -/
def pth (so sg : Nat) (h g : Nat → Nat) : Nat → Nat → Option Nat
  | 0, u => nx so sg h g u
  | k + 1, u => match nx so sg h g u with
    | none => none
    | some j => pth so sg h g k (u ||| 2 ^ j)
theorem signOf_eq {k : Nat} {si : tSI} {sa : tSA} (C : CXS so sg h g si sa) (hk : k ≤ 5) (hA : ∀ s, s < 2 ^ sg → sa 13 s = enc (Dm so sg h g 5 s)) : F_X1_signOfOrder_r2 (nI k) si sa = some (enc (pth so sg h g k 0)) := by
  have C0 := C
  obtain ⟨ho, hg, x2, x3, hh, hkk, hww, hb⟩ := C
  have hp := p2g hg
  have key : ∀ rem at' u f, at' + rem = k → u < 2 ^ sg → rem < f → (lp (S_X1_signOfOrder_r2_5 (nI k) si sa) f (nI at', nI u)).bind (Sum.elim some fun e2 => (F_X1_nextSign_r2 e2 si sa).bind fun r3 => some r3) = some (enc (pth so sg h g rem u)) := by
    intro rem
    induction rem with
    | zero =>
      intro at' u f he hu hf
      obtain ⟨f, rfl⟩ : ∃ z, f = z + 1 := ⟨f - 1, by omega⟩
      show (S_X1_signOfOrder_r2_5 (nI k) si sa _ _).bind _ = _
      unfold S_X1_signOfOrder_r2_5
      dsimp only
      rw [if_pos (nI_le (show k ≤ at' by omega) (by omega))]
      show ((F_X1_nextSign_r2 (nI u) si sa).bind fun r3 => some r3) = _
      rw [nextSign_eq C0 hu hA]
      rfl
    | succ rem ih =>
      intro at' u f he hu hf
      obtain ⟨f, rfl⟩ : ∃ z, f = z + 1 := ⟨f - 1, by omega⟩
      show (S_X1_signOfOrder_r2_5 (nI k) si sa (lp (S_X1_signOfOrder_r2_5 (nI k) si sa) f) (nI at', nI u)).bind _ = _
      have e : S_X1_signOfOrder_r2_5 (nI k) si sa (lp (S_X1_signOfOrder_r2_5 (nI k) si sa) f) (nI at', nI u) = (match nx so sg h g u with | none => some (.inl (-9)) | some j => lp (S_X1_signOfOrder_r2_5 (nI k) si sa) f (nI (at' + 1), nI (u ||| 2 ^ j))) := by
        rw [S_X1_signOfOrder_r2_5]
        dsimp only
        rw [if_neg (nI_nle' (show at' < k by omega) (by omega)), nextSign_eq C0 hu hA]
        simp only [Option.bind_some]
        cases hn : nx so sg h g u with
        | none => rw [enc_none, if_pos rfl]
        | some j =>
          have hj := (nx_lt ho hb hn).1
          rw [if_neg (enc_ne (by omega)), enc_some, shl_eq j (by omega), or_eq u (by omega) _ (p2_lt (by omega)), nI_1]
      rw [e]
      cases hn : nx so sg h g u with
      | none =>
        have : pth so sg h g (rem + 1) u = none := by show (match nx so sg h g u with | none => none | some j => pth so sg h g rem (u ||| 2 ^ j)) = none; rw [hn]
        rw [this]
        rfl
      | some j =>
        have : pth so sg h g (rem + 1) u = pth so sg h g rem (u ||| 2 ^ j) := by show (match nx so sg h g u with | none => none | some j => pth so sg h g rem (u ||| 2 ^ j)) = _; rw [hn]
        rw [this]
        exact ih (at' + 1) (u ||| 2 ^ j) f (by omega) (orp_lt hu (nx_lt ho hb hn).1) (by omega)
  unfold F_X1_signOfOrder_r2
  exact key k 0 0 100 (by omega) (Nat.pow_pos (by decide)) (by omega)
end ORC
