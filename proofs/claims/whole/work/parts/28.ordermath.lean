/-- the first of the least -/
def gw (P : Nat → Option Nat) : Nat → Option (Nat × Nat)
  | 0 => none
  | k + 1 => match P k with
    | none => gw P k
    | some c => match gw P k with
      | none => some (c, k)
      | some p => if c < p.1 then some (c, k) else some p
theorem gw_none {P : Nat → Option Nat} {k : Nat} (e : P k = none) : gw P (k + 1) = gw P k := by
  show (match P k with | none => _ | some c => _) = _
  rw [e]
theorem gw_first {P : Nat → Option Nat} {k c : Nat} (e : P k = some c) (e2 : gw P k = none) : gw P (k + 1) = some (c, k) := by
  show (match P k with | none => _ | some c => _) = _
  rw [e]
  show (match gw P k with | none => _ | some p => _) = _
  rw [e2]
theorem gw_more {P : Nat → Option Nat} {k c : Nat} {p : Nat × Nat} (e : P k = some c) (e2 : gw P k = some p) : gw P (k + 1) = if c < p.1 then some (c, k) else some p := by
  show (match P k with | none => _ | some c => _) = _
  rw [e]
  show (match gw P k with | none => _ | some p => _) = _
  rw [e2]
/-- what gw says -/
theorem gw_sp {P : Nat → Option Nat} : ∀ n, (gw P n = none ∧ ∀ i, i < n → P i = none) ∨ (∃ p, gw P n = some p ∧ p.2 < n ∧ P p.2 = some p.1 ∧ (∀ i, i < n → ∀ c, P i = some c → p.1 ≤ c) ∧ ∀ i, i < p.2 → ¬ P i = some p.1) := by
  intro n
  induction n with
  | zero => exact Or.inl ⟨rfl, fun i hi => absurd hi (by omega)⟩
  | succ n ih =>
    cases hp : P n with
    | none =>
      rw [gw_none hp]
      rcases ih with ⟨a, b⟩ | ⟨p, a, b, c, d, e⟩
      · refine Or.inl ⟨a, fun i hi => ?_⟩
        by_cases q : i = n
        · subst q; exact hp
        · exact b i (by omega)
      · refine Or.inr ⟨p, a, by omega, c, fun i hi z hz => ?_, e⟩
        by_cases q : i = n
        · subst q; rw [hp] at hz; cases hz
        · exact d i (by omega) z hz
    | some c0 =>
      right
      rcases ih with ⟨a, b⟩ | ⟨p, a, b, c, d, e⟩
      · refine ⟨(c0, n), gw_first hp a, by show n < n + 1; omega, hp, fun i hi z hz => ?_, fun i hi hz => ?_⟩
        · by_cases q : i = n
          · subst q; rw [hp] at hz; cases hz; exact Nat.le_refl _
          · rw [b i (by omega)] at hz; cases hz
        · rw [b i hi] at hz; cases hz
      · rw [gw_more hp a]
        by_cases q : c0 < p.1
        · refine ⟨(c0, n), by rw [if_pos q], by show n < n + 1; omega, hp, fun i hi z hz => ?_, fun i hi hz => ?_⟩
          · by_cases y : i = n
            · subst y; rw [hp] at hz; cases hz; exact Nat.le_refl _
            · have := d i (by omega) z hz
              show c0 ≤ z; omega
          · have := d i hi _ hz
            have this : p.1 ≤ c0 := this
            omega
        · refine ⟨p, by rw [if_neg q], by omega, c, fun i hi z hz => ?_, e⟩
          by_cases y : i = n
          · subst y; rw [hp] at hz; cases hz; omega
          · exact d i (by omega) z hz
theorem gw_no {P : Nat → Option Nat} {n : Nat} (h : ∀ i, i < n → P i = none) : gw P n = none := by
  rcases gw_sp (P := P) n with ⟨a, _⟩ | ⟨p, _, b, c, _, _⟩
  · exact a
  · rw [h _ b] at c; cases c
theorem gw_is {P : Nat → Option Nat} {n c j : Nat} (h1 : j < n) (h2 : P j = some c) (h3 : ∀ i, i < n → ∀ z, P i = some z → c ≤ z) (h4 : ∀ i, i < j → ¬ P i = some c) : gw P n = some (c, j) := by
  rcases gw_sp (P := P) n with ⟨_, b⟩ | ⟨p, a, b, cc, d, e⟩
  · rw [b j h1] at h2; cases h2
  · have q1 := d j h1 c h2
    have q2 := h3 p.2 b p.1 cc
    have q3 : p.1 = c := by omega
    have q4 : p.2 = j := by
      rcases Nat.lt_trichotomy p.2 j with z | z | z
      · exact absurd (q3 ▸ cc) (h4 p.2 z)
      · exact z
      · exact absurd (q3 ▸ h2) (e j z)
    rw [a]
    congr 1
    exact Prod.ext q3 q4
theorem gw_congr {P Q : Nat → Option Nat} {n : Nat} (h : ∀ i, i < n → P i = Q i) : gw P n = gw Q n := by
  induction n with
  | zero => rfl
  | succ n ih =>
    have e := ih (fun i hi => h i (by omega))
    show (match P n with | none => gw P n | some c => match gw P n with | none => some (c, n) | some p => if c < p.1 then some (c, n) else some p) = (match Q n with | none => gw Q n | some c => match gw Q n with | none => some (c, n) | some p => if c < p.1 then some (c, n) else some p)
    rw [h n (by omega), e]
section ORD
variable (so sg : Nat) (h g : Nat → Nat)
abbrev Cu (u : Nat) : Nat := wt g (WT so sg h u) so
/-- the fewest seconds that are still to come, with m passes at most -/
def Dm : Nat → Nat → Option Nat
  | 0, u => if WT so sg h u = 0 then some 0 else none
  | m + 1, u => if WT so sg h u = 0 then some 0 else (gw (fun k => if u.testBit k = true then none else Dm m (u ||| 2 ^ k)) sg).map fun p => p.1 + Cu so sg h g u
def Pm (m u k : Nat) : Option Nat := if u.testBit k = true then none else Dm so sg h g m (u ||| 2 ^ k)
theorem Dm_s (m u : Nat) : Dm so sg h g (m + 1) u = if WT so sg h u = 0 then some 0 else (gw (Pm so sg h g m u) sg).map fun p => p.1 + Cu so sg h g u := rfl
/-- the row of that order, as a number -/
def rw5 : Nat → Nat → Nat
  | 0, _ => 0
  | m + 1, u => if WT so sg h u = 0 then 0 else match gw (Pm so sg h g m u) sg with
    | none => 0
    | some p => (p.2 + 1) * 6 ^ m + rw5 m (u ||| 2 ^ p.2)
/-- what a row comes to -/
def Vr : Nat → Nat → Nat → Option Nat
  | 0, _, u => if WT so sg h u = 0 then some 0 else none
  | m + 1, r, u => if r / 6 ^ m = 0 then (if r % 6 ^ m = 0 then (if WT so sg h u = 0 then some 0 else none) else none) else if r / 6 ^ m - 1 < sg ∧ ¬ u.testBit (r / 6 ^ m - 1) = true then (Vr m (r % 6 ^ m) (u ||| 2 ^ (r / 6 ^ m - 1))).map fun c => c + Cu so sg h g u else none
theorem Vr_s (m r u : Nat) : Vr so sg h g (m + 1) r u = if r / 6 ^ m = 0 then (if r % 6 ^ m = 0 then (if WT so sg h u = 0 then some 0 else none) else none) else if r / 6 ^ m - 1 < sg ∧ ¬ u.testBit (r / 6 ^ m - 1) = true then (Vr so sg h g m (r % 6 ^ m) (u ||| 2 ^ (r / 6 ^ m - 1))).map fun c => c + Cu so sg h g u else none := rfl
theorem rw5_s (m u : Nat) : rw5 so sg h g (m + 1) u = if WT so sg h u = 0 then 0 else match gw (Pm so sg h g m u) sg with
    | none => 0
    | some p => (p.2 + 1) * 6 ^ m + rw5 so sg h g m (u ||| 2 ^ p.2) := rfl
theorem p6 (m : Nat) : 0 < 6 ^ m := Nat.pow_pos (by decide)
theorem rw5_lt (hg : sg ≤ 5) : ∀ m u, rw5 so sg h g m u < 6 ^ m := by
  intro m
  induction m with
  | zero => intro u; show 0 < 6 ^ 0; decide
  | succ m ih =>
    intro u
    rw [rw5_s, Nat.pow_succ]
    have hp := p6 m
    split
    · omega
    · rcases gw_sp (P := Pm so sg h g m u) sg with ⟨a, _⟩ | ⟨p, a, b, _, _, _⟩
      · rw [a]; show 0 < _; omega
      · rw [a]
        show (p.2 + 1) * 6 ^ m + rw5 so sg h g m (u ||| 2 ^ p.2) < 6 ^ m * 6
        have h1 := ih (u ||| 2 ^ p.2)
        have h2 : (p.2 + 1) * 6 ^ m ≤ 5 * 6 ^ m := Nat.mul_le_mul_right _ (by omega)
        omega
theorem Pm_some {m u k c : Nat} (e : Pm so sg h g m u k = some c) : ¬ u.testBit k = true ∧ Dm so sg h g m (u ||| 2 ^ k) = some c := by
  unfold Pm at e
  by_cases q : u.testBit k = true
  · rw [if_pos q] at e; cases e
  · rw [if_neg q] at e; exact ⟨q, e⟩
/-- trial of all rows: the first of the best is what the tables tell -/
theorem trial (hg : sg ≤ 5) : ∀ m u, gw (fun r => Vr so sg h g m r u) (6 ^ m) = (Dm so sg h g m u).map fun c => (c, rw5 so sg h g m u) := by
  intro m
  induction m with
  | zero =>
    intro u
    show gw (fun r => Vr so sg h g 0 r u) 1 = (if WT so sg h u = 0 then some 0 else none).map _
    by_cases c : WT so sg h u = 0
    · rw [if_pos c]
      show gw (fun r => Vr so sg h g 0 r u) 1 = some (0, 0)
      exact gw_is (by decide) (if_pos c) (fun _ _ _ _ => Nat.zero_le _) (fun i hi => absurd hi (by omega))
    · rw [if_neg c]
      exact gw_no (fun i hi => if_neg c)
  | succ m ih =>
    intro u
    have hp := p6 m
    have h66 : 6 ^ (m + 1) = 6 ^ m * 6 := Nat.pow_succ ..
    rw [Dm_s]
    by_cases c : WT so sg h u = 0
    · rw [if_pos c]
      have er : rw5 so sg h g (m + 1) u = 0 := by rw [rw5_s, if_pos c]
      show _ = some (0, rw5 so sg h g (m + 1) u)
      rw [er]
      refine gw_is (p6 _) ?_ (fun _ _ _ _ => Nat.zero_le _) (fun i hi => absurd hi (by omega))
      show Vr so sg h g (m + 1) 0 u = some 0
      rw [Vr_s, Nat.zero_div, if_pos rfl, Nat.zero_mod, if_pos rfl, if_pos c]
    · rw [if_neg c]
      -- a row's value comes from its first sign
      have sp : ∀ r, r < 6 ^ (m + 1) → ∀ z, Vr so sg h g (m + 1) r u = some z → ∃ k c', k < sg ∧ r / 6 ^ m = k + 1 ∧ ¬ u.testBit k = true ∧ Vr so sg h g m (r % 6 ^ m) (u ||| 2 ^ k) = some c' ∧ z = c' + Cu so sg h g u := by
        intro r hr z hz
        rw [Vr_s] at hz
        by_cases d0 : r / 6 ^ m = 0
        · rw [if_pos d0, if_neg c] at hz
          split at hz <;> cases hz
        · rw [if_neg d0] at hz
          by_cases d1 : r / 6 ^ m - 1 < sg ∧ ¬ u.testBit (r / 6 ^ m - 1) = true
          · rw [if_pos d1] at hz
            obtain ⟨c', h1, h2⟩ := Option.map_eq_some_iff.mp hz
            exact ⟨r / 6 ^ m - 1, c', d1.1, (Nat.sub_add_cancel (Nat.pos_of_ne_zero d0)).symm, d1.2, h1, h2.symm⟩
          · rw [if_neg d1] at hz; cases hz
      -- and its sign's own best bounds it
      have low : ∀ k r c', ¬ u.testBit k = true → r < 6 ^ m → Vr so sg h g m r (u ||| 2 ^ k) = some c' → ∃ z, Pm so sg h g m u k = some z ∧ z ≤ c' ∧ (z = c' → rw5 so sg h g m (u ||| 2 ^ k) ≤ r) := by
        intro k r c' hk hr hv
        have I := ih (u ||| 2 ^ k)
        rcases gw_sp (P := fun r => Vr so sg h g m r (u ||| 2 ^ k)) (6 ^ m) with ⟨a, b⟩ | ⟨p, a, b, cc, d, e⟩
        · have := b r hr
          have this : Vr so sg h g m r (u ||| 2 ^ k) = none := this
          rw [hv] at this; cases this
        · rw [a] at I
          obtain ⟨z, h1, h2⟩ := Option.map_eq_some_iff.mp I.symm
          have e1 : z = p.1 := congrArg Prod.fst h2
          have e2 : rw5 so sg h g m (u ||| 2 ^ k) = p.2 := congrArg Prod.snd h2
          refine ⟨z, ?_, by rw [e1]; exact d r hr c' hv, fun q => ?_⟩
          · unfold Pm; rw [if_neg hk]; exact h1
          · rw [e2]
            rcases Nat.lt_or_ge r p.2 with y | y
            · exact absurd (show Vr so sg h g m r (u ||| 2 ^ k) = some p.1 by rw [hv, ← e1, q]) (e r y)
            · exact y
      rcases gw_sp (P := Pm so sg h g m u) sg with ⟨a, b⟩ | ⟨p, a, b, cc, d, e⟩
      · rw [a]
        refine gw_no (fun r hr => ?_)
        show Vr so sg h g (m + 1) r u = none
        cases hv : Vr so sg h g (m + 1) r u with
        | none => rfl
        | some z =>
          obtain ⟨k, c', h1, h2, h3, h4, h5⟩ := sp r hr z hv
          obtain ⟨z', q1, _, _⟩ := low k _ c' h3 (Nat.mod_lt _ hp) h4
          rw [b k h1] at q1; cases q1
      · obtain ⟨hk, hD⟩ := Pm_some so sg h g cc
        have er : rw5 so sg h g (m + 1) u = (p.2 + 1) * 6 ^ m + rw5 so sg h g m (u ||| 2 ^ p.2) := by rw [rw5_s, if_neg c, a]
        have hrl := rw5_lt so sg h g hg m (u ||| 2 ^ p.2)
        have hdiv : ((p.2 + 1) * 6 ^ m + rw5 so sg h g m (u ||| 2 ^ p.2)) / 6 ^ m = p.2 + 1 := by
          rw [Nat.add_comm, Nat.add_mul_div_right _ _ hp, Nat.div_eq_of_lt hrl, Nat.zero_add]
        have hmod : ((p.2 + 1) * 6 ^ m + rw5 so sg h g m (u ||| 2 ^ p.2)) % 6 ^ m = rw5 so sg h g m (u ||| 2 ^ p.2) := by
          rw [Nat.add_comm, Nat.add_mul_mod_self_right, Nat.mod_eq_of_lt hrl]
        rw [a]
        show _ = some (p.1 + Cu so sg h g u, rw5 so sg h g (m + 1) u)
        rw [er]
        have I := ih (u ||| 2 ^ p.2)
        rw [hD] at I
        have I : gw (fun r => Vr so sg h g m r (u ||| 2 ^ p.2)) (6 ^ m) = some (p.1, rw5 so sg h g m (u ||| 2 ^ p.2)) := I
        rcases gw_sp (P := fun r => Vr so sg h g m r (u ||| 2 ^ p.2)) (6 ^ m) with ⟨a2, _⟩ | ⟨p2, a2, b2, c2, d2, e2⟩
        · rw [a2] at I; cases I
        · rw [a2] at I
          have I := Option.some.inj I
          subst I
          have c2 : Vr so sg h g m (rw5 so sg h g m (u ||| 2 ^ p.2)) (u ||| 2 ^ p.2) = some p.1 := c2
          refine gw_is ?_ ?_ ?_ ?_
          · have h2 : (p.2 + 1) * 6 ^ m ≤ 5 * 6 ^ m := Nat.mul_le_mul_right _ (by omega)
            omega
          · show Vr so sg h g (m + 1) _ u = _
            rw [Vr_s, hdiv, hmod, if_neg (by omega), show p.2 + 1 - 1 = p.2 by omega, if_pos ⟨b, hk⟩, c2]
            rfl
          · intro r hr z hz
            obtain ⟨k, c', h1, h2, h3, h4, h5⟩ := sp r hr z hz
            obtain ⟨z', q1, q2, _⟩ := low k _ c' h3 (Nat.mod_lt _ hp) h4
            have := d k h1 z' q1
            omega
          · intro r hr hz
            have hr2 : r < 6 ^ (m + 1) := by
              have h2 : (p.2 + 1) * 6 ^ m ≤ 5 * 6 ^ m := Nat.mul_le_mul_right _ (by omega)
              omega
            obtain ⟨k, c', h1, h2, h3, h4, h5⟩ := sp r hr2 _ hz
            obtain ⟨z', q1, q2, q3⟩ := low k _ c' h3 (Nat.mod_lt _ hp) h4
            have q4 := d k h1 z' q1
            have q5 : z' = p.1 := by omega
            have hdm := Nat.div_add_mod r (6 ^ m)
            rw [h2] at hdm
            rcases Nat.lt_trichotomy k p.2 with y | y | y
            · exact e k y (by rw [q1, q5])
            · subst y
              have := q3 (by omega)
              rw [Nat.mul_comm] at hdm
              omega
            · have h6 : 6 ^ m * (p.2 + 2) ≤ 6 ^ m * (k + 1) := Nat.mul_le_mul_left _ (by omega)
              have h7 : 6 ^ m * (p.2 + 2) = (p.2 + 1) * 6 ^ m + 6 ^ m := by rw [Nat.mul_comm, show p.2 + 2 = (p.2 + 1) + 1 by omega, Nat.succ_mul]
              omega
end ORD
