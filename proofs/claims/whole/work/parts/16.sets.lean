-- sets as numbers below 64
theorem holds_eq : ∀ v, v < 64 → ∀ k, k < 8 → F_X5_holds (nI v) (nI k) = some (if v.testBit k then 1 else 0) := by decide +kernel
theorem isIn_eq : ∀ v, v < 64 → ∀ k, k < 8 → F_X6_isIn (nI v) (nI k) = some (if v.testBit k then 1 else 0) := by decide +kernel
theorem and_eq : ∀ a, a < 64 → ∀ b, b < 64 → nI a &&& nI b = nI (a &&& b) := by decide +kernel
theorem or_eq : ∀ a, a < 64 → ∀ b, b < 64 → nI a ||| nI b = nI (a ||| b) := by decide +kernel
theorem andn_eq : ∀ a, a < 64 → ∀ b, b < 64 → nI a &&& (nI b ^^^ -1) = nI (a &&& (63 ^^^ b)) := by decide +kernel
theorem shl_eq : ∀ k, k < 8 → (1 : Int32) <<< (nI k &&& 31) = nI (2 ^ k) := by decide
theorem first_of (p : Nat → Prop) (n : Nat) : (∃ k, k < n ∧ (∀ i, i < k → p i) ∧ ¬ p k) ∨ (∀ i, i < n → p i) := by
  induction n with
  | zero => exact Or.inr (fun i h => absurd h (by omega))
  | succ n ih =>
    rcases ih with ⟨k, h1, h2, h3⟩ | h
    · exact Or.inl ⟨k, by omega, h2, h3⟩
    · by_cases c : p n
      · refine Or.inr (fun i hi => ?_)
        by_cases e : i = n
        · subst e; exact c
        · exact h i (by omega)
      · exact Or.inl ⟨n, by omega, h, c⟩
/-- the sum of what a set's members weigh -/
def wI (g : Nat → Int32) (v : Nat) : Nat → Int32
  | 0 => 0
  | n + 1 => if v.testBit n then wI g v n + g n else wI g v n
theorem wI_congr {g g' : Nat → Int32} {v : Nat} : ∀ {n : Nat}, (∀ s, s < n → g s = g' s) → wI g v n = wI g' v n := by
  intro n
  induction n with
  | zero => intro _; rfl
  | succ n ih => intro h; unfold wI; rw [ih (fun s hs => h s (by omega)), h n (by omega)]
def wt (g : Nat → Nat) (v : Nat) : Nat → Nat
  | 0 => 0
  | n + 1 => if v.testBit n then wt g v n + g n else wt g v n
theorem wI_wt (g : Nat → Nat) (v n : Nat) : wI (fun s => nI (g s)) v n = nI (wt g v n) := by
  induction n with
  | zero => rfl
  | succ n ih => unfold wI wt; rw [ih]; split <;> simp only [nI_add]
abbrev wgt (c k x : Nat → Int32) : Nat → Int32 := fun s => c s * lk (k s) (x s)
theorem secondsFor_eq {si : tSI} {sa : tSA} {so v : Nat} (x2 : si 2 = nI so) (ho : so ≤ 6) (hv : v < 64) (hk : ∀ s, s < so → ∃ k, k ≤ 2 ∧ sa 4 s = nI k) : F_X0_secondsFor (nI v) si sa = some (wI (wgt (sa 5) (sa 4) (sa 6)) v so) := by
  have L : lp (S_X0_secondsFor_4 si (nI v) sa) 100 (0, 0) = some (wI (wgt (sa 5) (sa 4) (sa 6)) v so) := by
    refine lp_seq so (fun i => (nI i, wI (wgt (sa 5) (sa 4) (sa 6)) v i)) ?_ ?_ 100 (by omega)
    · intro i hi rec
      unfold S_X0_secondsFor_4
      dsimp only
      obtain ⟨k, hk2, ek⟩ := hk i hi
      rw [x2, if_neg (nI_nle' hi (by omega)), holds_eq v hv i (by omega)]
      by_cases c : v.testBit i = true
      · simp only [if_pos c, Option.bind_some, if_neg ne10, ld_nI (show i < 6 by omega) (show 6 < 2 ^ 31 by decide), nI_c (show i < 2 ^ 31 by omega), nI_1, wI, wgt]
        rw [ek, look_eq hk2]
        rfl
      · simp only [if_neg c, Option.bind_some, if_true, nI_1, wI]
    · intro rec
      unfold S_X0_secondsFor_4
      dsimp only
      rw [x2, if_pos (nI_le (Nat.le_refl so) (by omega))]
  unfold F_X0_secondsFor
  rw [L]; rfl
theorem looksOf_eq {si : tSI} {sa : tSA} {so v : Nat} (m1 : si 1 = nI so) (ho : so ≤ 6) (hv : v < 64) : F_X6_looksOf (nI v) si sa = some (wI (wgt (sa 1) (sa 0) (sa 2)) v so) := by
  have L : lp (S_X6_looksOf_4 si (nI v) sa) 100 (0, 0) = some (wI (wgt (sa 1) (sa 0) (sa 2)) v so) := by
    refine lp_seq so (fun i => (nI i, wI (wgt (sa 1) (sa 0) (sa 2)) v i)) ?_ ?_ 100 (by omega)
    · intro i hi rec
      unfold S_X6_looksOf_4
      dsimp only
      rw [m1, if_neg (nI_nle' hi (by omega)), isIn_eq v hv i (by omega)]
      by_cases c : v.testBit i = true
      · simp only [if_pos c, Option.bind_some, if_neg ne10, ld_nI (show i < 6 by omega) (show 6 < 2 ^ 31 by decide), nI_c (show i < 2 ^ 31 by omega), nI_1, wI, wgt, lookOf_eq (show i < 6 by omega)]
      · simp only [if_neg c, Option.bind_some, if_true, nI_1, wI, Int32.add_zero]
    · intro rec
      unfold S_X6_looksOf_4
      dsimp only
      rw [m1, if_pos (nI_le (Nat.le_refl so) (by omega))]
  unfold F_X6_looksOf
  rw [L]; rfl
theorem tb63 : ∀ t, t < 6 → ∀ b, b < 64 → (63 ^^^ b).testBit t = !b.testBit t := by decide +kernel
theorem and_lt {a b : Nat} (h : a < 64) : a &&& b < 64 := Nat.lt_of_le_of_lt Nat.and_le_left h
theorem or_lt {a b : Nat} (h : a < 64) (h2 : b < 64) : a ||| b < 64 := Nat.or_lt_two_pow (n := 6) h h2
theorem p2_lt {k : Nat} (h : k < 6) : 2 ^ k < 64 := Nat.pow_lt_pow_right (by decide) h
/-- without one member, and what it weighs beside -/
theorem wI_out (g : Nat → Int32) (v j : Nat) (w : Int32) (hv : v < 64) (hj : j < 6) : ∀ n, n ≤ 6 → wI (fun s => if s = j then w else g s) v n = (if j < n ∧ v.testBit j = true then wI g (v &&& (63 ^^^ 2 ^ j)) n + w else wI g (v &&& (63 ^^^ 2 ^ j)) n) := by
  intro n
  induction n with
  | zero => intro _; rw [if_neg (by omega)]; rfl
  | succ n ih =>
    intro hn
    have tb : (v &&& (63 ^^^ 2 ^ j)).testBit n = (v.testBit n && !decide (j = n)) := by
      rw [Nat.testBit_and, tb63 n (by omega) _ (p2_lt hj), Nat.testBit_two_pow]
    unfold wI
    rw [ih (by omega), tb]
    by_cases e : j = n
    · subst e
      by_cases c : v.testBit j = true
      · rw [if_neg (show ¬ (j < j ∧ v.testBit j = true) by omega), if_pos (show j < j + 1 ∧ v.testBit j = true from ⟨by omega, c⟩)]
        simp [c]
      · rw [if_neg (show ¬ (j < j ∧ v.testBit j = true) by omega), if_neg (show ¬ (j < j + 1 ∧ v.testBit j = true) from fun h => c h.2)]
        simp [c]
    · have hne : ¬ n = j := fun h => e h.symm
      by_cases c : j < n ∧ v.testBit j = true
      · rw [if_pos c, if_pos (show j < n + 1 ∧ v.testBit j = true from ⟨by omega, c.2⟩), if_neg hne]
        simp only [e, decide_false, Bool.not_false, Bool.and_true]
        split
        · rw [Int32.add_assoc, Int32.add_comm w, ← Int32.add_assoc]
        · rfl
      · rw [if_neg c, if_neg (show ¬ (j < n + 1 ∧ v.testBit j = true) from fun h => c ⟨by omega, h.2⟩), if_neg hne]
        simp only [e, decide_false, Bool.not_false, Bool.and_true]
