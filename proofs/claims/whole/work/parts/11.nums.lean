-- numbers: comparisons by toInt, the reference's in(..)
theorem lcmp_lt {x y : Int64} : lg_cmp x y < 0 ↔ x.toInt < y.toInt := by
  unfold lg_cmp
  by_cases h1 : x > y
  · have h2 : y.toInt < x.toInt := Int64.lt_iff_toInt_lt.mp h1
    rw [if_pos h1]; constructor
    · intro h; exact absurd h (by decide)
    · intro h; omega
  · have h2 : ¬ y.toInt < x.toInt := fun h => h1 (Int64.lt_iff_toInt_lt.mpr h)
    rw [if_neg h1]
    by_cases h3 : x = y
    · rw [if_pos h3]; subst h3; constructor
      · intro h; exact absurd h (by decide)
      · intro h; omega
    · have h4 : x.toInt ≠ y.toInt := fun h => h3 (Int64.toInt_inj.mp h)
      rw [if_neg h3]; constructor
      · intro _; omega
      · intro _; decide
theorem lcmp_gt {x y : Int64} : 0 < lg_cmp x y ↔ y.toInt < x.toInt := by
  unfold lg_cmp
  by_cases h1 : x > y
  · have h2 : y.toInt < x.toInt := Int64.lt_iff_toInt_lt.mp h1
    rw [if_pos h1]; exact ⟨fun _ => h2, fun _ => by decide⟩
  · have h2 : ¬ y.toInt < x.toInt := fun h => h1 (Int64.lt_iff_toInt_lt.mpr h)
    rw [if_neg h1]
    by_cases h3 : x = y
    · rw [if_pos h3]; exact ⟨fun h => absurd h (by decide), fun h => absurd h h2⟩
    · rw [if_neg h3]; exact ⟨fun h => absurd h (by decide), fun h => absurd h h2⟩
theorem lcmp_eq {x y : Int64} : lg_cmp x y = 0 ↔ x = y := by
  unfold lg_cmp
  by_cases h1 : x > y
  · have h2 : y.toInt < x.toInt := Int64.lt_iff_toInt_lt.mp h1
    rw [if_pos h1]; constructor
    · intro h; exact absurd h (by decide)
    · intro h; subst h; omega
  · rw [if_neg h1]
    by_cases h3 : x = y
    · rw [if_pos h3]; exact ⟨fun _ => h3, fun _ => rfl⟩
    · rw [if_neg h3]; exact ⟨fun h => absurd h (by decide), fun h => absurd h h3⟩
theorem i32_nlt {a b : Int32} : ¬ a < b ↔ b ≤ a := by
  rw [Int32.lt_iff_toInt_lt, Int32.le_iff_toInt_le]; omega
theorem lcmp_le {x y : Int64} : lg_cmp x y ≤ 0 ↔ x.toInt ≤ y.toInt := by
  rw [← i32_nlt, lcmp_gt]; omega
theorem lcmp_ge {x y : Int64} : 0 ≤ lg_cmp x y ↔ y.toInt ≤ x.toInt := by
  rw [← i32_nlt, lcmp_lt]; omega
theorem in_eq (a b c : Int64) : F_X6_in a b c = some (if b.toInt ≤ a.toInt ∧ a.toInt ≤ c.toInt then 1 else 0) := by
  unfold F_X6_in
  simp only [lcmp_lt, lcmp_gt]
  by_cases h1 : a.toInt < b.toInt
  · rw [if_pos h1, if_neg (by omega)]
  · rw [if_neg h1]
    by_cases h2 : c.toInt < a.toInt
    · rw [if_pos h2, if_neg (by omega)]
    · rw [if_neg h2, if_pos (by omega)]
theorem lim64 : ∀ n, n ≤ 61 → ((nI n).toInt64 - 1).toInt = (n : Int) - 1 := by decide
theorem nI_ti {n : Nat} (h : n < 2 ^ 31) : (nI n).toInt = (n : Int) := nI_toInt h
theorem nI_ex {a : Int32} {n : Nat} (h0 : 0 ≤ a.toInt) (h1 : a.toInt < n) : ∃ j : Nat, j < n ∧ a = nI j := by
  have hn : ¬ a < 0 := fun h => by have := Int32.lt_iff_toInt_lt.mp h; simp at this; omega
  obtain ⟨j, hj, rfl⟩ := nI_of hn
  rw [nI_toInt hj] at h1
  exact ⟨j, by omega, rfl⟩
theorem nI_exle {a : Int32} {n : Nat} (h0 : 0 ≤ a.toInt) (h1 : a.toInt ≤ n) : ∃ j : Nat, j ≤ n ∧ a = nI j := by
  obtain ⟨j, hj, e⟩ := nI_ex (n := n + 1) h0 (by omega)
  exact ⟨j, by omega, e⟩
-- the sequence of a loop's states, and its end
theorem lp_seq {α τ : Type} {S : (α → Option τ) → α → Option τ} {out : Option τ} (N : Nat) (st : Nat → α) (hs : ∀ i, i < N → ∀ rec : α → Option τ, S rec (st i) = rec (st (i + 1))) (he : ∀ rec : α → Option τ, S rec (st N) = out) (fuel : Nat) (hf : N < fuel) : lp S fuel (st 0) = out := by
  have key : ∀ k i, i + k = N → ∀ f, k < f → lp S f (st i) = out := by
    intro k
    induction k with
    | zero =>
      intro i hi f hf
      obtain ⟨f, rfl⟩ : ∃ g, f = g + 1 := ⟨f - 1, by omega⟩
      have : i = N := by omega
      subst this
      exact he _
    | succ k ih =>
      intro i hi f hf
      obtain ⟨f, rfl⟩ : ∃ g, f = g + 1 := ⟨f - 1, by omega⟩
      show S (lp S f) (st i) = out
      rw [hs i (by omega)]
      exact ih (i + 1) (by omega) f (by omega)
  exact key N 0 (by omega) fuel hf
/-- what both sides hold -/
def Rel (si : tSI) (sa : tSA) (ti : tSI) (ta : tSA) : Prop := ∃ so sg rd : Nat,
  so ≤ 6 ∧ (so = 0 ∧ sg = 0 ∧ rd = 0 ∨ 2 ≤ so) ∧ sg ≤ 5 ∧ rd ≤ 8 ∧ si 2 = nI so ∧ ti 1 = nI so ∧ si 3 = nI sg ∧ ti 2 = nI sg ∧ si 4 = nI rd ∧ ti 8 = nI rd ∧
  ti 9 = si 0 ∧ ti 0 = si 1 ∧ ta 0 = sa 4 ∧ ta 1 = sa 5 ∧ ta 2 = sa 6 ∧ ta 3 = sa 7 ∧ ta 16 = sa 9 ∧ ta 17 = sa 10 ∧ ta 19 = sa 2 ∧ ta 20 = sa 1 ∧
  (∀ k, k < 4 → (sa 3 k = -9 ∧ ta 18 k = -1) ∨ ∃ n, n ≤ 60 ∧ sa 3 k = nI n ∧ ta 18 k = nI n) ∧
  (∀ s, s < so → ∃ k, k ≤ 2 ∧ sa 4 s = nI k) ∧ (∀ s, s < so → ∃ k, k ≤ 9 ∧ sa 5 s = nI k) ∧ (∀ s, s < so → ∃ k, 1 ≤ k ∧ k ≤ 9 ∧ sa 6 s = nI k) ∧ (∀ s, s < so → ∃ k, k ≤ 5 ∧ sa 7 s = nI k) ∧
  (∀ k, k < sg → ∃ h, h < 64 ∧ ta 4 k = nI h ∧ sa 8 k = nI (h % 2 ^ so)) ∧ (∀ r, r < rd → ∃ v, v < 2 ^ so ∧ sa 9 r = nI v)
theorem isSort_eq {a : Int32} {si : tSI} {sa : tSA} {so : Nat} (h : si 2 = nI so) (ho : so ≤ 61) : F_X0_isSort a si sa = some (if 0 ≤ a.toInt ∧ a.toInt < so then 1 else 0) := by
  unfold F_X0_isSort
  simp only [h, Int32.lt_iff_toInt_lt, Int32.le_iff_toInt_le, nI_toInt (show so < 2 ^ 31 by omega), show (0 : Int32).toInt = 0 from rfl]
  by_cases h1 : a.toInt < 0
  · rw [if_pos h1, if_neg (by omega)]
  · rw [if_neg h1]
    by_cases h2 : (so : Int) ≤ a.toInt
    · rw [if_pos h2, if_neg (by omega)]
    · rw [if_neg h2, if_pos (by omega)]
theorem isSign_eq {a : Int32} {si : tSI} {sa : tSA} {so : Nat} (h : si 3 = nI so) (ho : so ≤ 61) : F_X0_isSign a si sa = some (if 0 ≤ a.toInt ∧ a.toInt < so then 1 else 0) :=
  isSort_eq (si := fun _ => si 3) (sa := sa) (so := so) h ho
theorem noSort_eq {a : Int32} {si : tSI} {sa : tSA} {so : Nat} (h : si 1 = nI so) (ho : so ≤ 61) : F_X6_noSort a si sa = some (if 0 ≤ a.toInt ∧ a.toInt < so then 0 else 1) := by
  unfold F_X6_noSort
  rw [in_eq, h, lim64 so ho, Int32.toInt_toInt64, show (0 : Int64).toInt = 0 from rfl]
  by_cases h1 : 0 ≤ a.toInt ∧ a.toInt < so
  · rw [if_pos (by omega), if_pos h1]; rfl
  · rw [if_neg (by omega), if_neg h1]; rfl
theorem noSign_eq {a : Int32} {si : tSI} {sa : tSA} {so : Nat} (h : si 2 = nI so) (ho : so ≤ 61) : F_X6_noSign a si sa = some (if 0 ≤ a.toInt ∧ a.toInt < so then 0 else 1) :=
  noSort_eq (si := fun _ => si 2) (sa := sa) (so := so) h ho
theorem isSheet_eq {a : Int32} : F_X2_isSheet a = some (if 0 ≤ a.toInt ∧ a.toInt < 4 then 1 else 0) :=
  isSort_eq (si := fun _ => 4) (sa := fun _ _ => 0) (so := 4) rfl (by decide)
theorem isLane_eq {a : Int32} : F_X2_isLane a = some (if 0 ≤ a.toInt ∧ a.toInt < 3 then 1 else 0) :=
  isSort_eq (si := fun _ => 3) (sa := fun _ _ => 0) (so := 3) rfl (by decide)
theorem noSheet_eq {a : Int32} : F_X6_noSheet a = some (if 0 ≤ a.toInt ∧ a.toInt < 4 then 0 else 1) := by
  have := noSort_eq (a := a) (si := fun _ => 4) (sa := fun _ _ => 0) (so := 4) rfl (by decide)
  exact this
/-- in(a, lo, hi) of ints -/
theorem in32 {a : Int32} {lo hi : Int64} (l h : Int) (hl : lo.toInt = l) (hh : hi.toInt = h) : F_X6_in a.toInt64 lo hi = some (if l ≤ a.toInt ∧ a.toInt ≤ h then 1 else 0) := by
  rw [in_eq, hl, hh, Int32.toInt_toInt64]
