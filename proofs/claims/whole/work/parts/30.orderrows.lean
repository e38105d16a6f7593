theorem lp_inv {α τ : Type} {S : (α → Option τ) → α → Option τ} (N : Nat) (Inv : Nat → α → Prop) (P : τ → Prop) (a0 : α) (h0 : Inv 0 a0) (hs : ∀ i, i < N → ∀ a, Inv i a → ∃ a', Inv (i + 1) a' ∧ ∀ rec : α → Option τ, S rec a = rec a') (he : ∀ a, Inv N a → ∃ o, P o ∧ ∀ rec : α → Option τ, S rec a = some o) (fuel : Nat) (hf : N < fuel) : ∃ o, P o ∧ lp S fuel a0 = some o := by
  have key : ∀ k i, i + k = N → ∀ a, Inv i a → ∀ f, k < f → ∃ o, P o ∧ lp S f a = some o := by
    intro k
    induction k with
    | zero =>
      intro i hi a ha f hf
      obtain ⟨f, rfl⟩ : ∃ g, f = g + 1 := ⟨f - 1, by omega⟩
      have : i = N := by omega
      subst this
      obtain ⟨o, h1, h2⟩ := he a ha
      exact ⟨o, h1, h2 _⟩
    | succ k ih =>
      intro i hi a ha f hf
      obtain ⟨f, rfl⟩ : ∃ g, f = g + 1 := ⟨f - 1, by omega⟩
      obtain ⟨a', h1, h2⟩ := hs i (by omega) a ha
      obtain ⟨o, h3, h4⟩ := ih (i + 1) (by omega) a' h1 f (by omega)
      exact ⟨o, h3, (h2 _).trans h4⟩
  exact key N 0 (by omega) a0 h0 fuel hf
/-- a row's digits -/
abbrev dg (r x : Nat) : Nat := r / 6 ^ (4 - x) % 6
/-- is it a row, how long -/
def lst (sg r : Nat) : Nat → Bool × Nat × Nat
  | 0 => (true, 0, 0)
  | x + 1 => if dg r x = 0 then lst sg r x else ((lst sg r x).1 && decide (dg r x - 1 < sg) && decide ((lst sg r x).2.1 = x) && !(lst sg r x).2.2.testBit (dg r x - 1), (lst sg r x).2.1 + 1, (lst sg r x).2.2 ||| 2 ^ (dg r x - 1))
theorem lst_s (sg r x : Nat) : lst sg r (x + 1) = if dg r x = 0 then lst sg r x else ((lst sg r x).1 && decide (dg r x - 1 < sg) && decide ((lst sg r x).2.1 = x) && !(lst sg r x).2.2.testBit (dg r x - 1), (lst sg r x).2.1 + 1, (lst sg r x).2.2 ||| 2 ^ (dg r x - 1)) := rfl
def val (sg : Nat) : Nat → Nat → Nat → Nat → Nat → Option Nat
  | 0, _, _, n, _ => some n
  | m + 1, r, x, n, u => if r / 6 ^ m = 0 then val sg m (r % 6 ^ m) (x + 1) n u else if r / 6 ^ m - 1 < sg ∧ n = x ∧ ¬ u.testBit (r / 6 ^ m - 1) = true then val sg m (r % 6 ^ m) (x + 1) (n + 1) (u ||| 2 ^ (r / 6 ^ m - 1)) else none
theorem val_s (sg m r x n u : Nat) : val sg (m + 1) r x n u = if r / 6 ^ m = 0 then val sg m (r % 6 ^ m) (x + 1) n u else if r / 6 ^ m - 1 < sg ∧ n = x ∧ ¬ u.testBit (r / 6 ^ m - 1) = true then val sg m (r % 6 ^ m) (x + 1) (n + 1) (u ||| 2 ^ (r / 6 ^ m - 1)) else none := rfl
theorem mod6a (r m : Nat) : r % 6 ^ (m + 1) / 6 ^ m = r / 6 ^ m % 6 := by rw [Nat.pow_succ, Nat.mod_mul_right_div_self]
theorem mod6b (r m : Nat) : r % 6 ^ (m + 1) % 6 ^ m = r % 6 ^ m := Nat.mod_mod_of_dvd _ ⟨6, by rw [Nat.pow_succ]⟩
theorem dig_mod (r : Nat) {j m : Nat} (h : j < m) : r % 6 ^ m / 6 ^ j % 6 = r / 6 ^ j % 6 := by
  rw [← mod6a (r % 6 ^ m) j, ← mod6a r j, Nat.mod_mod_of_dvd _ (Nat.pow_dvd_pow 6 (by omega))]
theorem lst_lt {sg r : Nat} : ∀ x, x ≤ 5 → (lst sg r x).2.1 ≤ x ∧ (lst sg r x).2.2 < 64 := by
  intro x
  induction x with
  | zero => intro _; exact ⟨Nat.le_refl _, show 0 < 64 by decide⟩
  | succ x ih =>
    intro hx
    obtain ⟨h1, h2⟩ := ih (by omega)
    rw [lst_s]
    split
    · exact ⟨by omega, h2⟩
    · have : dg r x < 6 := Nat.mod_lt _ (by decide)
      exact ⟨by show (lst sg r x).2.1 + 1 ≤ x + 1; omega, or_lt h2 (p2_lt (by omega))⟩
theorem lst_val (sg : Nat) {r : Nat} (hr : r < 6 ^ 5) : val sg 5 r 0 0 0 = if (lst sg r 5).1 = true then some (lst sg r 5).2.1 else none := by
  let Wx : Nat → Option Nat := fun x => if (lst sg r x).1 = true then val sg (5 - x) (r % 6 ^ (5 - x)) x (lst sg r x).2.1 (lst sg r x).2.2 else none
  have step : ∀ x, x < 5 → Wx x = Wx (x + 1) := by
    intro x hx
    show (if (lst sg r x).1 = true then val sg (5 - x) (r % 6 ^ (5 - x)) x (lst sg r x).2.1 (lst sg r x).2.2 else none) = if (lst sg r (x + 1)).1 = true then val sg (5 - (x + 1)) (r % 6 ^ (5 - (x + 1))) (x + 1) (lst sg r (x + 1)).2.1 (lst sg r (x + 1)).2.2 else none
    rw [show 5 - x = (4 - x) + 1 by omega, show 5 - (x + 1) = 4 - x by omega, val_s, mod6a, mod6b, lst_s]
    by_cases c : (lst sg r x).1 = true
    · rw [if_pos c]
      by_cases d : dg r x = 0
      · have d' : r / 6 ^ (4 - x) % 6 = 0 := d
        rw [if_pos d', if_pos d, if_pos c]
      · have d' : ¬ r / 6 ^ (4 - x) % 6 = 0 := d
        rw [if_neg d', if_neg d]
        by_cases e : dg r x - 1 < sg ∧ (lst sg r x).2.1 = x ∧ ¬ (lst sg r x).2.2.testBit (dg r x - 1) = true
        · rw [if_pos e, if_pos]
          show ((lst sg r x).1 && decide (dg r x - 1 < sg) && decide ((lst sg r x).2.1 = x) && !(lst sg r x).2.2.testBit (dg r x - 1)) = true
          have e3 : (lst sg r x).2.2.testBit (dg r x - 1) = false := by simpa using e.2.2
          simp [c, e.1, e.2.1]
          simpa [e.2.1] using e3
        · rw [if_neg e, if_neg]
          intro z
          have z : ((lst sg r x).1 && decide (dg r x - 1 < sg) && decide ((lst sg r x).2.1 = x) && !(lst sg r x).2.2.testBit (dg r x - 1)) = true := z
          rw [Bool.and_eq_true, Bool.and_eq_true, Bool.and_eq_true, decide_eq_true_eq, decide_eq_true_eq, Bool.not_eq_true'] at z
          exact e ⟨z.1.1.2, z.1.2, by rw [z.2]; decide⟩
    · rw [if_neg c]
      by_cases d : dg r x = 0
      · rw [if_pos d, if_neg c]
      · rw [if_neg d, if_neg]
        intro z
        have z : ((lst sg r x).1 && decide (dg r x - 1 < sg) && decide ((lst sg r x).2.1 = x) && !(lst sg r x).2.2.testBit (dg r x - 1)) = true := z
        rw [Bool.and_eq_true, Bool.and_eq_true, Bool.and_eq_true] at z
        exact c z.1.1.1
  have h0 : Wx 0 = val sg 5 r 0 0 0 := by
    show (if (lst sg r 0).1 = true then val sg 5 (r % 6 ^ 5) 0 0 0 else none) = _
    rw [if_pos (show (lst sg r 0).1 = true from rfl), Nat.mod_eq_of_lt hr]
  have h5 : Wx 5 = if (lst sg r 5).1 = true then some (lst sg r 5).2.1 else none := rfl
  rw [← h0, ← h5, step 0 (by omega), step 1 (by omega), step 2 (by omega), step 3 (by omega), step 4 (by omega)]
theorem nI_m1 {d : Nat} (h : d < 6) : nI d - 1 = if d = 0 then -1 else nI (d - 1) := by
  have : ∀ d, d < 6 → nI d - 1 = if d = 0 then -1 else nI (d - 1) := by decide
  exact this d h
theorem lengthOf_eq {sg r : Nat} (hg : sg ≤ 5) (hr : r < 6 ^ 5) {si : tSI} (m2 : si 2 = nI sg) (sa : tSA) : F_X6_lengthOf (nI r) si sa = some (enc (val sg 5 r 0 0 0), si, va_up sa 13 (fun y => if y < 5 then nI (dg r y) - 1 else sa 13 y)) := by
  have hr31 : r < 2 ^ 31 := Nat.lt_trans hr (by decide)
  let A : Nat → Nat → Int32 := fun i y => if 5 - i ≤ y ∧ y < 5 then nI (dg r y) - 1 else sa 13 y
  let v : Nat → Int32 := fun i => if i < 5 then nI (4 - i) else -1
  have L1 : lp S_X6_lengthOf_13 100 (v 0, nI (r / 6 ^ 0), si, va_up sa 13 (A 0)) = some (si, va_up sa 13 (A 5)) := by
    refine lp_seq 5 (fun i => (v i, nI (r / 6 ^ i), si, va_up sa 13 (A i))) ?_ ?_ 100 (by omega)
    · intro i hi rec
      have vi : v i = nI (4 - i) := if_pos hi
      have vs : nI (4 - i) + -1 = v (i + 1) := by
        show _ = if i + 1 < 5 then nI (4 - (i + 1)) else -1
        by_cases z : i + 1 < 5
        · rw [if_pos z, show 4 - i = 4 - (i + 1) + 1 by omega, pk_m1]
        · rw [if_neg z, show 4 - i = 0 by omega]; rfl
      have hq : r / 6 ^ i < 2 ^ 31 := Nat.lt_of_le_of_lt (Nat.div_le_self _ _) hr31
      have as : upd (A i) (4 - i) (nI (r / 6 ^ i % 6) - 1) = A (i + 1) := by
        funext y
        show upd (A i) (4 - i) _ y = if 5 - (i + 1) ≤ y ∧ y < 5 then nI (dg r y) - 1 else sa 13 y
        by_cases e : y = 4 - i
        · subst e
          rw [upd_eq, if_pos (by omega)]
          show _ = nI (r / 6 ^ (4 - (4 - i)) % 6) - 1
          rw [show 4 - (4 - i) = i by omega]
        · rw [upd_ne _ _ e]
          show (if 5 - i ≤ y ∧ y < 5 then _ else sa 13 y) = _
          by_cases z : 5 - i ≤ y ∧ y < 5
          · rw [if_pos z, if_pos (by omega)]
          · rw [if_neg z, if_neg (by omega)]
      unfold S_X6_lengthOf_13
      dsimp only
      rw [vi, if_neg (nI_pos (show 4 - i < 2 ^ 31 by omega)), ld_nI (show 4 - i < 5 by omega) (by decide), nI_c (show 4 - i < 2 ^ 31 by omega), up_eq, up_up, vs]
      unfold dz
      rw [if_neg (show ¬ (6 : Int32) = 0 by decide), if_neg (show ¬ (6 : Int32) = 0 by decide), show (6 : Int32) = nI 6 from rfl, pk_rem hq (by decide) (by decide), pk_div hq (by decide) (by decide), Nat.div_div_eq_div_mul, ← Nat.pow_succ, as]
    · intro rec
      unfold S_X6_lengthOf_13
      dsimp only
      rw [if_pos (show v 5 < 0 by decide)]
  have e0 : va_up sa 13 (A 0) = sa := by
    have : A 0 = sa 13 := by funext y; show (if 5 - 0 ≤ y ∧ y < 5 then _ else sa 13 y) = _; rw [if_neg (by omega)]
    rw [this, up_self]
  have e5 : A 5 = fun y => if y < 5 then nI (dg r y) - 1 else sa 13 y := by
    funext y
    show (if 5 - 5 ≤ y ∧ y < 5 then _ else sa 13 y) = _
    by_cases z : y < 5
    · rw [if_pos z, if_pos (by omega)]
    · rw [if_neg z, if_neg (by omega)]
  rw [e0, e5, Nat.pow_zero, Nat.div_one] at L1
  have L1' : lp S_X6_lengthOf_13 100 (4, nI r, si, sa) = some (si, va_up sa 13 (fun y => if y < 5 then nI (dg r y) - 1 else sa 13 y)) := L1
  let b : Bool → Int32 := fun z => if z = true then 1 else 0
  have L2 : lp (S_X6_lengthOf_45 (si, va_up sa 13 (fun y => if y < 5 then nI (dg r y) - 1 else sa 13 y))) 100 (0, 1, 0, 0) = some (b (lst sg r 5).1, nI (lst sg r 5).2.1) := by
    refine lp_seq 5 (fun x => (nI x, b (lst sg r x).1, nI (lst sg r x).2.2, nI (lst sg r x).2.1)) ?_ ?_ 100 (by omega)
    · intro x hx rec
      obtain ⟨l1, l2⟩ := lst_lt (sg := sg) (r := r) x (by omega)
      have hd : dg r x < 6 := Nat.mod_lt _ (by decide)
      have ex : (va_up sa 13 (fun y => if y < 5 then nI (dg r y) - 1 else sa 13 y)) 13 x = if dg r x = 0 then -1 else nI (dg r x - 1) := by
        rw [up_eq, if_pos hx, nI_m1 hd]
      have hle : ∀ x, x < 5 → ¬ (5 : Int32) ≤ nI x := by decide
      rw [lst_s]
      unfold S_X6_lengthOf_45
      dsimp only
      rw [if_neg (hle x hx), ld_nI (show x < 5 by omega) (by decide), nI_c (show x < 2 ^ 31 by omega)]
      simp only [ex]
      by_cases d : dg r x = 0
      · simp only [if_pos d, m2]
        have n1 : ¬ nI sg ≤ -1 := by rw [← i32_nlt]; intro z; exact z (Int32.lt_of_lt_of_le (by decide) (nI_ge0 (show sg < 2 ^ 31 by omega)))
        simp only [if_neg n1, if_pos (show (-1 : Int32) < 0 by decide), if_neg (show ¬ (0 : Int32) ≤ -1 by decide)]
        cases hb : (lst sg r x).1 with
        | true =>
          rw [if_neg (show ¬ b true = 0 by decide)]
          simp only [Option.bind_some, Int32.or_zero, Int32.add_zero, nI_1]
          rfl
        | false =>
          rw [if_pos (show b false = 0 by decide)]
          simp only [Option.bind_some, Int32.or_zero, Int32.add_zero, nI_1]
          rfl
      · have hd5 : dg r x - 1 < 5 := by omega
        simp only [if_neg d, m2]
        simp only [if_neg (nI_pos (show dg r x - 1 < 2 ^ 31 by omega)), if_pos (nI_ge0 (show dg r x - 1 < 2 ^ 31 by omega)), isIn_eq _ l2 _ (show dg r x - 1 < 8 by omega), shl_eq _ (show dg r x - 1 < 8 by omega), or_eq _ l2 _ (p2_lt (show dg r x - 1 < 6 by omega))]
        simp only [nI_i64 _ (show (lst sg r x).2.1 < 64 by omega) x (by omega), Option.bind_some, nI_1]
        have es : ∀ z : Bool, (if (if z = true then (1 : Int32) else 0) = 0 then some (1 : Int32) else some 0) = some (b (!z)) := by intro z; cases z <;> rfl
        rw [es]
        have core : (if b (lst sg r x).1 = 0 then some (0 : Int32) else if nI sg ≤ nI (dg r x - 1) then some 0 else if (lst sg r x).2.1 = x then some (b (!(lst sg r x).2.2.testBit (dg r x - 1))) else some 0) = some (b ((lst sg r x).1 && decide (dg r x - 1 < sg) && decide ((lst sg r x).2.1 = x) && !(lst sg r x).2.2.testBit (dg r x - 1))) := by
          cases hb : (lst sg r x).1 with
          | false => rfl
          | true =>
            rw [if_neg (show ¬ b true = 0 by decide)]
            by_cases q1 : dg r x - 1 < sg
            · rw [if_neg (nI_nle' q1 (by omega))]
              by_cases q2 : (lst sg r x).2.1 = x
              · rw [if_pos q2]
                simp only [q1, q2, decide_true, Bool.and_true, Bool.true_and]
              · rw [if_neg q2]
                simp only [q1, q2, decide_true, decide_false, Bool.and_true, Bool.true_and, Bool.and_false, Bool.false_and]
                rfl
            · rw [if_pos (nI_le (show sg ≤ dg r x - 1 by omega) (by omega))]
              simp only [q1, decide_false, Bool.and_false, Bool.false_and]
              rfl
        rw [core]
        simp only [Option.bind_some, nI_1]
    · intro rec
      unfold S_X6_lengthOf_45
      dsimp only
      rw [if_pos (by decide)]
  unfold F_X6_lengthOf
  rw [L1']
  simp only [Option.bind_some]
  rw [L2, lst_val sg hr]
  cases hb : (lst sg r 5).1 with
  | true => rfl
  | false => rfl
