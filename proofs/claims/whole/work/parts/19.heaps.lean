-- heaps behind a set of used signs
def HPr (so : Nat) (h : Nat → Nat) (s u : Nat) : Nat → Nat
  | 0 => 2 ^ so - 1
  | k + 1 => if u.testBit k then (if (h k).testBit s then HPr so h s u k &&& h k else HPr so h s u k &&& (63 ^^^ h k)) else HPr so h s u k
theorem HPr_s (so : Nat) (h : Nat → Nat) (s u k : Nat) : HPr so h s u (k + 1) = if u.testBit k then (if (h k).testBit s then HPr so h s u k &&& h k else HPr so h s u k &&& (63 ^^^ h k)) else HPr so h s u k := rfl
theorem p2le {so : Nat} (ho : so ≤ 6) : 2 ^ so ≤ 64 := Nat.pow_le_pow_right (n := 2) (by decide) ho
theorem HPr_lt {so : Nat} (ho : so ≤ 6) (h : Nat → Nat) (s u : Nat) : ∀ k, HPr so h s u k < 64 := by
  intro k
  induction k with
  | zero => have := p2le ho; show 2 ^ so - 1 < 64; omega
  | succ k ih =>
    rw [HPr_s]
    split
    · split <;> exact and_lt ih
    · exact ih
theorem HPr_tb {so : Nat} (h : Nat → Nat) (s u t : Nat) (ht : t < 6) : ∀ k, (∀ q, q < k → h q < 64) → ((HPr so h s u k).testBit t = true ↔ t < so ∧ ∀ q, q < k → u.testBit q = true → (h q).testBit t = (h q).testBit s) := by
  intro k
  induction k with
  | zero =>
    intro _
    show (2 ^ so - 1).testBit t = true ↔ _
    rw [Nat.testBit_two_pow_sub_one, decide_eq_true_eq]
    exact ⟨fun a => ⟨a, fun q hq => absurd hq (by omega)⟩, fun a => a.1⟩
  | succ k ih =>
    intro hk
    have ih := ih (fun q hq => hk q (by omega))
    rw [HPr_s]
    by_cases c : u.testBit k = true
    · rw [if_pos c]
      by_cases d : (h k).testBit s = true
      · rw [if_pos d, Nat.testBit_and, Bool.and_eq_true, ih]
        constructor
        · rintro ⟨⟨a, b⟩, e⟩
          refine ⟨a, fun q hq hu => ?_⟩
          by_cases z : q = k
          · subst z; rw [e, d]
          · exact b q (by omega) hu
        · rintro ⟨a, b⟩
          exact ⟨⟨a, fun q hq => b q (by omega)⟩, by rw [b k (by omega) c, d]⟩
      · rw [if_neg d, Nat.testBit_and, Bool.and_eq_true, ih, tb63 t ht _ (hk k (by omega))]
        have d' : (h k).testBit s = false := by simpa using d
        constructor
        · rintro ⟨⟨a, b⟩, e⟩
          refine ⟨a, fun q hq hu => ?_⟩
          by_cases z : q = k
          · subst z; rw [d']; simpa using e
          · exact b q (by omega) hu
        · rintro ⟨a, b⟩
          exact ⟨⟨a, fun q hq => b q (by omega)⟩, by rw [b k (by omega) c, d']; rfl⟩
    · rw [if_neg c, ih]
      constructor
      · rintro ⟨a, b⟩
        refine ⟨a, fun q hq hu => ?_⟩
        by_cases z : q = k
        · subst z; exact absurd hu c
        · exact b q (by omega) hu
      · rintro ⟨a, b⟩
        exact ⟨a, fun q hq => b q (by omega)⟩
/-- numbers below 64 by their six places -/
theorem eq64 {a b : Nat} (ha : a < 64) (hb : b < 64) (h : ∀ t, t < 6 → (a.testBit t = true ↔ b.testBit t = true)) : a = b := by
  apply Nat.eq_of_testBit_eq
  intro i
  by_cases hi : i < 6
  · have := h i hi
    cases q : a.testBit i <;> cases r : b.testBit i <;> simp_all
  · have z : ∀ x, x < 64 → x.testBit i = false := fun x hx => Nat.testBit_lt_two_pow (Nat.lt_of_lt_of_le hx (Nat.pow_le_pow_right (n := 2) (i := 6) (by decide) (by omega)))
    rw [z a ha, z b hb]
theorem tb_p2 (n m : Nat) : (2 ^ n).testBit m = decide (n = m) := Nat.testBit_two_pow
theorem heapOf_eq {si : tSI} {sa : tSA} {so sg s u : Nat} {h : Nat → Nat} (x2 : si 2 = nI so) (ho : so ≤ 6) (x3 : si 3 = nI sg) (hg : sg ≤ 5) (hh : ∀ k, k < sg → h k < 64 ∧ sa 8 k = nI (h k)) (hs : s < 6) (hu : u < 64) : F_X0_heapOf (nI s) (nI u) si sa = some (nI (HPr so h s u sg)) := by
  have L : lp (S_X0_heapOf_8 si (nI u) sa (nI s)) 100 (0, nI (2 ^ so - 1)) = some (nI (HPr so h s u sg)) := by
    refine lp_seq sg (fun i => (nI i, nI (HPr so h s u i))) ?_ ?_ 100 (by omega)
    · intro i hi rec
      unfold S_X0_heapOf_8
      dsimp only
      obtain ⟨h1, h2⟩ := hh i hi
      rw [x3, if_neg (nI_nle' hi (by omega)), holds_eq u hu i (by omega), HPr_s]
      by_cases c : u.testBit i = true
      · simp only [if_pos c, Option.bind_some, if_neg ne10, ld_nI (show i < 5 by omega) (show 5 < 2 ^ 31 by decide), nI_c (show i < 2 ^ 31 by omega), h2, holds_eq _ h1 s (by omega), andn_eq _ (HPr_lt ho h s u i) _ h1, and_eq _ (HPr_lt ho h s u i) _ h1, nI_1]
        by_cases d : (h i).testBit s = true
        · simp only [if_pos d, if_neg ne10]
        · simp only [if_neg d, if_true]
      · simp only [if_neg c, Option.bind_some, if_true, nI_1]
    · intro rec
      unfold S_X0_heapOf_8
      dsimp only
      rw [x3, if_pos (nI_le (Nat.le_refl sg) (by omega))]
  unfold F_X0_heapOf
  rw [every_eq x2 ho]
  simp only [Option.bind_some]
  rw [L]; rfl
abbrev HP (so sg : Nat) (h : Nat → Nat) (s u : Nat) : Nat := HPr so h s u sg
def WTr (so sg : Nat) (h : Nat → Nat) (u : Nat) : Nat → Nat
  | 0 => 0
  | s + 1 => if HP so sg h s u = 2 ^ s then WTr so sg h u s else WTr so sg h u s ||| 2 ^ s
theorem WTr_s (so sg : Nat) (h : Nat → Nat) (u s : Nat) : WTr so sg h u (s + 1) = if HP so sg h s u = 2 ^ s then WTr so sg h u s else WTr so sg h u s ||| 2 ^ s := rfl
theorem WTr_lt (so sg : Nat) (h : Nat → Nat) (u : Nat) : ∀ s, s ≤ 6 → WTr so sg h u s < 64 := by
  intro s
  induction s with
  | zero => intro _; show 0 < 64; omega
  | succ s ih =>
    intro hs
    rw [WTr_s]
    split
    · exact ih (by omega)
    · exact or_lt (ih (by omega)) (p2_lt (by omega))
theorem WTr_tb (so sg : Nat) (h : Nat → Nat) (u t : Nat) : ∀ s, (WTr so sg h u s).testBit t = true ↔ t < s ∧ ¬ HP so sg h t u = 2 ^ t := by
  intro s
  induction s with
  | zero => show (0 : Nat).testBit t = true ↔ _; simp
  | succ s ih =>
    rw [WTr_s]
    by_cases c : HP so sg h s u = 2 ^ s
    · rw [if_pos c, ih]
      constructor
      · rintro ⟨a, b⟩; exact ⟨by omega, b⟩
      · rintro ⟨a, b⟩
        refine ⟨?_, b⟩
        by_cases e : t = s
        · subst e; exact absurd c b
        · omega
    · rw [if_neg c, Nat.testBit_or, Bool.or_eq_true, ih, tb_p2, decide_eq_true_eq]
      constructor
      · rintro (⟨a, b⟩ | e)
        · exact ⟨by omega, b⟩
        · subst e; exact ⟨by omega, c⟩
      · rintro ⟨a, b⟩
        by_cases e : t = s
        · exact Or.inr e.symm
        · exact Or.inl ⟨by omega, b⟩
theorem nI_i64 : ∀ a, a < 64 → ∀ b, b < 64 → (nI a = nI b ↔ a = b) := by
  intro a ha b hb
  exact nI_eq (by omega) (by omega)
theorem waiting_eq {si : tSI} {sa : tSA} {so sg u : Nat} {h : Nat → Nat} (x2 : si 2 = nI so) (ho : so ≤ 6) (x3 : si 3 = nI sg) (hg : sg ≤ 5) (hh : ∀ k, k < sg → h k < 64 ∧ sa 8 k = nI (h k)) (hu : u < 64) : F_X0_waiting (nI u) si sa = some (nI (WTr so sg h u so)) := by
  have L : lp (S_X0_waiting_4 si (nI u) sa) 100 (0, 0) = some (nI (WTr so sg h u so)) := by
    refine lp_seq so (fun i => (nI i, nI (WTr so sg h u i))) ?_ ?_ 100 (by omega)
    · intro i hi rec
      unfold S_X0_waiting_4
      dsimp only
      rw [x2, if_neg (nI_nle' hi (by omega)), heapOf_eq x2 ho x3 hg hh (by omega) hu, WTr_s]
      simp only [Option.bind_some, shl_eq i (by omega), nI_i64 _ (HPr_lt ho h i u sg) _ (p2_lt (show i < 6 by omega)), or_eq _ (WTr_lt so sg h u i (by omega)) _ (p2_lt (show i < 6 by omega)), nI_1]
      split <;> rfl
    · intro rec
      unfold S_X0_waiting_4
      dsimp only
      rw [x2, if_pos (nI_le (Nat.le_refl so) (by omega))]
  unfold F_X0_waiting
  rw [L]; rfl
def lsb (v : Nat) : Nat := if v.testBit 0 then 0 else if v.testBit 1 then 1 else if v.testBit 2 then 2 else if v.testBit 3 then 3 else if v.testBit 4 then 4 else 5
theorem least_eq : ∀ v, v < 64 → 0 < v → F_X5_least (nI v) = some (nI (lsb v)) := by decide +kernel
theorem lsb_sp : ∀ v, v < 64 → 0 < v → v.testBit (lsb v) = true ∧ lsb v < 6 ∧ ∀ t, t < lsb v → v.testBit t = false := by decide +kernel
theorem leastOf_eq {sa : tSA} {s v : Nat} (hs : s < 6) (hv : v < 64) (h0 : 0 < v) (e : sa 10 s = nI v) (si : tSI) : F_X6_leastOf (nI s) si sa = some (nI (lsb v)) := by
  obtain ⟨h1, h2, h3⟩ := lsb_sp v hv h0
  have L : lp (S_X6_leastOf_2 (nI s) sa) 100 0 = some (nI (lsb v)) := by
    refine lp_seq (lsb v) (fun i => nI i) ?_ ?_ 100 (by omega)
    · intro i hi rec
      unfold S_X6_leastOf_2
      rw [ld_nI (show s < 6 by omega) (by decide), nI_c (show s < 2 ^ 31 by omega), e, isIn_eq v hv i (by omega), h3 i hi, nI_1]
      rfl
    · intro rec
      unfold S_X6_leastOf_2
      rw [ld_nI (show s < 6 by omega) (by decide), nI_c (show s < 2 ^ 31 by omega), e, isIn_eq v hv _ (by omega), if_pos h1]
      rfl
  unfold F_X6_leastOf
  rw [L]; rfl
theorem HP_self {so sg s u : Nat} {h : Nat → Nat} (hh : ∀ k, k < sg → h k < 64) (hs : s < so) (ho : so ≤ 6) : (HP so sg h s u).testBit s = true :=
  (HPr_tb h s u s (by omega) sg hh).mpr ⟨hs, fun _ _ _ => rfl⟩
theorem pos_of_tb {v t : Nat} (h : v.testBit t = true) : 0 < v := by
  rcases Nat.eq_zero_or_pos v with z | z
  · subst z; simp at h
  · exact z
def HC (so sg : Nat) (h : Nat → Nat) (u : Nat) : Nat → Nat
  | 0 => 0
  | s + 1 => if lsb (HP so sg h s u) = s then HC so sg h u s + 1 else HC so sg h u s
theorem HC_s (so sg : Nat) (h : Nat → Nat) (u s : Nat) : HC so sg h u (s + 1) = if lsb (HP so sg h s u) = s then HC so sg h u s + 1 else HC so sg h u s := rfl
theorem HC_le (so sg : Nat) (h : Nat → Nat) (u : Nat) : ∀ s, HC so sg h u s ≤ s := by
  intro s
  induction s with
  | zero => exact Nat.le_refl _
  | succ s ih => rw [HC_s]; split <;> omega
theorem heaps_eq {si : tSI} {sa : tSA} {so sg u : Nat} {h : Nat → Nat} (x2 : si 2 = nI so) (ho : so ≤ 6) (x3 : si 3 = nI sg) (hg : sg ≤ 5) (hh : ∀ k, k < sg → h k < 64 ∧ sa 8 k = nI (h k)) (hu : u < 64) : F_X0_heaps (nI u) si sa = some (nI (HC so sg h u so)) := by
  have L : lp (S_X0_heaps_4 si (nI u) sa) 100 (0, 0) = some (nI (HC so sg h u so)) := by
    refine lp_seq so (fun i => (nI i, nI (HC so sg h u i))) ?_ ?_ 100 (by omega)
    · intro i hi rec
      unfold S_X0_heaps_4
      dsimp only
      have hv := HPr_lt ho h i u sg
      have h0 := pos_of_tb (HP_self (sg := sg) (u := u) (fun k hk => (hh k hk).1) hi ho)
      have hl := (lsb_sp _ hv h0).2.1
      rw [x2, if_neg (nI_nle' hi (by omega)), heapOf_eq x2 ho x3 hg hh (by omega) hu, HC_s]
      simp only [Option.bind_some]
      rw [least_eq _ hv h0]
      simp only [Option.bind_some, nI_i64 _ (show lsb (HPr so h i u sg) < 64 by omega) i (by omega), nI_1, Int32.add_zero]
      split <;> rfl
    · intro rec
      unfold S_X0_heaps_4
      dsimp only
      rw [x2, if_pos (nI_le (Nat.le_refl so) (by omega))]
  unfold F_X0_heaps
  rw [L]; rfl
