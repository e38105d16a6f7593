theorem upd_cm (f : Nat → Int32) {i j : Nat} (h : i ≠ j) (a b : Int32) : upd (upd f i a) j b = upd (upd f j b) i a := by
  funext x
  by_cases e : x = i
  · subst e; rw [upd_ne _ _ h, upd_eq, upd_eq]
  · by_cases e2 : x = j
    · subst e2; rw [upd_eq, upd_ne _ _ e, upd_eq]
    · rw [upd_ne _ _ e2, upd_ne _ _ e, upd_ne _ _ e, upd_ne _ _ e2]
theorem sub48 (x : Int32) {lo hi : Int} (h0 : 0 ≤ lo) (h1 : hi ≤ 9) : (lo ≤ (x - 48).toInt ∧ (x - 48).toInt ≤ hi) ↔ (48 + lo ≤ x.toInt ∧ x.toInt ≤ 48 + hi) := by
  have a1 := Int32.le_toInt x
  have a2 := Int32.toInt_lt x
  have e : (x - 48).toInt = (x.toInt - 48).bmod (2 ^ 32) := by
    rw [Int32.toInt_sub]; rfl
  rw [e, Int.bmod_def]
  have p : ((2 ^ 32 : Nat) : Int) = 4294967296 := by decide
  have p2 : (((2 ^ 32 : Nat) : Int) + 1) / 2 = 2147483648 := by decide
  rw [p2, p]
  split <;> omega
/-- the code at a place lies between two figures -/
abbrev Eb (z : Nat → Int32) (p lo hi : Nat) : Prop := (lo : Int) ≤ (z p).toInt ∧ (z p).toInt ≤ hi
def ps (z : Nat → Int32) (p : Nat) : Bool × Nat :=
  if Eb z p 59 59 then
    if Eb z (p + 1) 112 112 ∨ Eb z (p + 1) 115 115 ∨ Eb z (p + 1) 100 100 then
      if Eb z (p + 2) 48 57 then if Eb z (p + 3) 49 57 then if Eb z (p + 4) 48 53 then (true, p + 5) else (false, p + 4) else (false, p + 3) else (false, p + 2)
    else (false, p + 1)
  else (false, p)
def pg (z : Nat → Int32) (p : Nat) : Bool × Nat :=
  if Eb z p 47 47 then
    if Eb z (p + 1) 48 54 then
      if Eb z (p + 2) 48 (if (z (p + 1)).toInt = 54 then 51 else 57) then (true, p + 3) else (false, p + 2)
    else (false, p + 1)
  else (false, p)
def bi (b : Bool) : Int32 := if b = true then 1 else 0
/-- the class's scalars while it reads -/
def XS (si : tSI) (n p s k : Nat) : tSI := upd (upd (upd (upd si 5 (nI n)) 6 (nI p)) 7 (nI s)) 8 (nI k)
theorem XS_6 (si : tSI) (n p s k q : Nat) : upd (XS si n p s k) 6 (nI q) = XS si n q s k := by
  unfold XS
  rw [upd_cm _ (show 8 ≠ 6 by decide), upd_cm _ (show 7 ≠ 6 by decide), upd_upd]
theorem XS_7 (si : tSI) (n p s k q : Nat) : upd (XS si n p s k) 7 (nI q) = XS si n p q k := by
  unfold XS
  rw [upd_cm _ (show 8 ≠ 7 by decide), upd_upd]
theorem XS_8 (si : tSI) (n p s k q : Nat) : upd (XS si n p s k) 8 (nI q) = XS si n p s q := by
  unfold XS
  rw [upd_upd]
section PARX
variable {n : Nat} {z : Nat → Int32} {si : tSI} {sa : tSA}
theorem isNext_eq (hn : n ≤ 60) (hX : ∀ x, x < n → sa 11 x = z x) (hz : ∀ x, n ≤ x → z x = -9) {p s k lo hi : Nat} (hp : p ≤ 100) (hl : lo < 200) (hh : hi < 200) : F_X3_isNext (nI lo) (nI hi) (XS si n p s k) sa = some (if Eb z p lo hi then 1 else 0) := by
  unfold F_X3_isNext
  rw [show XS si n p s k 5 = nI n from rfl, show XS si n p s k 6 = nI p from rfl]
  by_cases c : n ≤ p
  · have e : (z p).toInt = -9 := by rw [hz p c]; rfl
    rw [if_pos (nI_le c (by omega)), if_neg (show ¬ Eb z p lo hi by unfold Eb; omega)]
  · rw [if_neg (nI_nle' (by omega) (by omega)), ld_nI (by omega) (by decide), ld_nI (by omega) (by decide), nI_c (show p < 2 ^ 31 by omega), hX p (by omega)]
    simp only [Int32.lt_iff_toInt_lt, nI_toInt (show lo < 2 ^ 31 by omega), nI_toInt (show hi < 2 ^ 31 by omega)]
    by_cases c1 : (z p).toInt < lo
    · rw [if_pos c1, if_neg (show ¬ Eb z p lo hi by unfold Eb; omega)]
    · rw [if_neg c1]
      by_cases c2 : (hi : Int) < (z p).toInt
      · rw [if_pos c2, if_neg (show ¬ Eb z p lo hi by unfold Eb; omega)]
      · rw [if_neg c2, if_pos (show Eb z p lo hi by unfold Eb; omega)]
theorem passes_eq (hn : n ≤ 60) (hX : ∀ x, x < n → sa 11 x = z x) (hz : ∀ x, n ≤ x → z x = -9) {p s k lo hi : Nat} (hp : p ≤ 100) (hl : lo < 200) (hh : hi < 200) : F_X3_passes (nI lo) (nI hi) (XS si n p s k) sa = some (if Eb z p lo hi then (1, XS si n (p + 1) s k, sa) else (0, XS si n p s k, sa)) := by
  unfold F_X3_passes
  rw [isNext_eq hn hX hz hp hl hh]
  by_cases c : Eb z p lo hi
  · rw [if_pos c, if_pos c]
    simp only [Option.bind_some, if_neg ne10, show XS si n p s k 6 = nI p from rfl, nI_1, XS_6]
  · rw [if_neg c, if_neg c]
    simp only [Option.bind_some, if_true]
theorem passesSort_eq (hn : n ≤ 60) (hX : ∀ x, x < n → sa 11 x = z x) (hz : ∀ x, n ≤ x → z x = -9) {p s k : Nat} (hp : p ≤ 90) : F_X3_passesSort (XS si n p s k) sa = some (bi (ps z p).1, XS si n (ps z p).2 s k, sa) := by
  have Q := fun (lo hi q : Nat) (h1 : lo < 200) (h2 : hi < 200) (h3 : q ≤ 100) => passes_eq (si := si) (s := s) (k := k) hn hX hz h3 h1 h2
  have q59 : F_X3_passes 59 59 (XS si n p s k) sa = _ := Q 59 59 p (by decide) (by decide) (by omega)
  have qp : F_X3_passes 112 112 (XS si n (p + 1) s k) sa = _ := Q 112 112 (p + 1) (by decide) (by decide) (by omega)
  have qs : F_X3_passes 115 115 (XS si n (p + 1) s k) sa = _ := Q 115 115 (p + 1) (by decide) (by decide) (by omega)
  have qd : F_X3_passes 100 100 (XS si n (p + 1) s k) sa = _ := Q 100 100 (p + 1) (by decide) (by decide) (by omega)
  have q2 : F_X3_passes 48 57 (XS si n (p + 1 + 1) s k) sa = _ := Q 48 57 (p + 2) (by decide) (by decide) (by omega)
  have q3 : F_X3_passes 49 57 (XS si n (p + 1 + 1 + 1) s k) sa = _ := Q 49 57 (p + 3) (by decide) (by decide) (by omega)
  have q4 : F_X3_passes 48 53 (XS si n (p + 1 + 1 + 1 + 1) s k) sa = _ := Q 48 53 (p + 4) (by decide) (by decide) (by omega)
  have rest : ∀ b : Bool, b = true → (F_X3_passes 48 57 (XS si n (p + 1 + 1) s k) sa).bind (fun r5 => if r5.1 = 0 then some ((0 : Int32), r5.2.1, r5.2.2) else (F_X3_passes 49 57 r5.2.1 r5.2.2).bind fun r7 => if r7.1 = 0 then some ((0 : Int32), r7.2.1, r7.2.2) else (F_X3_passes 48 53 r7.2.1 r7.2.2).bind fun r9 => if r9.1 = 0 then some ((0 : Int32), r9.2.1, r9.2.2) else some ((1 : Int32), r9.2.1, r9.2.2)) = some (bi (if Eb z (p + 2) 48 57 then if Eb z (p + 3) 49 57 then if Eb z (p + 4) 48 53 then (true, p + 5) else (false, p + 4) else (false, p + 3) else (false, p + 2)).1, XS si n (if Eb z (p + 2) 48 57 then if Eb z (p + 3) 49 57 then if Eb z (p + 4) 48 53 then (true, p + 5) else (false, p + 4) else (false, p + 3) else (false, p + 2)).2 s k, sa) := by
    intro _ _
    rw [q2]
    by_cases c2 : Eb z (p + 2) 48 57
    · rw [if_pos c2, if_pos c2]
      simp only [Option.bind_some, if_neg ne10]
      rw [q3]
      by_cases c3 : Eb z (p + 3) 49 57
      · rw [if_pos c3, if_pos c3]
        simp only [Option.bind_some, if_neg ne10]
        rw [q4]
        by_cases c4 : Eb z (p + 4) 48 53
        · rw [if_pos c4, if_pos c4]
          simp only [Option.bind_some, if_neg ne10]
          rfl
        · rw [if_neg c4, if_neg c4]
          simp only [Option.bind_some, if_true]
          rfl
      · rw [if_neg c3, if_neg c3]
        simp only [Option.bind_some, if_true]
        rfl
    · rw [if_neg c2, if_neg c2]
      simp only [Option.bind_some, if_true]
      rfl
  unfold F_X3_passesSort F_X3_passesKind ps
  rw [q59]
  by_cases c0 : Eb z p 59 59
  · rw [if_pos c0, if_pos c0]
    simp only [Option.bind_some, if_neg ne10]
    rw [qp]
    by_cases d1 : Eb z (p + 1) 112 112
    · rw [if_pos d1, if_pos (Or.inl d1)]
      simp only [Option.bind_some, if_neg ne10]
      exact rest true rfl
    · rw [if_neg d1]
      simp only [Option.bind_some, if_true]
      rw [qs]
      by_cases d2 : Eb z (p + 1) 115 115
      · rw [if_pos d2, if_pos (Or.inr (Or.inl d2))]
        simp only [Option.bind_some, if_neg ne10]
        exact rest true rfl
      · rw [if_neg d2]
        simp only [Option.bind_some, if_true]
        rw [qd]
        by_cases d3 : Eb z (p + 1) 100 100
        · rw [if_pos d3, if_pos (Or.inr (Or.inr d3))]
          simp only [Option.bind_some, if_neg ne10]
          exact rest true rfl
        · rw [if_neg d3, if_neg (fun q => by rcases q with q | q | q <;> contradiction)]
          simp only [Option.bind_some, if_true]
          rfl
  · rw [if_neg c0, if_neg c0]
    simp only [Option.bind_some, if_true]
    rfl
theorem passesSign_eq (hn : n ≤ 60) (hX : ∀ x, x < n → sa 11 x = z x) (hz : ∀ x, n ≤ x → z x = -9) {p s k : Nat} (hp : p ≤ 90) : F_X3_passesSign (XS si n p s k) sa = some (bi (pg z p).1, XS si n (pg z p).2 s k, sa) := by
  have Q := fun (lo hi q : Nat) (h1 : lo < 200) (h2 : hi < 200) (h3 : q ≤ 100) => passes_eq (si := si) (s := s) (k := k) hn hX hz h3 h1 h2
  have q0 : F_X3_passes 47 47 (XS si n p s k) sa = _ := Q 47 47 p (by decide) (by decide) (by omega)
  have q1 : F_X3_passes 48 54 (XS si n (p + 1) s k) sa = _ := Q 48 54 (p + 1) (by decide) (by decide) (by omega)
  have qn : F_X3_isNext 54 54 (XS si n (p + 1) s k) sa = _ := isNext_eq (si := si) (s := s) (k := k) (lo := 54) (hi := 54) (p := p + 1) hn hX hz (by omega) (by decide) (by decide)
  unfold F_X3_passesSign pg
  rw [q0]
  by_cases c0 : Eb z p 47 47
  · rw [if_pos c0, if_pos c0]
    simp only [Option.bind_some, if_neg ne10]
    rw [qn]
    simp only [Option.bind_some]
    have key : ∀ hi : Nat, hi < 200 → ∀ x4 : Int32, x4 = nI hi → (F_X3_passes 48 54 (XS si n (p + 1) s k) sa).bind (fun r5 => if r5.1 = 0 then some ((0 : Int32), r5.2.1, r5.2.2) else (F_X3_passes 48 x4 r5.2.1 r5.2.2).bind fun r7 => if r7.1 = 0 then some ((0 : Int32), r7.2.1, r7.2.2) else some ((1 : Int32), r7.2.1, r7.2.2)) = some (bi (if Eb z (p + 1) 48 54 then if Eb z (p + 2) 48 hi then (true, p + 3) else (false, p + 2) else (false, p + 1)).1, XS si n (if Eb z (p + 1) 48 54 then if Eb z (p + 2) 48 hi then (true, p + 3) else (false, p + 2) else (false, p + 1)).2 s k, sa) := by
      intro hi hhi x4 hx
      subst hx
      rw [q1]
      by_cases c1 : Eb z (p + 1) 48 54
      · rw [if_pos c1, if_pos c1]
        simp only [Option.bind_some, if_neg ne10]
        have q2 : F_X3_passes 48 (nI hi) (XS si n (p + 1 + 1) s k) sa = _ := Q 48 hi (p + 2) (by decide) hhi (by omega)
        rw [q2]
        by_cases c2 : Eb z (p + 2) 48 hi
        · rw [if_pos c2, if_pos c2]
          simp only [Option.bind_some, if_neg ne10]
          rfl
        · rw [if_neg c2, if_neg c2]
          simp only [Option.bind_some, if_true]
          rfl
      · rw [if_neg c1, if_neg c1]
        simp only [Option.bind_some, if_true]
        rfl
    by_cases d : (z (p + 1)).toInt = 54
    · rw [if_pos (show Eb z (p + 1) 54 54 by unfold Eb; omega), if_neg ne10, if_pos d]
      exact key 51 (by decide) 51 rfl
    · rw [if_neg (show ¬ Eb z (p + 1) 54 54 by unfold Eb; omega), if_pos rfl, if_neg d]
      exact key 57 (by decide) 57 rfl
  · rw [if_neg c0, if_neg c0]
    simp only [Option.bind_some, if_true]
    rfl
end PARX
