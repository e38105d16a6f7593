def TS (ti : tSI) (p s k : Nat) : tSI := upd (upd (upd ti 3 (nI p)) 4 (nI s)) 5 (nI k)
theorem TS_3 (ti : tSI) (p s k q : Nat) : upd (TS ti p s k) 3 (nI q) = TS ti q s k := by
  unfold TS
  rw [upd_cm _ (show 5 ≠ 3 by decide), upd_cm _ (show 4 ≠ 3 by decide), upd_upd]
theorem TS_4 (ti : tSI) (p s k q : Nat) : upd (TS ti p s k) 4 (nI q) = TS ti p q k := by
  unfold TS
  rw [upd_cm _ (show 5 ≠ 4 by decide), upd_upd]
theorem TS_5 (ti : tSI) (p s k q : Nat) : upd (TS ti p s k) 5 (nI q) = TS ti p s q := by
  unfold TS
  rw [upd_upd]
def kd (x : Int32) : Int32 := if x = 112 then 0 else if x = 115 then 1 else 2
def WS (z : Nat → Int32) (A : tSA) (s p : Nat) : tSA := va_up (va_up (va_up (va_up A 5 (upd (A 5) s (kd (z (p + 1))))) 6 (upd (A 6) s (z (p + 2) - 48))) 7 (upd (A 7) s (z (p + 3) - 48))) 8 (upd (A 8) s (z (p + 4) - 48))
def WG (z : Nat → Int32) (A : tSA) (k p : Nat) : tSA := va_up A 9 (upd (A 9) k (10 * (z (p + 1) - 48) + (z (p + 2) - 48)))
section PARM
variable {n B : Nat} {z : Nat → Int32} {ti : tSI} {A : tSA}
theorem codeAt_eq (hn : n ≤ 60) (hB : B + n ≤ 240) (hM : ∀ x, x < n → A 20 (B + x) = z x) (hz : ∀ x, n ≤ x → z x = -9) {p s k : Nat} (hp : p ≤ 100) : F_X6_codeAt (nI B) (nI n) (TS ti p s k) A = some (z p) := by
  unfold F_X6_codeAt
  rw [show TS ti p s k 3 = nI p from rfl]
  by_cases c : n ≤ p
  · rw [if_pos (nI_le c (by omega)), hz p c]
  · rw [if_neg (nI_nle' (by omega) (by omega)), nI_add, ld_nI (by omega) (by decide), nI_c (show B + p < 2 ^ 31 by omega), hM p (by omega)]
theorem figure_eq (hn : n ≤ 60) (hB : B + n ≤ 240) (hM : ∀ x, x < n → A 20 (B + x) = z x) (hz : ∀ x, n ≤ x → z x = -9) {p s k lo hi : Nat} (hp : p ≤ 100) (hh : hi ≤ 9) (hl : lo ≤ 9) : F_X6_figure (nI B) (nI n) (nI lo) (nI hi) (TS ti p s k) A = some (if Eb z p (48 + lo) (48 + hi) then (z p - 48, TS ti (p + 1) s k, A) else (-9, TS ti p s k, A)) := by
  unfold F_X6_figure
  rw [codeAt_eq hn hB hM hz hp]
  simp only [Option.bind_some, in_eq, Int32.toInt_toInt64, nI_toInt (show lo < 2 ^ 31 by omega), nI_toInt (show hi < 2 ^ 31 by omega), sub48 (z p) (show (0 : Int) ≤ lo by omega) (show (hi : Int) ≤ 9 by omega)]
  by_cases c : Eb z p (48 + lo) (48 + hi)
  · have c' : 48 + (lo : Int) ≤ (z p).toInt ∧ (z p).toInt ≤ 48 + (hi : Int) := by unfold Eb at c; omega
    rw [if_pos c, if_pos c']
    simp only [Option.bind_some, if_neg ne10, show TS ti p s k 3 = nI p from rfl, nI_1, TS_3]
  · have c' : ¬ (48 + (lo : Int) ≤ (z p).toInt ∧ (z p).toInt ≤ 48 + (hi : Int)) := by unfold Eb at c; omega
    rw [if_neg c, if_neg c']
    simp only [Option.bind_some, if_true, show TS ti p s k 3 = nI p from rfl, Int32.add_zero, TS_3]
theorem ge48 {z : Nat → Int32} {p lo hi : Nat} (h1 : 48 ≤ lo) (h2 : hi ≤ 57) (c : Eb z p lo hi) : 0 ≤ z p - 48 := by
  rw [Int32.le_iff_toInt_le, show (0 : Int32).toInt = 0 from rfl]
  have := (sub48 (z p) (lo := 0) (hi := 9) (by omega) (by omega)).mpr (by unfold Eb at c; omega)
  exact this.1
theorem eq_i {x : Int32} {m : Nat} (hm : m < 2 ^ 31) : x = nI m ↔ x.toInt = m := by
  rw [← Int32.toInt_inj, nI_toInt hm]
theorem readsSort_eq (hn : n ≤ 60) (hB : B + n ≤ 240) (hM : ∀ x, x < n → A 20 (B + x) = z x) (hz : ∀ x, n ≤ x → z x = -9) {p s k : Nat} (hp : p ≤ 90) (hs : s < 6) : F_X6_readsSort (nI B) (nI n) (TS ti p s k) A = some (bi (ps z p).1, TS ti (ps z p).2 (if (ps z p).1 = true then s + 1 else s) k, if (ps z p).1 = true then WS z A s p else A) := by
  have C := fun (q : Nat) (h : q ≤ 100) => codeAt_eq (ti := ti) (s := s) (k := k) hn hB hM hz h
  have Q := fun (lo hi q : Nat) (h1 : hi ≤ 9) (h3 : lo ≤ 9) (h2 : q ≤ 100) => figure_eq (ti := ti) (s := s) (k := k) hn hB hM hz h2 h1 h3
  have q2 : F_X6_figure (nI B) (nI n) 0 9 (TS ti (p + 1 + 1) s k) A = _ := Q 0 9 (p + 2) (by decide) (by decide) (by omega)
  have q3 : F_X6_figure (nI B) (nI n) 1 9 (TS ti (p + 1 + 1 + 1) s k) A = _ := Q 1 9 (p + 3) (by decide) (by decide) (by omega)
  have q4 : F_X6_figure (nI B) (nI n) 0 5 (TS ti (p + 1 + 1 + 1 + 1) s k) A = _ := Q 0 5 (p + 4) (by decide) (by decide) (by omega)
  have h6 : ¬ nI s = 6 := fun q => by
    have := (nI_i64 s (by omega) 6 (by decide)).mp q
    omega
  have rest : ∀ b : Bool, b = true → K_X6_readsSort_59 (nI B) (nI n) (TS ti p s k) A (z (p + 1)) = some (bi (if Eb z (p + 2) 48 57 then if Eb z (p + 3) 49 57 then if Eb z (p + 4) 48 53 then (true, p + 5) else (false, p + 4) else (false, p + 3) else (false, p + 2)).1, TS ti (if Eb z (p + 2) 48 57 then if Eb z (p + 3) 49 57 then if Eb z (p + 4) 48 53 then (true, p + 5) else (false, p + 4) else (false, p + 3) else (false, p + 2)).2 (if (if Eb z (p + 2) 48 57 then if Eb z (p + 3) 49 57 then if Eb z (p + 4) 48 53 then (true, p + 5) else (false, p + 4) else (false, p + 3) else (false, p + 2)).1 = true then s + 1 else s) k, if (if Eb z (p + 2) 48 57 then if Eb z (p + 3) 49 57 then if Eb z (p + 4) 48 53 then (true, p + 5) else (false, p + 4) else (false, p + 3) else (false, p + 2)).1 = true then WS z A s p else A) := by
    intro _ _
    unfold K_X6_readsSort_59
    simp only [show TS ti p s k 3 = nI p from rfl, nI_1, TS_3]
    rw [q2]
    by_cases c2 : Eb z (p + 2) 48 57
    · rw [if_pos (show Eb z (p + 2) (48 + 0) (48 + 9) from c2), if_pos c2]
      simp only [Option.bind_some, if_pos (ge48 (by decide) (by decide) c2)]
      rw [q3]
      by_cases c3 : Eb z (p + 3) 49 57
      · rw [if_pos (show Eb z (p + 3) (48 + 1) (48 + 9) from c3), if_pos c3]
        simp only [Option.bind_some, if_pos (ge48 (by decide) (by decide) c3)]
        rw [q4]
        by_cases c4 : Eb z (p + 4) 48 53
        · rw [if_pos (show Eb z (p + 4) (48 + 0) (48 + 5) from c4), if_pos c4]
          simp only [Option.bind_some, if_pos (ge48 (by decide) (by decide) c4), show TS ti (p + 4 + 1) s k 4 = nI s from rfl, ld_nI hs (show 6 < 2 ^ 31 by decide), nI_c (show s < 2 ^ 31 by omega), nI_1, TS_4, if_true]
          unfold WS kd
          by_cases k1 : z (p + 1) = 112
          · simp only [if_pos k1, Option.bind_some]; rfl
          · by_cases k2 : z (p + 1) = 115
            · simp only [if_neg k1, if_pos k2, Option.bind_some]; rfl
            · simp only [if_neg k1, if_neg k2, Option.bind_some]; rfl
        · rw [if_neg (show ¬ Eb z (p + 4) (48 + 0) (48 + 5) from c4), if_neg c4]
          simp only [Option.bind_some, if_neg (show ¬ (0 : Int32) ≤ -9 by decide)]
          rfl
      · rw [if_neg (show ¬ Eb z (p + 3) (48 + 1) (48 + 9) from c3), if_neg c3]
        simp only [Option.bind_some, if_neg (show ¬ (0 : Int32) ≤ -9 by decide)]
        rfl
    · rw [if_neg (show ¬ Eb z (p + 2) (48 + 0) (48 + 9) from c2), if_neg c2]
      simp only [Option.bind_some, if_neg (show ¬ (0 : Int32) ≤ -9 by decide)]
      rfl
  have w59 : z p = 59 ↔ Eb z p 59 59 := by
    have := eq_i (x := z p) (m := 59) (by decide)
    exact this.trans (by unfold Eb; omega)
  have wk : ∀ m : Nat, m < 2 ^ 31 → (z (p + 1) = nI m ↔ Eb z (p + 1) m m) := by
    intro m hm
    have := eq_i (x := z (p + 1)) (m := m) hm
    exact this.trans (by unfold Eb; omega)
  unfold F_X6_readsSort ps
  rw [show TS ti p s k 4 = nI s from rfl, if_neg h6, C p (by omega)]
  simp only [Option.bind_some, show TS ti p s k 3 = nI p from rfl, nI_1, TS_3]
  by_cases c0 : Eb z p 59 59
  · rw [if_pos (w59.mpr c0), if_pos c0, C (p + 1) (by omega)]
    simp only [Option.bind_some]
    by_cases d1 : Eb z (p + 1) 112 112
    · rw [if_pos (show z (p + 1) = 112 from (wk 112 (by decide)).mpr d1), if_pos (Or.inl d1)]
      exact rest true rfl
    · rw [if_neg (show ¬ z (p + 1) = 112 from fun q => d1 ((wk 112 (by decide)).mp q))]
      by_cases d2 : Eb z (p + 1) 115 115
      · rw [if_pos (show z (p + 1) = 115 from (wk 115 (by decide)).mpr d2), if_pos (Or.inr (Or.inl d2))]
        exact rest true rfl
      · rw [if_neg (show ¬ z (p + 1) = 115 from fun q => d2 ((wk 115 (by decide)).mp q))]
        by_cases d3 : Eb z (p + 1) 100 100
        · rw [if_pos (show z (p + 1) = 100 from (wk 100 (by decide)).mpr d3), if_pos (Or.inr (Or.inr d3))]
          exact rest true rfl
        · rw [if_neg (show ¬ z (p + 1) = 100 from fun q => d3 ((wk 100 (by decide)).mp q)), if_neg (fun q => by rcases q with q | q | q <;> contradiction)]
          rfl
  · rw [if_neg (fun q => c0 (w59.mp q)), if_neg c0]
    rfl
theorem readsSign_eq (hn : n ≤ 60) (hB : B + n ≤ 240) (hM : ∀ x, x < n → A 20 (B + x) = z x) (hz : ∀ x, n ≤ x → z x = -9) {p s k : Nat} (hp : p ≤ 90) (hk : k < 5) : F_X6_readsSign (nI B) (nI n) (TS ti p s k) A = some (bi (pg z p).1, TS ti (pg z p).2 s (if (pg z p).1 = true then k + 1 else k), if (pg z p).1 = true then WG z A k p else A) := by
  have Q := fun (lo hi q : Nat) (h1 : hi ≤ 9) (h3 : lo ≤ 9) (h2 : q ≤ 100) => figure_eq (ti := ti) (s := s) (k := k) hn hB hM hz h2 h1 h3
  have q1 : F_X6_figure (nI B) (nI n) 0 6 (TS ti (p + 1) s k) A = _ := Q 0 6 (p + 1) (by decide) (by decide) (by omega)
  have q2a : F_X6_figure (nI B) (nI n) 0 3 (TS ti (p + 1 + 1) s k) A = _ := Q 0 3 (p + 2) (by decide) (by decide) (by omega)
  have q2b : F_X6_figure (nI B) (nI n) 0 9 (TS ti (p + 1 + 1) s k) A = _ := Q 0 9 (p + 2) (by decide) (by decide) (by omega)
  have h5 : ¬ nI k = 5 := fun q => by
    have := (nI_i64 k (by omega) 5 (by decide)).mp q
    omega
  have w47 : z p = 47 ↔ Eb z p 47 47 := by
    have := eq_i (x := z p) (m := 47) (by decide)
    exact this.trans (by unfold Eb; omega)
  unfold F_X6_readsSign pg
  rw [show TS ti p s k 5 = nI k from rfl, if_neg h5, codeAt_eq hn hB hM hz (show p ≤ 100 by omega)]
  simp only [Option.bind_some, show TS ti p s k 3 = nI p from rfl, nI_1, TS_3]
  by_cases c0 : Eb z p 47 47
  · rw [if_pos (w47.mpr c0), if_pos c0, q1]
    simp only [Option.bind_some]
    by_cases c1 : Eb z (p + 1) 48 54
    · rw [if_pos (show Eb z (p + 1) (48 + 0) (48 + 6) from c1), if_pos c1]
      have g1 := ge48 (by decide) (by decide) c1
      simp only [if_pos g1]
      have w6 : z (p + 1) - 48 = 6 ↔ (z (p + 1)).toInt = 54 := by
        have a := eq_i (x := z (p + 1) - 48) (m := 6) (by decide)
        have b := sub48 (z (p + 1)) (lo := 6) (hi := 6) (by decide) (by decide)
        refine a.trans ?_
        omega
      have fin : ∀ o : Nat, Eb z (p + 2) 48 o → o ≤ 57 → ∀ r : Option (Int32 × tSI × tSA), r = some (z (p + 2) - 48, TS ti (p + 2 + 1) s k, A) → (r.bind fun r10 => some (r10.1, r10.2.1, r10.2.2)).bind (fun x5 : Int32 × tSI × tSA => if 0 ≤ x5.1 then ld (x5.2.1 5) 5 (some ((1 : Int32), upd x5.2.1 5 ((x5.2.1 5) + 1), va_up x5.2.2 9 (upd (x5.2.2 9) (x5.2.1 5).toNatClampNeg ((10 * (z (p + 1) - 48)) + x5.1)))) else some ((0 : Int32), x5.2.1, x5.2.2)) = some (bi true, TS ti (p + 3) s (k + 1), WG z A k p) := by
        intro o ho ho2 r hr
        subst hr
        simp only [Option.bind_some, if_pos (ge48 (by decide) ho2 ho), show TS ti (p + 2 + 1) s k 5 = nI k from rfl, ld_nI hk (show 5 < 2 ^ 31 by decide), nI_c (show k < 2 ^ 31 by omega), nI_1, TS_5]
        rfl
      have fin2 : ∀ r : Option (Int32 × tSI × tSA), r = some (-9, TS ti (p + 2) s k, A) → (r.bind fun r10 => some (r10.1, r10.2.1, r10.2.2)).bind (fun x5 : Int32 × tSI × tSA => if 0 ≤ x5.1 then ld (x5.2.1 5) 5 (some ((1 : Int32), upd x5.2.1 5 ((x5.2.1 5) + 1), va_up x5.2.2 9 (upd (x5.2.2 9) (x5.2.1 5).toNatClampNeg ((10 * (z (p + 1) - 48)) + x5.1)))) else some ((0 : Int32), x5.2.1, x5.2.2)) = some (bi false, TS ti (p + 2) s k, A) := by
        intro r hr
        subst hr
        simp only [Option.bind_some, if_neg (show ¬ (0 : Int32) ≤ -9 by decide)]
        rfl
      by_cases d : (z (p + 1)).toInt = 54
      · rw [if_pos (w6.mpr d), if_pos d]
        by_cases c2 : Eb z (p + 2) 48 51
        · rw [if_pos c2]
          exact fin 51 c2 (by decide) _ (q2a.trans (by rw [if_pos (show Eb z (p + 2) (48 + 0) (48 + 3) from c2)]))
        · rw [if_neg c2]
          exact fin2 _ (q2a.trans (by rw [if_neg (show ¬ Eb z (p + 2) (48 + 0) (48 + 3) from c2)]))
      · rw [if_neg (fun q => d (w6.mp q)), if_neg d]
        by_cases c2 : Eb z (p + 2) 48 57
        · rw [if_pos c2]
          exact fin 57 c2 (by decide) _ (q2b.trans (by rw [if_pos (show Eb z (p + 2) (48 + 0) (48 + 9) from c2)]))
        · rw [if_neg c2]
          exact fin2 _ (q2b.trans (by rw [if_neg (show ¬ Eb z (p + 2) (48 + 0) (48 + 9) from c2)]))
    · rw [if_neg (show ¬ Eb z (p + 1) (48 + 0) (48 + 6) from c1), if_neg c1]
      simp only [Option.bind_some, if_neg (show ¬ (0 : Int32) ≤ -9 by decide)]
      rfl
  · rw [if_neg (fun q => c0 (w47.mp q)), if_neg c0]
    rfl
end PARM
