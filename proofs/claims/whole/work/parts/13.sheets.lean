theorem add64 (i n : Int32) : (i.toInt64 + n.toInt64).toInt = i.toInt + n.toInt := by
  have h1 := Int32.toInt_lt i
  have h2 := Int32.le_toInt i
  have h3 := Int32.toInt_lt n
  have h4 := Int32.le_toInt n
  rw [Int64.toInt_add, Int32.toInt_toInt64, Int32.toInt_toInt64]
  exact Int.bmod_eq_of_le (by omega) (by omega)
theorem lim64' : ∀ n, n ≤ 61 → (nI n).toInt64.toInt = (n : Int) := by decide
theorem ix1 (k j : Nat) : nI k * 60 + nI j = nI (60 * k + j) := by
  rw [show (60 : Int32) = nI 60 from rfl, pk_mul, nI_add, Nat.mul_comm]
theorem ix2 (k j : Nat) : 60 * nI k + nI j = nI (60 * k + j) := by
  rw [show (60 : Int32) = nI 60 from rfl, pk_mul, nI_add]
theorem subI {m j : Nat} (h : j ≤ m) : nI m - nI j = nI (m - j) := pk_sub h
theorem span_eq {k m : Nat} (hk : k < 4) (hm : m ≤ 60) {sa : tSA} (h : sa 3 k = nI m) (si : tSI) (i n : Int32) : F_X2_faultOfSpan (nI k) i n si sa = some (if 0 ≤ i.toInt ∧ 0 ≤ n.toInt ∧ i.toInt + n.toInt ≤ m then 0 else 3) := by
  unfold F_X2_faultOfSpan
  simp only [ld_nI hk (show 4 < 2 ^ 31 by decide), nI_c (show k < 2 ^ 31 by omega), h, Int32.lt_iff_toInt_lt, nI_toInt (show m < 2 ^ 31 by omega), show (0 : Int32).toInt = 0 from rfl]
  by_cases h1 : i.toInt < 0
  · rw [if_pos h1, if_neg (by omega)]; rfl
  · rw [if_neg h1]
    by_cases h2 : (m : Int) < i.toInt
    · rw [if_pos h2, if_neg (by omega)]; rfl
    · rw [if_neg h2]
      obtain ⟨j, hj, rfl⟩ := nI_exle (n := m) (by omega) (show i.toInt ≤ m by omega)
      rw [subI hj, nI_toInt (show m - j < 2 ^ 31 by omega), nI_toInt (show j < 2 ^ 31 by omega)]
      by_cases h3 : n.toInt < 0
      · rw [if_pos h3, if_neg (by omega)]; rfl
      · rw [if_neg h3]
        by_cases h4 : ((m - j : Nat) : Int) < n.toInt
        · rw [if_pos h4, if_neg (by omega)]; rfl
        · rw [if_neg h4, if_pos (by omega)]; rfl
theorem beyond_eq {m : Nat} (hm : m ≤ 60) (i n : Int32) : F_X6_isBeyond i n.toInt64 (nI m) = some (if 0 ≤ i.toInt ∧ 0 ≤ n.toInt ∧ i.toInt + n.toInt ≤ m then 0 else 1) := by
  unfold F_X6_isBeyond
  simp only [lcmp_lt, lcmp_le]
  simp only [add64, Int32.toInt_toInt64, lim64' m (by omega), show (0 : Int64).toInt = 0 from rfl, Int32.lt_iff_toInt_lt, show (0 : Int32).toInt = 0 from rfl]
  by_cases h1 : i.toInt < 0
  · rw [if_pos h1, if_neg (by omega)]
  · rw [if_neg h1]
    by_cases h3 : n.toInt < 0
    · rw [if_pos h3, if_neg (by omega)]
    · rw [if_neg h3]
      by_cases h4 : i.toInt + n.toInt ≤ m
      · rw [if_pos h4, if_pos (by omega)]
      · rw [if_neg h4, if_neg (by omega)]
theorem asRow_eq {k : Nat} (hk : k < 4) (si : tSI) (sa : tSA) (a : Int32) : F_X2_faultAsRow (nI k) a si sa = some (if sa 3 k = -9 then 1 else if sa 2 k = a then 0 else 2) := by
  unfold F_X2_faultAsRow F_X2_isEmpty
  simp only [ld_nI hk (show 4 < 2 ^ 31 by decide), nI_c (show k < 2 ^ 31 by omega)]
  by_cases h : sa 3 k = -9
  · rw [if_pos h, if_pos h]; rfl
  · rw [if_neg h, if_neg h]
    simp only [Option.bind_some, if_true]
    split <;> rfl
theorem nI_ne9 {m : Nat} (h : m < 2 ^ 31) : ¬ nI m = -9 := by
  intro e
  have := congrArg Int32.toInt e
  rw [nI_toInt h, show (-9 : Int32).toInt = -9 from rfl] at this
  omega
theorem nI_ge0 {m : Nat} (h : m < 2 ^ 31) : 0 ≤ nI m := by
  rw [Int32.le_iff_toInt_le, nI_toInt h, show (0 : Int32).toInt = 0 from rfl]; omega
/-- what bars cells: on both sides the same -/
theorem barred_cases {k : Nat} (hk : k < 4) {sa : tSA} {ti : tSI} {ta : tSA} (hsz : (sa 3 k = -9 ∧ ta 18 k = -1) ∨ ∃ n, n ≤ 60 ∧ sa 3 k = nI n ∧ ta 18 k = nI n) (hln : ta 19 = sa 2) (a i n : Int32) :
    ((∀ si, F_X2_faultAsRow (nI k) a si sa = some 1) ∧ F_X6_cellsBarred (nI k) a i n.toInt64 ti ta = some (-11, upd ti 0 1, ta)) ∨
    ((∀ si, F_X2_faultAsRow (nI k) a si sa = some 2) ∧ F_X6_cellsBarred (nI k) a i n.toInt64 ti ta = some (-12, upd ti 0 2, ta)) ∨
    ((∀ si, F_X2_faultAsRow (nI k) a si sa = some 0) ∧ n.toInt < 0 ∧ F_X6_cellsBarred (nI k) a i n.toInt64 ti ta = some (-14, upd ti 0 4, ta)) ∨
    ((∀ si, F_X2_faultAsRow (nI k) a si sa = some 0) ∧ 0 ≤ n.toInt ∧ (∀ si, F_X2_faultOfSpan (nI k) i n si sa = some 3) ∧ F_X6_cellsBarred (nI k) a i n.toInt64 ti ta = some (-13, upd ti 0 3, ta)) ∨
    (∃ m, m ≤ 60 ∧ sa 3 k = nI m ∧ (∀ si, F_X2_faultAsRow (nI k) a si sa = some 0) ∧ (∀ si, F_X2_faultOfSpan (nI k) i n si sa = some 0) ∧ 0 ≤ i.toInt ∧ 0 ≤ n.toInt ∧ i.toInt + n.toInt ≤ m ∧ F_X6_cellsBarred (nI k) a i n.toInt64 ti ta = some (0, ti, ta)) := by
  have hc := nI_c (show k < 2 ^ 31 by omega)
  have hl := fun {β : Type} (x : Option β) => ld_nI (x := x) hk (show 4 < 2 ^ 31 by decide)
  unfold F_X6_cellsBarred K_X6_cellsBarred_25
  simp only [hl, hc, hln]
  rcases hsz with ⟨e1, e2⟩ | ⟨m, hm, e1, e2⟩
  · left
    refine ⟨fun si => by rw [asRow_eq hk, if_pos e1], ?_⟩
    rw [e2, if_pos (by decide), if_neg (by decide)]; rfl
  · have hm31 : m < 2 ^ 31 := by omega
    right
    rw [e2, if_neg (by rw [i32_nlt]; exact nI_ge0 hm31), if_pos (nI_ge0 hm31)]
    by_cases h2 : sa 2 k = a
    · right
      rw [if_pos h2]
      have ha : ∀ si, F_X2_faultAsRow (nI k) a si sa = some 0 := fun si => by rw [asRow_eq hk, e1, if_neg (nI_ne9 hm31), if_pos h2]
      simp only [lcmp_ge, show (0 : Int64).toInt = 0 from rfl, Int32.toInt_toInt64, beyond_eq hm]
      by_cases h3 : 0 ≤ n.toInt
      · right
        rw [if_pos h3]
        by_cases h4 : 0 ≤ i.toInt ∧ 0 ≤ n.toInt ∧ i.toInt + n.toInt ≤ m
        · right
          refine ⟨m, hm, e1, ha, fun si => by rw [span_eq hk hm e1, if_pos h4], h4.1, h4.2.1, h4.2.2, ?_⟩
          rw [if_pos h4]; rfl
        · left
          refine ⟨ha, h3, fun si => by rw [span_eq hk hm e1, if_neg h4], ?_⟩
          rw [if_neg h4]; rfl
      · left
        refine ⟨ha, by omega, ?_⟩
        rw [if_neg h3]; rfl
    · left
      refine ⟨fun si => by rw [asRow_eq hk, e1, if_neg (nI_ne9 hm31), if_neg h2], ?_⟩
      rw [if_neg h2]; rfl
/-- what bars one cell -/
theorem cell_cases {k : Nat} (hk : k < 4) {sa : tSA} {ta : tSA} (hsz : (sa 3 k = -9 ∧ ta 18 k = -1) ∨ ∃ n, n ≤ 60 ∧ sa 3 k = nI n ∧ ta 18 k = nI n) (i : Int32) :
    ∃ f : Int32, (∀ si, F_X2_faultOfCell (nI k) i si sa = some f) ∧ (∀ ti, F_X6_noCell (nI k) i ti ta = some f) ∧ (f = 1 ∨ f = 3 ∨ (f = 0 ∧ ∃ m j, m ≤ 60 ∧ j < m ∧ i = nI j ∧ sa 3 k = nI m)) := by
  have hc := nI_c (show k < 2 ^ 31 by omega)
  have hl := fun {β : Type} (x : Option β) => ld_nI (x := x) hk (show 4 < 2 ^ 31 by decide)
  unfold F_X2_faultOfCell F_X6_noCell F_X2_isEmpty
  simp only [hl, hc]
  rcases hsz with ⟨e1, e2⟩ | ⟨m, hm, e1, e2⟩
  · refine ⟨1, fun si => ?_, fun ti => ?_, Or.inl rfl⟩
    · rw [e1]; rfl
    · rw [e2, if_neg (by decide)]
  · have hm31 : m < 2 ^ 31 := by omega
    rw [e1, e2, if_neg (nI_ne9 hm31), if_pos (nI_ge0 hm31), in_eq, lim64 m (by omega), Int32.toInt_toInt64, show (0 : Int64).toInt = 0 from rfl]
    simp only [Option.bind_some, if_true, Int32.lt_iff_toInt_lt, Int32.le_iff_toInt_le, nI_toInt hm31, show (0 : Int32).toInt = 0 from rfl]
    by_cases h1 : 0 ≤ i.toInt ∧ i.toInt < m
    · obtain ⟨j, hj, ej⟩ := nI_ex h1.1 h1.2
      refine ⟨0, fun si => ?_, fun ti => ?_, Or.inr (Or.inr ⟨rfl, m, j, hm, hj, ej, rfl⟩)⟩
      · rw [if_neg (show ¬ i.toInt < 0 by omega), if_neg (show ¬ (m : Int) ≤ i.toInt by omega)]
      · rw [if_pos (show 0 ≤ i.toInt ∧ i.toInt ≤ (m : Int) - 1 by omega)]; rfl
    · refine ⟨3, fun si => ?_, fun ti => ?_, Or.inr (Or.inl rfl)⟩
      · by_cases h2 : i.toInt < 0
        · rw [if_pos h2]
        · rw [if_neg h2, if_pos (show (m : Int) ≤ i.toInt by omega)]
      · rw [if_neg (show ¬ (0 ≤ i.toInt ∧ i.toInt ≤ (m : Int) - 1) by omega)]; rfl
/-- the fault alone changes -/
theorem Rel.fault {si : tSI} {sa : tSA} {ti : tSI} {ta : tSA} (R : Rel si sa ti ta) (f : Int32) : Rel (upd si 1 f) sa (upd ti 0 f) ta := by
  obtain ⟨so, sg, rd, ho, ho2, hg, hd, x2, m1, x3, m2, x4, m8, htr, hfa, hki, hco, hse, hal, hrs, hrt, hln, hce, hsz, hkr, hcr, hsr, har, hhv, hrr⟩ := R
  exact ⟨so, sg, rd, ho, ho2, hg, hd, x2, m1, x3, m2, x4, m8, htr, rfl, hki, hco, hse, hal, hrs, hrt, hln, hce, hsz, hkr, hcr, hsr, har, hhv, hrr⟩
theorem upd_upd (f : Nat → Int32) (k : Nat) (v w : Int32) : upd (upd f k v) k w = upd f k w := by
  funext j; unfold upd; split <;> rfl
