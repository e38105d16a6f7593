theorem refusal_eq {si : tSI} {sa : tSA} {so : Nat} (x2 : si 2 = nI so) (ho : so ≤ 6) (a1 a2 a3 m : Int32) : F_X5_refusalOfRow a1 a2 a3 m si sa = some (if 0 ≤ a1.toInt ∧ a1.toInt < 4 then (if (0 ≤ a2.toInt ∧ a2.toInt < 3) ∧ 0 ≤ a3.toInt ∧ a3.toInt ≤ m.toInt then (if so = 0 then -3 else 0) else -2) else -1) := by
  unfold F_X5_refusalOfRow
  rw [isSheet_eq, isLane_eq, isThere_eq x2 ho]
  simp only [Int32.lt_iff_toInt_lt, Int32.le_iff_toInt_le, show (0 : Int32).toInt = 0 from rfl]
  by_cases h1 : 0 ≤ a1.toInt ∧ a1.toInt < 4
  · rw [if_pos h1, if_pos h1]
    simp only [Option.bind_some, if_neg ne10]
    by_cases h2 : 0 ≤ a2.toInt ∧ a2.toInt < 3
    · rw [if_pos h2, if_neg ne10]
      by_cases h3 : a3.toInt < 0
      · rw [if_pos h3, if_neg (fun z => by omega)]
      · rw [if_neg h3]
        by_cases h4 : a3.toInt ≤ m.toInt
        · rw [if_pos h4, if_pos (show (0 ≤ a2.toInt ∧ a2.toInt < 3) ∧ 0 ≤ a3.toInt ∧ a3.toInt ≤ m.toInt from ⟨h2, by omega, h4⟩)]
          by_cases h5 : so = 0
          · rw [if_pos h5, if_pos rfl, if_pos h5]
          · rw [if_neg h5, if_neg ne10, if_neg h5]
        · rw [if_neg h4, if_neg (fun z => h4 z.2.2)]
    · rw [if_neg h2, if_pos rfl, if_neg (fun z => h2 z.1)]
  · rw [if_neg h1, if_neg h1]; rfl
/-- a row of places, of signs or of sorts -/
theorem take_cases {k w b : Nat} (hk : k < 4) (hw : w ≤ 60) (hb : b ≤ 6) {sa : tSA} {ti : tSI} {ta : tSA} (hsz : (sa 3 k = -9 ∧ ta 18 k = -1) ∨ ∃ n, n ≤ 60 ∧ sa 3 k = nI n ∧ ta 18 k = nI n) (hln : ta 19 = sa 2) (hce : ta 20 = sa 1) (a i z : Int32) (hz : (z = 0 ∧ ti 1 = nI b) ∨ (z = 1 ∧ ti 2 = nI b)) (si : tSI) :
    (∃ f r : Int32, ¬ r = 0 ∧ ¬ 0 ≤ r ∧ F_X5_takeNumbers (nI k) a i (nI w) (nI b) si sa = some (r, upd si 1 f, sa) ∧ F_X6_rowBarred (nI k) a i (nI w) z ti ta = some (r, upd ti 0 f, ta)) ∨
    (∃ row, F_X5_takeNumbers (nI k) a i (nI w) (nI b) si sa = some (-1, si, va_up sa 0 row) ∧ F_X6_rowBarred (nI k) a i (nI w) z ti ta = some (-1, upd ti 0 0, ta)) ∨
    (∃ (j : Nat) (q : Nat → Nat) (row : Nat → Int32), i = nI j ∧ 60 * k + j + w ≤ 240 ∧ (∀ x, x < w → q x < b ∧ sa 1 (60 * k + j + x) = nI (q x)) ∧ (∀ x, x < w → row x = nI (q x)) ∧ F_X5_takeNumbers (nI k) a i (nI w) (nI b) si sa = some (0, si, va_up sa 0 row) ∧ F_X6_rowBarred (nI k) a i (nI w) z ti ta = some (0, upd ti 0 0, ta)) := by
  unfold F_X5_takeNumbers F_X6_rowBarred
  have hnw : (nI w).toInt = (w : Int) := nI_toInt (by omega)
  rcases barred_cases hk hsz hln (ti := ti) a i (nI w) with ⟨h1, h2⟩ | ⟨h1, h2⟩ | ⟨h1, h2, h3⟩ | ⟨h1, h2, h3, h4⟩ | ⟨m, hm, em, h1, h2, h3, h4, h5, h6⟩
  · left
    refine ⟨1, -11, by decide, by decide, ?_, ?_⟩
    · rw [h1 si]; rfl
    · rw [h2]; rfl
  · left
    refine ⟨2, -12, by decide, by decide, ?_, ?_⟩
    · rw [h1 si]; rfl
    · rw [h2]; rfl
  · omega
  · left
    refine ⟨3, -13, by decide, by decide, ?_, ?_⟩
    · rw [h1 si]
      simp only [Option.bind_some, if_true, h3]
      rfl
    · rw [h4]; rfl
  · right
    obtain ⟨j, hj, rfl⟩ := nI_exle (a := i) (n := m) h3 (by omega)
    rw [nI_toInt (show j < 2 ^ 31 by omega), hnw] at h5
    have g1 : 60 * k + j + w ≤ 240 := by omega
    have g2 : 0 + w ≤ 60 := by omega
    let c : Nat → Int32 := fun x => sa 1 (60 * k + j + x)
    let row : Nat → Int32 := va_cpy (sa 1) (sa 0) (60 * k + j) 0 w
    have hrow : ∀ x, x < w → row x = c x := by
      intro x hx
      show va_cpy (sa 1) (sa 0) (60 * k + j) 0 w x = sa 1 (60 * k + j + x)
      unfold va_cpy
      rw [if_pos (by omega), Nat.sub_zero]
    have T : F_X2_take_r6 (nI k) (nI j) (nI w) si sa = some (si, va_up sa 0 row) := by
      unfold F_X2_take_r6
      rw [ix1, show (0 : Int32) = nI 0 from rfl, cpk_in g1 g2 (by decide) (by decide), nI_c (show 60 * k + j < 2 ^ 31 by omega), nI_c (show 0 < 2 ^ 31 by decide), nI_c (show w < 2 ^ 31 by omega)]
    rw [h1 si, h6]
    simp only [Option.bind_some, if_true, h2, T, show ((0 : Int32) ≤ 0) = True by decide]
    have SX : ∀ x, x < w → ∀ rec : Int32 → Option ((Int32 × tSI × tSA) ⊕ Unit), S_X5_takeNumbers_59 (nI w) (si, va_up sa 0 row) (nI b) rec (nI x) = (if 0 ≤ (c x).toInt ∧ (c x).toInt < b then rec (nI (x + 1)) else some (.inl (-1, si, va_up sa 0 row))) := by
      intro x hx rec
      unfold S_X5_takeNumbers_59
      dsimp only
      rw [if_neg (nI_nle' hx (by omega)), ld_nI (show x < 60 by omega) (by decide), nI_c (show x < 2 ^ 31 by omega)]
      simp only [up_eq, hrow x hx]
      simp only [Int32.lt_iff_toInt_lt, nI_toInt (show b < 2 ^ 31 by omega), show (0 : Int32).toInt = 0 from rfl, ld_nI (show x < 60 by omega) (show 60 < 2 ^ 31 by decide), nI_1]
      by_cases q1 : (c x).toInt < 0
      · rw [if_pos q1, if_neg (by omega)]
      · rw [if_neg q1]
        by_cases q2 : (c x).toInt < b
        · rw [if_pos q2, if_pos ⟨by omega, q2⟩]
        · rw [if_neg q2, if_neg (by omega)]
    have SM : ∀ x, x < w → ∀ rec : Int32 × tSI × tSA → Option ((Int32 × tSI × tSA) ⊕ (tSI × tSA)), S_X6_rowBarred_23 (nI w) (nI k) (nI j) z rec (nI x, ti, ta) = (if 0 ≤ (c x).toInt ∧ (c x).toInt < b then rec (nI (x + 1), ti, ta) else some (.inl (-1, upd ti 0 0, ta))) := by
      intro x hx rec
      unfold S_X6_rowBarred_23
      dsimp only
      rw [if_neg (nI_nle' hx (by omega)), ix2, nI_add, ld_nI (by omega) (by decide), nI_c (show 60 * k + j + x < 2 ^ 31 by omega), hce, show sa 1 (60 * k + j + x) = c x from rfl]
      rcases hz with ⟨rfl, e⟩ | ⟨rfl, e⟩
      · rw [if_pos rfl, noSort_eq e (by omega)]
        by_cases q : 0 ≤ (c x).toInt ∧ (c x).toInt < b
        · rw [if_pos q, if_pos q]
          simp only [Option.bind_some, if_true, nI_1]
        · rw [if_neg q, if_neg q]
          rfl
      · rw [if_neg ne10, noSign_eq e (by omega)]
        by_cases q : 0 ≤ (c x).toInt ∧ (c x).toInt < b
        · rw [if_pos q, if_pos q]
          simp only [Option.bind_some, if_true, nI_1]
        · rw [if_neg q, if_neg q]
          rfl
    rcases first_of (fun x => 0 ≤ (c x).toInt ∧ (c x).toInt < (b : Int)) w with ⟨y, hy1, hy2, hy3⟩ | hall
    · left
      have L1 : lp (S_X5_takeNumbers_59 (nI w) (si, va_up sa 0 row) (nI b)) 100 0 = some (.inl (-1, si, va_up sa 0 row)) := by
        refine lp_seq y (fun x => nI x) ?_ ?_ 100 (by omega)
        · intro x hx rec; rw [SX x (by omega), if_pos (hy2 x hx)]
        · intro rec; rw [SX y hy1, if_neg hy3]
      have L2 : lp (S_X6_rowBarred_23 (nI w) (nI k) (nI j) z) 100 (0, ti, ta) = some (.inl (-1, upd ti 0 0, ta)) := by
        refine lp_seq y (fun x => (nI x, ti, ta)) ?_ ?_ 100 (by omega)
        · intro x hx rec; rw [SM x (by omega), if_pos (hy2 x hx)]
        · intro rec; rw [SM y hy1, if_neg hy3]
      refine ⟨row, ?_, ?_⟩
      · rw [L1]; rfl
      · rw [L2]; rfl
    · right
      have L1 : lp (S_X5_takeNumbers_59 (nI w) (si, va_up sa 0 row) (nI b)) 100 0 = some (.inr ()) := by
        refine lp_seq w (fun x => nI x) ?_ ?_ 100 (by omega)
        · intro x hx rec; rw [SX x hx, if_pos (hall x hx)]
        · intro rec
          unfold S_X5_takeNumbers_59
          rw [if_pos (nI_le (Nat.le_refl w) (by omega))]
      have L2 : lp (S_X6_rowBarred_23 (nI w) (nI k) (nI j) z) 100 (0, ti, ta) = some (.inr (ti, ta)) := by
        refine lp_seq w (fun x => (nI x, ti, ta)) ?_ ?_ 100 (by omega)
        · intro x hx rec; rw [SM x hx, if_pos (hall x hx)]
        · intro rec
          unfold S_X6_rowBarred_23
          dsimp only
          rw [if_pos (nI_le (Nat.le_refl w) (by omega))]
      have hq : ∀ x, x < w → (c x).toNatClampNeg < b ∧ c x = nI (c x).toNatClampNeg := by
        intro x hx
        obtain ⟨v, hv, e⟩ := nI_ex (a := c x) (n := b) (hall x hx).1 (hall x hx).2
        rw [e, nI_c (by omega)]
        exact ⟨hv, rfl⟩
      refine ⟨j, fun x => (c x).toNatClampNeg, row, rfl, g1, fun x hx => hq x hx, fun x hx => by rw [hrow x hx]; exact (hq x hx).2, ?_, ?_⟩
      · rw [L1]; rfl
      · rw [L2]; rfl
theorem wgt_nI : ∀ c, c ≤ 9 → ∀ k, k ≤ 2 → ∀ x, x ≤ 9 → nI c * lk (nI k) (nI x) = nI (nI c * lk (nI k) (nI x)).toNatClampNeg ∧ (nI c * lk (nI k) (nI x)).toNatClampNeg ≤ 180 := by decide +kernel
theorem rel_ctx {so sg : Nat} {si : tSI} {sa : tSA} {ti : tSI} {ta : tSA} (ho : so ≤ 6) (hg : sg ≤ 5) (x2 : si 2 = nI so) (x3 : si 3 = nI sg) (m1 : ti 1 = nI so) (m2 : ti 2 = nI sg) (hki : ta 0 = sa 4) (hco : ta 1 = sa 5) (hse : ta 2 = sa 6)
    (hkr : ∀ s, s < so → ∃ k, k ≤ 2 ∧ sa 4 s = nI k) (hcr : ∀ s, s < so → ∃ k, k ≤ 9 ∧ sa 5 s = nI k) (hsr : ∀ s, s < so → ∃ k, 1 ≤ k ∧ k ≤ 9 ∧ sa 6 s = nI k) (hhv : ∀ k, k < sg → ∃ h, h < 64 ∧ ta 4 k = nI h ∧ sa 8 k = nI (h % 2 ^ so)) :
    ∃ h hm g, CXS so sg h g si sa ∧ CMS so sg h hm g ti ta := by
  let hm : Nat → Nat := fun k => (ta 4 k).toNatClampNeg
  let g : Nat → Nat := fun s => (wgt (sa 5) (sa 4) (sa 6) s).toNatClampNeg
  have hhm : ∀ k, k < sg → hm k < 64 ∧ ta 4 k = nI (hm k) ∧ sa 8 k = nI (hm k % 2 ^ so) := by
    intro k hk
    obtain ⟨v, hv, e1, e2⟩ := hhv k hk
    have : hm k = v := by show (ta 4 k).toNatClampNeg = v; rw [e1, nI_c (by omega)]
    rw [this]
    exact ⟨hv, e1, e2⟩
  have hgg : ∀ s, s < so → wgt (sa 5) (sa 4) (sa 6) s = nI (g s) ∧ g s ≤ 180 := by
    intro s hs
    obtain ⟨k, hk, ek⟩ := hkr s hs
    obtain ⟨c, hc, ec⟩ := hcr s hs
    obtain ⟨x, _, hx, ex⟩ := hsr s hs
    show sa 5 s * lk (sa 4 s) (sa 6 s) = nI (sa 5 s * lk (sa 4 s) (sa 6 s)).toNatClampNeg ∧ (sa 5 s * lk (sa 4 s) (sa 6 s)).toNatClampNeg ≤ 180
    rw [ek, ec, ex]
    exact wgt_nI c hc k hk x hx
  refine ⟨fun k => hm k % 2 ^ so, hm, g, ⟨ho, hg, x2, x3, fun k hk => ⟨?_, (hhm k hk).2.2⟩, hkr, fun s hs => (hgg s hs).1, fun s hs => (hgg s hs).2⟩, ⟨ho, hg, m1, m2, fun k hk => ⟨(hhm k hk).1, (hhm k hk).2.1, rfl⟩, ?_, fun s hs => (hgg s hs).2⟩⟩
  · exact Nat.lt_of_lt_of_le (Nat.mod_lt _ (Nat.pow_pos (by decide))) (p2le ho)
  · rw [hki, hco, hse]
    exact fun s hs => (hgg s hs).1
