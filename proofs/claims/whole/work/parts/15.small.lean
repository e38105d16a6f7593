theorem isThere_eq {si : tSI} {sa : tSA} {so : Nat} (h : si 2 = nI so) (ho : so ≤ 6) : F_X0_isThere si sa = some (if so = 0 then 0 else 1) := by
  unfold F_X0_isThere
  rw [h]
  have : ∀ n, n ≤ 6 → ((nI n ≤ 0) ↔ n = 0) := by decide
  by_cases c : so = 0
  · rw [if_pos ((this so ho).mpr c), if_pos c]
  · rw [if_neg (fun q => c ((this so ho).mp q)), if_neg c]
theorem nI_z : ∀ n, n ≤ 6 → ((nI n = 0) ↔ n = 0) := by decide
theorem isSet_eq {si : tSI} {sa : tSA} {so : Nat} (h : si 2 = nI so) (ho : so ≤ 6) (a : Int32) : F_X0_isSet a si sa = some (if 0 ≤ a.toInt ∧ a.toInt < ((2 ^ so : Nat) : Int) then 1 else 0) := by
  unfold F_X0_isSet
  have hp : 2 ^ so ≤ 64 := Nat.pow_le_pow_right (n := 2) (by decide) ho
  have hp0 : 0 < 2 ^ so := Nat.pow_pos (by decide)
  rw [every_eq h ho]
  simp only [Option.bind_some, Int32.lt_iff_toInt_lt, nI_toInt (show 2 ^ so - 1 < 2 ^ 31 by omega), show (0 : Int32).toInt = 0 from rfl]
  by_cases h1 : a.toInt < 0
  · rw [if_pos h1, if_neg (by omega)]
  · rw [if_neg h1]
    by_cases h2 : ((2 ^ so - 1 : Nat) : Int) < a.toInt
    · rw [if_pos h2, if_neg (by omega)]
    · rw [if_neg h2, if_pos (by omega)]
theorem inAll_eq {so : Nat} (ho : so ≤ 6) (a : Int32) : F_X6_in a.toInt64 0 (nI (2 ^ so - 1)).toInt64 = some (if 0 ≤ a.toInt ∧ a.toInt < ((2 ^ so : Nat) : Int) then 1 else 0) := by
  have hp : 2 ^ so ≤ 64 := Nat.pow_le_pow_right (n := 2) (by decide) ho
  have hp0 : 0 < 2 ^ so := Nat.pow_pos (by decide)
  rw [in_eq, Int32.toInt_toInt64, Int32.toInt_toInt64, nI_toInt (show 2 ^ so - 1 < 2 ^ 31 by omega), show (0 : Int64).toInt = 0 from rfl]
  by_cases h1 : 0 ≤ a.toInt ∧ a.toInt < ((2 ^ so : Nat) : Int)
  · rw [if_pos h1, if_pos (by omega)]
  · rw [if_neg h1, if_neg (by omega)]
theorem e_back {si : tSI} {sa : tSA} {ti : tSI} {ta : tSA} (R : Rel si sa ti ta) (a1 : Int32) : ∃ r si' sa' ti' ta', F_X5_back a1 si sa = some (r, si', sa') ∧ F_X6_back a1 ti ta = some (r, ti', ta') ∧ Rel si' sa' ti' ta' := by
  have R0 := R
  obtain ⟨so, sg, rd, ho, ho2, hg, hd, x2, m1, x3, m2, x4, m8, htr, hfa, hki, hco, hse, hal, hrs, hrt, hln, hce, hsz, hkr, hcr, hsr, har, hhv, hrr⟩ := R
  unfold F_X5_back F_X6_back
  rw [x4, m8, in32 0 rd rfl (lim64' rd (by omega))]
  simp only [Option.bind_some, Int32.lt_iff_toInt_lt, Int32.le_iff_toInt_le, nI_toInt (show rd < 2 ^ 31 by omega), show (0 : Int32).toInt = 0 from rfl]
  by_cases h : 0 ≤ a1.toInt ∧ a1.toInt ≤ rd
  · rw [if_neg (show ¬ a1.toInt < 0 by omega), if_pos h.2, if_pos h, if_neg ne10]
    obtain ⟨j, hj, rfl⟩ := nI_exle h.1 h.2
    rw [subI hj]
    exact ⟨_, _, _, _, _, rfl, rfl, so, sg, rd - j, ho, by omega, hg, by omega, x2, m1, x3, m2, rfl, rfl, htr, hfa, hki, hco, hse, hal, hrs, hrt, hln, hce, hsz, hkr, hcr, hsr, har, hhv, fun r hr => hrr r (by omega)⟩
  · rw [if_neg h, if_pos rfl]
    by_cases h3 : a1.toInt < 0
    · rw [if_pos h3]; exact ⟨_, _, _, _, _, rfl, rfl, R0⟩
    · rw [if_neg h3, if_neg (show ¬ a1.toInt ≤ rd by omega)]; exact ⟨_, _, _, _, _, rfl, rfl, R0⟩
theorem e_reading {si : tSI} {sa : tSA} {ti : tSI} {ta : tSA} (R : Rel si sa ti ta) (a1 a2 : Int32) : ∃ r si' sa' ti' ta', F_X5_reading a1 a2 si sa = some (r, si', sa') ∧ F_X6_reading a1 a2 ti ta = some (r, ti', ta') ∧ Rel si' sa' ti' ta' := by
  have R0 := R
  obtain ⟨so, sg, rd, ho, ho2, hg, hd, x2, m1, x3, m2, x4, m8, htr, hfa, hki, hco, hse, hal, hrs, hrt, hln, hce, hsz, hkr, hcr, hsr, har, hhv, hrr⟩ := R
  unfold F_X5_reading F_X6_reading
  rw [isThere_eq x2 ho, isSet_eq x2 ho, all_eq m1 ho, m1, in32 0 9999 rfl rfl]
  by_cases c : so = 0
  · rw [if_pos c, if_pos ((nI_z so ho).mpr c)]
    exact ⟨_, _, _, _, _, rfl, rfl, R0⟩
  · rw [if_neg c, if_neg (fun q => c ((nI_z so ho).mp q))]
    simp only [Option.bind_some, if_neg ne10, inAll_eq ho]
    by_cases h : 0 ≤ a1.toInt ∧ a1.toInt < ((2 ^ so : Nat) : Int)
    · rw [if_pos h, if_neg ne10]
      obtain ⟨v, hv, rfl⟩ := nI_ex h.1 h.2
      simp only [Int32.lt_iff_toInt_lt, Int32.le_iff_toInt_le, show (0 : Int32).toInt = 0 from rfl, show (9999 : Int32).toInt = 9999 from rfl]
      by_cases h2 : 0 ≤ a2.toInt ∧ a2.toInt ≤ 9999
      · rw [if_neg (show ¬ a2.toInt < 0 by omega), if_pos h2.2, if_pos h2, if_neg ne10, x4, m8]
        by_cases h8 : rd = 8
        · subst h8
          rw [if_pos (show (8 : Int32).toInt ≤ (nI 8).toInt by decide), if_pos (show nI 8 = 8 from rfl)]
          exact ⟨_, _, _, _, _, rfl, rfl, R0⟩
        · have h7 : rd < 8 := by omega
          have n8 : ∀ n, n < 8 → ¬ (8 : Int32).toInt ≤ (nI n).toInt ∧ ¬ nI n = 8 := by decide
          rw [if_neg (n8 rd h7).1, if_neg (n8 rd h7).2]
          unfold F_X0_note
          rw [x4]
          simp only [ld_nI h7 (show 8 < 2 ^ 31 by decide), nI_c (show rd < 2 ^ 31 by omega), Option.bind_some, hrs, hrt, nI_1]
          refine ⟨_, _, _, _, _, rfl, rfl, so, sg, rd + 1, ho, by omega, hg, by omega, x2, m1, x3, m2, rfl, rfl, htr, hfa, hki, hco, hse, hal, rfl, rfl, hln, hce, hsz, hkr, hcr, hsr, har, hhv, ?_⟩
          intro r hr
          show ∃ w, w < 2 ^ so ∧ upd (sa 9) rd (nI v) r = nI w
          by_cases e : r = rd
          · subst e; exact ⟨v, hv, upd_eq _ _ _⟩
          · rw [upd_ne _ _ e]; exact hrr r (by omega)
      · rw [if_neg h2, if_pos rfl]
        by_cases h3 : a2.toInt < 0
        · rw [if_pos h3]; exact ⟨_, _, _, _, _, rfl, rfl, R0⟩
        · rw [if_neg h3, if_neg (show ¬ a2.toInt ≤ 9999 by omega)]; exact ⟨_, _, _, _, _, rfl, rfl, R0⟩
    · rw [if_neg h, if_pos rfl, if_pos rfl]
      exact ⟨_, _, _, _, _, rfl, rfl, R0⟩
theorem e_as {si : tSI} {sa : tSA} {ti : tSI} {ta : tSA} (R : Rel si sa ti ta) (a1 a2 : Int32) : ∃ r si' sa' ti' ta', F_X5_as a1 a2 si sa = some (r, si', sa') ∧ F_X6_as a1 a2 ti ta = some (r, ti', ta') ∧ Rel si' sa' ti' ta' := by
  have R0 := R
  obtain ⟨so, sg, rd, ho, ho2, hg, hd, x2, m1, x3, m2, x4, m8, htr, hfa, hki, hco, hse, hal, hrs, hrt, hln, hce, hsz, hkr, hcr, hsr, har, hhv, hrr⟩ := R
  unfold F_X5_as F_X6_as
  rw [isSort_eq (si := upd si 1 0) (so := so) x2 (by omega), noSort_eq m1 (by omega), in32 0 2 rfl rfl]
  by_cases h : 0 ≤ a1.toInt ∧ a1.toInt < so
  · rw [if_pos h, if_pos h]
    obtain ⟨j, hj, rfl⟩ := nI_ex h.1 h.2
    have hj6 : j < 6 := by omega
    simp only [Option.bind_some, if_neg ne10, if_true, ld_nI hj6 (show 6 < 2 ^ 31 by decide), nI_c (show j < 2 ^ 31 by omega), hki]
    by_cases h2 : 0 ≤ a2.toInt ∧ a2.toInt ≤ 2
    · rw [if_neg (show ¬ a2 < 0 by rw [Int32.lt_iff_toInt_lt]; show ¬ a2.toInt < 0; omega), if_pos (show a2 ≤ 2 by rw [Int32.le_iff_toInt_le]; exact h2.2), if_pos h2, if_neg ne10]
      by_cases l : sa 4 j < a2
      · rw [if_pos l, if_pos l]
        refine ⟨_, _, _, _, _, rfl, rfl, ?_⟩
        rw [upd_upd]
        exact R0.fault 2
      · rw [if_neg l, if_neg l]
        exact ⟨_, _, _, _, _, rfl, rfl, R0.fault 0⟩
    · rw [if_neg h2, if_pos rfl]
      by_cases h3 : a2 < 0
      · rw [if_pos h3]; exact ⟨_, _, _, _, _, rfl, rfl, R0.fault 0⟩
      · rw [if_neg h3, if_neg (show ¬ a2 ≤ 2 by
          rw [Int32.le_iff_toInt_le]; rw [Int32.lt_iff_toInt_lt] at h3
          have h3' : ¬ a2.toInt < 0 := h3
          show ¬ a2.toInt ≤ 2; omega)]
        exact ⟨_, _, _, _, _, rfl, rfl, R0.fault 0⟩
  · rw [if_neg h, if_neg h]
    exact ⟨_, _, _, _, _, rfl, rfl, R0.fault 0⟩
theorem Rel.trace {si : tSI} {sa : tSA} {ti : tSI} {ta : tSA} (R : Rel si sa ti ta) (v : Int32) : Rel (upd si 0 v) sa (upd ti 9 v) ta := by
  obtain ⟨so, sg, rd, ho, ho2, hg, hd, x2, m1, x3, m2, x4, m8, htr, hfa, hki, hco, hse, hal, hrs, hrt, hln, hce, hsz, hkr, hcr, hsr, har, hhv, hrr⟩ := R
  exact ⟨so, sg, rd, ho, ho2, hg, hd, x2, m1, x3, m2, x4, m8, rfl, hfa, hki, hco, hse, hal, hrs, hrt, hln, hce, hsz, hkr, hcr, hsr, har, hhv, hrr⟩
theorem twice9 : ∀ x, x ≤ 9 → (nI x + 100) + nI x = 2 * nI x + 100 := by decide
theorem e_tell {si : tSI} {sa : tSA} {ti : tSI} {ta : tSA} (R : Rel si sa ti ta) (a1 : Int32) : ∃ r si' sa' ti' ta', F_X5_tell a1 si sa = some (r, si', sa') ∧ F_X6_tell a1 ti ta = some (r, ti', ta') ∧ Rel si' sa' ti' ta' := by
  have R0 := R
  obtain ⟨so, sg, rd, ho, ho2, hg, hd, x2, m1, x3, m2, x4, m8, htr, hfa, hki, hco, hse, hal, hrs, hrt, hln, hce, hsz, hkr, hcr, hsr, har, hhv, hrr⟩ := R
  unfold F_X5_tell F_X6_tell
  rw [isSort_eq x2 (by omega), noSort_eq m1 (by omega)]
  by_cases h : 0 ≤ a1.toInt ∧ a1.toInt < so
  · rw [if_pos h, if_pos h]
    obtain ⟨j, hj, rfl⟩ := nI_ex h.1 h.2
    have hj6 : j < 6 := by omega
    obtain ⟨k, hk, ek⟩ := hkr j hj
    obtain ⟨z, hz1, hz9, ez⟩ := hsr j hj
    unfold F_X5_tellSure F_X5_tellDoubtful F_X5_tellSure F_X5_tellPicking F_X5_leave F_X6_traced
    simp only [Option.bind_some, if_neg ne10, if_true, ld_nI hj6 (show 6 < 2 ^ 31 by decide), nI_c (show j < 2 ^ 31 by omega), hki, ← hse, ek]
    have tw : (ta 2 j + 100) + ta 2 j = 2 * ta 2 j + 100 := by rw [hse, ez]; exact twice9 z hz9
    rcases (show k = 0 ∨ k = 1 ∨ k = 2 by omega) with rfl | rfl | rfl
    · refine ⟨_, _, _, _, _, rfl, rfl, ?_⟩
      rw [← htr]
      exact R0.trace _
    · refine ⟨_, _, _, _, _, rfl, rfl, ?_⟩
      rw [← htr]
      exact (R0.trace _).trace _
    · rw [tw]
      refine ⟨_, _, _, _, _, rfl, rfl, ?_⟩
      rw [← htr]
      exact (((R0.trace _).trace _).trace _).trace _
  · rw [if_neg h, if_neg h]
    exact ⟨_, _, _, _, _, rfl, rfl, R0⟩
theorem e_drop {si : tSI} {sa : tSA} {ti : tSI} {ta : tSA} (R : Rel si sa ti ta) (a1 : Int32) : ∃ r si' sa' ti' ta', F_X5_drop a1 si sa = some (r, si', sa') ∧ F_X6_drop a1 ti ta = some (r, ti', ta') ∧ Rel si' sa' ti' ta' := by
  have R0 := R
  obtain ⟨so, sg, rd, ho, ho2, hg, hd, x2, m1, x3, m2, x4, m8, htr, hfa, hki, hco, hse, hal, hrs, hrt, hln, hce, hsz, hkr, hcr, hsr, har, hhv, hrr⟩ := R
  unfold F_X5_drop F_X6_drop
  rw [isSort_eq x2 (by omega), noSort_eq m1 (by omega)]
  by_cases h : 0 ≤ a1.toInt ∧ a1.toInt < so
  · rw [if_pos h, if_pos h]
    obtain ⟨j, hj, rfl⟩ := nI_ex h.1 h.2
    have hj6 : j < 6 := by omega
    unfold F_X5_dropByOwn F_X5_dropByLent F_X5_leave F_X6_traced
    simp only [Option.bind_some, if_neg ne10, if_true, ld_nI hj6 (show 6 < 2 ^ 31 by decide), nI_c (show j < 2 ^ 31 by omega), hki]
    by_cases k : sa 4 j = 2
    · simp only [if_pos k, Option.bind_some, hki]
      refine ⟨_, _, _, _, _, rfl, rfl, ?_⟩
      rw [htr]
      exact R0.trace _
    · simp only [if_neg k, Option.bind_some, hki]
      refine ⟨_, _, _, _, _, rfl, rfl, ?_⟩
      rw [htr]
      exact R0.trace _
  · rw [if_neg h, if_neg h]
    exact ⟨_, _, _, _, _, rfl, rfl, R0⟩
def sm (f : Nat → Int32) : Nat → Int32
  | 0 => 0
  | i + 1 => sm f i + f i
theorem e_many {si : tSI} {sa : tSA} {ti : tSI} {ta : tSA} (R : Rel si sa ti ta) (a1 : Int32) : ∃ r, F_X5_many a1 si sa = some r ∧ F_X6_many a1 ti ta = some r := by
  obtain ⟨so, sg, rd, ho, ho2, hg, hd, x2, m1, x3, m2, x4, m8, htr, hfa, hki, hco, hse, hal, hrs, hrt, hln, hce, hsz, hkr, hcr, hsr, har, hhv, hrr⟩ := R
  have L1 : lp (S_X0_letters_4 si sa) 100 (0, 0) = some (sm (sa 5) so) := by
    refine lp_seq so (fun i => (nI i, sm (sa 5) i)) ?_ ?_ 100 (by omega)
    · intro i hi rec
      unfold S_X0_letters_4
      dsimp only
      rw [x2, if_neg (nI_nle' hi (by omega)), ld_nI (show i < 6 by omega) (by decide), nI_c (show i < 2 ^ 31 by omega), nI_1]
      rfl
    · intro rec
      unfold S_X0_letters_4
      dsimp only
      rw [x2, if_pos (nI_le (Nat.le_refl so) (by omega))]
  have L2 : lp (S_X6_lettersNow_4 ti ta) 100 (0, 0) = some (sm (sa 5) so) := by
    refine lp_seq so (fun i => (nI i, sm (sa 5) i)) ?_ ?_ 100 (by omega)
    · intro i hi rec
      unfold S_X6_lettersNow_4
      dsimp only
      rw [m1, if_neg (nI_nle' hi (by omega)), ld_nI (show i < 6 by omega) (by decide), nI_c (show i < 2 ^ 31 by omega), nI_1, hco]
      rfl
    · intro rec
      unfold S_X6_lettersNow_4
      dsimp only
      rw [m1, if_pos (nI_le (Nat.le_refl so) (by omega))]
  unfold F_X5_many F_X6_many F_X0_letters F_X6_lettersNow
  rw [L1, L2, x2, m1, x3, m2, x4, m8]
  repeat' (first | exact ⟨_, rfl, rfl⟩ | split)
