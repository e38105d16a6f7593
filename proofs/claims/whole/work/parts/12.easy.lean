theorem ld_nI {β : Type} {j n : Nat} {x : Option β} (h : j < n) (hn : n < 2 ^ 31) : ld (nI j) n x = x := ld_in (vp_in_nI h hn)
theorem nI_c {j : Nat} (h : j < 2 ^ 31) : (nI j).toNatClampNeg = j := nI_clamp h
theorem ne10 : ¬ ((1 : Int32) = 0) := by decide
def lk (k x : Int32) : Int32 := if k = 0 then x else if k = 1 then x + 1 else 2 * (x + 1)
theorem look_eq {k : Nat} (hk : k ≤ 2) (x : Int32) : F_X5_look (nI k) x = some (lk (nI k) x) := by
  unfold F_X5_look lk
  rcases (show k = 0 ∨ k = 1 ∨ k = 2 by omega) with rfl | rfl | rfl <;> rfl
theorem lookOf_eq {j : Nat} (hj : j < 6) (si : tSI) (sa : tSA) : F_X6_lookOf (nI j) si sa = some (lk (sa 0 j) (sa 2 j)) := by
  unfold F_X6_lookOf lk
  simp only [ld_nI hj (by decide), nI_c (show j < 2 ^ 31 by omega)]
  split
  · rfl
  · split <;> rfl
theorem e_trace {si : tSI} {sa : tSA} {ti : tSI} {ta : tSA} (R : Rel si sa ti ta) : ∃ r, F_X5_trace si sa = some r ∧ F_X6_trace ti ta = some r := by
  obtain ⟨so, sg, rd, ho, ho2, hg, hd, x2, m1, x3, m2, x4, m8, htr, hfa, hki, hco, hse, hal, hrs, hrt, hln, hce, hsz, hkr, hcr, hsr, har, hhv, hrr⟩ := R
  exact ⟨si 0, rfl, by unfold F_X6_trace; rw [htr]⟩
theorem e_fault {si : tSI} {sa : tSA} {ti : tSI} {ta : tSA} (R : Rel si sa ti ta) : ∃ r, F_X5_fault si sa = some r ∧ F_X6_fault ti ta = some r := by
  obtain ⟨so, sg, rd, ho, ho2, hg, hd, x2, m1, x3, m2, x4, m8, htr, hfa, hki, hco, hse, hal, hrs, hrt, hln, hce, hsz, hkr, hcr, hsr, har, hhv, hrr⟩ := R
  exact ⟨si 1, rfl, by unfold F_X6_fault; rw [hfa]⟩
theorem e_ofSort {si : tSI} {sa : tSA} {ti : tSI} {ta : tSA} (R : Rel si sa ti ta) (a1 a2 : Int32) : ∃ r, F_X5_ofSort a1 a2 si sa = some r ∧ F_X6_ofSort a1 a2 ti ta = some r := by
  obtain ⟨so, sg, rd, ho, ho2, hg, hd, x2, m1, x3, m2, x4, m8, htr, hfa, hki, hco, hse, hal, hrs, hrt, hln, hce, hsz, hkr, hcr, hsr, har, hhv, hrr⟩ := R
  unfold F_X5_ofSort F_X6_ofSort
  rw [isSort_eq x2 (by omega), noSort_eq m1 (by omega)]
  by_cases h : 0 ≤ a1.toInt ∧ a1.toInt < so
  · rw [if_pos h, if_pos h]
    obtain ⟨j, hj, rfl⟩ := nI_ex h.1 h.2
    have hj6 : j < 6 := by omega
    simp only [Option.bind_some, show ¬ ((1 : Int32) = 0) by decide, if_false, if_true, ld_nI hj6 (show 6 < 2 ^ 31 by decide), nI_c (show j < 2 ^ 31 by omega), lookOf_eq hj6, hki, hco, hse, hal]
    obtain ⟨k, hk, ek⟩ := hkr j hj
    rw [ek, look_eq hk]
    repeat' (first | (split) | exact ⟨_, rfl, rfl⟩)
  · rw [if_neg h, if_neg h]
    exact ⟨_, rfl, rfl⟩
theorem p2_64 : ∀ n, n ≤ 6 → (1 : Int32) <<< (nI n &&& 31) - 1 = nI (2 ^ n - 1) := by decide
theorem all_eq {si : tSI} {sa : tSA} {so : Nat} (h : si 1 = nI so) (ho : so ≤ 6) : F_X6_all si sa = some (nI (2 ^ so - 1)) := by
  unfold F_X6_all; rw [h, p2_64 so ho]
theorem every_eq {si : tSI} {sa : tSA} {so : Nat} (h : si 2 = nI so) (ho : so ≤ 6) : F_X0_everySort si sa = some (nI (2 ^ so - 1)) := by
  unfold F_X0_everySort; rw [h, p2_64 so ho]
theorem mask64 : ∀ n, n ≤ 6 → ∀ h, h < 64 → nI h &&& nI (2 ^ n - 1) = nI (h % 2 ^ n) := by decide +kernel
theorem e_ofSign {si : tSI} {sa : tSA} {ti : tSI} {ta : tSA} (R : Rel si sa ti ta) (a1 : Int32) : ∃ r, F_X5_ofSign a1 si sa = some r ∧ F_X6_ofSign a1 ti ta = some r := by
  obtain ⟨so, sg, rd, ho, ho2, hg, hd, x2, m1, x3, m2, x4, m8, htr, hfa, hki, hco, hse, hal, hrs, hrt, hln, hce, hsz, hkr, hcr, hsr, har, hhv, hrr⟩ := R
  unfold F_X5_ofSign F_X6_ofSign
  rw [isSign_eq x3 (by omega), noSign_eq m2 (by omega)]
  by_cases h : 0 ≤ a1.toInt ∧ a1.toInt < sg
  · rw [if_pos h, if_pos h]
    obtain ⟨j, hj, rfl⟩ := nI_ex h.1 h.2
    have hj6 : j < 5 := by omega
    obtain ⟨v, hv, e1, e2⟩ := hhv j hj
    simp only [Option.bind_some, show ¬ ((1 : Int32) = 0) by decide, if_false, if_true, ld_nI hj6 (show 5 < 2 ^ 31 by decide), nI_c (show j < 2 ^ 31 by omega), all_eq m1 ho, e1, e2, mask64 so ho v hv]
    exact ⟨_, rfl, rfl⟩
  · rw [if_neg h, if_neg h]
    exact ⟨_, rfl, rfl⟩
theorem up_ne {α : Type} (f : Nat → α) {k j : Nat} (v : α) (h : j ≠ k) : va_up f k v j = f j := if_neg h
theorem upd_ne (f : Nat → Int32) {k j : Nat} (v : Int32) (h : j ≠ k) : upd f k v j = f j := if_neg h
theorem upd_eq (f : Nat → Int32) (k : Nat) (v : Int32) : upd f k v k = v := if_pos rfl
theorem e_lay {si : tSI} {sa : tSA} {ti : tSI} {ta : tSA} (R : Rel si sa ti ta) (a1 a2 : Int32) : ∃ r si' sa' ti' ta', F_X5_lay a1 a2 si sa = some (r, si', sa') ∧ F_X6_lay a1 a2 ti ta = some (r, ti', ta') ∧ Rel si' sa' ti' ta' := by
  have R0 := R
  obtain ⟨so, sg, rd, ho, ho2, hg, hd, x2, m1, x3, m2, x4, m8, htr, hfa, hki, hco, hse, hal, hrs, hrt, hln, hce, hsz, hkr, hcr, hsr, har, hhv, hrr⟩ := R
  unfold F_X5_lay F_X6_lay
  rw [isSort_eq x2 (by omega), noSort_eq m1 (by omega), in32 0 9 rfl rfl]
  by_cases h : 0 ≤ a1.toInt ∧ a1.toInt < so
  · rw [if_pos h, if_pos h]
    obtain ⟨j, hj, rfl⟩ := nI_ex h.1 h.2
    have hj6 : j < 6 := by omega
    simp only [Option.bind_some, show ¬ ((1 : Int32) = 0) by decide, if_false, if_true, ld_nI hj6 (show 6 < 2 ^ 31 by decide), nI_c (show j < 2 ^ 31 by omega), Int32.lt_iff_toInt_lt, Int32.le_iff_toInt_le, show (0 : Int32).toInt = 0 from rfl, show (9 : Int32).toInt = 9 from rfl]
    by_cases h2 : 0 ≤ a2.toInt ∧ a2.toInt ≤ 9
    · rw [if_neg (show ¬ a2.toInt < 0 by omega), if_pos h2.2, if_pos h2, if_neg ne10]
      obtain ⟨c, hc, rfl⟩ := nI_exle (n := 9) h2.1 h2.2
      rw [hco]
      refine ⟨_, _, _, _, _, rfl, rfl, so, sg, rd, ho, ho2, hg, hd, x2, m1, x3, m2, x4, m8, htr, hfa, hki, ?_, hse, hal, hrs, hrt, hln, hce, hsz, hkr, ?_, hsr, har, hhv, hrr⟩
      · rfl
      · intro s hs
        show ∃ k, k ≤ 9 ∧ upd (sa 5) j (nI c) s = nI k
        by_cases e : s = j
        · subst e; exact ⟨c, hc, upd_eq _ _ _⟩
        · rw [upd_ne _ _ e]; exact hcr s hs
    · rw [if_neg h2]
      by_cases h3 : a2.toInt < 0
      · rw [if_pos h3]; exact ⟨_, _, _, _, _, rfl, rfl, R0⟩
      · rw [if_neg h3, if_neg (show ¬ a2.toInt ≤ 9 by omega)]; exact ⟨_, _, _, _, _, rfl, rfl, R0⟩
  · rw [if_neg h, if_neg h]
    exact ⟨_, _, _, _, _, rfl, rfl, R0⟩
theorem e_sign {si : tSI} {sa : tSA} {ti : tSI} {ta : tSA} (R : Rel si sa ti ta) (a1 a2 : Int32) : ∃ r si' sa' ti' ta', F_X5_sign a1 a2 si sa = some (r, si', sa') ∧ F_X6_sign a1 a2 ti ta = some (r, ti', ta') ∧ Rel si' sa' ti' ta' := by
  have R0 := R
  obtain ⟨so, sg, rd, ho, ho2, hg, hd, x2, m1, x3, m2, x4, m8, htr, hfa, hki, hco, hse, hal, hrs, hrt, hln, hce, hsz, hkr, hcr, hsr, har, hhv, hrr⟩ := R
  unfold F_X5_sign F_X6_sign
  rw [isSign_eq x3 (by omega), noSign_eq m2 (by omega), in32 0 63 rfl rfl]
  by_cases h : 0 ≤ a1.toInt ∧ a1.toInt < sg
  · rw [if_pos h, if_pos h]
    obtain ⟨j, hj, rfl⟩ := nI_ex h.1 h.2
    have hj6 : j < 5 := by omega
    obtain ⟨v, hv, e1, e2⟩ := hhv j hj
    simp only [Option.bind_some, show ¬ ((1 : Int32) = 0) by decide, if_false, if_true, ld_nI hj6 (show 5 < 2 ^ 31 by decide), nI_c (show j < 2 ^ 31 by omega), Int32.lt_iff_toInt_lt, Int32.le_iff_toInt_le, show (0 : Int32).toInt = 0 from rfl, show (63 : Int32).toInt = 63 from rfl, all_eq m1 ho, every_eq x2 ho, e1, e2, mask64 so ho v hv]
    by_cases h2 : 0 ≤ a2.toInt ∧ a2.toInt ≤ 63
    · rw [if_neg (show ¬ a2.toInt < 0 by omega), if_pos h2.2, if_pos h2, if_neg ne10]
      obtain ⟨c, hc, rfl⟩ := nI_exle (n := 63) h2.1 h2.2
      rw [mask64 so ho c (by omega)]
      refine ⟨_, _, _, _, _, rfl, rfl, so, sg, rd, ho, ho2, hg, hd, x2, m1, x3, m2, x4, m8, htr, hfa, hki, hco, hse, hal, hrs, hrt, hln, hce, hsz, hkr, hcr, hsr, har, ?_, hrr⟩
      intro k hk
      show ∃ h, h < 64 ∧ upd (ta 4) j (nI c) k = nI h ∧ upd (sa 8) j (nI (c % 2 ^ so)) k = nI (h % 2 ^ so)
      by_cases e : k = j
      · subst e; exact ⟨c, by omega, upd_eq _ _ _, upd_eq _ _ _⟩
      · rw [upd_ne _ _ e, upd_ne _ _ e]; exact hhv k hk
    · rw [if_neg h2]
      by_cases h3 : a2.toInt < 0
      · rw [if_pos h3]; exact ⟨_, _, _, _, _, rfl, rfl, R0⟩
      · rw [if_neg h3, if_neg (show ¬ a2.toInt ≤ 63 by omega)]; exact ⟨_, _, _, _, _, rfl, rfl, R0⟩
  · rw [if_neg h, if_neg h]
    exact ⟨_, _, _, _, _, rfl, rfl, R0⟩
