def RF (sa : tSA) (c : Nat) (g : Nat → (Nat → Int32) → Nat → Int32) : Nat → tSA
  | 0 => sa
  | i + 1 => va_up (RF sa c g i) c (g i (RF sa c g i c))
def rf (f : Nat → Int32) (g : Nat → (Nat → Int32) → Nat → Int32) : Nat → Nat → Int32
  | 0 => f
  | i + 1 => g i (rf f g i)
theorem up_eq {α : Type} (f : Nat → α) (k : Nat) (v : α) : va_up f k v k = v := if_pos rfl
theorem up_self {α : Type} (f : Nat → α) (k : Nat) : va_up f k (f k) = f := by
  funext j; unfold va_up; split
  · rename_i h; rw [h]
  · rfl
theorem up_up {α : Type} (f : Nat → α) (k : Nat) (v w : α) : va_up (va_up f k v) k w = va_up f k w := by
  funext j; unfold va_up; split <;> rfl
theorem RF_up (sa : tSA) (c : Nat) (g : Nat → (Nat → Int32) → Nat → Int32) (n : Nat) : RF sa c g n = va_up sa c (rf (sa c) g n) := by
  induction n with
  | zero => exact (up_self sa c).symm
  | succ n ih => show va_up (RF sa c g n) c (g n (RF sa c g n c)) = _; rw [ih, up_eq, up_up]; rfl
theorem rf_at (f v : Nat → Int32) (b n q : Nat) : rf f (fun x h => upd h (b + x) (v x)) n q = if b ≤ q ∧ q < b + n then v (q - b) else f q := by
  induction n with
  | zero => rw [if_neg (by omega)]; rfl
  | succ n ih =>
    show upd (rf f (fun x h => upd h (b + x) (v x)) n) (b + n) (v n) q = _
    by_cases e : q = b + n
    · subst e; rw [upd_eq, if_pos (by omega), show b + n - b = n by omega]
    · rw [upd_ne _ _ e, ih]
      by_cases h : b ≤ q ∧ q < b + n
      · rw [if_pos h, if_pos (by omega)]
      · rw [if_neg h, if_neg (by omega)]
theorem rf_cpy (f h : Nat → Int32) (sp dp n : Nat) : rf f (fun x w => upd w (dp + x) (rf h (fun x w => upd w x (f (sp + x))) n x)) n = va_cpy f f sp dp n := by
  funext q
  rw [rf_at]
  unfold va_cpy
  by_cases hq : dp ≤ q ∧ q < dp + n
  · rw [if_pos hq, if_pos hq]
    have := rf_at h (fun x => f (sp + x)) 0 n (q - dp)
    simp only [Nat.zero_add] at this
    rw [this, if_pos (by omega)]
    simp
  · rw [if_neg hq, if_neg hq]
theorem nI_nle' {a b : Nat} (h : a < b) (hb : b < 2 ^ 31) : ¬ nI b ≤ nI a := nI_ge h hb
theorem renew_run {k n : Nat} (hk : k < 4) (hn : n ≤ 60) (si : tSI) (sa : tSA) : lp (S_X2_renew_17 (nI n) (nI k)) 100 (0, si, sa) = some (si, va_up sa 1 (rf (sa 1) (fun x h => upd h (60 * k + x) 0) n)) := by
  rw [← RF_up]
  refine lp_seq n (fun i => (nI i, si, RF sa 1 (fun x h => upd h (60 * k + x) 0) i)) ?_ ?_ 100 (by omega)
  · intro i hi rec
    unfold S_X2_renew_17
    dsimp only
    rw [if_neg (nI_nle' hi (by omega)), ix1, ld_nI (by omega) (by decide), nI_c (show 60 * k + i < 2 ^ 31 by omega), nI_1]
    rfl
  · intro rec
    unfold S_X2_renew_17
    dsimp only
    rw [if_pos (nI_le (Nat.le_refl n) (by omega))]
theorem sheet_run {k n : Nat} (hk : k < 4) (hn : n ≤ 60) (si : tSI) (sa : tSA) : lp (S_X6_sheet_65 (nI n) (nI k)) 100 (0, si, sa) = some (si, va_up sa 20 (rf (sa 20) (fun x h => upd h (60 * k + x) 0) n)) := by
  rw [← RF_up]
  refine lp_seq n (fun i => (nI i, si, RF sa 20 (fun x h => upd h (60 * k + x) 0) i)) ?_ ?_ 100 (by omega)
  · intro i hi rec
    unfold S_X6_sheet_65
    dsimp only
    rw [if_neg (nI_nle' hi (by omega)), ix2, ld_nI (by omega) (by decide), nI_c (show 60 * k + i < 2 ^ 31 by omega), nI_1]
    rfl
  · intro rec
    unfold S_X6_sheet_65
    dsimp only
    rw [if_pos (nI_le (Nat.le_refl n) (by omega))]
theorem e_sheet {si : tSI} {sa : tSA} {ti : tSI} {ta : tSA} (R : Rel si sa ti ta) (a1 a2 a3 : Int32) : ∃ r si' sa' ti' ta', F_X5_sheet a1 a2 a3 si sa = some (r, si', sa') ∧ F_X6_sheet a1 a2 a3 ti ta = some (r, ti', ta') ∧ Rel si' sa' ti' ta' := by
  unfold F_X5_sheet F_X6_sheet
  rw [isSheet_eq, noSheet_eq, isLane_eq, in32 0 2 rfl rfl]
  by_cases h : 0 ≤ a1.toInt ∧ a1.toInt < 4
  · rw [if_pos h, if_pos h]
    obtain ⟨k, hk, rfl⟩ := nI_ex (n := 4) h.1 h.2
    simp only [Option.bind_some, if_neg ne10, if_true]
    by_cases h2 : 0 ≤ a2.toInt ∧ a2.toInt < 3
    · rw [if_pos h2, if_pos (show 0 ≤ a2.toInt ∧ a2.toInt ≤ 2 by omega), if_neg ne10, if_neg ne10]
      by_cases h3 : a3 ≤ 60
      · rw [if_pos h3, if_pos h3]
        by_cases h4 : 0 ≤ a3
        · rw [if_pos h4, if_pos h4]
          obtain ⟨n, hn, rfl⟩ := nI_exle (a := a3) (n := 60) (by have := Int32.le_iff_toInt_le.mp h4; simpa using this) (by have := Int32.le_iff_toInt_le.mp h3; simpa using this)
          unfold F_X2_renew
          simp only [ld_nI hk (show 4 < 2 ^ 31 by decide), nI_c (show k < 2 ^ 31 by omega), renew_run hk hn, sheet_run hk hn, Option.bind_some]
          obtain ⟨so, sg, rd, ho, ho2, hg, hd, x2, m1, x3, m2, x4, m8, htr, hfa, hki, hco, hse, hal, hrs, hrt, hln, hce, hsz, hkr, hcr, hsr, har, hhv, hrr⟩ := R
          refine ⟨_, _, _, _, _, rfl, rfl, so, sg, rd, ho, ho2, hg, hd, x2, m1, x3, m2, x4, m8, htr, rfl, hki, hco, hse, hal, hrs, hrt, ?_, ?_, ?_, hkr, hcr, hsr, har, hhv, hrr⟩
          · show upd (ta 19) k a2 = upd (sa 2) k a2
            rw [hln]
          · show rf (ta 20) _ n = rf (sa 1) _ n
            rw [hce]
          · intro q hq
            show (upd (sa 3) k (nI n) q = -9 ∧ upd (ta 18) k (nI n) q = -1) ∨ ∃ z, z ≤ 60 ∧ upd (sa 3) k (nI n) q = nI z ∧ upd (ta 18) k (nI n) q = nI z
            by_cases e : q = k
            · subst e; exact Or.inr ⟨n, hn, upd_eq _ _ _, upd_eq _ _ _⟩
            · rw [upd_ne _ _ e, upd_ne _ _ e]; exact hsz q hq
        · rw [if_neg h4, if_neg h4]
          refine ⟨_, _, _, _, _, rfl, rfl, ?_⟩
          rw [upd_upd]
          exact R.fault 4
      · rw [if_neg h3, if_neg h3]
        exact ⟨_, _, _, _, _, rfl, rfl, R.fault 0⟩
    · rw [if_neg h2, if_neg (show ¬ (0 ≤ a2.toInt ∧ a2.toInt ≤ 2) by omega), if_pos rfl, if_pos rfl]
      exact ⟨_, _, _, _, _, rfl, rfl, R.fault 0⟩
  · rw [if_neg h, if_neg h]
    exact ⟨_, _, _, _, _, rfl, rfl, R.fault 0⟩
theorem e_lose {si : tSI} {sa : tSA} {ti : tSI} {ta : tSA} (R : Rel si sa ti ta) (a1 : Int32) : ∃ r si' sa' ti' ta', F_X5_lose a1 si sa = some (r, si', sa') ∧ F_X6_lose a1 ti ta = some (r, ti', ta') ∧ Rel si' sa' ti' ta' := by
  unfold F_X5_lose F_X6_lose F_X2_clear F_X2_isEmpty
  rw [isSheet_eq, noSheet_eq]
  by_cases h : 0 ≤ a1.toInt ∧ a1.toInt < 4
  · rw [if_pos h, if_pos h]
    obtain ⟨k, hk, rfl⟩ := nI_ex (n := 4) h.1 h.2
    obtain ⟨so, sg, rd, ho, ho2, hg, hd, x2, m1, x3, m2, x4, m8, htr, hfa, hki, hco, hse, hal, hrs, hrt, hln, hce, hsz, hkr, hcr, hsr, har, hhv, hrr⟩ := R
    simp only [Option.bind_some, if_neg ne10, if_true, ld_nI hk (show 4 < 2 ^ 31 by decide), nI_c (show k < 2 ^ 31 by omega)]
    have K : Rel si (va_up sa 3 (upd (sa 3) k (-9))) ti (va_up ta 18 (upd (ta 18) k (-1))) := by
      refine ⟨so, sg, rd, ho, ho2, hg, hd, x2, m1, x3, m2, x4, m8, htr, hfa, hki, hco, hse, hal, hrs, hrt, hln, hce, ?_, hkr, hcr, hsr, har, hhv, hrr⟩
      intro q hq
      show (upd (sa 3) k (-9) q = -9 ∧ upd (ta 18) k (-1) q = -1) ∨ ∃ z, z ≤ 60 ∧ upd (sa 3) k (-9) q = nI z ∧ upd (ta 18) k (-1) q = nI z
      by_cases e : q = k
      · subst e; exact Or.inl ⟨upd_eq _ _ _, upd_eq _ _ _⟩
      · rw [upd_ne _ _ e, upd_ne _ _ e]; exact hsz q hq
    rcases hsz k hk with ⟨e1, e2⟩ | ⟨n, hn, e1, e2⟩
    · rw [e1, e2, if_pos rfl, if_neg (show ¬ (0 : Int32) ≤ -1 by decide)]
      exact ⟨_, _, _, _, _, rfl, rfl, K⟩
    · rw [e1, e2, if_neg (nI_ne9 (by omega)), if_pos (nI_ge0 (by omega))]
      exact ⟨_, _, _, _, _, rfl, rfl, K⟩
  · rw [if_neg h, if_neg h]
    exact ⟨_, _, _, _, _, rfl, rfl, R⟩
theorem e_put {si : tSI} {sa : tSA} {ti : tSI} {ta : tSA} (R : Rel si sa ti ta) (a1 a2 a3 : Int32) : ∃ r si' sa' ti' ta', F_X5_put a1 a2 a3 si sa = some (r, si', sa') ∧ F_X6_put a1 a2 a3 ti ta = some (r, ti', ta') ∧ Rel si' sa' ti' ta' := by
  unfold F_X5_put F_X6_put
  rw [isSheet_eq, noSheet_eq]
  by_cases h : 0 ≤ a1.toInt ∧ a1.toInt < 4
  · rw [if_pos h, if_pos h]
    obtain ⟨k, hk, rfl⟩ := nI_ex (n := 4) h.1 h.2
    have R0 := R
    obtain ⟨so, sg, rd, ho, ho2, hg, hd, x2, m1, x3, m2, x4, m8, htr, hfa, hki, hco, hse, hal, hrs, hrt, hln, hce, hsz, hkr, hcr, hsr, har, hhv, hrr⟩ := R
    obtain ⟨f, hX, hM, hf⟩ := cell_cases hk (hsz k hk) a2
    simp only [Option.bind_some, if_neg ne10, if_true, hX, hM]
    rcases hf with rfl | rfl | ⟨rfl, m, j, hm, hj, rfl, em⟩
    · refine ⟨_, _, _, _, _, rfl, rfl, ?_⟩
      rw [upd_upd]
      exact R0.fault 1
    · refine ⟨_, _, _, _, _, rfl, rfl, ?_⟩
      rw [upd_upd]
      exact R0.fault 3
    · unfold F_X2_write F_X2_cut
      have hx : 60 * k + j < 240 := by omega
      simp only [if_true, show ((0 : Int32) ≤ 0) = True by decide, ld_nI hk (show 4 < 2 ^ 31 by decide), nI_c (show k < 2 ^ 31 by omega), ix1, ix2, ld_nI hx (show 240 < 2 ^ 31 by decide), nI_c (show 60 * k + j < 2 ^ 31 by omega), hln, hce]
      have K : ∀ v : Int32, Rel (upd si 1 0) (va_up sa 1 (upd (sa 1) (60 * k + j) v)) (upd ti 0 0) (va_up ta 20 (upd (sa 1) (60 * k + j) v)) := fun v =>
        ⟨so, sg, rd, ho, ho2, hg, hd, x2, m1, x3, m2, x4, m8, htr, rfl, hki, hco, hse, hal, hrs, hrt, hln, rfl, hsz, hkr, hcr, hsr, har, hhv, hrr⟩
      by_cases l0 : sa 2 k = 0
      · rw [if_pos l0]; exact ⟨_, _, _, _, _, rfl, rfl, K _⟩
      · rw [if_neg l0]
        by_cases l1 : sa 2 k = 1
        · rw [if_pos l1]; exact ⟨_, _, _, _, _, rfl, rfl, K _⟩
        · rw [if_neg l1]; exact ⟨_, _, _, _, _, rfl, rfl, K _⟩
  · rw [if_neg h, if_neg h]
    exact ⟨_, _, _, _, _, rfl, rfl, R.fault 0⟩
theorem e_cell {si : tSI} {sa : tSA} {ti : tSI} {ta : tSA} (R : Rel si sa ti ta) (a1 a2 a3 : Int32) : ∃ r si' sa' ti' ta', F_X5_cell a1 a2 a3 si sa = some (r, si', sa') ∧ F_X6_cell a1 a2 a3 ti ta = some (r, ti', ta') ∧ Rel si' sa' ti' ta' := by
  unfold F_X5_cell F_X6_cell
  rw [isSheet_eq, noSheet_eq, isLane_eq, in32 0 2 rfl rfl]
  by_cases h : 0 ≤ a1.toInt ∧ a1.toInt < 4
  · rw [if_pos h, if_pos h]
    obtain ⟨k, hk, rfl⟩ := nI_ex (n := 4) h.1 h.2
    simp only [Option.bind_some, if_neg ne10, if_true]
    by_cases h2 : 0 ≤ a3.toInt ∧ a3.toInt < 3
    · rw [if_pos h2, if_pos (show 0 ≤ a3.toInt ∧ a3.toInt ≤ 2 by omega), if_neg ne10, if_neg ne10]
      have R0 := R
      obtain ⟨so, sg, rd, ho, ho2, hg, hd, x2, m1, x3, m2, x4, m8, htr, hfa, hki, hco, hse, hal, hrs, hrt, hln, hce, hsz, hkr, hcr, hsr, har, hhv, hrr⟩ := R
      unfold K_X6_cell_53
      obtain ⟨f, hX, hM, hf⟩ := cell_cases hk (hsz k hk) a2
      simp only [asRow_eq hk, ld_nI hk (show 4 < 2 ^ 31 by decide), nI_c (show k < 2 ^ 31 by omega), Option.bind_some, hX, hM, hln, upd_upd]
      rcases hsz k hk with ⟨e1, e2⟩ | ⟨n, hn, e1, e2⟩
      · have f1 : f = 1 := by
          rcases hf with h | h | ⟨_, m, j, hm, hj, _, em⟩
          · exact h
          · subst h
            have := hX si
            unfold F_X2_faultOfCell F_X2_isEmpty at this
            simp only [ld_nI hk (show 4 < 2 ^ 31 by decide), nI_c (show k < 2 ^ 31 by omega), e1, if_true, Option.bind_some, if_neg ne10] at this
            exact absurd this (by decide)
          · rw [e1] at em; exact absurd em.symm (nI_ne9 (by omega))
        subst f1
        rw [e1, e2, if_pos rfl, if_pos (show (-1 : Int32) < 0 by decide)]
        exact ⟨_, _, _, _, _, rfl, rfl, R0.fault 1⟩
      · rw [e1, e2, if_neg (nI_ne9 (show n < 2 ^ 31 by omega)), if_neg (show ¬ nI n < 0 by rw [i32_nlt]; exact nI_ge0 (by omega))]
        by_cases l : sa 2 k = a3
        · rw [if_pos l, if_pos l]
          simp only [if_true, Option.bind_some, hX, upd_upd]
          rcases hf with rfl | rfl | ⟨rfl, m, j, hm, hj, rfl, em⟩
          · exact ⟨_, _, _, _, _, rfl, rfl, R0.fault 1⟩
          · exact ⟨_, _, _, _, _, rfl, rfl, R0.fault 3⟩
          · unfold F_X2_read
            have hx : 60 * k + j < 240 := by omega
            simp only [if_true, show ((0 : Int32) ≤ 0) = True by decide, ix1, ix2, ld_nI hx (show 240 < 2 ^ 31 by decide), nI_c (show 60 * k + j < 2 ^ 31 by omega), hce]
            exact ⟨_, _, _, _, _, rfl, rfl, R0.fault 0⟩
        · rw [if_neg l, if_neg l]
          exact ⟨_, _, _, _, _, rfl, rfl, R0.fault 2⟩
    · rw [if_neg h2, if_neg (show ¬ (0 ≤ a3.toInt ∧ a3.toInt ≤ 2) by omega), if_pos rfl, if_pos rfl]
      exact ⟨_, _, _, _, _, rfl, rfl, R.fault 0⟩
  · rw [if_neg h, if_neg h]
    exact ⟨_, _, _, _, _, rfl, rfl, R.fault 0⟩
theorem copy1_run {k i n : Nat} (hi : 60 * k + i + n ≤ 240) (hn : n ≤ 60) (si : tSI) (sa : tSA) : lp (S_X6_copy_107 (nI n) (nI k) (nI i)) 100 (0, si, sa) = some (si, va_up sa 21 (rf (sa 21) (fun x h => upd h x (sa 20 (60 * k + i + x))) n)) := by
  rw [← RF_up]
  refine lp_seq n (fun x => (nI x, si, RF sa 21 (fun x h => upd h x (sa 20 (60 * k + i + x))) x)) ?_ ?_ 100 (by omega)
  · intro x hx rec
    unfold S_X6_copy_107
    dsimp only
    rw [if_neg (nI_nle' hx (by omega)), ix2, nI_add, ld_nI (by omega) (by decide), ld_nI (by omega) (by decide), nI_c (show 60 * k + i + x < 2 ^ 31 by omega), nI_c (show x < 2 ^ 31 by omega), nI_1, RF_up, up_ne sa _ (show (20 : Nat) ≠ 21 by decide)]
    rw [← RF_up]
    rfl
  · intro rec
    unfold S_X6_copy_107
    dsimp only
    rw [if_pos (nI_le (Nat.le_refl n) (by omega))]
theorem copy2_run {k i n : Nat} (hi : 60 * k + i + n ≤ 240) (hn : n ≤ 60) (si : tSI) (sa : tSA) : lp (S_X6_copy_144 (nI n) (nI k) (nI i)) 100 (0, si, sa) = some (si, va_up sa 20 (rf (sa 20) (fun x h => upd h (60 * k + i + x) (sa 21 x)) n)) := by
  rw [← RF_up]
  refine lp_seq n (fun x => (nI x, si, RF sa 20 (fun x h => upd h (60 * k + i + x) (sa 21 x)) x)) ?_ ?_ 100 (by omega)
  · intro x hx rec
    unfold S_X6_copy_144
    dsimp only
    rw [if_neg (nI_nle' hx (by omega)), ix2, nI_add, ld_nI (by omega) (by decide), ld_nI (by omega) (by decide), nI_c (show 60 * k + i + x < 2 ^ 31 by omega), nI_c (show x < 2 ^ 31 by omega), nI_1, RF_up, up_ne sa _ (show (21 : Nat) ≠ 20 by decide)]
    rw [← RF_up]
    rfl
  · intro rec
    unfold S_X6_copy_144
    dsimp only
    rw [if_pos (nI_le (Nat.le_refl n) (by omega))]
theorem cpk_in {β : Type} {sp dp n n0 n1 : Nat} {x : Option β} (h1 : sp + n ≤ n0) (h2 : dp + n ≤ n1) (h3 : n0 < 2 ^ 31) (h4 : n1 < 2 ^ 31) : cpk (nI sp) (nI dp) (nI n) n0 n1 x = x := by
  unfold cpk
  rw [nI_c (show sp < 2 ^ 31 by omega), nI_c (show dp < 2 ^ 31 by omega), nI_c (show n < 2 ^ 31 by omega)]
  rw [if_neg]
  intro h
  have z : ∀ q : Nat, q < 2 ^ 31 → ¬ nI q < 0 := fun q hq => nI_pos hq
  rcases h with h | h | h | h | h
  · exact z sp (by omega) h
  · exact z dp (by omega) h
  · exact z n (by omega) h
  · exact h h1
  · exact h h2
theorem e_copy {si : tSI} {sa : tSA} {ti : tSI} {ta : tSA} (R : Rel si sa ti ta) (a1 a2 a3 a4 a5 : Int32) : ∃ r si' sa' ti' ta', F_X5_copy a1 a2 a3 a4 a5 si sa = some (r, si', sa') ∧ F_X6_copy a1 a2 a3 a4 a5 ti ta = some (r, ti', ta') ∧ Rel si' sa' ti' ta' := by
  unfold F_X5_copy F_X6_copy
  rw [isSheet_eq, noSheet_eq, isSheet_eq, noSheet_eq]
  by_cases h : 0 ≤ a1.toInt ∧ a1.toInt < 4
  · rw [if_pos h, if_pos h]
    obtain ⟨k, hk, rfl⟩ := nI_ex (n := 4) h.1 h.2
    simp only [Option.bind_some, if_neg ne10, if_true]
    by_cases h2 : 0 ≤ a3.toInt ∧ a3.toInt < 4
    · rw [if_pos h2, if_pos h2, if_neg ne10, if_pos rfl]
      obtain ⟨o, hok, rfl⟩ := nI_ex (n := 4) h2.1 h2.2
      have R0 := R
      obtain ⟨so, sg, rd, ho, ho2, hg, hd, x2, m1, x3, m2, x4, m8, htr, hfa, hki, hco, hse, hal, hrs, hrt, hln, hce, hsz, hkr, hcr, hsr, har, hhv, hrr⟩ := R
      unfold F_X2_faultOfPair F_X2_isEmpty
      simp only [ld_nI hk (show 4 < 2 ^ 31 by decide), nI_c (show k < 2 ^ 31 by omega), ld_nI hok (show 4 < 2 ^ 31 by decide), nI_c (show o < 2 ^ 31 by omega), hln]
      rcases hsz k hk with ⟨e1, e2⟩ | ⟨n, hn, e1, e2⟩
      · rw [e1, e2, if_pos rfl, if_pos (show (-1 : Int32) < 0 by decide)]
        refine ⟨_, _, _, _, _, rfl, rfl, ?_⟩
        rw [upd_upd]
        exact R0.fault 1
      · rw [e1, e2, if_neg (nI_ne9 (show n < 2 ^ 31 by omega)), if_neg (show ¬ nI n < 0 by rw [i32_nlt]; exact nI_ge0 (by omega))]
        simp only [Option.bind_some, if_true]
        rcases hsz o hok with ⟨f1, f2⟩ | ⟨n', hn', f1, f2⟩
        · rw [f1, f2, if_pos rfl, if_neg (show ¬ (0 : Int32) ≤ -1 by decide)]
          refine ⟨_, _, _, _, _, rfl, rfl, ?_⟩
          rw [upd_upd]
          exact R0.fault 1
        · rw [f1, f2, if_neg (nI_ne9 (show n' < 2 ^ 31 by omega)), if_pos (nI_ge0 (show n' < 2 ^ 31 by omega))]
          simp only [Option.bind_some, if_true]
          by_cases l : sa 2 k = sa 2 o
          · rw [if_pos l, if_pos l, beyond_eq hn, beyond_eq hn', span_eq hk hn e1, span_eq hok hn' f1]
            simp only [Option.bind_some, if_true]
            by_cases b1 : 0 ≤ a2.toInt ∧ 0 ≤ a5.toInt ∧ a2.toInt + a5.toInt ≤ n
            · rw [if_pos b1, if_pos b1]
              simp only [Option.bind_some, if_true]
              by_cases b2 : 0 ≤ a4.toInt ∧ 0 ≤ a5.toInt ∧ a4.toInt + a5.toInt ≤ n'
              · rw [if_pos b2, if_pos b2]
                obtain ⟨i, hi, rfl⟩ := nI_exle (a := a2) (n := n) (by omega) (by omega)
                obtain ⟨j, hj, rfl⟩ := nI_exle (a := a4) (n := n') (by omega) (by omega)
                obtain ⟨w, hw, rfl⟩ := nI_exle (a := a5) (n := n) (by omega) (by omega)
                rw [nI_toInt (show i < 2 ^ 31 by omega), nI_toInt (show w < 2 ^ 31 by omega)] at b1
                rw [nI_toInt (show j < 2 ^ 31 by omega), nI_toInt (show w < 2 ^ 31 by omega)] at b2
                unfold F_X2_move
                have g1 : 60 * k + i + w ≤ 240 := by omega
                have g2 : 60 * o + j + w ≤ 240 := by omega
                simp only [Option.bind_some, if_true, ix1, cpk_in g1 g2 (show 240 < 2 ^ 31 by decide) (show 240 < 2 ^ 31 by decide), copy1_run g1 (show w ≤ 60 by omega), copy2_run g2 (show w ≤ 60 by omega), nI_c (show 60 * k + i < 2 ^ 31 by omega), nI_c (show 60 * o + j < 2 ^ 31 by omega), nI_c (show w < 2 ^ 31 by omega)]
                refine ⟨_, _, _, _, _, rfl, rfl, so, sg, rd, ho, ho2, hg, hd, x2, m1, x3, m2, x4, m8, htr, rfl, hki, hco, hse, hal, hrs, hrt, hln, ?_, hsz, hkr, hcr, hsr, har, hhv, hrr⟩
                show rf (ta 20) (fun x h => upd h (60 * o + j + x) (rf (ta 21) (fun x h => upd h x (ta 20 (60 * k + i + x))) w x)) w = va_cpy (sa 1) (sa 1) (60 * k + i) (60 * o + j) w
                rw [rf_cpy, hce]
              · rw [if_neg b2, if_neg b2]
                refine ⟨_, _, _, _, _, rfl, rfl, ?_⟩
                rw [upd_upd]
                exact R0.fault 3
            · rw [if_neg b1, if_neg b1]
              refine ⟨_, _, _, _, _, rfl, rfl, ?_⟩
              rw [upd_upd]
              exact R0.fault 3
          · rw [if_neg l, if_neg l]
            refine ⟨_, _, _, _, _, rfl, rfl, ?_⟩
            rw [upd_upd]
            exact R0.fault 2
    · rw [if_neg h2, if_neg h2, if_pos rfl, if_neg ne10]
      exact ⟨_, _, _, _, _, rfl, rfl, R.fault 0⟩
  · rw [if_neg h, if_neg h]
    exact ⟨_, _, _, _, _, rfl, rfl, R.fault 0⟩
