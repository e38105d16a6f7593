def PL (a : Int32) : Prop := (0 ≤ a.toInt ∧ a.toInt ≤ 3) ∨ (10 ≤ a.toInt ∧ a.toInt ≤ 15) ∨ (20 ≤ a.toInt ∧ a.toInt ≤ 25)
theorem isOfPlans_cases (a : Int32) : (PL a ∧ F_X5_isOfPlans a = some 1) ∨ (¬ PL a ∧ F_X5_isOfPlans a = some 0) := by
  unfold F_X5_isOfPlans PL
  simp only [Int32.lt_iff_toInt_lt, Int32.le_iff_toInt_le, show (0 : Int32).toInt = 0 from rfl, show (10 : Int32).toInt = 10 from rfl, show (20 : Int32).toInt = 20 from rfl, show (25 : Int32).toInt = 25 from rfl, show (15 : Int32).toInt = 15 from rfl, show (3 : Int32).toInt = 3 from rfl]
  repeat' (first | (refine Or.inl ⟨by omega, rfl⟩; done) | (refine Or.inr ⟨by omega, rfl⟩; done) | split)
theorem x4_cases (a : Int32) : (PL a ∧ ((if (if 0 ≤ a.toInt ∧ a.toInt ≤ 3 then (1 : Int32) else 0) = 0 then (F_X6_in (Int32.toInt64 a) (10 : Int64) (15 : Int64)).bind fun r29 => (if r29 = 0 then (F_X6_in (Int32.toInt64 a) (20 : Int64) (25 : Int64)).bind fun r31 => (if r31 = 0 then some (0 : Int32) else some (1 : Int32)) else some (1 : Int32)) else some (1 : Int32))) = some 1) ∨ (¬ PL a ∧ ((if (if 0 ≤ a.toInt ∧ a.toInt ≤ 3 then (1 : Int32) else 0) = 0 then (F_X6_in (Int32.toInt64 a) (10 : Int64) (15 : Int64)).bind fun r29 => (if r29 = 0 then (F_X6_in (Int32.toInt64 a) (20 : Int64) (25 : Int64)).bind fun r31 => (if r31 = 0 then some (0 : Int32) else some (1 : Int32)) else some (1 : Int32)) else some (1 : Int32))) = some 0) := by
  rw [in32 10 15 rfl rfl, in32 20 25 rfl rfl]
  unfold PL
  by_cases h1 : 0 ≤ a.toInt ∧ a.toInt ≤ 3
  · rw [if_pos h1, if_neg ne10]; exact Or.inl ⟨Or.inl h1, rfl⟩
  · rw [if_neg h1, if_pos rfl]
    by_cases h2 : 10 ≤ a.toInt ∧ a.toInt ≤ 15
    · rw [if_pos h2]; exact Or.inl ⟨Or.inr (Or.inl h2), rfl⟩
    · rw [if_neg h2]
      by_cases h3 : 20 ≤ a.toInt ∧ a.toInt ≤ 25
      · rw [if_pos h3]; exact Or.inl ⟨Or.inr (Or.inr h3), rfl⟩
      · rw [if_neg h3]; exact Or.inr ⟨by omega, rfl⟩
theorem PL_cases {a : Int32} (h : PL a) : (a = 0 ∨ a = 1 ∨ a = 2 ∨ a = 3) ∨ (∃ s, s < 6 ∧ a = nI (10 + s)) ∨ (∃ s, s < 6 ∧ a = nI (20 + s)) := by
  rcases h with ⟨h1, h2⟩ | ⟨h1, h2⟩ | ⟨h1, h2⟩
  · obtain ⟨j, hj, rfl⟩ := nI_ex (a := a) (n := 4) h1 (by omega)
    left
    rcases (show j = 0 ∨ j = 1 ∨ j = 2 ∨ j = 3 by omega) with rfl | rfl | rfl | rfl
    · exact Or.inl rfl
    · exact Or.inr (Or.inl rfl)
    · exact Or.inr (Or.inr (Or.inl rfl))
    · exact Or.inr (Or.inr (Or.inr rfl))
  · obtain ⟨j, hj, rfl⟩ := nI_ex (a := a) (n := 16) (by omega) (by omega)
    rw [nI_toInt (by omega)] at h1
    exact Or.inr (Or.inl ⟨j - 10, by omega, by congr 1; omega⟩)
  · obtain ⟨j, hj, rfl⟩ := nI_ex (a := a) (n := 26) (by omega) (by omega)
    rw [nI_toInt (by omega)] at h1
    exact Or.inr (Or.inr ⟨j - 20, by omega, by congr 1; omega⟩)
theorem p10 : ∀ s, s < 6 → ¬ nI (10 + s) = 0 ∧ ¬ nI (10 + s) = 1 ∧ ¬ nI (10 + s) = 2 ∧ ¬ nI (10 + s) = 3 ∧ ¬ (20 : Int32) ≤ nI (10 + s) ∧ nI (10 + s) - 10 = nI s ∧ ¬ nI (10 + s) ≤ 9 ∧ nI (10 + s) - nI (10 + s) / 10 * 10 = nI s := by decide
theorem p20 : ∀ s, s < 6 → ¬ nI (20 + s) = 0 ∧ ¬ nI (20 + s) = 1 ∧ ¬ nI (20 + s) = 2 ∧ ¬ nI (20 + s) = 3 ∧ (20 : Int32) ≤ nI (20 + s) ∧ nI (20 + s) - 20 = nI s ∧ ¬ nI (20 + s) ≤ 9 ∧ nI (20 + s) - nI (20 + s) / 10 * 10 = nI s := by decide
theorem heapsNow_eq {so sg u : Nat} {h : Nat → Nat} {si : tSI} {sa : tSA} (m1 : si 1 = nI so) (ho : so ≤ 6) (hh : ∀ k, k < sg → h k < 64) (hH : ∀ s, s < so → sa 10 s = nI (HP so sg h s u)) : F_X6_heapsNow si sa = some (nI (HC so sg h u so)) := by
  have L : lp (S_X6_heapsNow_4 si sa) 100 (0, 0) = some (nI (HC so sg h u so)) := by
    refine lp_seq so (fun i => (nI i, nI (HC so sg h u i))) ?_ ?_ 100 (by omega)
    · intro i hi rec
      unfold S_X6_heapsNow_4
      dsimp only
      have hv := HPr_lt ho h i u sg
      have h0 := pos_of_tb (HP_self (sg := sg) (u := u) hh hi ho)
      have hl := (lsb_sp _ hv h0).2.1
      rw [m1, if_neg (nI_nle' hi (by omega)), leastOf_eq (by omega) hv h0 (hH i hi), HC_s]
      simp only [Option.bind_some, nI_i64 _ (show lsb (HPr so h i u sg) < 64 by omega) i (by omega), nI_1, Int32.add_zero]
      split <;> rfl
    · intro rec
      unfold S_X6_heapsNow_4
      dsimp only
      rw [m1, if_pos (nI_le (Nat.le_refl so) (by omega))]
  unfold F_X6_heapsNow
  rw [L]; rfl
def RN (so sg : Nat) (h : Nat → Nat) (u : Nat) : Nat → Nat
  | 0 => 0
  | s + 1 => if HP so sg h s u = 2 ^ s then RN so sg h u s ||| 2 ^ s else RN so sg h u s
theorem RN_s (so sg : Nat) (h : Nat → Nat) (u s : Nat) : RN so sg h u (s + 1) = if HP so sg h s u = 2 ^ s then RN so sg h u s ||| 2 ^ s else RN so sg h u s := rfl
theorem RN_lt (so sg : Nat) (h : Nat → Nat) (u : Nat) : ∀ s, s ≤ 6 → RN so sg h u s < 64 := by
  intro s
  induction s with
  | zero => intro _; show 0 < 64; omega
  | succ s ih =>
    intro hs
    rw [RN_s]
    split
    · exact or_lt (ih (by omega)) (p2_lt (by omega))
    · exact ih (by omega)
theorem RN_tb (so sg : Nat) (h : Nat → Nat) (u t : Nat) : ∀ s, (RN so sg h u s).testBit t = true ↔ t < s ∧ HP so sg h t u = 2 ^ t := by
  intro s
  induction s with
  | zero => show (0 : Nat).testBit t = true ↔ _; simp
  | succ s ih =>
    rw [RN_s]
    by_cases c : HP so sg h s u = 2 ^ s
    · rw [if_pos c, Nat.testBit_or, Bool.or_eq_true, ih, tb_p2, decide_eq_true_eq]
      constructor
      · rintro (⟨a, b⟩ | e)
        · exact ⟨by omega, b⟩
        · subst e; exact ⟨by omega, c⟩
      · rintro ⟨a, b⟩
        by_cases e : t = s
        · exact Or.inr e.symm
        · exact Or.inl ⟨by omega, b⟩
    · rw [if_neg c, ih]
      constructor
      · rintro ⟨a, b⟩; exact ⟨by omega, b⟩
      · rintro ⟨a, b⟩
        refine ⟨?_, b⟩
        by_cases e : t = s
        · subst e; exact absurd b c
        · omega
theorem readyNow_eq {so sg u : Nat} {h : Nat → Nat} {si : tSI} {sa : tSA} (m1 : si 1 = nI so) (ho : so ≤ 6) (hH : ∀ s, s < so → sa 10 s = nI (HP so sg h s u)) : F_X6_readyNow si sa = some (nI (RN so sg h u so)) := by
  have L : lp (S_X6_readyNow_4 si sa) 100 (0, 0) = some (nI (RN so sg h u so)) := by
    refine lp_seq so (fun i => (nI i, nI (RN so sg h u i))) ?_ ?_ 100 (by omega)
    · intro i hi rec
      unfold S_X6_readyNow_4
      dsimp only
      rw [m1, if_neg (nI_nle' hi (by omega)), isAlone_eq (by omega), hH i hi, RN_s]
      simp only [nI_i64 _ (HPr_lt ho h i u sg) _ (p2_lt (show i < 6 by omega)), nI_1, Option.bind_some, shl_eq i (by omega), or_eq _ (RN_lt so sg h u i (by omega)) _ (p2_lt (show i < 6 by omega)), Int32.or_zero]
      by_cases c : HPr so h i u sg = 2 ^ i
      · rw [if_pos c, if_neg ne10, if_pos c]
      · rw [if_neg c, if_pos rfl, if_neg c]
    · intro rec
      unfold S_X6_readyNow_4
      dsimp only
      rw [m1, if_pos (nI_le (Nat.le_refl so) (by omega))]
  unfold F_X6_readyNow
  rw [L]; rfl
theorem ready_set {so sg : Nat} (ho : so ≤ 6) (h : Nat → Nat) (u : Nat) : (2 ^ so - 1) &&& (63 ^^^ WT so sg h u) = RN so sg h u so := by
  have hp := p2le ho
  refine eq64 (and_lt (by omega)) (RN_lt so sg h u so ho) fun t ht => ?_
  rw [RN_tb, Nat.testBit_and, Bool.and_eq_true, tb63 t ht _ (WTr_lt so sg h u so ho), Nat.testBit_two_pow_sub_one, decide_eq_true_eq, Bool.not_eq_true']
  constructor
  · rintro ⟨a, b⟩
    refine ⟨a, ?_⟩
    rcases Decidable.em (HP so sg h t u = 2 ^ t) with c | c
    · exact c
    · rw [(WTr_tb so sg h u t so).mpr ⟨a, c⟩] at b; cases b
  · rintro ⟨a, b⟩
    refine ⟨a, ?_⟩
    cases r : (WTr so sg h u so).testBit t with
    | false => rfl
    | true => exact absurd b ((WTr_tb so sg h u t so).mp r).2
theorem e_plan {si : tSI} {sa : tSA} {ti : tSI} {ta : tSA} (R : Rel si sa ti ta) (a1 a2 a3 a4 a5 : Int32) : ∃ r si' sa' ti' ta', F_X5_plan a1 a2 a3 a4 a5 si sa = some (r, si', sa') ∧ F_X6_plan a1 a2 a3 a4 a5 ti ta = some (r, ti', ta') ∧ Rel si' sa' ti' ta' := by
  unfold F_X5_plan F_X6_plan K_X5_plan_23
  rw [isSheet_eq, noSheet_eq, in32 0 3 rfl rfl]
  by_cases h : 0 ≤ a1.toInt ∧ a1.toInt < 4
  · have R0 := R
    obtain ⟨so, sg, rd, ho, ho2, hg, hd, x2, m1, x3, m2, x4, m8, htr, hfa, hki, hco, hse, hal, hrs, hrt, hln, hce, hsz, hkr, hcr, hsr, har, hhv, hrr⟩ := R
    rw [if_pos h, if_pos h, refusal_eq (si := upd si 1 0) (so := so) x2 ho, if_pos h]
    obtain ⟨k, hk, rfl⟩ := nI_ex (n := 4) h.1 h.2
    rw [in32 (a := a2) (lo := 0) (hi := 2) 0 2 rfl rfl, in32 (a := a4) (lo := 0) (hi := 20) 0 20 rfl rfl]
    simp only [Option.bind_some, if_neg ne10, if_true]
    rcases isOfPlans_cases a5 with ⟨hp, e1⟩ | ⟨hp, e1⟩
    · rw [e1]
      simp only [Option.bind_some, if_neg ne10]
      rcases x4_cases a5 with ⟨_, e2⟩ | ⟨hq, e2⟩
      · rw [e2]
        simp only [Option.bind_some, if_neg ne10]
        by_cases h2 : (0 ≤ a2.toInt ∧ a2.toInt < 3) ∧ 0 ≤ a4.toInt ∧ a4.toInt ≤ (20 : Int32).toInt
        · have h2c : a4.toInt ≤ 20 := h2.2.2
          rw [if_pos h2, if_pos (show 0 ≤ a2.toInt ∧ a2.toInt ≤ 2 by omega), if_neg ne10, if_pos (show 0 ≤ a4.toInt ∧ a4.toInt ≤ 20 from ⟨h2.2.1, h2c⟩), if_neg ne10, m1]
          by_cases c : so = 0
          · rw [if_pos c, if_pos ((nI_z so ho).mpr c)]
            exact ⟨_, _, _, _, _, rfl, rfl, R0.fault 0⟩
          · rw [if_neg c, if_neg (fun z => c ((nI_z so ho).mp z)), if_pos rfl, x3]
            have hso2 : 2 ≤ so := by omega
            obtain ⟨w, hw, rfl⟩ := nI_exle (a := a4) (n := 20) h2.2.1 h2c
            rcases take_cases hk (show w ≤ 60 by omega) (show sg ≤ 6 by omega) (hsz k hk) hln hce a2 a3 1 (Or.inr ⟨rfl, m2⟩) (upd si 1 0) with ⟨f, r, hr0, hr1, t1, t2⟩ | ⟨row, t1, t2⟩ | ⟨j, q, row, rfl, hj, hq, hrow, t1, t2⟩
            · rw [t1, t2]
              simp only [Option.bind_some, if_neg hr0, if_neg hr1]
              refine ⟨_, _, _, _, _, rfl, rfl, ?_⟩
              rw [upd_upd]
              exact R0.fault f
            · rw [t1, t2]
              refine ⟨_, _, _, _, _, rfl, rfl, ?_⟩
              exact ⟨so, sg, rd, ho, ho2, hg, hd, x2, m1, x3, m2, x4, m8, htr, rfl, hki, hco, hse, hal, hrs, hrt, hln, hce, hsz, hkr, hcr, hsr, har, hhv, hrr⟩
            · rw [t1, t2]
              simp only [Option.bind_some, if_true, show ((0 : Int32) ≤ 0) = True by decide]
              obtain ⟨hh, hm, g, CX, CM⟩ := rel_ctx ho hg x2 x3 m1 m2 hki hco hse hkr hcr hsr hhv
              have hh1 : ∀ k, k < sg → hh k < 64 := fun k hk => (CX.2.2.2.2.1 k hk).1
              rw [go_eq (so := so) (sg := sg) (h := hh) (g := g) (q := q) (si := upd si 1 0) (sa := va_up sa 0 row) CX hso2 (show w ≤ 60 by omega) (fun x hx => ⟨(hq x hx).1, hrow x hx⟩)]
              rw [ix2, goPlan_eq (so := so) (sg := sg) (h := hh) (hm := hm) (g := g) (q := q) (si := upd ti 0 0) (sa := ta) CM (show w ≤ 60 by omega) hj (fun x hx => ⟨(hq x hx).1, by rw [hce]; exact (hq x hx).2⟩)]
              simp only [Option.bind_some]
              have hu := PU_lt (q := q) w (fun y hy => by have := (hq y hy).1; omega)
              have RR : Rel (upd (upd (upd (upd si 1 0) 9 (nI (PS so sg hh g q w))) 10 (PI so sg hh q w)) 11 (nI (PU q w))) (va_up (va_up sa 0 row) 12 (fun t => if t < 6 then (if t < so then PR so sg hh g q t w else -9) else va_up sa 0 row 12 t)) (upd (upd (upd ti 0 0) 6 (nI (PS so sg hh g q w))) 7 (PI so sg hh q w)) (va_up (va_up ta 10 (fun t => if t < so then nI (HP so sg hh t (PU q w)) else ta 10 t)) 11 (fun t => if t < so then PR so sg hh g q t w else ta 11 t)) :=
                ⟨so, sg, rd, ho, ho2, hg, hd, x2, m1, x3, m2, x4, m8, htr, rfl, hki, hco, hse, hal, hrs, hrt, hln, hce, hsz, hkr, hcr, hsr, har, hhv, hrr⟩
              generalize hSI : upd (upd (upd (upd si 1 0) 9 (nI (PS so sg hh g q w))) 10 (PI so sg hh q w)) 11 (nI (PU q w)) = SI at RR ⊢
              generalize hSA : va_up (va_up sa 0 row) 12 (fun t => if t < 6 then (if t < so then PR so sg hh g q t w else -9) else va_up sa 0 row 12 t) = SA at RR ⊢
              generalize hTI : upd (upd (upd ti 0 0) 6 (nI (PS so sg hh g q w))) 7 (PI so sg hh q w) = TI at RR ⊢
              generalize hTA : va_up (va_up ta 10 (fun t => if t < so then nI (HP so sg hh t (PU q w)) else ta 10 t)) 11 (fun t => if t < so then PR so sg hh g q t w else ta 11 t) = TA at RR ⊢
              have s9 : SI 9 = nI (PS so sg hh g q w) := by rw [← hSI]; rfl
              have s10 : SI 10 = PI so sg hh q w := by rw [← hSI]; rfl
              have s11 : SI 11 = nI (PU q w) := by rw [← hSI]; rfl
              have s2 : SI 2 = nI so := by rw [← hSI]; exact x2
              have s3 : SI 3 = nI sg := by rw [← hSI]; exact x3
              have s8 : ∀ k, k < sg → hh k < 64 ∧ SA 8 k = nI (hh k) := by rw [← hSA]; exact CX.2.2.2.2.1
              have s12 : ∀ t, t < 6 → SA 12 t = if t < so then PR so sg hh g q t w else -9 := by rw [← hSA]; exact fun t ht => if_pos ht
              have t6 : TI 6 = nI (PS so sg hh g q w) := by rw [← hTI]; rfl
              have t7 : TI 7 = PI so sg hh q w := by rw [← hTI]; rfl
              have t01 : TI 1 = nI so := by rw [← hTI]; exact m1
              have t10 : ∀ t, t < so → TA 10 t = nI (HP so sg hh t (PU q w)) := by rw [← hTA]; exact fun t ht => if_pos ht
              have t11 : ∀ t, t < so → TA 11 t = PR so sg hh g q t w := by rw [← hTA]; exact fun t ht => if_pos ht
              rcases PL_cases hp with (rfl | rfl | rfl | rfl) | ⟨s, hs, rfl⟩ | ⟨s, hs, rfl⟩
              · refine ⟨_, _, _, _, _, rfl, ?_, RR⟩
                show some (TI 6, TI, TA) = some (SI 9, TI, TA)
                rw [t6, s9]
              · refine ⟨_, _, _, _, _, rfl, ?_, RR⟩
                show some (TI 7, TI, TA) = some (SI 10, TI, TA)
                rw [t7, s10]
              · rw [s11, heaps_eq s2 ho s3 hg s8 hu, heapsNow_eq t01 ho hh1 t10]
                exact ⟨_, _, _, _, _, rfl, rfl, RR⟩
              · rw [s11, every_eq s2 ho, waiting_eq s2 ho s3 hg s8 hu, readyNow_eq t01 ho t10]
                have hp2 := p2le ho
                simp only [Option.bind_some, andn_eq _ (show 2 ^ so - 1 < 64 by omega) _ (WTr_lt so sg hh (PU q w) so ho), ready_set ho]
                exact ⟨_, _, _, _, _, rfl, rfl, RR⟩
              · obtain ⟨z0, z1, z2, z3, z20, zs, z9, zm⟩ := p10 s hs
                unfold F_X5_readyBehind
                rw [if_neg z0, if_neg z1, if_neg z2, if_neg z3, if_neg z20, if_neg z9, zs, zm, isSort_eq s2 (by omega), noSort_eq t01 (by omega), nI_toInt (show s < 2 ^ 31 by omega), if_neg z20]
                unfold dz
                rw [if_neg (show ¬ (10 : Int32) = 0 by decide)]
                by_cases y : s < so
                · rw [if_pos (show (0 : Int) ≤ s ∧ (s : Int) < so by omega), if_pos (show (0 : Int) ≤ s ∧ (s : Int) < so by omega)]
                  simp only [Option.bind_some, if_neg ne10, if_true, ld_nI hs (show 6 < 2 ^ 31 by decide), nI_c (show s < 2 ^ 31 by omega), s12 s hs, t11 s y, if_pos y]
                  exact ⟨_, _, _, _, _, rfl, rfl, RR⟩
                · rw [if_neg (show ¬ ((0 : Int) ≤ s ∧ (s : Int) < so) by omega), if_neg (show ¬ ((0 : Int) ≤ s ∧ (s : Int) < so) by omega)]
                  exact ⟨_, _, _, _, _, rfl, rfl, RR⟩
              · obtain ⟨z0, z1, z2, z3, z20, zs, z9, zm⟩ := p20 s hs
                unfold F_X5_leastBeside
                rw [if_neg z0, if_neg z1, if_neg z2, if_neg z3, if_pos z20, if_neg z9, zs, zm, isSort_eq s2 (by omega), noSort_eq t01 (by omega), nI_toInt (show s < 2 ^ 31 by omega), if_pos z20]
                unfold dz
                rw [if_neg (show ¬ (10 : Int32) = 0 by decide)]
                by_cases y : s < so
                · have hv := HPr_lt ho hh s (PU q w) sg
                  have h0 := pos_of_tb (HP_self (sg := sg) (u := PU q w) hh1 y ho)
                  rw [if_pos (show (0 : Int) ≤ s ∧ (s : Int) < so by omega), if_pos (show (0 : Int) ≤ s ∧ (s : Int) < so by omega), s11, heapOf_eq s2 ho s3 hg s8 hs hu, leastOf_eq hs hv h0 (t10 s y)]
                  simp only [Option.bind_some, if_neg ne10, if_true]
                  rw [least_eq _ hv h0]
                  exact ⟨_, _, _, _, _, rfl, rfl, RR⟩
                · rw [if_neg (show ¬ ((0 : Int) ≤ s ∧ (s : Int) < so) by omega), if_neg (show ¬ ((0 : Int) ≤ s ∧ (s : Int) < so) by omega)]
                  exact ⟨_, _, _, _, _, rfl, rfl, RR⟩
        · rw [if_neg h2, if_neg (show ¬ (-2 : Int32) = 0 by decide)]
          simp only [Option.bind_some, if_neg (show ¬ (-2 : Int32) = 0 by decide)]
          by_cases l : 0 ≤ a2.toInt ∧ a2.toInt ≤ 2
          · rw [if_pos l, if_neg ne10]
            have h4 : ¬ (0 ≤ a4.toInt ∧ a4.toInt ≤ 20) := fun z => h2 ⟨by omega, z.1, z.2⟩
            rw [if_neg h4, if_pos rfl]
            exact ⟨_, _, _, _, _, rfl, rfl, R0.fault 0⟩
          · rw [if_neg l, if_pos rfl]
            exact ⟨_, _, _, _, _, rfl, rfl, R0.fault 0⟩
      · exact absurd hp hq
    · rw [e1]
      simp only [Option.bind_some, if_true]
      rcases x4_cases a5 with ⟨hq, e2⟩ | ⟨_, e2⟩
      · exact absurd hq hp
      · rw [e2]
        simp only [Option.bind_some, if_true]
        by_cases l : 0 ≤ a2.toInt ∧ a2.toInt ≤ 2
        · rw [if_pos l, if_neg ne10]
          by_cases l4 : 0 ≤ a4.toInt ∧ a4.toInt ≤ 20
          · rw [if_pos l4, if_neg ne10]
            exact ⟨_, _, _, _, _, rfl, rfl, R0.fault 0⟩
          · rw [if_neg l4, if_pos rfl]
            exact ⟨_, _, _, _, _, rfl, rfl, R0.fault 0⟩
        · rw [if_neg l, if_pos rfl]
          exact ⟨_, _, _, _, _, rfl, rfl, R0.fault 0⟩
  · have R0 := R
    obtain ⟨so, sg, rd, ho, ho2, hg, hd, x2, m1, x3, m2, x4, m8, htr, hfa, hki, hco, hse, hal, hrs, hrt, hln, hce, hsz, hkr, hcr, hsr, har, hhv, hrr⟩ := R
    rw [if_neg h, if_neg h, refusal_eq (si := upd si 1 0) (so := so) x2 ho, if_neg h]
    exact ⟨_, _, _, _, _, rfl, rfl, R0.fault 0⟩
