theorem areSo_eq {si : tSI} {sa : tSA} {so rd : Nat} (v : Nat → Nat) (m1 : si 1 = nI so) (ho : so ≤ 6) (m8 : si 8 = nI rd) (hd : rd ≤ 8) (hv : ∀ r, r < rd → v r < 64 ∧ sa 16 r = nI (v r)) : F_X6_areSo si sa = some (if ∀ r, r < rd → wI (wgt (sa 1) (sa 0) (sa 2)) (v r) so = sa 17 r then 1 else 0) := by
  have L : lp (S_X6_areSo_4 si sa) 100 (0, 1) = some (if ∀ r, r < rd → wI (wgt (sa 1) (sa 0) (sa 2)) (v r) so = sa 17 r then 1 else 0) := by
    have h0 : ((0 : Int32), (1 : Int32)) = (fun i => (nI i, if ∀ r, r < i → wI (wgt (sa 1) (sa 0) (sa 2)) (v r) so = sa 17 r then (1 : Int32) else 0)) 0 := by
      show _ = (nI 0, if _ then (1 : Int32) else 0)
      rw [if_pos (fun r hr => absurd hr (by omega))]; rfl
    rw [h0]
    refine lp_seq rd (fun i => (nI i, if ∀ r, r < i → wI (wgt (sa 1) (sa 0) (sa 2)) (v r) so = sa 17 r then (1 : Int32) else 0)) ?_ ?_ 100 (by omega)
    · intro i hi rec
      unfold S_X6_areSo_4
      dsimp only
      rw [m8, if_neg (nI_nle' hi (by omega))]
      by_cases c : ∀ r, r < i → wI (wgt (sa 1) (sa 0) (sa 2)) (v r) so = sa 17 r
      · obtain ⟨hv1, hv2⟩ := hv i hi
        rw [if_pos c, if_neg ne10, ld_nI (show i < 8 by omega) (show 8 < 2 ^ 31 by decide), nI_c (show i < 2 ^ 31 by omega), hv2, looksOf_eq m1 ho hv1]
        simp only [Option.bind_some, ld_nI (show i < 8 by omega) (show 8 < 2 ^ 31 by decide), nI_1]
        by_cases e : wI (wgt (sa 1) (sa 0) (sa 2)) (v i) so = sa 17 i
        · rw [if_pos e, if_pos]
          intro r hr
          by_cases q : r = i
          · subst q; exact e
          · exact c r (by omega)
        · rw [if_neg e, if_neg]
          exact fun h => e (h i (by omega))
      · rw [if_neg c, if_pos rfl, nI_1, if_neg]
        exact fun h => c (fun r hr => h r (by omega))
    · intro rec
      unfold S_X6_areSo_4
      dsimp only
      rw [m8, if_pos (nI_le (Nat.le_refl rd) (by omega))]
  unfold F_X6_areSo
  rw [L]
  by_cases c : ∀ r, r < rd → wI (wgt (sa 1) (sa 0) (sa 2)) (v r) so = sa 17 r
  · rw [if_pos c]; rfl
  · rw [if_neg c]; rfl
theorem readingsHold_eq {si : tSI} {sa : tSA} {so rd j : Nat} (v : Nat → Nat) (w : Int32) (x2 : si 2 = nI so) (ho : so ≤ 6) (x4 : si 4 = nI rd) (hd : rd ≤ 8) (hj : j < so) (hk : ∀ s, s < so → ∃ k, k ≤ 2 ∧ sa 4 s = nI k) (hv : ∀ r, r < rd → v r < 64 ∧ sa 9 r = nI (v r)) :
    F_X0_readingsHold (nI j) w si sa = some (if ∀ r, r < rd → wI (fun s => if s = j then w else wgt (sa 5) (sa 4) (sa 6) s) (v r) so = sa 10 r then 1 else 0) := by
  have step : ∀ i, i < rd → ∀ rec : Int32 → Option (Int32 ⊕ Unit), S_X0_readingsHold_2 si sa (nI j) w rec (nI i) = (if wI (fun s => if s = j then w else wgt (sa 5) (sa 4) (sa 6) s) (v i) so = sa 10 i then rec (nI (i + 1)) else some (.inl 0)) := by
    intro i hi rec
    obtain ⟨hv1, hv2⟩ := hv i hi
    unfold S_X0_readingsHold_2
    rw [x4, if_neg (nI_nle' hi (by omega)), ld_nI (show i < 8 by omega) (show 8 < 2 ^ 31 by decide), nI_c (show i < 2 ^ 31 by omega), hv2, shl_eq j (by omega), andn_eq _ hv1 _ (p2_lt (by omega)), secondsFor_eq x2 ho (and_lt hv1) hk]
    simp only [Option.bind_some, ld_nI (show i < 8 by omega) (show 8 < 2 ^ 31 by decide), holds_eq _ hv1 j (by omega), nI_1]
    rw [wI_out _ _ j w hv1 (by omega) so ho]
    by_cases c : (v i).testBit j = true
    · rw [if_pos c, if_pos (show j < so ∧ (v i).testBit j = true from ⟨hj, c⟩), if_neg ne10]
      rfl
    · rw [if_neg c, if_neg (show ¬ (j < so ∧ (v i).testBit j = true) from fun h => c h.2), if_pos rfl]
      rfl
  have fin : ∀ rec : Int32 → Option (Int32 ⊕ Unit), S_X0_readingsHold_2 si sa (nI j) w rec (nI rd) = some (.inr ()) := by
    intro rec
    unfold S_X0_readingsHold_2
    rw [x4, if_pos (nI_le (Nat.le_refl rd) (by omega))]
  unfold F_X0_readingsHold
  rcases first_of (fun r => wI (fun s => if s = j then w else wgt (sa 5) (sa 4) (sa 6) s) (v r) so = sa 10 r) rd with ⟨k, hk1, hk2, hk3⟩ | hall
  · have L : lp (S_X0_readingsHold_2 si sa (nI j) w) 100 0 = some (.inl 0) := by
      refine lp_seq k (fun i => nI i) ?_ ?_ 100 (by omega)
      · intro i hi rec; rw [step i (by omega), if_pos (hk2 i hi)]
      · intro rec; rw [step k hk1, if_neg hk3]
    rw [L, if_neg (fun h => hk3 (h k hk1))]; rfl
  · have L : lp (S_X0_readingsHold_2 si sa (nI j) w) 100 0 = some (.inr ()) := by
      refine lp_seq rd (fun i => nI i) ?_ fin 100 (by omega)
      intro i hi rec; rw [step i hi, if_pos (hall i hi)]
    rw [L, if_pos hall]; rfl
def bm (q : Nat → Prop) [DecidablePred q] (b : Nat) : Nat → Int32
  | 0 => 0
  | i + 1 => if q (b + i) then bm q b i ||| (1 <<< (nI (b + i) &&& 31)) else bm q b i
theorem rel_sets {so rd : Nat} {sa : tSA} (ho : so ≤ 6) (hrr : ∀ r, r < rd → ∃ v, v < 2 ^ so ∧ sa 9 r = nI v) : ∃ v : Nat → Nat, ∀ r, r < rd → v r < 64 ∧ sa 9 r = nI (v r) := by
  have hp : 2 ^ so ≤ 64 := Nat.pow_le_pow_right (n := 2) (by decide) ho
  refine ⟨fun r => (sa 9 r).toNatClampNeg, fun r hr => ?_⟩
  obtain ⟨v, hv, e⟩ := hrr r hr
  show (sa 9 r).toNatClampNeg < 64 ∧ sa 9 r = nI (sa 9 r).toNatClampNeg
  rw [e, nI_c (by omega)]
  exact ⟨by omega, rfl⟩
theorem e_counts {si : tSI} {sa : tSA} {ti : tSI} {ta : tSA} (R : Rel si sa ti ta) (a1 : Int32) : ∃ r ti' ta', F_X5_counts a1 si sa = some r ∧ F_X6_counts a1 ti ta = some (r, ti', ta') ∧ Rel si sa ti' ta' := by
  have R0 := R
  obtain ⟨so, sg, rd, ho, ho2, hg, hd, x2, m1, x3, m2, x4, m8, htr, hfa, hki, hco, hse, hal, hrs, hrt, hln, hce, hsz, hkr, hcr, hsr, har, hhv, hrr⟩ := R
  unfold F_X5_counts F_X6_counts
  rw [isSort_eq x2 (by omega), noSort_eq m1 (by omega)]
  by_cases h : 0 ≤ a1.toInt ∧ a1.toInt < so
  · rw [if_pos h, if_pos h]
    obtain ⟨j, hj, rfl⟩ := nI_ex h.1 h.2
    have hj6 : j < 6 := by omega
    obtain ⟨v, hv⟩ := rel_sets ho hrr
    obtain ⟨kj, hkj, ekj⟩ := hkr j hj
    simp only [Option.bind_some, if_neg ne10, if_true, ld_nI hj6 (show 6 < 2 ^ 31 by decide), nI_c (show j < 2 ^ 31 by omega)]
    let ww : Nat → Int32 := fun i => nI i * lk (sa 4 j) (sa 6 j)
    let qq : Nat → Prop := fun i => ∀ r, r < rd → wI (fun s => if s = j then ww i else wgt (sa 5) (sa 4) (sa 6) s) (v r) so = sa 10 r
    have L1 : lp (S_X5_counts_17 (nI j) sa si) 100 (nI 0, 0) = some (bm qq 0 10) := by
      refine lp_seq 10 (fun i => (nI (0 + i), bm qq 0 i)) ?_ ?_ 100 (by omega)
      · intro i hi rec
        unfold S_X5_counts_17
        dsimp only
        have hle : ∀ i, i < 10 → ¬ (9 : Int32) < nI (0 + i) := by decide
        rw [if_neg (hle i hi)]
        simp only [ld_nI hj6 (show 6 < 2 ^ 31 by decide), nI_c (show j < 2 ^ 31 by omega)]
        rw [ekj, look_eq hkj, ← ekj]
        simp only [Option.bind_some]
        rw [readingsHold_eq v _ x2 ho x4 hd hj hkr hv]
        simp only [Option.bind_some, nI_1]
        by_cases c : qq (0 + i)
        · rw [if_pos (show ∀ r, r < rd → wI (fun s => if s = j then ww (0 + i) else wgt (sa 5) (sa 4) (sa 6) s) (v r) so = sa 10 r from c), if_neg ne10]
          show _ = rec (nI (0 + i + 1), bm qq 0 (i + 1))
          rw [bm, if_pos c]
        · rw [if_neg (show ¬ ∀ r, r < rd → wI (fun s => if s = j then ww (0 + i) else wgt (sa 5) (sa 4) (sa 6) s) (v r) so = sa 10 r from c), if_pos rfl]
          show _ = rec (nI (0 + i + 1), bm qq 0 (i + 1))
          rw [bm, if_neg c]
      · intro rec
        unfold S_X5_counts_17
        dsimp only
        rw [if_pos (by decide)]
    let gg : Nat → Nat → Int32 := fun i => if i = 0 then ta 1 else upd (ta 1) j (nI (0 + i - 1))
    have L2 : lp (S_X6_counts_22 (nI j)) 100 (nI 0, 0, ti, va_up ta 1 (gg 0)) = some (bm qq 0 10, ti, va_up ta 1 (gg 10)) := by
      refine lp_seq 10 (fun i => (nI (0 + i), bm qq 0 i, ti, va_up ta 1 (gg i))) ?_ ?_ 100 (by omega)
      · intro i hi rec
        unfold S_X6_counts_22
        dsimp only
        have hle : ∀ i, i < 10 → ¬ (10 : Int32) ≤ nI (0 + i) := by decide
        rw [if_neg (hle i hi)]
        have eg : upd (va_up ta 1 (gg i) 1) j (nI (0 + i)) = gg (i + 1) := by
          rw [up_eq]
          show upd (if i = 0 then ta 1 else upd (ta 1) j (nI (0 + i - 1))) j (nI (0 + i)) = if i + 1 = 0 then ta 1 else upd (ta 1) j (nI (0 + (i + 1) - 1))
          rw [if_neg (show ¬ i + 1 = 0 by omega), show 0 + (i + 1) - 1 = 0 + i by omega]
          split
          · rfl
          · exact upd_upd _ _ _ _
        simp only [ld_nI hj6 (show 6 < 2 ^ 31 by decide), nI_c (show j < 2 ^ 31 by omega), eg, up_up]
        rw [areSo_eq (so := so) (rd := rd) v m1 ho m8 hd (by
          intro r hr
          refine ⟨(hv r hr).1, ?_⟩
          rw [up_ne ta _ (show (16 : Nat) ≠ 1 by decide), hrs]
          exact (hv r hr).2)]
        have ew : ∀ r, wI (wgt (va_up ta 1 (gg (i + 1)) 1) (va_up ta 1 (gg (i + 1)) 0) (va_up ta 1 (gg (i + 1)) 2)) (v r) so = wI (fun s => if s = j then ww (0 + i) else wgt (sa 5) (sa 4) (sa 6) s) (v r) so := by
          intro r
          refine wI_congr fun s hs => ?_
          have e1 : gg (i + 1) = upd (ta 1) j (nI (0 + i)) := by
            show (if i + 1 = 0 then ta 1 else upd (ta 1) j (nI (0 + (i + 1) - 1))) = _
            rw [if_neg (show ¬ i + 1 = 0 by omega), show 0 + (i + 1) - 1 = 0 + i by omega]
          rw [e1]
          show upd (ta 1) j (nI (0 + i)) s * lk (ta 0 s) (ta 2 s) = if s = j then nI (0 + i) * lk (sa 4 j) (sa 6 j) else sa 5 s * lk (sa 4 s) (sa 6 s)
          rw [hki, hse, hco]
          by_cases e : s = j
          · subst e; rw [upd_eq, if_pos rfl]
          · rw [upd_ne _ _ e, if_neg e]
        have ec : (∀ r, r < rd → wI (wgt (va_up ta 1 (gg (i + 1)) 1) (va_up ta 1 (gg (i + 1)) 0) (va_up ta 1 (gg (i + 1)) 2)) (v r) so = va_up ta 1 (gg (i + 1)) 17 r) ↔ qq (0 + i) := by
          show _ ↔ ∀ r, r < rd → wI (fun s => if s = j then ww (0 + i) else wgt (sa 5) (sa 4) (sa 6) s) (v r) so = sa 10 r
          rw [up_ne ta _ (show (17 : Nat) ≠ 1 by decide), hrt]
          exact forall_congr' fun r => by rw [ew r]
        simp only [Option.bind_some, nI_1]
        by_cases c : qq (0 + i)
        · rw [if_pos (ec.mpr c), if_neg ne10]
          show _ = rec (nI (0 + i + 1), bm qq 0 (i + 1), ti, va_up ta 1 (gg (i + 1)))
          rw [bm, if_pos c]
        · rw [if_neg (fun z => c (ec.mp z)), if_pos rfl, Int32.or_zero]
          show _ = rec (nI (0 + i + 1), bm qq 0 (i + 1), ti, va_up ta 1 (gg (i + 1)))
          rw [bm, if_neg c]
      · intro rec
        unfold S_X6_counts_22
        dsimp only
        rw [if_pos (by decide)]
    have g0 : va_up ta 1 (gg 0) = ta := up_self ta 1
    rw [g0] at L2
    have L1' : lp (S_X5_counts_17 (nI j) sa si) 100 (0, 0) = some (bm qq 0 10) := L1
    have L2' : lp (S_X6_counts_22 (nI j)) 100 (0, 0, ti, ta) = some (bm qq 0 10, ti, va_up ta 1 (gg 10)) := L2
    rw [L1', L2']
    simp only [Option.bind_some, up_eq, up_up]
    have gl : upd (gg 10) j (ta 1 j) = ta 1 := by
      show upd (upd (ta 1) j _) j (ta 1 j) = ta 1
      rw [upd_upd]
      funext s
      by_cases e : s = j
      · subst e; exact upd_eq _ _ _
      · exact upd_ne _ _ e
    rw [gl, up_self]
    exact ⟨_, _, _, rfl, rfl, R0⟩
  · rw [if_neg h, if_neg h]
    exact ⟨_, _, _, rfl, rfl, R0⟩
theorem e_kinds {si : tSI} {sa : tSA} {ti : tSI} {ta : tSA} (R : Rel si sa ti ta) (a1 : Int32) : ∃ r ti' ta', F_X5_kinds a1 si sa = some r ∧ F_X6_kinds a1 ti ta = some (r, ti', ta') ∧ Rel si sa ti' ta' := by
  have R0 := R
  obtain ⟨so, sg, rd, ho, ho2, hg, hd, x2, m1, x3, m2, x4, m8, htr, hfa, hki, hco, hse, hal, hrs, hrt, hln, hce, hsz, hkr, hcr, hsr, har, hhv, hrr⟩ := R
  unfold F_X5_kinds F_X6_kinds
  rw [isSort_eq x2 (by omega), noSort_eq m1 (by omega)]
  by_cases h : 0 ≤ a1.toInt ∧ a1.toInt < so
  · rw [if_pos h, if_pos h]
    obtain ⟨j, hj, rfl⟩ := nI_ex h.1 h.2
    have hj6 : j < 6 := by omega
    obtain ⟨v, hv⟩ := rel_sets ho hrr
    obtain ⟨kj, hkj, ekj⟩ := hkr j hj
    simp only [Option.bind_some, if_neg ne10, if_true, ld_nI hj6 (show 6 < 2 ^ 31 by decide), nI_c (show j < 2 ^ 31 by omega)]
    let ww : Nat → Int32 := fun i => sa 5 j * lk (nI i) (sa 6 j)
    let qq : Nat → Prop := fun i => ∀ r, r < rd → wI (fun s => if s = j then ww i else wgt (sa 5) (sa 4) (sa 6) s) (v r) so = sa 10 r
    have L1 : lp (S_X5_kinds_17 (nI j) sa si) 100 (nI 0, 0) = some (bm qq 0 3) := by
      refine lp_seq 3 (fun i => (nI (0 + i), bm qq 0 i)) ?_ ?_ 100 (by omega)
      · intro i hi rec
        unfold S_X5_kinds_17
        dsimp only
        have hle : ∀ i, i < 3 → ¬ (2 : Int32) < nI (0 + i) := by decide
        rw [if_neg (hle i hi)]
        simp only [ld_nI hj6 (show 6 < 2 ^ 31 by decide), nI_c (show j < 2 ^ 31 by omega)]
        rw [look_eq (show 0 + i ≤ 2 by omega)]
        simp only [Option.bind_some]
        rw [readingsHold_eq v _ x2 ho x4 hd hj hkr hv]
        simp only [Option.bind_some, nI_1]
        by_cases c : qq (0 + i)
        · rw [if_pos (show ∀ r, r < rd → wI (fun s => if s = j then ww (0 + i) else wgt (sa 5) (sa 4) (sa 6) s) (v r) so = sa 10 r from c), if_neg ne10]
          show _ = rec (nI (0 + i + 1), bm qq 0 (i + 1))
          rw [bm, if_pos c]
        · rw [if_neg (show ¬ ∀ r, r < rd → wI (fun s => if s = j then ww (0 + i) else wgt (sa 5) (sa 4) (sa 6) s) (v r) so = sa 10 r from c), if_pos rfl]
          show _ = rec (nI (0 + i + 1), bm qq 0 (i + 1))
          rw [bm, if_neg c]
      · intro rec
        unfold S_X5_kinds_17
        dsimp only
        rw [if_pos (by decide)]
    let gg : Nat → Nat → Int32 := fun i => if i = 0 then ta 0 else upd (ta 0) j (nI (0 + i - 1))
    have L2 : lp (S_X6_kinds_22 (nI j)) 100 (nI 0, 0, ti, va_up ta 0 (gg 0)) = some (bm qq 0 3, ti, va_up ta 0 (gg 3)) := by
      refine lp_seq 3 (fun i => (nI (0 + i), bm qq 0 i, ti, va_up ta 0 (gg i))) ?_ ?_ 100 (by omega)
      · intro i hi rec
        unfold S_X6_kinds_22
        dsimp only
        have hle : ∀ i, i < 3 → ¬ (3 : Int32) ≤ nI (0 + i) := by decide
        rw [if_neg (hle i hi)]
        have eg : upd (va_up ta 0 (gg i) 0) j (nI (0 + i)) = gg (i + 1) := by
          rw [up_eq]
          show upd (if i = 0 then ta 0 else upd (ta 0) j (nI (0 + i - 1))) j (nI (0 + i)) = if i + 1 = 0 then ta 0 else upd (ta 0) j (nI (0 + (i + 1) - 1))
          rw [if_neg (show ¬ i + 1 = 0 by omega), show 0 + (i + 1) - 1 = 0 + i by omega]
          split
          · rfl
          · exact upd_upd _ _ _ _
        simp only [ld_nI hj6 (show 6 < 2 ^ 31 by decide), nI_c (show j < 2 ^ 31 by omega), eg, up_up]
        rw [areSo_eq (so := so) (rd := rd) v m1 ho m8 hd (by
          intro r hr
          refine ⟨(hv r hr).1, ?_⟩
          rw [up_ne ta _ (show (16 : Nat) ≠ 0 by decide), hrs]
          exact (hv r hr).2)]
        have ew : ∀ r, wI (wgt (va_up ta 0 (gg (i + 1)) 1) (va_up ta 0 (gg (i + 1)) 0) (va_up ta 0 (gg (i + 1)) 2)) (v r) so = wI (fun s => if s = j then ww (0 + i) else wgt (sa 5) (sa 4) (sa 6) s) (v r) so := by
          intro r
          refine wI_congr fun s hs => ?_
          have e1 : gg (i + 1) = upd (ta 0) j (nI (0 + i)) := by
            show (if i + 1 = 0 then ta 0 else upd (ta 0) j (nI (0 + (i + 1) - 1))) = _
            rw [if_neg (show ¬ i + 1 = 0 by omega), show 0 + (i + 1) - 1 = 0 + i by omega]
          rw [e1]
          show ta 1 s * lk (upd (ta 0) j (nI (0 + i)) s) (ta 2 s) = if s = j then sa 5 j * lk (nI (0 + i)) (sa 6 j) else sa 5 s * lk (sa 4 s) (sa 6 s)
          rw [hki, hse, hco]
          by_cases e : s = j
          · subst e; rw [upd_eq, if_pos rfl]
          · rw [upd_ne _ _ e, if_neg e]
        have ec : (∀ r, r < rd → wI (wgt (va_up ta 0 (gg (i + 1)) 1) (va_up ta 0 (gg (i + 1)) 0) (va_up ta 0 (gg (i + 1)) 2)) (v r) so = va_up ta 0 (gg (i + 1)) 17 r) ↔ qq (0 + i) := by
          show _ ↔ ∀ r, r < rd → wI (fun s => if s = j then ww (0 + i) else wgt (sa 5) (sa 4) (sa 6) s) (v r) so = sa 10 r
          rw [up_ne ta _ (show (17 : Nat) ≠ 0 by decide), hrt]
          exact forall_congr' fun r => by rw [ew r]
        simp only [Option.bind_some, nI_1]
        by_cases c : qq (0 + i)
        · rw [if_pos (ec.mpr c), if_neg ne10]
          show _ = rec (nI (0 + i + 1), bm qq 0 (i + 1), ti, va_up ta 0 (gg (i + 1)))
          rw [bm, if_pos c]
        · rw [if_neg (fun z => c (ec.mp z)), if_pos rfl, Int32.or_zero]
          show _ = rec (nI (0 + i + 1), bm qq 0 (i + 1), ti, va_up ta 0 (gg (i + 1)))
          rw [bm, if_neg c]
      · intro rec
        unfold S_X6_kinds_22
        dsimp only
        rw [if_pos (by decide)]
    have g0 : va_up ta 0 (gg 0) = ta := up_self ta 0
    rw [g0] at L2
    have L1' : lp (S_X5_kinds_17 (nI j) sa si) 100 (0, 0) = some (bm qq 0 3) := L1
    have L2' : lp (S_X6_kinds_22 (nI j)) 100 (0, 0, ti, ta) = some (bm qq 0 3, ti, va_up ta 0 (gg 3)) := L2
    rw [L1', L2']
    simp only [Option.bind_some, up_eq, up_up]
    have gl : upd (gg 3) j (ta 0 j) = ta 0 := by
      show upd (upd (ta 0) j _) j (ta 0 j) = ta 0
      rw [upd_upd]
      funext s
      by_cases e : s = j
      · subst e; exact upd_eq _ _ _
      · exact upd_ne _ _ e
    rw [gl, up_self]
    exact ⟨_, _, _, rfl, rfl, R0⟩
  · rw [if_neg h, if_neg h]
    exact ⟨_, _, _, rfl, rfl, R0⟩
theorem e_speeds {si : tSI} {sa : tSA} {ti : tSI} {ta : tSA} (R : Rel si sa ti ta) (a1 : Int32) : ∃ r ti' ta', F_X5_speeds a1 si sa = some r ∧ F_X6_speeds a1 ti ta = some (r, ti', ta') ∧ Rel si sa ti' ta' := by
  have R0 := R
  obtain ⟨so, sg, rd, ho, ho2, hg, hd, x2, m1, x3, m2, x4, m8, htr, hfa, hki, hco, hse, hal, hrs, hrt, hln, hce, hsz, hkr, hcr, hsr, har, hhv, hrr⟩ := R
  unfold F_X5_speeds F_X6_speeds
  rw [isSort_eq x2 (by omega), noSort_eq m1 (by omega)]
  by_cases h : 0 ≤ a1.toInt ∧ a1.toInt < so
  · rw [if_pos h, if_pos h]
    obtain ⟨j, hj, rfl⟩ := nI_ex h.1 h.2
    have hj6 : j < 6 := by omega
    obtain ⟨v, hv⟩ := rel_sets ho hrr
    obtain ⟨kj, hkj, ekj⟩ := hkr j hj
    simp only [Option.bind_some, if_neg ne10, if_true, ld_nI hj6 (show 6 < 2 ^ 31 by decide), nI_c (show j < 2 ^ 31 by omega)]
    let ww : Nat → Int32 := fun i => sa 5 j * lk (sa 4 j) (nI i)
    let qq : Nat → Prop := fun i => ∀ r, r < rd → wI (fun s => if s = j then ww i else wgt (sa 5) (sa 4) (sa 6) s) (v r) so = sa 10 r
    have L1 : lp (S_X5_speeds_17 (nI j) sa si) 100 (nI 1, 0) = some (bm qq 1 9) := by
      refine lp_seq 9 (fun i => (nI (1 + i), bm qq 1 i)) ?_ ?_ 100 (by omega)
      · intro i hi rec
        unfold S_X5_speeds_17
        dsimp only
        have hle : ∀ i, i < 9 → ¬ (9 : Int32) < nI (1 + i) := by decide
        rw [if_neg (hle i hi)]
        simp only [ld_nI hj6 (show 6 < 2 ^ 31 by decide), nI_c (show j < 2 ^ 31 by omega)]
        rw [ekj, look_eq hkj, ← ekj]
        simp only [Option.bind_some]
        rw [readingsHold_eq v _ x2 ho x4 hd hj hkr hv]
        simp only [Option.bind_some, nI_1]
        by_cases c : qq (1 + i)
        · rw [if_pos (show ∀ r, r < rd → wI (fun s => if s = j then ww (1 + i) else wgt (sa 5) (sa 4) (sa 6) s) (v r) so = sa 10 r from c), if_neg ne10]
          show _ = rec (nI (1 + i + 1), bm qq 1 (i + 1))
          rw [bm, if_pos c]
        · rw [if_neg (show ¬ ∀ r, r < rd → wI (fun s => if s = j then ww (1 + i) else wgt (sa 5) (sa 4) (sa 6) s) (v r) so = sa 10 r from c), if_pos rfl]
          show _ = rec (nI (1 + i + 1), bm qq 1 (i + 1))
          rw [bm, if_neg c]
      · intro rec
        unfold S_X5_speeds_17
        dsimp only
        rw [if_pos (by decide)]
    let gg : Nat → Nat → Int32 := fun i => if i = 0 then ta 2 else upd (ta 2) j (nI (1 + i - 1))
    have L2 : lp (S_X6_speeds_22 (nI j)) 100 (nI 1, 0, ti, va_up ta 2 (gg 0)) = some (bm qq 1 9, ti, va_up ta 2 (gg 9)) := by
      refine lp_seq 9 (fun i => (nI (1 + i), bm qq 1 i, ti, va_up ta 2 (gg i))) ?_ ?_ 100 (by omega)
      · intro i hi rec
        unfold S_X6_speeds_22
        dsimp only
        have hle : ∀ i, i < 9 → ¬ (10 : Int32) ≤ nI (1 + i) := by decide
        rw [if_neg (hle i hi)]
        have eg : upd (va_up ta 2 (gg i) 2) j (nI (1 + i)) = gg (i + 1) := by
          rw [up_eq]
          show upd (if i = 0 then ta 2 else upd (ta 2) j (nI (1 + i - 1))) j (nI (1 + i)) = if i + 1 = 0 then ta 2 else upd (ta 2) j (nI (1 + (i + 1) - 1))
          rw [if_neg (show ¬ i + 1 = 0 by omega), show 1 + (i + 1) - 1 = 1 + i by omega]
          split
          · rfl
          · exact upd_upd _ _ _ _
        simp only [ld_nI hj6 (show 6 < 2 ^ 31 by decide), nI_c (show j < 2 ^ 31 by omega), eg, up_up]
        rw [areSo_eq (so := so) (rd := rd) v m1 ho m8 hd (by
          intro r hr
          refine ⟨(hv r hr).1, ?_⟩
          rw [up_ne ta _ (show (16 : Nat) ≠ 2 by decide), hrs]
          exact (hv r hr).2)]
        have ew : ∀ r, wI (wgt (va_up ta 2 (gg (i + 1)) 1) (va_up ta 2 (gg (i + 1)) 0) (va_up ta 2 (gg (i + 1)) 2)) (v r) so = wI (fun s => if s = j then ww (1 + i) else wgt (sa 5) (sa 4) (sa 6) s) (v r) so := by
          intro r
          refine wI_congr fun s hs => ?_
          have e1 : gg (i + 1) = upd (ta 2) j (nI (1 + i)) := by
            show (if i + 1 = 0 then ta 2 else upd (ta 2) j (nI (1 + (i + 1) - 1))) = _
            rw [if_neg (show ¬ i + 1 = 0 by omega), show 1 + (i + 1) - 1 = 1 + i by omega]
          rw [e1]
          show ta 1 s * lk (ta 0 s) (upd (ta 2) j (nI (1 + i)) s) = if s = j then sa 5 j * lk (sa 4 j) (nI (1 + i)) else sa 5 s * lk (sa 4 s) (sa 6 s)
          rw [hki, hse, hco]
          by_cases e : s = j
          · subst e; rw [upd_eq, if_pos rfl]
          · rw [upd_ne _ _ e, if_neg e]
        have ec : (∀ r, r < rd → wI (wgt (va_up ta 2 (gg (i + 1)) 1) (va_up ta 2 (gg (i + 1)) 0) (va_up ta 2 (gg (i + 1)) 2)) (v r) so = va_up ta 2 (gg (i + 1)) 17 r) ↔ qq (1 + i) := by
          show _ ↔ ∀ r, r < rd → wI (fun s => if s = j then ww (1 + i) else wgt (sa 5) (sa 4) (sa 6) s) (v r) so = sa 10 r
          rw [up_ne ta _ (show (17 : Nat) ≠ 2 by decide), hrt]
          exact forall_congr' fun r => by rw [ew r]
        simp only [Option.bind_some, nI_1]
        by_cases c : qq (1 + i)
        · rw [if_pos (ec.mpr c), if_neg ne10]
          show _ = rec (nI (1 + i + 1), bm qq 1 (i + 1), ti, va_up ta 2 (gg (i + 1)))
          rw [bm, if_pos c]
        · rw [if_neg (fun z => c (ec.mp z)), if_pos rfl, Int32.or_zero]
          show _ = rec (nI (1 + i + 1), bm qq 1 (i + 1), ti, va_up ta 2 (gg (i + 1)))
          rw [bm, if_neg c]
      · intro rec
        unfold S_X6_speeds_22
        dsimp only
        rw [if_pos (by decide)]
    have g0 : va_up ta 2 (gg 0) = ta := up_self ta 2
    rw [g0] at L2
    have L1' : lp (S_X5_speeds_17 (nI j) sa si) 100 (1, 0) = some (bm qq 1 9) := L1
    have L2' : lp (S_X6_speeds_22 (nI j)) 100 (1, 0, ti, ta) = some (bm qq 1 9, ti, va_up ta 2 (gg 9)) := L2
    rw [L1', L2']
    simp only [Option.bind_some, up_eq, up_up]
    have gl : upd (gg 9) j (ta 2 j) = ta 2 := by
      show upd (upd (ta 2) j _) j (ta 2 j) = ta 2
      rw [upd_upd]
      funext s
      by_cases e : s = j
      · subst e; exact upd_eq _ _ _
      · exact upd_ne _ _ e
    rw [gl, up_self]
    exact ⟨_, _, _, rfl, rfl, R0⟩
  · rw [if_neg h, if_neg h]
    exact ⟨_, _, _, rfl, rfl, R0⟩
