theorem bd_as {α β γ : Type} {x : Option α} {f : α → Option β} {b : β} (h : x.bind f = some b) (g : β → Option γ) : (x.bind fun a => (f a).bind g) = g b := by
  cases x with
  | none => cases h
  | some a =>
    have h : f a = some b := h
    show (f a).bind g = g b
    rw [h]; rfl
theorem Vr_bd {so sg : Nat} {h g : Nat → Nat} (ho : so ≤ 6) (hb : ∀ s, s < so → g s ≤ 180) : ∀ m r u z, Vr so sg h g m r u = some z → z ≤ 1080 * m := by
  intro m
  induction m with
  | zero =>
    intro r u z hz
    have hz : (if WT so sg h u = 0 then some 0 else none) = some z := hz
    split at hz <;> cases hz
    exact Nat.le_refl _
  | succ m ih =>
    intro r u z hz
    rw [Vr_s] at hz
    by_cases c : r / 6 ^ m = 0
    · rw [if_pos c] at hz
      split at hz
      · split at hz <;> cases hz
        exact Nat.zero_le _
      · cases hz
    · rw [if_neg c] at hz
      split at hz
      · obtain ⟨p, hp, rfl⟩ := Option.map_eq_some_iff.mp hz
        have h1 := ih _ _ _ hp
        have h2 := Cu_le (sg := sg) (h := h) ho hb u
        omega
      · cases hz
theorem run_none {so sg : Nat} {h hm g : Nat → Nat} {si : tSI} {sa : tSA} (C : CMS so sg h hm g si sa) (n : Int32) (hn : n ≤ 0) (si2 : tSI) (sa2 : tSA) :
    ∃ ti ta, ((F_X6_begin si sa).bind fun r12 => lp (S_X6_order_58 (n, si2, sa2)) 100 (0, r12.1, r12.2)) = some (ti, ta) ∧ (∀ j, j ≠ 6 → j ≠ 7 → ti j = si j) ∧ (∀ j, j ≠ 10 → j ≠ 11 → ta j = sa j) := by
  obtain ⟨ho, hg, m1, m2, hh, hww, hb⟩ := C
  refine ⟨upd (upd si 6 0) 7 (-9), va_up (va_up sa 10 (fun t => if t < so then nI (2 ^ so - 1) else sa 10 t)) 11 (fun t => if t < so then -9 else sa 11 t), ?_, fun j h1 h2 => ?_, fun j h1 h2 => ?_⟩
  · rw [begin_eq m1 ho]
    show S_X6_order_58 _ _ _ = _
    unfold S_X6_order_58
    dsimp only
    rw [if_pos hn]
  · rw [upd_ne _ _ h2, upd_ne _ _ h1]
  · rw [up_ne _ _ h2, up_ne _ _ h1]
/-- least and best, as the reference holds them -/
def lb (o : Option (Nat × Nat)) : Int32 × Int32 := match o with
  | none => (0, -9)
  | some p => (nI p.1, nI p.2)
theorem order_run {so sg : Nat} {h hm g : Nat → Nat} {ti : tSI} {ta : tSA} (C : CMS so sg h hm g ti ta) :
    ∃ o : Int32 × Int32 × tSI × tSA, (o.1 = (lb ((Dm so sg h g 5 0).map fun c => (c, rw5 so sg h g 5 0))).1 ∧ o.2.1 = (lb ((Dm so sg h g 5 0).map fun c => (c, rw5 so sg h g 5 0))).2 ∧ (∀ j, j ≠ 6 → j ≠ 7 → o.2.2.1 j = ti j) ∧ ∀ j, j ≠ 10 → j ≠ 11 → j ≠ 13 → o.2.2.2 j = ta j) ∧ lp S_X6_order_35 8000 (0, 0, -9, ti, ta) = some o := by
  have C0 := C
  obtain ⟨ho, hg, m1, m2, hh, hww, hb⟩ := C
  let V : Nat → Option Nat := fun r => Vr so sg h g 5 r 0
  have T := trial so sg h g hg 5 0
  let Inv : Nat → Int32 × Int32 × Int32 × tSI × tSA → Prop := fun r a => ∃ TI TA, a = (nI r, (lb (gw V r)).1, (lb (gw V r)).2, TI, TA) ∧ (∀ j, j ≠ 6 → j ≠ 7 → TI j = ti j) ∧ ∀ j, j ≠ 10 → j ≠ 11 → j ≠ 13 → TA j = ta j
  refine lp_inv (S := S_X6_order_35) 7776 Inv _ (0, 0, -9, ti, ta) ⟨ti, ta, rfl, fun _ _ _ => rfl, fun _ _ _ _ => rfl⟩ ?_ ?_ 8000 (by omega)
  · intro r hr a ha
    obtain ⟨TI, TA, rfl, fI, fA⟩ := ha
    have hr5 : r < 6 ^ 5 := hr
    have hr31 : r + 1 < 2 ^ 31 := by omega
    have LE := lengthOf_eq (sg := sg) (r := r) hg hr5 (si := TI) (by rw [fI 2 (by decide) (by decide)]; exact m2) TA
    generalize hTA : va_up TA 13 (fun y => if y < 5 then nI (dg r y) - 1 else TA 13 y) = TB at LE
    have fB : ∀ j, j ≠ 10 → j ≠ 11 → j ≠ 13 → TB j = ta j := by
      intro j h1 h2 h3
      rw [← hTA, up_ne _ _ h3, fA j h1 h2 h3]
    have CB : CMS so sg h hm g TI TB := by
      refine ⟨ho, hg, by rw [fI 1 (by decide) (by decide)]; exact m1, by rw [fI 2 (by decide) (by decide)]; exact m2, ?_, ?_, hb⟩
      · rw [fB 4 (by decide) (by decide) (by decide)]; exact hh
      · rw [fB 1 (by decide) (by decide) (by decide), fB 0 (by decide) (by decide) (by decide), fB 2 (by decide) (by decide) (by decide)]; exact hww
    let q : Nat → Nat := fun x => dg r x - 1
    have VV := val_V (so := so) (sg := sg) (h := h) (g := g) q 5 0 r hr5 (fun y hy => by
      show r / 6 ^ (4 - (0 + y)) % 6 - 1 = r / 6 ^ (5 - 1 - y) % 6 - 1
      rw [Nat.zero_add])
    have e0 : PU q 0 = 0 := rfl
    rw [e0] at VV
    have hB : ∀ y, y < 5 → TB 13 y = nI (dg r y) - 1 := by
      intro y hy
      rw [← hTA, up_eq, if_pos hy]
    have hN : ¬ (7776 : Int32) ≤ nI r := nI_nle' (show r < 7776 from hr) (by decide)
    cases hv : val sg 5 r 0 0 0 with
    | none =>
      rw [hv] at LE VV
      obtain ⟨t1, t2, hrun, g1, g2⟩ := run_none CB (enc none) (by decide) TI TB
      refine ⟨_, ⟨t1, t2, rfl, fun j h1 h2 => ?_, fun j h1 h2 h3 => ?_⟩, fun rec => ?_⟩
      · rw [g1 j h1 h2, fI j h1 h2]
      · rw [g2 j h1 h2, fB j h1 h2 h3]
      · rw [gw_none (show V r = none from VV.1 rfl)]
        unfold S_X6_order_35
        dsimp only
        rw [if_neg hN, LE]
        simp only [Option.bind_some]
        refine (bd_as hrun _).trans ?_
        rw [enc_none, if_pos (by decide), nI_1]
    | some nf =>
      rw [hv] at LE VV
      obtain ⟨_, v2, v3, v4⟩ := VV.2 nf rfl
      have hn5 : nf ≤ 5 := by omega
      obtain ⟨t1, t2, hrun, g6, g1, g2, g3⟩ := run_row CB (w := nf) (q := q) hn5 (fun x hx => by
        obtain ⟨z1, z2⟩ := v3 x (by omega) (by omega)
        rw [Nat.zero_add] at z1 z2
        refine ⟨z1, ?_⟩
        have z2 : dg r x = q x + 1 := z2
        rw [hB x (by omega), nI_m1 (d := dg r x) (Nat.mod_lt _ (by decide)), if_neg (show ¬ dg r x = 0 by omega)]) (enc (some nf)) rfl TI TB
      have t1m : t1 1 = nI so := by rw [g1 1 (by decide) (by decide)]; exact CB.2.2.1
      have fI' : ∀ j, j ≠ 6 → j ≠ 7 → t1 j = ti j := fun j h1 h2 => by rw [g1 j h1 h2, fI j h1 h2]
      have fA' : ∀ j, j ≠ 10 → j ≠ 11 → j ≠ 13 → t2 j = ta j := fun j h1 h2 h3 => by rw [g2 j h1 h2, fB j h1 h2 h3]
      have v4 : (V r).map (fun c => c + 0) = if WT so sg h (PU q nf) = 0 then some (PS so sg h g q nf) else none := v4
      have v5 : V r = if WT so sg h (PU q nf) = 0 then some (PS so sg h g q nf) else none := by
        rw [← v4]; cases V r <;> rfl
      have RE := readyNow_eq (u := PU q nf) t1m ho g3
      have AE := all_eq (sa := t2) t1m ho
      have hp := p2le ho
      have iff1 : nI (RN so sg h (PU q nf) so) = nI (2 ^ so - 1) ↔ WT so sg h (PU q nf) = 0 := by
        rw [← WT_RN ho]
        refine nI_eq ?_ (by omega)
        have : RN so sg h (PU q nf) so < 64 := by
          refine Nat.lt_of_lt_of_le (Nat.lt_pow_two_of_testBit (n := so) _ fun t ht => ?_) hp
          cases hb2 : (RN so sg h (PU q nf) so).testBit t with
          | false => rfl
          | true => have := ((RN_tb so sg h (PU q nf) t so).mp hb2).1; omega
        omega
      have head : ∀ rec, S_X6_order_35 rec (nI r, (lb (gw V r)).1, (lb (gw V r)).2, TI, TA) = (if WT so sg h (PU q nf) = 0 then (if (lb (gw V r)).2 < 0 then rec (nI (r + 1), nI (PS so sg h g q nf), nI r, t1, t2) else (if (lb (gw V r)).1 ≤ nI (PS so sg h g q nf) then rec (nI (r + 1), (lb (gw V r)).1, (lb (gw V r)).2, t1, t2) else rec (nI (r + 1), nI (PS so sg h g q nf), nI r, t1, t2))) else rec (nI (r + 1), (lb (gw V r)).1, (lb (gw V r)).2, t1, t2)) := by
        intro rec
        unfold S_X6_order_35
        dsimp only
        rw [if_neg hN, LE]
        simp only [Option.bind_some]
        refine (bd_as hrun _).trans ?_
        rw [enc_some, if_neg (nI_pos (by omega)), RE, AE]
        simp only [Option.bind_some, g6, nI_1]
        by_cases c : WT so sg h (PU q nf) = 0
        · rw [if_pos c, if_pos (iff1.mpr c)]
        · rw [if_neg c, if_neg (fun z => c (iff1.mp z))]
      by_cases c : WT so sg h (PU q nf) = 0
      · rw [if_pos c] at v5
        have b1 := Vr_bd ho hb _ _ _ _ v5
        cases hgw : gw V r with
        | none =>
          rw [hgw] at head
          refine ⟨(nI (r + 1), nI (PS so sg h g q nf), nI r, t1, t2), ⟨t1, t2, by rw [gw_first v5 hgw]; rfl, fI', fA'⟩, fun rec => ?_⟩
          rw [head, if_pos c, if_pos (show (lb none).2 < 0 by decide)]
        | some p =>
          rw [hgw] at head
          rcases gw_sp (P := V) r with ⟨a, _⟩ | ⟨p2, a, b, cc, _, _⟩
          · rw [a] at hgw; cases hgw
          · rw [a] at hgw
            have hgw2 := Option.some.inj hgw
            subst hgw2
            have b2 := Vr_bd ho hb _ _ _ _ cc
            by_cases d : PS so sg h g q nf < p2.1
            · refine ⟨(nI (r + 1), nI (PS so sg h g q nf), nI r, t1, t2), ⟨t1, t2, by rw [gw_more v5 a, if_pos d]; rfl, fI', fA'⟩, fun rec => ?_⟩
              rw [head, if_pos c, if_neg (show ¬ (lb (some p2)).2 < 0 from nI_pos (by omega)), if_neg (show ¬ (lb (some p2)).1 ≤ _ from nI_nle' d (by omega))]
            · refine ⟨(nI (r + 1), nI p2.1, nI p2.2, t1, t2), ⟨t1, t2, by rw [gw_more v5 a, if_neg d]; rfl, fI', fA'⟩, fun rec => ?_⟩
              rw [head, if_pos c, if_neg (show ¬ (lb (some p2)).2 < 0 from nI_pos (by omega)), if_pos (show (lb (some p2)).1 ≤ _ from nI_le (by omega) (by omega))]
              rfl
      · rw [if_neg c] at v5
        refine ⟨_, ⟨t1, t2, rfl, fI', fA'⟩, fun rec => ?_⟩
        rw [gw_none v5, head, if_neg c]
  · intro a ha
    obtain ⟨TI, TA, rfl, fI, fA⟩ := ha
    refine ⟨((lb (gw V 7776)).1, (lb (gw V 7776)).2, TI, TA), ⟨?_, ?_, fI, fA⟩, fun rec => ?_⟩
    · rw [← T]
    · rw [← T]
    · unfold S_X6_order_35
      dsimp only
      rw [if_pos (show (7776 : Int32) ≤ nI 7776 by decide)]
theorem pth_none {so sg : Nat} {h g : Nat → Nat} (hg : sg ≤ 5) (e : Dm so sg h g 5 0 = none) (k : Nat) : pth so sg h g k 0 = none := by
  have D := D5_s (so := so) (h := h) (g := g) hg 0
  rw [e] at D
  have n : nx so sg h g 0 = none := by
    unfold nx
    by_cases c : WT so sg h 0 = 0
    · rw [if_pos c]
    · rw [if_neg c] at D
      rw [if_neg c]
      cases hf : gw (Pm so sg h g 5 0) sg with
      | none => rfl
      | some p => rw [hf] at D; cases D
  cases k with
  | zero => exact n
  | succ k => show (match nx so sg h g 0 with | none => none | some j => pth so sg h g k (0 ||| 2 ^ j)) = none; rw [n]
theorem e_order {si : tSI} {sa : tSA} {ti : tSI} {ta : tSA} (R : Rel si sa ti ta) (a1 : Int32) : ∃ r si' sa' ti' ta', F_X5_order a1 si sa = some (r, si', sa') ∧ F_X6_order a1 ti ta = some (r, ti', ta') ∧ Rel si' sa' ti' ta' := by
  have R0 := R
  obtain ⟨so, sg, rd, ho, ho2, hg, hd, x2, m1, x3, m2, x4, m8, htr, hfa, hki, hco, hse, hal, hrs, hrt, hln, hce, hsz, hkr, hcr, hsr, har, hhv, hrr⟩ := R
  unfold F_X5_order F_X6_order
  rw [in32 (a := a1) (lo := -1) (hi := 4) (-1) 4 rfl rfl, isThere_eq x2 ho, m1]
  simp only [Int32.lt_iff_toInt_lt, Int32.le_iff_toInt_le, show ((-1 : Int32)).toInt = -1 from rfl, show ((5 : Int32)).toInt = 5 from rfl, show ((0 : Int32)).toInt = 0 from rfl]
  by_cases h1 : a1.toInt < -1
  · rw [if_pos h1, if_neg (by omega)]
    exact ⟨_, _, _, _, _, rfl, rfl, R0⟩
  · rw [if_neg h1]
    by_cases h2 : a1.toInt < 5
    · rw [if_pos h2, if_pos (show -1 ≤ a1.toInt ∧ a1.toInt ≤ 4 by omega)]
      simp only [Option.bind_some, if_neg ne10]
      by_cases c : so = 0
      · rw [if_pos c, if_pos rfl, if_pos ((nI_z so ho).mpr c)]
        exact ⟨_, _, _, _, _, rfl, rfl, R0⟩
      · rw [if_neg c, if_neg ne10, if_neg (fun z => c ((nI_z so ho).mp z))]
        obtain ⟨h, hm, g, CX, CM⟩ := rel_ctx ho hg x2 x3 m1 m2 hki hco hse hkr hcr hsr hhv
        have hb : ∀ s, s < so → g s ≤ 180 := CX.2.2.2.2.2.2.2
        obtain ⟨⟨L, B, TI, TA⟩, ⟨hL, hB, fI, fA⟩, hrun⟩ := order_run CM
        have hL : L = _ := hL
        have hB : B = _ := hB
        have fI : ∀ j, j ≠ 6 → j ≠ 7 → TI j = ti j := fI
        have fA : ∀ j, j ≠ 10 → j ≠ 11 → j ≠ 13 → TA j = ta j := fA
        have K : ∀ X : Nat → Int32, ∀ T : tSA, (∀ j, j ≠ 10 → j ≠ 11 → j ≠ 13 → T j = ta j) → Rel si (va_up sa 13 X) TI T := by
          intro X T hT
          refine ⟨so, sg, rd, ho, ho2, hg, hd, x2, ?_, x3, ?_, x4, ?_, ?_, ?_, ?_, ?_, ?_, ?_, ?_, ?_, ?_, ?_, ?_, hkr, hcr, hsr, har, ?_, hrr⟩
          · rw [fI 1 (by decide) (by decide)]; exact m1
          · rw [fI 2 (by decide) (by decide)]; exact m2
          · rw [fI 8 (by decide) (by decide)]; exact m8
          · rw [fI 9 (by decide) (by decide)]; exact htr
          · rw [fI 0 (by decide) (by decide)]; exact hfa
          · rw [hT 0 (by decide) (by decide) (by decide)]; exact hki
          · rw [hT 1 (by decide) (by decide) (by decide)]; exact hco
          · rw [hT 2 (by decide) (by decide) (by decide)]; exact hse
          · rw [hT 3 (by decide) (by decide) (by decide)]; exact hal
          · rw [hT 16 (by decide) (by decide) (by decide)]; exact hrs
          · rw [hT 17 (by decide) (by decide) (by decide)]; exact hrt
          · rw [hT 19 (by decide) (by decide) (by decide)]; exact hln
          · rw [hT 20 (by decide) (by decide) (by decide)]; exact hce
          · rw [hT 18 (by decide) (by decide) (by decide)]; exact hsz
          · rw [hT 4 (by decide) (by decide) (by decide)]; exact hhv
        rw [weigh_eq CX, hrun]
        have hp0 : 0 < 2 ^ sg := Nat.pow_pos (by decide)
        have CX2 : CXS so sg h g si (va_up sa 13 (fun s => if s < 2 ^ sg then enc (Dm so sg h g 5 s) else sa 13 s)) := CX
        have hA : ∀ s, s < 2 ^ sg → (va_up sa 13 (fun s => if s < 2 ^ sg then enc (Dm so sg h g 5 s) else sa 13 s)) 13 s = enc (Dm so sg h g 5 s) := fun s hs => if_pos hs
        have K2 := K (fun s => if s < 2 ^ sg then enc (Dm so sg h g 5 s) else sa 13 s)
        generalize va_up sa 13 (fun s => if s < 2 ^ sg then enc (Dm so sg h g 5 s) else sa 13 s) = SA at CX2 hA K2
        simp only [Option.bind_some]
        have FE : F_X1_fewestByOrder si SA = some (enc (Dm so sg h g 5 0)) := by
          unfold F_X1_fewestByOrder
          rw [show (0 : Int32) = nI 0 from rfl, ld_nI (show 0 < 32 by decide) (by decide), nI_c (by decide), hA 0 hp0]
        by_cases a0 : 0 ≤ a1.toInt
        · obtain ⟨k, hk, rfl⟩ := nI_ex (n := 5) a0 h2
          rw [if_pos a0, if_pos a0, signOf_eq CX2 (show k ≤ 5 by omega) hA]
          simp only [Option.bind_some]
          cases hD : Dm so sg h g 5 0 with
          | none =>
            rw [hD] at hL hB
            have hB : B = -9 := hB
            rw [hB, pth_none hg hD, if_neg (show ¬ 0 ≤ (-9 : Int32).toInt by decide)]
            exact ⟨_, _, _, _, _, rfl, rfl, K2 TA fA⟩
          | some c =>
            rw [hD] at hL hB
            have hB : B = nI (rw5 so sg h g 5 0) := hB
            have hr5 := rw5_lt so sg h g hg 5 0
            have hr : rw5 so sg h g 5 0 < 7776 := hr5
            have T := trial so sg h g hg 5 0
            rw [hD] at T
            rcases gw_sp (P := fun r => Vr so sg h g 5 r 0) (6 ^ 5) with ⟨a, _⟩ | ⟨p, a, b, cc, _, _⟩
            · rw [a] at T; cases T
            · rw [a] at T
              have T : p = (c, rw5 so sg h g 5 0) := Option.some.inj T
              subst T
              have cc : Vr so sg h g 5 (rw5 so sg h g 5 0) 0 = some c := cc
              rw [hB, if_pos (show 0 ≤ (nI (rw5 so sg h g 5 0)).toInt by rw [nI_toInt (show rw5 so sg h g 5 0 < 2 ^ 31 by omega)]; omega), lengthOf_eq hg hr5 (show TI 2 = nI sg by rw [fI 2 (by decide) (by decide)]; exact m2) TA]
              let q : Nat → Nat := fun x => dg (rw5 so sg h g 5 0) x - 1
              have hq : ∀ y, y < 5 → q (0 + y) = rw5 so sg h g 5 0 / 6 ^ (5 - 1 - y) % 6 - 1 := by
                intro y hy
                show rw5 so sg h g 5 0 / 6 ^ (4 - (0 + y)) % 6 - 1 = rw5 so sg h g 5 0 / 6 ^ (5 - 1 - y) % 6 - 1
                rw [Nat.zero_add]
              have VV := val_V (so := so) (sg := sg) (h := h) (g := g) q 5 0 (rw5 so sg h g 5 0) hr5 hq
              have PV := pth_val (so := so) (sg := sg) (h := h) (g := g) hg q 5 0 c
              have e0 : PU q 0 = 0 := rfl
              rw [e0] at VV PV
              cases hv : val sg 5 (rw5 so sg h g 5 0) 0 0 0 with
              | none =>
                rw [hv] at VV
                rw [VV.1 rfl] at cc; cases cc
              | some nf =>
                rw [hv] at VV
                obtain ⟨_, v2, v3, _⟩ := VV.2 nf rfl
                have P := (PV nf (by decide) (Nat.le_trans (un_le 0 sg) hg) hD hq hv).2 k
                rw [Nat.zero_add] at P
                simp only [Option.bind_some, enc_some]
                rw [nI_toInt (show nf < 2 ^ 31 by omega), nI_toInt (show k < 2 ^ 31 by omega), P]
                have K3 := K2 (va_up TA 13 (fun y => if y < 5 then nI (dg (rw5 so sg h g 5 0) y) - 1 else TA 13 y)) (fun j g1 g2 g3 => by rw [up_ne _ _ g3, fA j g1 g2 g3])
                by_cases z : nf ≤ k
                · rw [if_pos (show (nf : Int) ≤ k by omega), if_neg (by omega)]
                  exact ⟨_, _, _, _, _, rfl, rfl, K3⟩
                · obtain ⟨z1, z2⟩ := v3 k hk (by omega)
                  rw [Nat.zero_add] at z1 z2
                  have z2 : dg (rw5 so sg h g 5 0) k = q k + 1 := z2
                  rw [if_neg (show ¬ (nf : Int) ≤ k by omega), if_pos (by omega), ld_nI hk (by decide), nI_c (show k < 2 ^ 31 by omega), up_eq, if_pos hk, nI_m1 (d := dg (rw5 so sg h g 5 0) k) (Nat.mod_lt _ (by decide)), if_neg (show ¬ dg (rw5 so sg h g 5 0) k = 0 by omega)]
                  exact ⟨_, _, _, _, _, rfl, rfl, K3⟩
        · rw [if_neg a0, if_neg a0, FE]
          simp only [Option.bind_some]
          cases hD : Dm so sg h g 5 0 with
          | none =>
            rw [hD] at hL hB
            have hB : B = -9 := hB
            rw [hB, if_neg (show ¬ 0 ≤ (-9 : Int32).toInt by decide)]
            exact ⟨_, _, _, _, _, rfl, rfl, K2 TA fA⟩
          | some c =>
            rw [hD] at hL hB
            have hB : B = nI (rw5 so sg h g 5 0) := hB
            have hr : rw5 so sg h g 5 0 < 7776 := rw5_lt so sg h g hg 5 0
            rw [hB, hL, if_pos (show 0 ≤ (nI (rw5 so sg h g 5 0)).toInt by rw [nI_toInt (show rw5 so sg h g 5 0 < 2 ^ 31 by omega)]; omega)]
            exact ⟨_, _, _, _, _, rfl, rfl, K2 TA fA⟩
    · rw [if_neg h2, if_neg (by omega)]
      exact ⟨_, _, _, _, _, rfl, rfl, R0⟩
