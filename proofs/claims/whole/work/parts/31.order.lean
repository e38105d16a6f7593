theorem val_zero (sg : Nat) : ∀ m r x n u, n < x → r < 6 ^ m → val sg m r x n u = if r = 0 then some n else none := by
  intro m
  induction m with
  | zero =>
    intro r x n u hn hr
    have : r = 0 := by have hr : r < 1 := hr; omega
    rw [if_pos this]; rfl
  | succ m ih =>
    intro r x n u hn hr
    have hp := p6 m
    rw [val_s]
    by_cases c : r / 6 ^ m = 0
    · have hlt : r < 6 ^ m := by
        rcases Nat.lt_or_ge r (6 ^ m) with z | z
        · exact z
        · exact absurd c (Nat.ne_of_gt (Nat.div_pos z hp))
      rw [if_pos c, Nat.mod_eq_of_lt hlt]
      exact ih r (x + 1) n u (by omega) hlt
    · rw [if_neg c, if_neg (fun z => by omega), if_neg]
      intro z
      subst z
      exact c (Nat.zero_div _)
section ORV
variable {so sg : Nat} {h g : Nat → Nat}
/-- a row's value, by its passes -/
theorem val_V (q : Nat → Nat) : ∀ m x r, r < 6 ^ m → (∀ y, y < m → q (x + y) = r / 6 ^ (m - 1 - y) % 6 - 1) → (val sg m r x x (PU q x) = none → Vr so sg h g m r (PU q x) = none) ∧ ∀ nf, val sg m r x x (PU q x) = some nf → x ≤ nf ∧ nf ≤ x + m ∧ (∀ y, y < m → x + y < nf → q (x + y) < sg ∧ r / 6 ^ (m - 1 - y) % 6 = q (x + y) + 1) ∧ (Vr so sg h g m r (PU q x)).map (fun c => c + PS so sg h g q x) = if WT so sg h (PU q nf) = 0 then some (PS so sg h g q nf) else none := by
  intro m
  induction m with
  | zero =>
    intro x r hr hq
    refine ⟨(fun z => by cases z), fun nf hnf => ?_⟩
    have hnf : some x = some nf := hnf
    have hnf := Option.some.inj hnf
    subst hnf
    refine ⟨Nat.le_refl _, Nat.le_refl _, fun y hy => absurd hy (by omega), ?_⟩
    show (if WT so sg h (PU q x) = 0 then some 0 else none).map _ = _
    by_cases c : WT so sg h (PU q x) = 0
    · rw [if_pos c, if_pos c]
      show some (0 + PS so sg h g q x) = _
      rw [Nat.zero_add]
    · rw [if_neg c, if_neg c]; rfl
  | succ m ih =>
    intro x r hr hq
    have hp := p6 m
    have hd6 : r / 6 ^ m < 6 := by
      rw [Nat.pow_succ] at hr
      exact (Nat.div_lt_iff_lt_mul hp).mpr (by rw [Nat.mul_comm]; exact hr)
    have hr' : r % 6 ^ m < 6 ^ m := Nat.mod_lt _ hp
    rw [val_s, Vr_s]
    by_cases c : r / 6 ^ m = 0
    · rw [if_pos c, if_pos c, val_zero sg m _ (x + 1) x _ (by omega) hr']
      by_cases d : r % 6 ^ m = 0
      · rw [if_pos d, if_pos d]
        refine ⟨(fun z => by cases z), fun nf hnf => ?_⟩
        have hnf := Option.some.inj hnf
        subst hnf
        refine ⟨Nat.le_refl _, by omega, fun y hy hxy => by omega, ?_⟩
        by_cases e : WT so sg h (PU q x) = 0
        · rw [if_pos e, if_pos e]
          show some (0 + PS so sg h g q x) = _
          rw [Nat.zero_add]
        · rw [if_neg e, if_neg e]; rfl
      · rw [if_neg d, if_neg d]
        exact ⟨fun _ => rfl, fun nf hnf => by cases hnf⟩
    · rw [if_neg c, if_neg c]
      have hq0 : q x = r / 6 ^ m - 1 := by
        have := hq 0 (by omega)
        rw [Nat.add_zero, show m + 1 - 1 - 0 = m by omega, Nat.mod_eq_of_lt hd6] at this
        exact this
      have hsub : r / 6 ^ m = q x + 1 := by
        have := Nat.pos_of_ne_zero c
        omega
      by_cases d : r / 6 ^ m - 1 < sg ∧ x = x ∧ ¬ (PU q x).testBit (r / 6 ^ m - 1) = true
      · have d2 : r / 6 ^ m - 1 < sg ∧ ¬ (PU q x).testBit (r / 6 ^ m - 1) = true := ⟨d.1, d.2.2⟩
        rw [if_pos d, if_pos d2, ← hq0]
        have I := ih (x + 1) (r % 6 ^ m) hr' (by
          intro y hy
          have := hq (y + 1) (by omega)
          rw [show x + 1 + y = x + (y + 1) by omega, this, show m + 1 - 1 - (y + 1) = m - 1 - y by omega, dig_mod r (show m - 1 - y < m by omega)])
        have eU : PU q (x + 1) = PU q x ||| 2 ^ q x := rfl
        rw [eU] at I
        refine ⟨fun z => by rw [I.1 z]; rfl, fun nf hnf => ?_⟩
        obtain ⟨i1, i2, i3, i4⟩ := I.2 nf hnf
        refine ⟨by omega, by omega, fun y hy hxy => ?_, ?_⟩
        · cases y with
          | zero => exact ⟨by rw [Nat.add_zero, hq0]; exact d.1, by rw [show m + 1 - 1 - 0 = m by omega, Nat.mod_eq_of_lt hd6, Nat.add_zero]; exact hsub⟩
          | succ y =>
            have := i3 y (by omega) (by omega)
            rw [show x + 1 + y = x + (y + 1) by omega, dig_mod r (show m - 1 - y < m by omega)] at this
            rw [show m + 1 - 1 - (y + 1) = m - 1 - y by omega]
            exact this
        · rw [← i4, Option.map_map]
          congr 1
          funext z
          show z + Cu so sg h g (PU q x) + PS so sg h g q x = z + (PS so sg h g q x + wt g (WT so sg h (PU q x)) so)
          have e : Cu so sg h g (PU q x) = wt g (WT so sg h (PU q x)) so := rfl
          rw [e]
          omega
      · rw [if_neg d, if_neg (fun z => d ⟨z.1, rfl, z.2⟩)]
        exact ⟨fun _ => rfl, fun nf hnf => by cases hnf⟩
/-- the class's order is the row of the best -/
theorem pth_val (hg : sg ≤ 5) (q : Nat → Nat) : ∀ m x c nf, m ≤ 5 → un (PU q x) sg ≤ m → Dm so sg h g m (PU q x) = some c → (∀ y, y < m → q (x + y) = rw5 so sg h g m (PU q x) / 6 ^ (m - 1 - y) % 6 - 1) → val sg m (rw5 so sg h g m (PU q x)) x x (PU q x) = some nf → x ≤ nf ∧ ∀ k, pth so sg h g k (PU q x) = if x + k < nf then some (q (x + k)) else none := by
  have stop : ∀ u, WT so sg h u = 0 → ∀ k, pth so sg h g k u = none := by
    intro u hu k
    have e : nx so sg h g u = none := if_pos hu
    cases k with
    | zero => exact e
    | succ k => show (match nx so sg h g u with | none => none | some j => pth so sg h g k (u ||| 2 ^ j)) = none; rw [e]
  intro m
  induction m with
  | zero =>
    intro x c nf hm hu hD hq hv
    have hv : some x = some nf := hv
    have hv := Option.some.inj hv
    subst hv
    have hw : WT so sg h (PU q x) = 0 := by
      have hD : (if WT so sg h (PU q x) = 0 then some 0 else none) = some c := hD
      by_cases z : WT so sg h (PU q x) = 0
      · exact z
      · rw [if_neg z] at hD; cases hD
    exact ⟨Nat.le_refl _, fun k => by rw [stop _ hw k, if_neg (by omega)]⟩
  | succ m ih =>
    intro x c nf hm hu hD hq hv
    have hp := p6 m
    rw [Dm_s] at hD
    rw [val_s] at hv
    by_cases hw : WT so sg h (PU q x) = 0
    · have er : rw5 so sg h g (m + 1) (PU q x) = 0 := by rw [rw5_s, if_pos hw]
      rw [er, Nat.zero_div, if_pos rfl, Nat.zero_mod, val_zero sg m 0 (x + 1) x _ (by omega) hp, if_pos rfl] at hv
      have hv := Option.some.inj hv
      subst hv
      exact ⟨Nat.le_refl _, fun k => by rw [stop _ hw k, if_neg (by omega)]⟩
    · rw [if_neg hw] at hD
      obtain ⟨p, hpp, _⟩ := Option.map_eq_some_iff.mp hD
      have er : rw5 so sg h g (m + 1) (PU q x) = (p.2 + 1) * 6 ^ m + rw5 so sg h g m (PU q x ||| 2 ^ p.2) := by rw [rw5_s, if_neg hw, hpp]
      have hrl := rw5_lt so sg h g hg m (PU q x ||| 2 ^ p.2)
      have hdiv : ((p.2 + 1) * 6 ^ m + rw5 so sg h g m (PU q x ||| 2 ^ p.2)) / 6 ^ m = p.2 + 1 := by
        rw [Nat.add_comm, Nat.add_mul_div_right _ _ hp, Nat.div_eq_of_lt hrl, Nat.zero_add]
      have hmod : ((p.2 + 1) * 6 ^ m + rw5 so sg h g m (PU q x ||| 2 ^ p.2)) % 6 ^ m = rw5 so sg h g m (PU q x ||| 2 ^ p.2) := by
        rw [Nat.add_comm, Nat.add_mul_mod_self_right, Nat.mod_eq_of_lt hrl]
      rcases gw_sp (P := Pm so sg h g m (PU q x)) sg with ⟨a, _⟩ | ⟨p2, a, b, cc, _, _⟩
      · rw [a] at hpp; cases hpp
      · rw [a] at hpp
        have hpp := Option.some.inj hpp
        subst hpp
        obtain ⟨nb, hDn⟩ := Pm_some so sg h g cc
        have hq0 : q x = p2.2 := by
          have := hq 0 (by omega)
          rw [Nat.add_zero, show m + 1 - 1 - 0 = m by omega, er, hdiv, Nat.mod_eq_of_lt (by omega)] at this
          omega
        have eU : PU q (x + 1) = PU q x ||| 2 ^ p2.2 := by rw [← hq0]; rfl
        rw [er, hdiv, hmod, if_neg (by omega), show p2.2 + 1 - 1 = p2.2 by omega, if_pos ⟨b, rfl, nb⟩, ← eU] at hv
        have uu := un_or nb sg
        rw [if_pos b, ← eU] at uu
        have I := ih (x + 1) p2.1 nf (by omega) (by omega) (by rw [eU]; exact hDn) (by
          intro y hy
          have := hq (y + 1) (by omega)
          rw [show x + 1 + y = x + (y + 1) by omega, this, er, show m + 1 - 1 - (y + 1) = m - 1 - y by omega, eU, ← dig_mod _ (show m - 1 - y < m by omega), hmod]) hv
        have enx : nx so sg h g (PU q x) = some (q x) := by
          unfold nx
          rw [if_neg hw, gw_congr (P := Pm so sg h g 5 (PU q x)) (Q := Pm so sg h g m (PU q x)) (fun k hk => Pm_more hk hu (by omega)), a, hq0]
          rfl
        refine ⟨by omega, fun k => ?_⟩
        cases k with
        | zero => rw [Nat.add_zero, if_pos (by omega)]; exact enx
        | succ k =>
          have e1 : pth so sg h g (k + 1) (PU q x) = pth so sg h g k (PU q (x + 1)) := by
            show (match nx so sg h g (PU q x) with | none => none | some j => pth so sg h g k (PU q x ||| 2 ^ j)) = _
            rw [enx, eU, hq0]
          rw [e1, I.2 k, show x + 1 + k = x + (k + 1) by omega]
end ORV
theorem WT_RN {so sg : Nat} (ho : so ≤ 6) (h : Nat → Nat) (u : Nat) : RN so sg h u so = 2 ^ so - 1 ↔ WT so sg h u = 0 := by
  have hp := p2le ho
  have e := ready_set (sg := sg) ho h u
  constructor
  · intro z
    refine eq64 (WTr_lt so sg h u so ho) (by decide) fun t ht => ?_
    rw [Nat.zero_testBit]
    refine ⟨fun y => ?_, fun y => by cases y⟩
    obtain ⟨a, b⟩ := (WTr_tb so sg h u t so).mp y
    have : (RN so sg h u so).testBit t = true := by
      rw [z, Nat.testBit_two_pow_sub_one, decide_eq_true_eq]; exact a
    exact absurd ((RN_tb so sg h u t so).mp this).2 b
  · intro z
    rw [← e, z]
    refine eq64 (and_lt (by omega)) (by omega) fun t ht => ?_
    rw [Nat.testBit_and, Bool.and_eq_true, tb63 t ht 0 (by decide), Nat.zero_testBit]
    exact ⟨fun y => y.1, fun y => ⟨y, rfl⟩⟩
/-- the reference goes through a row -/
theorem run_row {so sg w : Nat} {h hm g q : Nat → Nat} {si : tSI} {sa : tSA} (C : CMS so sg h hm g si sa) (hw : w ≤ 5) (hq : ∀ x, x < w → q x < sg ∧ sa 13 x = nI (q x)) (n : Int32) (hn : n = nI w) (si2 : tSI) (sa2 : tSA) :
    ∃ ti ta, ((F_X6_begin si sa).bind fun r12 => lp (S_X6_order_58 (n, si2, sa2)) 100 (0, r12.1, r12.2)) = some (ti, ta) ∧ ti 6 = nI (PS so sg h g q w) ∧ (∀ j, j ≠ 6 → j ≠ 7 → ti j = si j) ∧ (∀ j, j ≠ 10 → j ≠ 11 → ta j = sa j) ∧ ∀ t, t < so → ta 10 t = nI (HP so sg h t (PU q w)) := by
  have C0 := C
  obtain ⟨ho, hg, m1, m2, hh, hww, hb⟩ := C
  let F : Nat → Nat → Int32 := fun x t => if t < so then nI (HP so sg h t (PU q x)) else sa 10 t
  let T : Nat → Nat → Int32 := fun x t => if t < so then PR so sg h g q t x else sa 11 t
  let SI : Nat → tSI := fun x => upd (upd si 6 (nI (PS so sg h g q x))) 7 (PI so sg h q x)
  have B : F_X6_begin si sa = some (SI 0, va_up (va_up sa 10 (F 0)) 11 (T 0)) := by
    rw [begin_eq m1 ho]
    have a : (fun t => if t < so then nI (2 ^ so - 1) else sa 10 t) = F 0 := by
      funext t
      show _ = if t < so then nI (HP so sg h t 0) else sa 10 t
      rw [HP_0]
    rw [a]
    rfl
  have L2 : lp (S_X6_order_58 (n, si2, sa2)) 100 (0, SI 0, va_up (va_up sa 10 (F 0)) 11 (T 0)) = some (SI w, va_up (va_up sa 10 (F w)) 11 (T w)) := by
    subst hn
    refine lp_seq w (fun x => (nI x, SI x, va_up (va_up sa 10 (F x)) 11 (T x))) ?_ ?_ 100 (by omega)
    · intro x hx rec
      unfold S_X6_order_58
      dsimp only
      obtain ⟨hq1, hq2⟩ := hq x hx
      have hu := PU_lt (q := q) x (fun y hy => by have := (hq y (by omega)).1; omega)
      rw [if_neg (nI_nle' hx (by omega)), ld_nI (show x < 5 by omega) (by decide), nI_c (show x < 2 ^ 31 by omega), show va_up (va_up sa 10 (F x)) 11 (T x) 13 = sa 13 from rfl, hq2]
      have P := goPass_eq (so := so) (sg := sg) (h := h) (hm := hm) (g := g) (si := SI x) (sa := va_up (va_up sa 10 (F x)) 11 (T x)) C0 hq1 hu (sp := PS so sg h g q x) rfl (fun s hs => if_pos hs) (nI x)
      rw [P]
      simp only [Option.bind_some, nI_1]
      have e1 : upd (upd (SI x) 6 (nI (PS so sg h g q x + wt g (WT so sg h (PU q x)) so))) 7 (if 0 ≤ SI x 7 then SI x 7 else if ∀ s, s < so → HP so sg h s (PU q x ||| 2 ^ (q x)) = HP so sg h s (PU q x) then nI x else SI x 7) = SI (x + 1) := by
        have z : (if 0 ≤ SI x 7 then SI x 7 else if ∀ s, s < so → HP so sg h s (PU q x ||| 2 ^ (q x)) = HP so sg h s (PU q x) then nI x else SI x 7) = PI so sg h q (x + 1) := by
          rw [PI_s, PI_m (show x < 2 ^ 31 by omega)]
          rfl
        rw [z]
        exact upd2 _ _ _ _ _
      have e2 : (fun t => if t < so then nI (HP so sg h t (PU q x ||| 2 ^ (q x))) else va_up (va_up sa 10 (F x)) 11 (T x) 10 t) = F (x + 1) := by
        funext t
        show (if t < so then nI (HP so sg h t (PU q x ||| 2 ^ (q x))) else if t < so then _ else sa 10 t) = if t < so then nI (HP so sg h t (PU q x ||| 2 ^ (q x))) else sa 10 t
        by_cases y : t < so
        · rw [if_pos y, if_pos y]
        · rw [if_neg y, if_neg y, if_neg y]
      have e3 : (fun t => if t < so then (if 0 ≤ va_up (va_up sa 10 (F x)) 11 (T x) 11 t then va_up (va_up sa 10 (F x)) 11 (T x) 11 t else if HP so sg h t (PU q x ||| 2 ^ (q x)) = 2 ^ t then nI (PS so sg h g q x + wt g (WT so sg h (PU q x)) so) else va_up (va_up sa 10 (F x)) 11 (T x) 11 t) else va_up (va_up sa 10 (F x)) 11 (T x) 11 t) = T (x + 1) := by
        funext t
        show (if t < so then (if 0 ≤ T x t then T x t else if HP so sg h t (PU q x ||| 2 ^ (q x)) = 2 ^ t then nI (PS so sg h g q x + wt g (WT so sg h (PU q x)) so) else T x t) else T x t) = if t < so then PR so sg h g q t (x + 1) else sa 11 t
        by_cases y : t < so
        · rw [if_pos y, if_pos y, PR_s, show T x t = PR so sg h g q t x from if_pos y]
        · rw [if_neg y, if_neg y, show T x t = sa 11 t from if_neg y]
      rw [e1, e2, e3, up2]
    · intro rec
      unfold S_X6_order_58
      dsimp only
      rw [if_pos (nI_le (Nat.le_refl w) (by omega))]
  refine ⟨SI w, va_up (va_up sa 10 (F w)) 11 (T w), ?_, rfl, fun j h1 h2 => ?_, fun j h1 h2 => ?_, fun t ht => if_pos ht⟩
  · rw [B]
    simp only [Option.bind_some]
    exact L2
  · show upd (upd si 6 _) 7 _ j = si j
    rw [upd_ne _ _ h2, upd_ne _ _ h1]
  · rw [up_ne _ _ h2, up_ne _ _ h1]
