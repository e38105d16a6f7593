def CXS (so sg : Nat) (h g : Nat → Nat) (si : tSI) (sa : tSA) : Prop := so ≤ 6 ∧ sg ≤ 5 ∧ si 2 = nI so ∧ si 3 = nI sg ∧ (∀ k, k < sg → h k < 64 ∧ sa 8 k = nI (h k)) ∧ (∀ s, s < so → ∃ k, k ≤ 2 ∧ sa 4 s = nI k) ∧ (∀ s, s < so → wgt (sa 5) (sa 4) (sa 6) s = nI (g s)) ∧ ∀ s, s < so → g s ≤ 180
def CMS (so sg : Nat) (h hm g : Nat → Nat) (si : tSI) (sa : tSA) : Prop := so ≤ 6 ∧ sg ≤ 5 ∧ si 1 = nI so ∧ si 2 = nI sg ∧ (∀ k, k < sg → hm k < 64 ∧ sa 4 k = nI (hm k) ∧ h k = hm k % 2 ^ so) ∧ (∀ s, s < so → wgt (sa 1) (sa 0) (sa 2) s = nI (g s)) ∧ ∀ s, s < so → g s ≤ 180
abbrev WT (so sg : Nat) (h : Nat → Nat) (u : Nat) : Nat := WTr so sg h u so
theorem CXS.secs {so sg : Nat} {h g : Nat → Nat} {si : tSI} {sa : tSA} (C : CXS so sg h g si sa) {v : Nat} (hv : v < 64) : F_X0_secondsFor (nI v) si sa = some (nI (wt g v so)) := by
  obtain ⟨ho, hg, x2, x3, hh, hk, hw, hb⟩ := C
  rw [secondsFor_eq x2 ho hv hk, wI_congr (g' := fun s => nI (g s)) hw, wI_wt]
theorem CMS.secs {so sg : Nat} {h hm g : Nat → Nat} {si : tSI} {sa : tSA} (C : CMS so sg h hm g si sa) {v : Nat} (hv : v < 64) : F_X6_looksOf (nI v) si sa = some (nI (wt g v so)) := by
  obtain ⟨ho, hg, m1, m2, hh, hw, hb⟩ := C
  rw [looksOf_eq m1 ho hv, wI_congr (g' := fun s => nI (g s)) hw, wI_wt]
theorem upd_self (f : Nat → Int32) (k : Nat) : upd f k (f k) = f := by
  funext j; unfold upd; split
  · rename_i e; rw [e]
  · rfl
theorem rfx (f v : Nat → Int32) (n : Nat) : rf f (fun x w => upd w x (v x)) n = fun q => if q < n then v q else f q := by
  funext q
  have := rf_at f v 0 n q
  simp only [Nat.zero_add, Nat.zero_le, true_and, Nat.sub_zero] at this
  exact this
theorem noteReady_eq {m : Nat} (hm : m < 64) (si : tSI) (sa : tSA) : F_X4_noteReady (nI m) si sa = some (si, va_up sa 12 (fun q => if q < 6 ∧ m.testBit q = true then si 9 else sa 12 q)) := by
  let N : Nat → Nat → Int32 := fun i q => if q < i ∧ m.testBit q = true then si 9 else sa 12 q
  have L : lp (S_X4_noteReady_2 (nI m)) 100 (nI 0, si, va_up sa 12 (N 0)) = some (si, va_up sa 12 (N 6)) := by
    refine lp_seq 6 (fun i => (nI i, si, va_up sa 12 (N i))) ?_ ?_ 100 (by omega)
    · intro i hi rec
      unfold S_X4_noteReady_2
      dsimp only
      have hle : ∀ i, i < 6 → ¬ (6 : Int32) ≤ nI i := by decide
      rw [if_neg (hle i hi), holds_eq m hm i (by omega)]
      by_cases c : m.testBit i = true
      · simp only [if_pos c, Option.bind_some, if_neg ne10, ld_nI hi (show 6 < 2 ^ 31 by decide), nI_c (show i < 2 ^ 31 by omega), nI_1, up_eq, up_up]
        have : upd (N i) i (si 9) = N (i + 1) := by
          funext q
          show upd (N i) i (si 9) q = if q < i + 1 ∧ m.testBit q = true then si 9 else sa 12 q
          by_cases e : q = i
          · subst e; rw [upd_eq, if_pos ⟨by omega, c⟩]
          · rw [upd_ne _ _ e]
            show (if q < i ∧ m.testBit q = true then si 9 else sa 12 q) = _
            by_cases z : q < i ∧ m.testBit q = true
            · rw [if_pos z, if_pos ⟨by omega, z.2⟩]
            · rw [if_neg z, if_neg (fun y => z ⟨by omega, y.2⟩)]
        rw [this]
      · simp only [if_neg c, Option.bind_some, if_true, nI_1]
        have : N i = N (i + 1) := by
          funext q
          show (if q < i ∧ m.testBit q = true then si 9 else sa 12 q) = if q < i + 1 ∧ m.testBit q = true then si 9 else sa 12 q
          by_cases z : q < i ∧ m.testBit q = true
          · rw [if_pos z, if_pos ⟨by omega, z.2⟩]
          · rw [if_neg z, if_neg (fun y => z ⟨by
              by_cases e : q = i
              · subst e; exact absurd y.2 c
              · omega, y.2⟩)]
        rw [this]
    · intro rec
      unfold S_X4_noteReady_2
      dsimp only
      rw [if_pos (by decide)]
  have e0 : va_up sa 12 (N 0) = sa := by
    have : N 0 = sa 12 := by
      funext q
      show (if q < 0 ∧ m.testBit q = true then si 9 else sa 12 q) = sa 12 q
      rw [if_neg (by omega)]
    rw [this, up_self]
  rw [e0] at L
  unfold F_X4_noteReady
  have L' : lp (S_X4_noteReady_2 (nI m)) 100 (0, si, sa) = some (si, va_up sa 12 (N 6)) := L
  rw [L']; rfl
theorem passBy_eq {so sg k u sp : Nat} {h g : Nat → Nat} {si : tSI} {sa : tSA} (C : CXS so sg h g si sa) (hk : k < sg) (hu : u < 64) (e9 : si 9 = nI sp) (e11 : si 11 = nI u) (pl : Int32) :
    F_X4_passBy_r2 (nI k) pl si sa = some (upd (upd (upd si 9 (nI (sp + wt g (WT so sg h u) so))) 10 (if si 10 = -9 ∧ ∀ s, s < so → HP so sg h s (u ||| 2 ^ k) = HP so sg h s u then pl else si 10)) 11 (nI (u ||| 2 ^ k)), va_up sa 12 (fun q => if q < 6 ∧ (WT so sg h u &&& (63 ^^^ WT so sg h (u ||| 2 ^ k))).testBit q = true then nI (sp + wt g (WT so sg h u) so) else sa 12 q)) := by
  have C0 := C
  obtain ⟨ho, hg, x2, x3, hh, hkk, hw, hb⟩ := C
  have hh1 : ∀ k, k < sg → h k < 64 := fun k hk => (hh k hk).1
  have hp : 2 ^ k < 64 := p2_lt (by omega)
  have hu' : u ||| 2 ^ k < 64 := or_lt hu hp
  have hW := WTr_lt so sg h u so ho
  have hW' := WTr_lt so sg h (u ||| 2 ^ k) so ho
  have hiff := HC_iff (sg := sg) ho hh1 (u := u) (u' := u ||| 2 ^ k) (fun q hq => or_sub hq)
  have hle1 := HC_le so sg h (u ||| 2 ^ k) so
  have hle2 := HC_le so sg h u so
  unfold F_X4_passBy_r2
  rw [e11, e9, shl_eq k (by omega), or_eq u hu _ hp, waiting_eq x2 ho x3 hg hh hu]
  simp only [Option.bind_some]
  rw [C0.secs hW]
  simp only [Option.bind_some, nI_add]
  by_cases c : si 10 = -9
  · rw [if_pos c, heaps_eq (si := upd si 9 _) (sa := sa) (so := so) (sg := sg) (h := h) x2 ho x3 hg hh hu', heaps_eq (si := upd si 9 _) (sa := sa) (so := so) (sg := sg) (h := h) x2 ho x3 hg hh hu]
    simp only [Option.bind_some, nI_i64 _ (show HC so sg h (u ||| 2 ^ k) so < 64 by omega) _ (show HC so sg h u so < 64 by omega)]
    by_cases d : HC so sg h (u ||| 2 ^ k) so = HC so sg h u so
    · rw [if_pos d, if_pos ⟨c, hiff.mp d⟩]
      simp only [Option.bind_some]
      rw [waiting_eq (si := upd (upd si 9 _) 10 pl) (sa := sa) (so := so) (sg := sg) (h := h) x2 ho x3 hg hh hu']
      simp only [Option.bind_some]
      rw [andn_eq _ hW _ hW', noteReady_eq (and_lt hW)]
      rfl
    · rw [if_neg d, if_neg (fun z => d (hiff.mpr z.2))]
      simp only [Option.bind_some]
      rw [waiting_eq (si := upd si 9 _) (sa := sa) (so := so) (sg := sg) (h := h) x2 ho x3 hg hh hu']
      simp only [Option.bind_some]
      rw [andn_eq _ hW _ hW', noteReady_eq (and_lt hW)]
      have e := upd_self (upd si 9 (nI (sp + wt g (WT so sg h u) so))) 10
      have e' : upd (upd si 9 (nI (sp + wt g (WT so sg h u) so))) 10 (si 10) = upd si 9 (nI (sp + wt g (WT so sg h u) so)) := e
      rw [e']
      rfl
  · rw [if_neg c, if_neg (fun z => c z.1)]
    simp only [Option.bind_some]
    rw [waiting_eq (si := upd si 9 _) (sa := sa) (so := so) (sg := sg) (h := h) x2 ho x3 hg hh hu']
    simp only [Option.bind_some]
    rw [andn_eq _ hW _ hW', noteReady_eq (and_lt hW)]
    have e := upd_self (upd si 9 (nI (sp + wt g (WT so sg h u) so))) 10
    have e' : upd (upd si 9 (nI (sp + wt g (WT so sg h u) so))) 10 (si 10) = upd si 9 (nI (sp + wt g (WT so sg h u) so)) := e
    rw [e']
    rfl
theorem isAlone_eq {s : Nat} (hs : s < 6) (si : tSI) (sa : tSA) : F_X6_isAlone (nI s) si sa = some (if sa 10 s = nI (2 ^ s) then 1 else 0) := by
  unfold F_X6_isAlone
  rw [ld_nI hs (by decide), nI_c (by omega), shl_eq s (by omega)]
  split <;> rfl
/-- the reference's pass -/
theorem goPass_eq {so sg k u sp : Nat} {h hm g : Nat → Nat} {si : tSI} {sa : tSA} (C : CMS so sg h hm g si sa) (hk : k < sg) (hu : u < 64) (e6 : si 6 = nI sp) (hH : ∀ s, s < so → sa 10 s = nI (HP so sg h s u)) (pl : Int32) :
    F_X6_goPass (nI k) pl si sa = some (upd (upd si 6 (nI (sp + wt g (WT so sg h u) so))) 7 (if 0 ≤ si 7 then si 7 else if ∀ s, s < so → HP so sg h s (u ||| 2 ^ k) = HP so sg h s u then pl else si 7),
      va_up (va_up sa 10 (fun q => if q < so then nI (HP so sg h q (u ||| 2 ^ k)) else sa 10 q)) 11 (fun q => if q < so then (if 0 ≤ sa 11 q then sa 11 q else if HP so sg h q (u ||| 2 ^ k) = 2 ^ q then nI (sp + wt g (WT so sg h u) so) else sa 11 q) else sa 11 q)) := by
  have C0 := C
  obtain ⟨ho, hg, m1, m2, hh, hw, hb⟩ := C
  obtain ⟨hm6, eh, emod⟩ := hh k hk
  have hh1 : ∀ k, k < sg → h k < 64 := by
    intro q hq
    rw [(hh q hq).2.2]
    exact Nat.lt_of_lt_of_le (Nat.mod_lt _ (Nat.pow_pos (by decide))) (p2le ho)
  have hW := WTr_lt so sg h u so ho
  -- who is not yet alone
  have L1 : lp (S_X6_goPass_8 si sa) 100 (0, 0) = some (nI (WT so sg h u)) := by
    refine lp_seq so (fun i => (nI i, nI (WTr so sg h u i))) ?_ ?_ 100 (by omega)
    · intro i hi rec
      unfold S_X6_goPass_8
      dsimp only
      rw [m1, if_neg (nI_nle' hi (by omega)), isAlone_eq (by omega), hH i hi, WTr_s]
      simp only [nI_i64 _ (HPr_lt ho h i u sg) _ (p2_lt (show i < 6 by omega)), nI_1, Option.bind_some, shl_eq i (by omega), or_eq _ (WTr_lt so sg h u i (by omega)) _ (p2_lt (show i < 6 by omega)), Int32.or_zero]
      by_cases c : HPr so h i u sg = 2 ^ i
      · rw [if_pos c, if_neg ne10, if_pos c]
      · rw [if_neg c, if_pos rfl, if_neg c]
    · intro rec
      unfold S_X6_goPass_8
      dsimp only
      rw [m1, if_pos (nI_le (Nat.le_refl so) (by omega))]
  -- the parting
  let u' := u ||| 2 ^ k
  let F : Nat → Nat → Int32 := fun i q => if q < i then nI (HP so sg h q u') else sa 10 q
  let P : Nat → Int32 := fun i => if ∀ s, s < i → HP so sg h s u' = HP so sg h s u then 0 else 1
  have L2 : lp (S_X6_goPass_48 (nI k)) 100 (nI 0, P 0, si, va_up sa 10 (F 0)) = some (P so, si, va_up sa 10 (F so)) := by
    refine lp_seq so (fun i => (nI i, P i, si, va_up sa 10 (F i))) ?_ ?_ 100 (by omega)
    · intro i hi rec
      unfold S_X6_goPass_48
      dsimp only
      have hHi := HPr_lt ho h i u sg
      have fi : F i i = nI (HP so sg h i u) := by
        show (if i < i then _ else sa 10 i) = _
        rw [if_neg (by omega), hH i hi]
      have fs : upd (F i) i (nI (HP so sg h i u')) = F (i + 1) := by
        funext q
        show upd (F i) i (nI (HP so sg h i u')) q = if q < i + 1 then nI (HP so sg h q u') else sa 10 q
        by_cases e : q = i
        · subst e; rw [upd_eq, if_pos (by omega)]
        · rw [upd_ne _ _ e]
          show (if q < i then nI (HP so sg h q u') else sa 10 q) = _
          by_cases z : q < i
          · rw [if_pos z, if_pos (by omega)]
          · rw [if_neg z, if_neg (by omega)]
      have st := HP_step (sg := sg) (u := u) ho hh1 hi hk hm6 emod
      rw [if_neg (show ¬ si 1 ≤ nI i by rw [m1]; exact nI_nle' hi (by omega))]
      simp only [ld_nI (show k < 5 by omega) (show 5 < 2 ^ 31 by decide), nI_c (show k < 2 ^ 31 by omega), ld_nI (show i < 6 by omega) (show 6 < 2 ^ 31 by decide), nI_c (show i < 2 ^ 31 by omega), up_ne sa (F i) (show (4 : Nat) ≠ 10 by decide), up_eq, up_up, eh, isIn_eq _ hm6 i (by omega), Option.bind_some, fi, and_eq _ hHi _ hm6, andn_eq _ hHi _ hm6, nI_1]
      have its : (if (if (hm k).testBit i = true then (1 : Int32) else 0) = 0 then some (nI (HP so sg h i u &&& (63 ^^^ hm k))) else some (nI (HP so sg h i u &&& hm k))) = some (nI (HP so sg h i u')) := by
        by_cases c : (hm k).testBit i = true
        · rw [if_pos c] at st
          rw [if_pos c, if_neg ne10, st]
        · rw [if_neg c] at st
          rw [if_neg c, if_pos rfl, st]
      rw [its]
      simp only [Option.bind_some, fs, nI_i64 _ (HPr_lt ho h i u' sg) _ hHi]
      have ps : (if P i = 0 then (if HPr so h i u' sg = HPr so h i u sg then some (0 : Int32) else some 1) else some 1) = some (P (i + 1)) := by
        show (if (if ∀ s, s < i → HP so sg h s u' = HP so sg h s u then (0 : Int32) else 1) = 0 then _ else _) = some (if ∀ s, s < i + 1 → HP so sg h s u' = HP so sg h s u then 0 else 1)
        by_cases c : ∀ s, s < i → HP so sg h s u' = HP so sg h s u
        · rw [if_pos c, if_pos rfl]
          by_cases d : HPr so h i u' sg = HPr so h i u sg
          · rw [if_pos d, if_pos]
            intro s hs
            by_cases e : s = i
            · subst e; exact d
            · exact c s (by omega)
          · rw [if_neg d, if_neg (fun z => d (z i (by omega)))]
        · rw [if_neg c, if_neg ne10, if_neg (fun z => c (fun s hs => z s (by omega)))]
      rw [ps]
      rfl
    · intro rec
      unfold S_X6_goPass_48
      dsimp only
      rw [if_pos (show si 1 ≤ nI so by rw [m1]; exact nI_le (Nat.le_refl so) (by omega))]
  have F0 : va_up sa 10 (F 0) = sa := by
    have : F 0 = sa 10 := by funext q; show (if q < 0 then _ else sa 10 q) = _; rw [if_neg (by omega)]
    rw [this, up_self]
  have P0 : P 0 = 0 := if_pos (fun s hs => absurd hs (by omega))
  rw [F0, P0] at L2
  have L2' : lp (S_X6_goPass_48 (nI k)) 100 (0, 0, si, sa) = some (P so, si, va_up sa 10 (F so)) := L2
  -- who has become ready
  let sp' := sp + wt g (WT so sg h u) so
  let r : Nat → Int32 := fun q => if 0 ≤ sa 11 q then sa 11 q else if HP so sg h q u' = 2 ^ q then nI sp' else sa 11 q
  let T : Nat → Nat → Int32 := fun i q => if q < i then r q else sa 11 q
  have L3 : lp S_X6_goPass_161 100 (nI 0, upd si 6 (nI sp'), va_up (va_up sa 10 (F so)) 11 (T 0)) = some (upd si 6 (nI sp'), va_up (va_up sa 10 (F so)) 11 (T so)) := by
    refine lp_seq so (fun i => (nI i, upd si 6 (nI sp'), va_up (va_up sa 10 (F so)) 11 (T i))) ?_ ?_ 100 (by omega)
    · intro i hi rec
      unfold S_X6_goPass_161
      dsimp only
      have ti : T i i = sa 11 i := by show (if i < i then _ else sa 11 i) = _; rw [if_neg (by omega)]
      have ts : upd (T i) i (r i) = T (i + 1) := by
        funext q
        show upd (T i) i (r i) q = if q < i + 1 then r q else sa 11 q
        by_cases e : q = i
        · subst e; rw [upd_eq, if_pos (by omega)]
        · rw [upd_ne _ _ e]
          show (if q < i then r q else sa 11 q) = _
          by_cases z : q < i
          · rw [if_pos z, if_pos (by omega)]
          · rw [if_neg z, if_neg (by omega)]
      have hFi : F so i = nI (HP so sg h i u') := if_pos hi
      rw [if_neg (show ¬ upd si 6 (nI sp') 1 ≤ nI i by rw [show (upd si 6 (nI sp')) 1 = nI so from m1]; exact nI_nle' hi (by omega)), isAlone_eq (by omega)]
      simp only [ld_nI (show i < 6 by omega) (show 6 < 2 ^ 31 by decide), nI_c (show i < 2 ^ 31 by omega), up_eq, up_up, ti, nI_1, up_ne (va_up sa 10 (F so)) (T i) (show (10 : Nat) ≠ 11 by decide), hFi, nI_i64 _ (HPr_lt ho h i u' sg) _ (p2_lt (show i < 6 by omega)), Option.bind_some]
      by_cases c : 0 ≤ sa 11 i
      · have er : r i = sa 11 i := if_pos c
        rw [if_pos c, ← er, ts]
      · rw [if_neg c]
        by_cases d : HPr so h i u' sg = 2 ^ i
        · have er : r i = nI sp' := by
            show (if 0 ≤ sa 11 i then _ else if HP so sg h i u' = 2 ^ i then nI sp' else _) = _
            rw [if_neg c, if_pos d]
          rw [if_pos d, if_neg ne10, show upd si 6 (nI sp') 6 = nI sp' from upd_eq _ _ _, ← er, ts]
        · have er : r i = sa 11 i := by
            show (if 0 ≤ sa 11 i then _ else if HP so sg h i u' = 2 ^ i then nI sp' else _) = _
            rw [if_neg c, if_neg d]
          rw [if_neg d, if_pos rfl, ← er, ts]
    · intro rec
      unfold S_X6_goPass_161
      dsimp only
      rw [if_pos (show upd si 6 (nI sp') 1 ≤ nI so by rw [show (upd si 6 (nI sp')) 1 = nI so from m1]; exact nI_le (Nat.le_refl so) (by omega))]
  have T0 : va_up (va_up sa 10 (F so)) 11 (T 0) = va_up sa 10 (F so) := by
    have : T 0 = (va_up sa 10 (F so)) 11 := by funext q; show (if q < 0 then _ else sa 11 q) = _; rw [if_neg (by omega)]; rfl
    rw [this, up_self]
  rw [T0] at L3
  have L3' : lp S_X6_goPass_161 100 (0, upd si 6 (nI sp'), va_up sa 10 (F so)) = some (upd si 6 (nI sp'), va_up (va_up sa 10 (F so)) 11 (T so)) := L3
  have SE : F_X6_looksOf (nI (WT so sg h u)) si (va_up sa 10 (F so)) = some (nI (wt g (WT so sg h u) so)) := CMS.secs (so := so) (sg := sg) (h := h) (hm := hm) (g := g) C0 hW
  unfold F_X6_goPass
  rw [L1]
  simp only [Option.bind_some]
  rw [L2']
  simp only [Option.bind_some]
  rw [SE]
  simp only [Option.bind_some, e6, nI_add]
  rw [L3']
  simp only [Option.bind_some]
  have s7 : upd si 6 (nI sp') 7 = si 7 := rfl
  rw [s7]
  by_cases c : 0 ≤ si 7
  · rw [if_pos c, if_pos c]
  · rw [if_neg c, if_neg c]
    by_cases d : ∀ s, s < so → HP so sg h s u' = HP so sg h s u
    · rw [if_pos (show P so = 0 from if_pos d), if_pos d]
    · rw [if_neg (show ¬ P so = 0 from fun z => by rw [show P so = 1 from if_neg d] at z; exact ne10 z), if_neg d]
