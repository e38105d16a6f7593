-- a plan, pass by pass
def PU (q : Nat → Nat) : Nat → Nat
  | 0 => 0
  | x + 1 => PU q x ||| 2 ^ (q x)
def PS (so sg : Nat) (h g q : Nat → Nat) : Nat → Nat
  | 0 => 0
  | x + 1 => PS so sg h g q x + wt g (WT so sg h (PU q x)) so
def PI (so sg : Nat) (h q : Nat → Nat) : Nat → Int32
  | 0 => -9
  | x + 1 => if PI so sg h q x = -9 ∧ ∀ s, s < so → HP so sg h s (PU q x ||| 2 ^ (q x)) = HP so sg h s (PU q x) then nI x else PI so sg h q x
def PR (so sg : Nat) (h g q : Nat → Nat) (s : Nat) : Nat → Int32
  | 0 => -9
  | x + 1 => if 0 ≤ PR so sg h g q s x then PR so sg h g q s x else if HP so sg h s (PU q x ||| 2 ^ (q x)) = 2 ^ s then nI (PS so sg h g q x + wt g (WT so sg h (PU q x)) so) else PR so sg h g q s x
theorem PI_s (so sg : Nat) (h q : Nat → Nat) (x : Nat) : PI so sg h q (x + 1) = if PI so sg h q x = -9 ∧ ∀ s, s < so → HP so sg h s (PU q x ||| 2 ^ (q x)) = HP so sg h s (PU q x) then nI x else PI so sg h q x := rfl
theorem PR_s (so sg : Nat) (h g q : Nat → Nat) (s x : Nat) : PR so sg h g q s (x + 1) = if 0 ≤ PR so sg h g q s x then PR so sg h g q s x else if HP so sg h s (PU q x ||| 2 ^ (q x)) = 2 ^ s then nI (PS so sg h g q x + wt g (WT so sg h (PU q x)) so) else PR so sg h g q s x := rfl
theorem PU_lt {q : Nat → Nat} : ∀ x, (∀ y, y < x → q y < 6) → PU q x < 64 := by
  intro x
  induction x with
  | zero => intro _; show 0 < 64; omega
  | succ x ih => intro hq; exact or_lt (ih (fun y hy => hq y (by omega))) (p2_lt (hq x (by omega)))
theorem wt_le {g : Nat → Nat} (v : Nat) : ∀ n, (∀ s, s < n → g s ≤ 180) → wt g v n ≤ 180 * n := by
  intro n
  induction n with
  | zero => intro _; exact Nat.le_refl _
  | succ n ih =>
    intro hg
    have h1 := ih (fun s hs => hg s (by omega))
    have h2 := hg n (by omega)
    unfold wt
    split <;> omega
theorem PS_le {so sg : Nat} {h g q : Nat → Nat} (ho : so ≤ 6) (hb : ∀ s, s < so → g s ≤ 180) : ∀ x, PS so sg h g q x ≤ 1080 * x := by
  intro x
  induction x with
  | zero => exact Nat.le_refl _
  | succ x ih =>
    have h1 := wt_le (g := g) (WT so sg h (PU q x)) so hb
    show PS so sg h g q x + wt g (WT so sg h (PU q x)) so ≤ 1080 * (x + 1)
    omega
theorem PI_or (so sg : Nat) (h q : Nat → Nat) : ∀ x, PI so sg h q x = -9 ∨ ∃ n, n < x ∧ PI so sg h q x = nI n := by
  intro x
  induction x with
  | zero => exact Or.inl rfl
  | succ x ih =>
    rw [PI_s]
    split
    · exact Or.inr ⟨x, by omega, rfl⟩
    · rcases ih with e | ⟨n, hn, e⟩
      · exact Or.inl e
      · exact Or.inr ⟨n, by omega, e⟩
theorem PI_m {so sg : Nat} {h q : Nat → Nat} {x : Nat} (hx : x < 2 ^ 31) (a : Int32) (c : Prop) [Decidable c] : (if PI so sg h q x = -9 ∧ c then a else PI so sg h q x) = if 0 ≤ PI so sg h q x then PI so sg h q x else if c then a else PI so sg h q x := by
  rcases PI_or so sg h q x with e | ⟨n, hn, e⟩
  · rw [e, if_neg (show ¬ (0 : Int32) ≤ -9 by decide)]
    by_cases d : c
    · rw [if_pos ⟨rfl, d⟩, if_pos d]
    · rw [if_neg (fun z => d z.2), if_neg d]
  · rw [e, if_pos (nI_ge0 (by omega)), if_neg (fun z => nI_ne9 (by omega) z.1)]
theorem HP_0 (so sg : Nat) (h : Nat → Nat) (s : Nat) : HP so sg h s 0 = 2 ^ so - 1 := by
  have : ∀ k, HPr so h s 0 k = 2 ^ so - 1 := by
    intro k
    induction k with
    | zero => rfl
    | succ k ih => rw [HPr_s, Nat.zero_testBit, if_neg (by decide), ih]
  exact this sg
theorem all_ne : ∀ so, so ≤ 6 → 2 ≤ so → ∀ s, s < 6 → ¬ 2 ^ so - 1 = 2 ^ s := by decide
theorem HP_mono {so sg s u k : Nat} {h : Nat → Nat} (ho : so ≤ 6) (hh : ∀ k, k < sg → h k < 64) (hs : s < so) (e : HP so sg h s u = 2 ^ s) : HP so sg h s (u ||| 2 ^ k) = 2 ^ s := by
  refine eq64 (HPr_lt ho h s _ sg) (p2_lt (by omega)) fun t ht => ?_
  constructor
  · intro h1
    obtain ⟨a, c⟩ := (HP_tb hh ht).mp h1
    rw [← e]
    exact (HP_tb hh ht).mpr ⟨a, fun q hq z => c q hq (or_sub z)⟩
  · intro h1
    rw [tb_p2, decide_eq_true_eq] at h1
    subst h1
    exact HP_self hh hs ho
theorem PR_or {so sg : Nat} {h g q : Nat → Nat} {s : Nat} (ho : so ≤ 6) (ho2 : 2 ≤ so) (hh : ∀ k, k < sg → h k < 64) (hb : ∀ s, s < so → g s ≤ 180) (hs : s < so) : ∀ x, x ≤ 60 → (PR so sg h g q s x = -9 ∧ ¬ HP so sg h s (PU q x) = 2 ^ s) ∨ (∃ n, n < 2 ^ 31 ∧ PR so sg h g q s x = nI n) ∧ HP so sg h s (PU q x) = 2 ^ s := by
  intro x
  induction x with
  | zero =>
    intro _
    refine Or.inl ⟨rfl, ?_⟩
    show ¬ HP so sg h s 0 = 2 ^ s
    rw [HP_0]
    exact all_ne so ho ho2 s (by omega)
  | succ x ih =>
    intro hx
    rw [PR_s]
    show (_ ∧ ¬ HP so sg h s (PU q x ||| 2 ^ (q x)) = 2 ^ s) ∨ _ ∧ HP so sg h s (PU q x ||| 2 ^ (q x)) = 2 ^ s
    rcases ih (by omega) with ⟨e, hn⟩ | ⟨⟨n, hn, e⟩, hy⟩
    · rw [e, if_neg (show ¬ (0 : Int32) ≤ -9 by decide)]
      have hps := PS_le (sg := sg) (h := h) (q := q) ho hb (x + 1)
      have hps' : PS so sg h g q x + wt g (WT so sg h (PU q x)) so ≤ 1080 * (x + 1) := hps
      by_cases c : HP so sg h s (PU q x ||| 2 ^ (q x)) = 2 ^ s
      · rw [if_pos c]; exact Or.inr ⟨⟨_, by omega, rfl⟩, c⟩
      · rw [if_neg c]; exact Or.inl ⟨rfl, c⟩
    · rw [e, if_pos (nI_ge0 hn)]
      exact Or.inr ⟨⟨n, hn, rfl⟩, HP_mono ho hh hs hy⟩
theorem upd3 (f : Nat → Int32) (a b c a' b' c' : Int32) : upd (upd (upd (upd (upd (upd f 9 a) 10 b) 11 c) 9 a') 10 b') 11 c' = upd (upd (upd f 9 a') 10 b') 11 c' := by
  funext j
  by_cases h1 : j = 11
  · subst h1; rfl
  · by_cases h2 : j = 10
    · subst h2; rfl
    · by_cases h3 : j = 9
      · subst h3; rfl
      · rw [upd_ne _ _ h1, upd_ne _ _ h2, upd_ne _ _ h3, upd_ne _ _ h1, upd_ne _ _ h2, upd_ne _ _ h3, upd_ne _ _ h1, upd_ne _ _ h2, upd_ne _ _ h3]
theorem upd2 (f : Nat → Int32) (a b a' b' : Int32) : upd (upd (upd (upd f 6 a) 7 b) 6 a') 7 b' = upd (upd f 6 a') 7 b' := by
  funext j
  by_cases h2 : j = 7
  · subst h2; rfl
  · by_cases h3 : j = 6
    · subst h3; rfl
    · rw [upd_ne _ _ h2, upd_ne _ _ h3, upd_ne _ _ h2, upd_ne _ _ h3, upd_ne _ _ h2, upd_ne _ _ h3]
theorem up2 (f : tSA) (a b a' b' : Nat → Int32) : va_up (va_up (va_up (va_up f 10 a) 11 b) 10 a') 11 b' = va_up (va_up f 10 a') 11 b' := by
  funext j
  by_cases h2 : j = 11
  · subst h2; rfl
  · by_cases h3 : j = 10
    · subst h3; rfl
    · rw [up_ne _ _ h2, up_ne _ _ h3, up_ne _ _ h2, up_ne _ _ h3, up_ne _ _ h2, up_ne _ _ h3]
/-- the class goes through a plan -/
theorem go_eq {so sg w : Nat} {h g q : Nat → Nat} {si : tSI} {sa : tSA} (C : CXS so sg h g si sa) (ho2 : 2 ≤ so) (hw : w ≤ 60) (hq : ∀ x, x < w → q x < sg ∧ sa 0 x = nI (q x)) :
    F_X4_go_r2_r6 (nI w) si sa = some (upd (upd (upd si 9 (nI (PS so sg h g q w))) 10 (PI so sg h q w)) 11 (nI (PU q w)), va_up sa 12 (fun t => if t < 6 then (if t < so then PR so sg h g q t w else -9) else sa 12 t)) := by
  have C0 := C
  obtain ⟨ho, hg, x2, x3, hh, hkk, hww, hb⟩ := C
  have hh1 : ∀ k, k < sg → h k < 64 := fun k hk => (hh k hk).1
  let B : Nat → Nat → Int32 := fun x t => if t < 6 then (if t < so then PR so sg h g q t x else -9) else sa 12 t
  let SI : Nat → tSI := fun x => upd (upd (upd si 9 (nI (PS so sg h g q x))) 10 (PI so sg h q x)) 11 (nI (PU q x))
  have L1 : lp S_X4_go_r2_r6_19 100 (0, SI 0, sa) = some (SI 0, va_up sa 12 (rf (sa 12) (fun x w => upd w x (-9)) 6)) := by
    rw [← RF_up]
    refine lp_seq 6 (fun i => (nI i, SI 0, RF sa 12 (fun x w => upd w x (-9)) i)) ?_ ?_ 100 (by omega)
    · intro i hi rec
      unfold S_X4_go_r2_r6_19
      dsimp only
      have hle : ∀ i, i < 6 → ¬ (6 : Int32) ≤ nI i := by decide
      rw [if_neg (hle i hi), ld_nI hi (by decide), nI_c (show i < 2 ^ 31 by omega), nI_1]
      rfl
    · intro rec
      unfold S_X4_go_r2_r6_19
      dsimp only
      rw [if_pos (by decide)]
  have e0 : rf (sa 12) (fun x w => upd w x (-9)) 6 = B 0 := by
    rw [rfx (sa 12) (fun _ => -9) 6]
    funext t
    show _ = if t < 6 then (if t < so then (-9 : Int32) else -9) else sa 12 t
    by_cases z : t < 6
    · rw [if_pos z, if_pos z]; split <;> rfl
    · rw [if_neg z, if_neg z]
  rw [e0] at L1
  have L2 : lp (S_X4_go_r2_r6_44 (nI w)) 100 (0, SI 0, va_up sa 12 (B 0)) = some (SI w, va_up sa 12 (B w)) := by
    refine lp_seq w (fun x => (nI x, SI x, va_up sa 12 (B x))) ?_ ?_ 100 (by omega)
    · intro x hx rec
      unfold S_X4_go_r2_r6_44
      dsimp only
      obtain ⟨hq1, hq2⟩ := hq x hx
      have hu := PU_lt (q := q) x (fun y hy => by have := (hq y (by omega)).1; omega)
      rw [if_neg (nI_nle' hx (by omega)), ld_nI (by omega) (by decide), nI_c (show x < 2 ^ 31 by omega), up_ne sa (B x) (show (0 : Nat) ≠ 12 by decide), hq2]
      have P := passBy_eq (so := so) (sg := sg) (h := h) (g := g) (si := SI x) (sa := va_up sa 12 (B x)) C0 hq1 hu (sp := PS so sg h g q x) rfl rfl (nI x)
      rw [P]
      simp only [Option.bind_some, nI_1]
      have e1 : upd (upd (upd (SI x) 9 (nI (PS so sg h g q x + wt g (WT so sg h (PU q x)) so))) 10 (if SI x 10 = -9 ∧ ∀ s, s < so → HP so sg h s (PU q x ||| 2 ^ (q x)) = HP so sg h s (PU q x) then nI x else SI x 10)) 11 (nI (PU q x ||| 2 ^ (q x))) = SI (x + 1) := upd3 _ _ _ _ _ _ _
      have e2 : va_up (va_up sa 12 (B x)) 12 (fun t => if t < 6 ∧ (WT so sg h (PU q x) &&& (63 ^^^ WT so sg h (PU q x ||| 2 ^ (q x)))).testBit t = true then nI (PS so sg h g q x + wt g (WT so sg h (PU q x)) so) else va_up sa 12 (B x) 12 t) = va_up sa 12 (B (x + 1)) := by
        rw [up_up, up_eq]
        congr 1
        funext t
        show (if t < 6 ∧ _ then _ else if t < 6 then (if t < so then PR so sg h g q t x else -9) else sa 12 t) = if t < 6 then (if t < so then PR so sg h g q t (x + 1) else -9) else sa 12 t
        by_cases z : t < 6
        · rw [if_pos z, if_pos z]
          have bit : (WT so sg h (PU q x) &&& (63 ^^^ WT so sg h (PU q x ||| 2 ^ (q x)))).testBit t = true ↔ (WT so sg h (PU q x)).testBit t = true ∧ (WT so sg h (PU q x ||| 2 ^ (q x))).testBit t = false := by
            rw [Nat.testBit_and, Bool.and_eq_true, tb63 t z _ (WTr_lt so sg h _ so ho), Bool.not_eq_true']
          have w1 := WTr_tb so sg h (PU q x) t so
          have w2 := WTr_tb so sg h (PU q x ||| 2 ^ (q x)) t so
          by_cases y : t < so
          · rw [if_pos y, if_pos y, PR_s]
            rcases PR_or (q := q) ho ho2 hh1 hb y x (by omega) with ⟨e, hn⟩ | ⟨⟨n, hn, e⟩, hy⟩
            · rw [e, if_neg (show ¬ (0 : Int32) ≤ -9 by decide)]
              by_cases c : HP so sg h t (PU q x ||| 2 ^ (q x)) = 2 ^ t
              · rw [if_pos c, if_pos]
                refine ⟨z, bit.mpr ⟨w1.mpr ⟨y, hn⟩, ?_⟩⟩
                cases r : (WTr so sg h (PU q x ||| 2 ^ (q x)) so).testBit t with
                | false => rfl
                | true => exact absurd c (w2.mp r).2
              · rw [if_neg c, if_neg]
                rintro ⟨_, r⟩
                have r := (bit.mp r).2
                rw [w2.mpr ⟨y, c⟩] at r
                cases r
            · rw [e, if_pos (nI_ge0 hn), if_neg]
              rintro ⟨_, r⟩
              exact (w1.mp (bit.mp r).1).2 hy
          · rw [if_neg y, if_neg y, if_neg]
            rintro ⟨_, r⟩
            exact y (w1.mp (bit.mp r).1).1
        · rw [if_neg z, if_neg z, if_neg (fun r => z r.1)]
      rw [e1, e2]
    · intro rec
      unfold S_X4_go_r2_r6_44
      dsimp only
      rw [if_pos (nI_le (Nat.le_refl w) (by omega))]
  unfold F_X4_go_r2_r6
  have L1' : lp S_X4_go_r2_r6_19 100 (0, upd (upd (upd si 9 0) 10 (-9)) 11 0, sa) = some (SI 0, va_up sa 12 (B 0)) := L1
  rw [L1']
  simp only [Option.bind_some]
  rw [L2]
  rfl
/-- the reference goes through a plan -/
theorem begin_eq {so : Nat} {si : tSI} {sa : tSA} (m1 : si 1 = nI so) (ho : so ≤ 6) : F_X6_begin si sa = some (upd (upd si 6 0) 7 (-9), va_up (va_up sa 10 (fun t => if t < so then nI (2 ^ so - 1) else sa 10 t)) 11 (fun t => if t < so then -9 else sa 11 t)) := by
  let F : Nat → Nat → Int32 := fun i t => if t < i then nI (2 ^ so - 1) else sa 10 t
  let T : Nat → Nat → Int32 := fun i t => if t < i then -9 else sa 11 t
  have L : lp S_X6_begin_2 100 (nI 0, si, va_up (va_up sa 10 (F 0)) 11 (T 0)) = some (si, va_up (va_up sa 10 (F so)) 11 (T so)) := by
    refine lp_seq so (fun i => (nI i, si, va_up (va_up sa 10 (F i)) 11 (T i))) ?_ ?_ 100 (by omega)
    · intro i hi rec
      unfold S_X6_begin_2
      dsimp only
      have fs : upd (F i) i (nI (2 ^ so - 1)) = F (i + 1) := by
        funext q
        show upd (F i) i _ q = if q < i + 1 then nI (2 ^ so - 1) else sa 10 q
        by_cases e : q = i
        · subst e; rw [upd_eq, if_pos (by omega)]
        · rw [upd_ne _ _ e]
          show (if q < i then _ else sa 10 q) = _
          by_cases z : q < i
          · rw [if_pos z, if_pos (by omega)]
          · rw [if_neg z, if_neg (by omega)]
      have ts : upd (T i) i (-9) = T (i + 1) := by
        funext q
        show upd (T i) i (-9) q = if q < i + 1 then (-9 : Int32) else sa 11 q
        by_cases e : q = i
        · subst e; rw [upd_eq, if_pos (by omega)]
        · rw [upd_ne _ _ e]
          show (if q < i then (-9 : Int32) else sa 11 q) = _
          by_cases z : q < i
          · rw [if_pos z, if_pos (by omega)]
          · rw [if_neg z, if_neg (by omega)]
      rw [if_neg (show ¬ si 1 ≤ nI i by rw [m1]; exact nI_nle' hi (by omega)), all_eq m1 ho]
      simp only [Option.bind_some, ld_nI (show i < 6 by omega) (show 6 < 2 ^ 31 by decide), nI_c (show i < 2 ^ 31 by omega), nI_1]
      rw [show va_up (va_up sa 10 (F i)) 11 (T i) 10 = F i from rfl, show va_up (va_up sa 10 (F i)) 11 (T i) 11 = T i from rfl, fs, ts, up2]
    · intro rec
      unfold S_X6_begin_2
      dsimp only
      rw [if_pos (show si 1 ≤ nI so by rw [m1]; exact nI_le (Nat.le_refl so) (by omega))]
  have e0 : va_up (va_up sa 10 (F 0)) 11 (T 0) = sa := by
    have a : F 0 = sa 10 := by funext q; show (if q < 0 then _ else sa 10 q) = _; rw [if_neg (by omega)]
    have b : T 0 = sa 11 := by funext q; show (if q < 0 then (-9 : Int32) else sa 11 q) = _; rw [if_neg (by omega)]
    rw [a, up_self, b, up_self]
  rw [e0] at L
  have L' : lp S_X6_begin_2 100 (0, si, sa) = some (si, va_up (va_up sa 10 (F so)) 11 (T so)) := L
  unfold F_X6_begin
  rw [L']
  rfl
theorem goPlan_eq {so sg w b : Nat} {h hm g q : Nat → Nat} {si : tSI} {sa : tSA} (C : CMS so sg h hm g si sa) (hw : w ≤ 60) (hbw : b + w ≤ 240) (hq : ∀ x, x < w → q x < sg ∧ sa 20 (b + x) = nI (q x)) :
    F_X6_goPlan (nI b) (nI w) si sa = some (upd (upd si 6 (nI (PS so sg h g q w))) 7 (PI so sg h q w), va_up (va_up sa 10 (fun t => if t < so then nI (HP so sg h t (PU q w)) else sa 10 t)) 11 (fun t => if t < so then PR so sg h g q t w else sa 11 t)) := by
  have C0 := C
  obtain ⟨ho, hg, m1, m2, hh, hww, hb⟩ := C
  let F : Nat → Nat → Int32 := fun x t => if t < so then nI (HP so sg h t (PU q x)) else sa 10 t
  let T : Nat → Nat → Int32 := fun x t => if t < so then PR so sg h g q t x else sa 11 t
  let SI : Nat → tSI := fun x => upd (upd si 6 (nI (PS so sg h g q x))) 7 (PI so sg h q x)
  have B : F_X6_begin si sa = some (SI 0, va_up (va_up sa 10 (F 0)) 11 (T 0)) := by
    rw [begin_eq m1 ho]
    have a : (fun t => if t < so then nI (2 ^ so - 1) else sa 10 t) = F 0 := by
      funext t
      show _ = if t < so then nI (HP so sg h t 0) else sa 10 t
      rw [HP_0]
    rw [a]
    rfl
  have L2 : lp (S_X6_goPlan_6 (nI w) (nI b)) 100 (0, SI 0, va_up (va_up sa 10 (F 0)) 11 (T 0)) = some (SI w, va_up (va_up sa 10 (F w)) 11 (T w)) := by
    refine lp_seq w (fun x => (nI x, SI x, va_up (va_up sa 10 (F x)) 11 (T x))) ?_ ?_ 100 (by omega)
    · intro x hx rec
      unfold S_X6_goPlan_6
      dsimp only
      obtain ⟨hq1, hq2⟩ := hq x hx
      have hu := PU_lt (q := q) x (fun y hy => by have := (hq y (by omega)).1; omega)
      rw [if_neg (nI_nle' hx (by omega)), nI_add, ld_nI (by omega) (by decide), nI_c (show b + x < 2 ^ 31 by omega), show va_up (va_up sa 10 (F x)) 11 (T x) 20 = sa 20 from rfl, hq2]
      have P := goPass_eq (so := so) (sg := sg) (h := h) (hm := hm) (g := g) (si := SI x) (sa := va_up (va_up sa 10 (F x)) 11 (T x)) C0 hq1 hu (sp := PS so sg h g q x) rfl (fun s hs => if_pos hs) (nI x)
      rw [P]
      simp only [Option.bind_some, nI_1]
      have e1 : upd (upd (SI x) 6 (nI (PS so sg h g q x + wt g (WT so sg h (PU q x)) so))) 7 (if 0 ≤ SI x 7 then SI x 7 else if ∀ s, s < so → HP so sg h s (PU q x ||| 2 ^ (q x)) = HP so sg h s (PU q x) then nI x else SI x 7) = SI (x + 1) := by
        have z : (if 0 ≤ SI x 7 then SI x 7 else if ∀ s, s < so → HP so sg h s (PU q x ||| 2 ^ (q x)) = HP so sg h s (PU q x) then nI x else SI x 7) = PI so sg h q (x + 1) := by
          rw [PI_s, PI_m (show x < 2 ^ 31 by omega)]
          rfl
        rw [z]
        exact upd2 _ _ _ _ _
      have e2 : (fun t => if t < so then nI (HP so sg h t (PU q x ||| 2 ^ (q x))) else va_up (va_up sa 10 (F x)) 11 (T x) 10 t) = F (x + 1) := by
        funext t
        show (if t < so then nI (HP so sg h t (PU q x ||| 2 ^ (q x))) else if t < so then _ else sa 10 t) = if t < so then nI (HP so sg h t (PU q x ||| 2 ^ (q x))) else sa 10 t
        by_cases y : t < so
        · rw [if_pos y, if_pos y]
        · rw [if_neg y, if_neg y, if_neg y]
      have e3 : (fun t => if t < so then (if 0 ≤ va_up (va_up sa 10 (F x)) 11 (T x) 11 t then va_up (va_up sa 10 (F x)) 11 (T x) 11 t else if HP so sg h t (PU q x ||| 2 ^ (q x)) = 2 ^ t then nI (PS so sg h g q x + wt g (WT so sg h (PU q x)) so) else va_up (va_up sa 10 (F x)) 11 (T x) 11 t) else va_up (va_up sa 10 (F x)) 11 (T x) 11 t) = T (x + 1) := by
        funext t
        show (if t < so then (if 0 ≤ T x t then T x t else if HP so sg h t (PU q x ||| 2 ^ (q x)) = 2 ^ t then nI (PS so sg h g q x + wt g (WT so sg h (PU q x)) so) else T x t) else T x t) = if t < so then PR so sg h g q t (x + 1) else sa 11 t
        by_cases y : t < so
        · rw [if_pos y, if_pos y, PR_s, show T x t = PR so sg h g q t x from if_pos y]
        · rw [if_neg y, if_neg y, show T x t = sa 11 t from if_neg y]
      rw [e1, e2, e3, up2]
    · intro rec
      unfold S_X6_goPlan_6
      dsimp only
      rw [if_pos (nI_le (Nat.le_refl w) (by omega))]
  unfold F_X6_goPlan
  rw [B]
  simp only [Option.bind_some]
  rw [L2]
  rfl
