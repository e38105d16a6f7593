theorem lsb_min {v t : Nat} (hv : v < 64) (h : v.testBit t = true) : lsb v ≤ t := by
  have h0 := pos_of_tb h
  rcases Nat.lt_or_ge t (lsb v) with z | z
  · rw [(lsb_sp v hv h0).2.2 t z] at h; cases h
  · exact z
section PART
variable {so sg : Nat} {h : Nat → Nat}
theorem HP_tb (hh : ∀ k, k < sg → h k < 64) {s u t : Nat} (ht : t < 6) : (HP so sg h s u).testBit t = true ↔ t < so ∧ ∀ q, q < sg → u.testBit q = true → (h q).testBit t = (h q).testBit s := HPr_tb h s u t ht sg hh
theorem HP_in (ho : so ≤ 6) {s u t : Nat} (h1 : (HP so sg h s u).testBit t = true) : t < 6 := by
  rcases Nat.lt_or_ge t 6 with z | z
  · exact z
  · rw [Nat.testBit_lt_two_pow (Nat.lt_of_lt_of_le (HPr_lt ho h s u sg) (Nat.pow_le_pow_right (n := 2) (i := 6) (by decide) z))] at h1
    cases h1
/-- one pass more -/
theorem HP_step (ho : so ≤ 6) (hh : ∀ k, k < sg → h k < 64) {s u k hm : Nat} (hs : s < so) (hk : k < sg) (hm6 : hm < 64) (e : h k = hm % 2 ^ so) : (if hm.testBit s = true then HP so sg h s u &&& hm else HP so sg h s u &&& (63 ^^^ hm)) = HP so sg h s (u ||| 2 ^ k) := by
  have b : ∀ t, t < so → (h k).testBit t = hm.testBit t := by
    intro t ht
    rw [e, Nat.testBit_mod_two_pow]
    simp [ht]
  have key : ∀ t, t < 6 → ((HP so sg h s (u ||| 2 ^ k)).testBit t = true ↔ (HP so sg h s u).testBit t = true ∧ hm.testBit t = hm.testBit s) := by
    intro t ht
    rw [HP_tb hh ht, HP_tb hh ht]
    constructor
    · rintro ⟨a, c⟩
      refine ⟨⟨a, fun q hq hu => c q hq (by rw [Nat.testBit_or, hu]; rfl)⟩, ?_⟩
      have := c k hk (by rw [Nat.testBit_or, tb_p2]; simp)
      rwa [b t a, b s hs] at this
    · rintro ⟨⟨a, c⟩, d⟩
      refine ⟨a, fun q hq hu => ?_⟩
      rw [Nat.testBit_or, tb_p2, Bool.or_eq_true, decide_eq_true_eq] at hu
      rcases hu with hu | rfl
      · exact c q hq hu
      · rw [b t a, b s hs, d]
  by_cases c : hm.testBit s = true
  · rw [if_pos c]
    refine eq64 (and_lt (HPr_lt ho h s u sg)) (HPr_lt ho h s _ sg) fun t ht => ?_
    rw [key t ht, Nat.testBit_and, Bool.and_eq_true, c]
  · rw [if_neg c]
    have c' : hm.testBit s = false := by simpa using c
    refine eq64 (and_lt (HPr_lt ho h s u sg)) (HPr_lt ho h s _ sg) fun t ht => ?_
    rw [key t ht, Nat.testBit_and, Bool.and_eq_true, tb63 t ht _ hm6, c']
    simp
theorem HC_cmp (u u' : Nat) (hmono : ∀ s, s < so → lsb (HP so sg h s u) = s → lsb (HP so sg h s u') = s) : ∀ n, n ≤ so → HC so sg h u n ≤ HC so sg h u' n ∧ (HC so sg h u' n = HC so sg h u n → ∀ s, s < n → lsb (HP so sg h s u') = s → lsb (HP so sg h s u) = s) := by
  intro n
  induction n with
  | zero => intro _; exact ⟨Nat.le_refl _, fun _ s hs => absurd hs (by omega)⟩
  | succ n ih =>
    intro hn
    obtain ⟨h1, h2⟩ := ih (by omega)
    rw [HC_s, HC_s]
    by_cases c : lsb (HP so sg h n u) = n
    · have c' := hmono n (by omega) c
      rw [if_pos c, if_pos c']
      refine ⟨by omega, fun e s hs hl => ?_⟩
      by_cases z : s = n
      · subst z; exact c
      · exact h2 (by omega) s (by omega) hl
    · rw [if_neg c]
      by_cases c' : lsb (HP so sg h n u') = n
      · rw [if_pos c']
        exact ⟨by omega, fun e => absurd e (by omega)⟩
      · rw [if_neg c']
        refine ⟨h1, fun e s hs hl => ?_⟩
        by_cases z : s = n
        · subst z; exact absurd hl c'
        · exact h2 e s (by omega) hl
/-- a pass parts nothing: just when there are as many heaps as ahead of it -/
theorem HC_iff (ho : so ≤ 6) (hh : ∀ k, k < sg → h k < 64) {u u' : Nat} (hu : ∀ q, u.testBit q = true → u'.testBit q = true) : HC so sg h u' so = HC so sg h u so ↔ ∀ s, s < so → HP so sg h s u' = HP so sg h s u := by
  have sub : ∀ s t, (HP so sg h s u').testBit t = true → (HP so sg h s u).testBit t = true := by
    intro s t ht
    have h6 := HP_in ho ht
    obtain ⟨a, c⟩ := (HP_tb hh h6).mp ht
    exact (HP_tb hh h6).mpr ⟨a, fun q hq z => c q hq (hu q z)⟩
  have hmono : ∀ s, s < so → lsb (HP so sg h s u) = s → lsb (HP so sg h s u') = s := by
    intro s hs hl
    have m := HP_self (sg := sg) (u := u') hh hs ho
    have m1 := lsb_min (HPr_lt ho h s u' sg) m
    have m2 := lsb_min (HPr_lt ho h s u sg) (sub s _ (lsb_sp _ (HPr_lt ho h s u' sg) (pos_of_tb m)).1)
    have m1' : lsb (HP so sg h s u') ≤ s := m1
    have m2' : lsb (HP so sg h s u) ≤ lsb (HP so sg h s u') := m2
    omega
  constructor
  · intro e s hs
    have hld := (HC_cmp u u' hmono so (Nat.le_refl so)).2 e
    refine eq64 (HPr_lt ho h s _ sg) (HPr_lt ho h s _ sg) fun t ht => ⟨sub s t, fun ht1 => ?_⟩
    -- the least of the heap of s
    have ms := HP_self (sg := sg) (u := u) hh hs ho
    have a1 := (lsb_sp _ (HPr_lt ho h s u sg) (pos_of_tb ms)).1
    have ha6 := HP_in ho a1
    obtain ⟨ha, hac⟩ := (HP_tb hh ha6).mp a1
    -- any w of that heap lies with a behind u'
    have hw : ∀ w, (HP so sg h s u).testBit w = true → ∀ q, q < sg → u'.testBit q = true → (h q).testBit w = (h q).testBit (lsb (HP so sg h s u)) := by
      intro w hw0
      have hw6 := HP_in ho hw0
      obtain ⟨hws, hwc⟩ := (HP_tb hh hw6).mp hw0
      have mw := HP_self (sg := sg) (u := u') hh hws ho
      have b1 := (lsb_sp _ (HPr_lt ho h w u' sg) (pos_of_tb mw)).1
      have hb6 := HP_in ho b1
      obtain ⟨hb, hbc⟩ := (HP_tb hh hb6).mp b1
      -- b is the least of its own heap behind u'
      have lb : lsb (HP so sg h (lsb (HP so sg h w u')) u') = lsb (HP so sg h w u') := by
        have mb := HP_self (sg := sg) (u := u') hh hb ho
        have l1 : lsb (HP so sg h (lsb (HP so sg h w u')) u') ≤ lsb (HP so sg h w u') := lsb_min (HPr_lt ho h _ u' sg) mb
        have c1 := (lsb_sp _ (HPr_lt ho h (lsb (HP so sg h w u')) u' sg) (pos_of_tb mb)).1
        obtain ⟨hc, hcc⟩ := (HP_tb hh (HP_in ho c1)).mp c1
        have l2 : lsb (HP so sg h w u') ≤ lsb (HP so sg h (lsb (HP so sg h w u')) u') := lsb_min (HPr_lt ho h w u' sg) ((HP_tb hh (HP_in ho c1)).mpr ⟨hc, fun q hq z => (hcc q hq z).trans (hbc q hq z)⟩)
        omega
      have lb2 : lsb (HP so sg h (lsb (HP so sg h w u')) u) = lsb (HP so sg h w u') := hld _ hb lb
      -- a lies in b's heap behind u
      have ab : lsb (HP so sg h w u') ≤ lsb (HP so sg h s u) := by
        have : (HP so sg h (lsb (HP so sg h w u')) u).testBit (lsb (HP so sg h s u)) = true :=
          (HP_tb hh ha6).mpr ⟨ha, fun q hq z => (hac q hq z).trans ((hwc q hq z).symm.trans (hbc q hq (hu q z)).symm)⟩
        have l3 := lsb_min (HPr_lt ho h _ u sg) this
        have l3' : lsb (HP so sg h (lsb (HP so sg h w u')) u) ≤ lsb (HP so sg h s u) := l3
        omega
      have ba : lsb (HP so sg h s u) ≤ lsb (HP so sg h w u') := lsb_min (HPr_lt ho h s u sg) ((HP_tb hh hb6).mpr ⟨hb, fun q hq z => (hbc q hq (hu q z)).trans (hwc q hq z)⟩)
      have eq : lsb (HP so sg h w u') = lsb (HP so sg h s u) := by omega
      intro q hq z
      have := hbc q hq z
      rw [eq] at this
      exact this.symm
    obtain ⟨hts, _⟩ := (HP_tb hh ht).mp ht1
    exact (HP_tb hh ht).mpr ⟨hts, fun q hq z => (hw t ht1 q hq z).trans (hw s ms q hq z).symm⟩
  · intro hall
    have : ∀ n, n ≤ so → HC so sg h u' n = HC so sg h u n := by
      intro n
      induction n with
      | zero => intro _; rfl
      | succ n ih => intro hn; rw [HC_s, HC_s, ih (by omega), hall n (by omega)]
    exact this so (Nat.le_refl so)
end PART
theorem or_sub {u k q : Nat} (h : u.testBit q = true) : (u ||| 2 ^ k).testBit q = true := by rw [Nat.testBit_or, h]; rfl
