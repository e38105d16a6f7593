def AS (z : Nat → Int32) (A : tSA) : Nat → tSA
  | 0 => A
  | s + 1 => WS z (AS z A s) s (1 + 5 * s)
def AG (z : Nat → Int32) (p : Nat) (A : tSA) : Nat → tSA
  | 0 => A
  | k + 1 => WG z (AG z p A k) k (p + 3 * k)
theorem AS_fr (z : Nat → Int32) (A : tSA) {j : Nat} (h5 : j ≠ 5) (h6 : j ≠ 6) (h7 : j ≠ 7) (h8 : j ≠ 8) : ∀ s, AS z A s j = A j := by
  intro s
  induction s with
  | zero => rfl
  | succ s ih =>
    show WS z (AS z A s) s (1 + 5 * s) j = A j
    unfold WS
    rw [up_ne _ _ h8, up_ne _ _ h7, up_ne _ _ h6, up_ne _ _ h5, ih]
theorem AG_fr (z : Nat → Int32) (p : Nat) (A : tSA) {j : Nat} (h9 : j ≠ 9) : ∀ k, AG z p A k j = A j := by
  intro k
  induction k with
  | zero => rfl
  | succ k ih =>
    show WG z (AG z p A k) k (p + 3 * k) j = A j
    unfold WG
    rw [up_ne _ _ h9, ih]
theorem AS_at (z : Nat → Int32) (A : tSA) : ∀ s t, t < s → AS z A s 5 t = kd (z (1 + 5 * t + 1)) ∧ AS z A s 6 t = z (1 + 5 * t + 2) - 48 ∧ AS z A s 7 t = z (1 + 5 * t + 3) - 48 ∧ AS z A s 8 t = z (1 + 5 * t + 4) - 48 := by
  intro s
  induction s with
  | zero => intro t ht; omega
  | succ s ih =>
    intro t ht
    show upd (AS z A s 5) s (kd (z (1 + 5 * s + 1))) t = _ ∧ upd (AS z A s 6) s (z (1 + 5 * s + 2) - 48) t = _ ∧ upd (AS z A s 7) s (z (1 + 5 * s + 3) - 48) t = _ ∧ upd (AS z A s 8) s (z (1 + 5 * s + 4) - 48) t = _
    by_cases e : t = s
    · subst e
      rw [upd_eq, upd_eq, upd_eq, upd_eq]
      exact ⟨rfl, rfl, rfl, rfl⟩
    · rw [upd_ne _ _ e, upd_ne _ _ e, upd_ne _ _ e, upd_ne _ _ e]
      exact ih t (by omega)
theorem AG_at (z : Nat → Int32) (p : Nat) (A : tSA) : ∀ k t, t < k → AG z p A k 9 t = 10 * (z (p + 3 * t + 1) - 48) + (z (p + 3 * t + 2) - 48) := by
  intro k
  induction k with
  | zero => intro t ht; omega
  | succ k ih =>
    intro t ht
    show upd (AG z p A k 9) k (10 * (z (p + 3 * k + 1) - 48) + (z (p + 3 * k + 2) - 48)) t = _
    by_cases e : t = k
    · subst e; rw [upd_eq]
    · rw [upd_ne _ _ e]
      exact ih t (by omega)
theorem ps_ok {z : Nat → Int32} {p : Nat} (h : (ps z p).1 = true) : (ps z p).2 = p + 5 ∧ Eb z p 59 59 ∧ (Eb z (p + 1) 112 112 ∨ Eb z (p + 1) 115 115 ∨ Eb z (p + 1) 100 100) ∧ Eb z (p + 2) 48 57 ∧ Eb z (p + 3) 49 57 ∧ Eb z (p + 4) 48 53 := by
  unfold ps at h ⊢
  by_cases c0 : Eb z p 59 59
  · rw [if_pos c0] at h ⊢
    by_cases c1 : Eb z (p + 1) 112 112 ∨ Eb z (p + 1) 115 115 ∨ Eb z (p + 1) 100 100
    · rw [if_pos c1] at h ⊢
      by_cases c2 : Eb z (p + 2) 48 57
      · rw [if_pos c2] at h ⊢
        by_cases c3 : Eb z (p + 3) 49 57
        · rw [if_pos c3] at h ⊢
          by_cases c4 : Eb z (p + 4) 48 53
          · rw [if_pos c4]
            exact ⟨rfl, c0, c1, c2, c3, c4⟩
          · rw [if_neg c4] at h; cases h
        · rw [if_neg c3] at h; cases h
      · rw [if_neg c2] at h; cases h
    · rw [if_neg c1] at h; cases h
  · rw [if_neg c0] at h; cases h
theorem ps_no {z : Nat → Int32} {p : Nat} (h : ¬ Eb z p 59 59) : ps z p = (false, p) := if_neg h
theorem ps_le (z : Nat → Int32) (p : Nat) : (ps z p).2 ≤ p + 5 := by
  unfold ps
  repeat' split
  all_goals (show _ ≤ p + 5; omega)
theorem pg_ok {z : Nat → Int32} {p : Nat} (h : (pg z p).1 = true) : (pg z p).2 = p + 3 ∧ Eb z p 47 47 ∧ Eb z (p + 1) 48 54 ∧ Eb z (p + 2) 48 (if (z (p + 1)).toInt = 54 then 51 else 57) := by
  unfold pg at h ⊢
  by_cases c0 : Eb z p 47 47
  · rw [if_pos c0] at h ⊢
    by_cases c1 : Eb z (p + 1) 48 54
    · rw [if_pos c1] at h ⊢
      by_cases c2 : Eb z (p + 2) 48 (if (z (p + 1)).toInt = 54 then 51 else 57)
      · rw [if_pos c2]
        exact ⟨rfl, c0, c1, c2⟩
      · rw [if_neg c2] at h; cases h
    · rw [if_neg c1] at h; cases h
  · rw [if_neg c0] at h; cases h
theorem pg_no {z : Nat → Int32} {p : Nat} (h : ¬ Eb z p 47 47) : pg z p = (false, p) := if_neg h
theorem pg_le (z : Nat → Int32) (p : Nat) : (pg z p).2 ≤ p + 3 := by
  unfold pg
  split
  · split
    · by_cases c : Eb z (p + 2) 48 (if (z (p + 1)).toInt = 54 then 51 else 57)
      · rw [if_pos c]; show p + 3 ≤ p + 3; omega
      · rw [if_neg c]; show p + 2 ≤ p + 3; omega
    · show p + 1 ≤ p + 3; omega
  · show p ≤ p + 3; omega
section PARS
variable {n B : Nat} {z : Nat → Int32} {si : tSI} {sa : tSA} {ti : tSI} {A : tSA}
theorem sortsX (hn : n ≤ 60) (hX : ∀ x, x < n → sa 11 x = z x) (hz : ∀ x, n ≤ x → z x = -9) {s : Nat} (hs : s < 6) (rec : tSI × tSA → Option ((Int32 × tSI × tSA) ⊕ (tSI × tSA))) : S_X3_passesSorts_0 rec (XS si n (1 + 5 * s) s 0, sa) = (if Eb z (1 + 5 * s) 59 59 then (if (ps z (1 + 5 * s)).1 = true then rec (XS si n (1 + 5 * (s + 1)) (s + 1) 0, sa) else some (.inl (0, XS si n (ps z (1 + 5 * s)).2 s 0, sa))) else some (.inr (XS si n (1 + 5 * s) s 0, sa))) := by
  have h6 : ¬ (6 : Int32) ≤ nI s := nI_nle' (show s < 6 from hs) (by decide)
  have qn : F_X3_isNext 59 59 (XS si n (1 + 5 * s) s 0) sa = _ := isNext_eq (si := si) (s := s) (k := 0) (lo := 59) (hi := 59) (p := 1 + 5 * s) hn hX hz (by omega) (by decide) (by decide)
  unfold S_X3_passesSorts_0
  dsimp only
  rw [if_neg (show ¬ (6 : Int32) ≤ XS si n (1 + 5 * s) s 0 7 from h6), qn]
  by_cases c : Eb z (1 + 5 * s) 59 59
  · rw [if_pos c, if_pos c]
    simp only [Option.bind_some, if_neg ne10]
    rw [passesSort_eq hn hX hz (show 1 + 5 * s ≤ 90 by omega)]
    cases hb : (ps z (1 + 5 * s)).1 with
    | true =>
      have e := (ps_ok hb).1
      rw [if_pos rfl, e]
      simp only [Option.bind_some, if_neg (show ¬ bi true = 0 by decide), show XS si n (1 + 5 * s + 5) s 0 7 = nI s from rfl, nI_1, XS_7]
      rfl
    | false =>
      rw [if_neg (by decide)]
      simp only [Option.bind_some, if_pos (show bi false = 0 by decide)]
  · rw [if_neg c, if_neg c]
    simp only [Option.bind_some, if_true]
theorem sortsM (hn : n ≤ 60) (hB : B + n ≤ 240) (hM : ∀ x, x < n → A 20 (B + x) = z x) (hz : ∀ x, n ≤ x → z x = -9) {s : Nat} (hs : s < 6) (rec : Int32 × tSI × tSA → Option (Int32 × tSI × tSA)) : S_X6_readsFloor_50 (nI B) (nI n) rec (1, TS ti (1 + 5 * s) s 0, AS z A s) = (if Eb z (1 + 5 * s) 59 59 ∨ s < 2 then (if (ps z (1 + 5 * s)).1 = true then rec (1, TS ti (1 + 5 * (s + 1)) (s + 1) 0, AS z A (s + 1)) else rec (0, TS ti (ps z (1 + 5 * s)).2 s 0, AS z A s)) else some (1, TS ti (1 + 5 * s) s 0, AS z A s)) := by
  have hM' : ∀ x, x < n → AS z A s 20 (B + x) = z x := fun x hx => by rw [AS_fr z A (by decide) (by decide) (by decide) (by decide)]; exact hM x hx
  have w59 : z (1 + 5 * s) = 59 ↔ Eb z (1 + 5 * s) 59 59 := by
    have := eq_i (x := z (1 + 5 * s)) (m := 59) (by decide)
    exact this.trans (by unfold Eb; omega)
  have go : (F_X6_readsSort (nI B) (nI n) (TS ti (1 + 5 * s) s 0) (AS z A s)).bind (fun r15 => rec (r15.1, r15.2.1, r15.2.2)) = (if (ps z (1 + 5 * s)).1 = true then rec (1, TS ti (1 + 5 * (s + 1)) (s + 1) 0, AS z A (s + 1)) else rec (0, TS ti (ps z (1 + 5 * s)).2 s 0, AS z A s)) := by
    rw [readsSort_eq hn hB hM' hz (show 1 + 5 * s ≤ 90 by omega) hs]
    cases hb : (ps z (1 + 5 * s)).1 with
    | true =>
      have e := (ps_ok hb).1
      rw [e]
      simp only [Option.bind_some, if_true]
      rfl
    | false =>
      simp only [Option.bind_some, if_neg (show ¬ (false = true) by decide)]
      rfl
  unfold S_X6_readsFloor_50
  dsimp only
  rw [if_neg ne10]
  by_cases c : s < 2
  · rw [if_pos (Or.inr c), if_pos (show TS ti (1 + 5 * s) s 0 4 < 2 from by rw [show TS ti (1 + 5 * s) s 0 4 = nI s from rfl]; rw [Int32.lt_iff_toInt_lt, nI_toInt (show s < 2 ^ 31 by omega), show (2 : Int32).toInt = 2 from rfl]; omega)]
    exact go
  · rw [if_neg (show ¬ TS ti (1 + 5 * s) s 0 4 < 2 from by rw [show TS ti (1 + 5 * s) s 0 4 = nI s from rfl]; rw [Int32.lt_iff_toInt_lt, nI_toInt (show s < 2 ^ 31 by omega), show (2 : Int32).toInt = 2 from rfl]; omega), codeAt_eq hn hB hM' hz (show 1 + 5 * s ≤ 100 by omega)]
    simp only [Option.bind_some]
    by_cases d : Eb z (1 + 5 * s) 59 59
    · rw [if_pos (w59.mpr d), if_pos (Or.inl d)]
      exact go
    · rw [if_neg (fun q => d (w59.mp q)), if_neg (fun q => by rcases q with q | q <;> contradiction)]
theorem M_off (rec : Int32 × tSI × tSA → Option (Int32 × tSI × tSA)) (T : tSI) (W : tSA) : S_X6_readsFloor_50 (nI B) (nI n) rec (0, T, W) = some (0, T, W) := by
  unfold S_X6_readsFloor_50
  dsimp only
  rw [if_pos rfl]
theorem M_off2 (rec : Int32 × tSI × tSA → Option (Int32 × tSI × tSA)) (T : tSI) (W : tSA) : S_X6_readsFloor_83 (nI B) (nI n) rec (0, T, W) = some (0, T, W) := by
  unfold S_X6_readsFloor_83
  dsimp only
  rw [if_pos rfl]
/-- a loop that comes to its state t after N rounds, and from there goes on to `out` -/
theorem lp_to {α τ : Type} {S : (α → Option τ) → α → Option τ} {out : Option τ} (N : Nat) (st : Nat → α) (t : α) (hs : ∀ i, i < N → ∀ rec : α → Option τ, S rec (st i) = rec (st (i + 1))) (hx : ∀ rec : α → Option τ, S rec (st N) = rec t) (he : ∀ rec : α → Option τ, S rec t = out) (fuel : Nat) (hf : N + 1 < fuel) : lp S fuel (st 0) = out := by
  have := lp_seq (S := S) (out := out) (N + 1) (fun i => if i ≤ N then st i else t) (fun i hi rec => by
    show S rec (if i ≤ N then st i else t) = rec (if i + 1 ≤ N then st (i + 1) else t)
    rw [if_pos (by omega)]
    by_cases c : i < N
    · rw [if_pos (by omega)]; exact hs i c rec
    · have : i = N := by omega
      subst this
      rw [if_neg (by omega)]; exact hx rec) (fun rec => by
    show S rec (if N + 1 ≤ N then _ else t) = out
    rw [if_neg (by omega)]; exact he rec) fuel hf
  rw [if_pos (Nat.zero_le _)] at this
  exact this
theorem sorts_run (hn : n ≤ 60) (hB : B + n ≤ 240) (hX : ∀ x, x < n → sa 11 x = z x) (hM : ∀ x, x < n → A 20 (B + x) = z x) (hz : ∀ x, n ≤ x → z x = -9) :
    (∃ p s, p ≤ 60 ∧ F_X3_passesSorts (XS si n 1 0 0) sa = some (0, XS si n p s 0, sa) ∧ lp (S_X6_readsFloor_50 (nI B) (nI n)) 100 (1, TS ti 1 0 0, A) = some (0, TS ti p s 0, AS z A s)) ∨
    (∃ s, 2 ≤ s ∧ s ≤ 6 ∧ (∀ t, t < s → (ps z (1 + 5 * t)).1 = true) ∧ F_X3_passesSorts (XS si n 1 0 0) sa = some (1, XS si n (1 + 5 * s) s 0, sa) ∧ (lp (S_X6_readsFloor_50 (nI B) (nI n)) 100 (1, TS ti 1 0 0, A) = some (1, TS ti (1 + 5 * s) s 0, AS z A s) ∨ Eb z (1 + 5 * s) 59 59 ∧ lp (S_X6_readsFloor_50 (nI B) (nI n)) 100 (1, TS ti 1 0 0, A) = some (0, TS ti (1 + 5 * s) s 0, AS z A s))) := by
  have lt2 : ∀ s, s ≤ 6 → (nI s < 2 ↔ s < 2) := by decide
  rcases first_of (fun s => (ps z (1 + 5 * s)).1 = true) 6 with ⟨k, hk1, hk2, hk3⟩ | hall
  · have hk3' : (ps z (1 + 5 * k)).1 = false := by simpa using hk3
    have EX : ∀ i, i < k → ∀ rec, S_X3_passesSorts_0 rec (XS si n (1 + 5 * i) i 0, sa) = rec (XS si n (1 + 5 * (i + 1)) (i + 1) 0, sa) := by
      intro i hi rec
      rw [sortsX hn hX hz (show i < 6 by omega), if_pos (ps_ok (hk2 i hi)).2.1, if_pos (hk2 i hi)]
    have EM : ∀ i, i < k → ∀ rec, S_X6_readsFloor_50 (nI B) (nI n) rec (1, TS ti (1 + 5 * i) i 0, AS z A i) = rec (1, TS ti (1 + 5 * (i + 1)) (i + 1) 0, AS z A (i + 1)) := by
      intro i hi rec
      rw [sortsM hn hB hM hz (show i < 6 by omega), if_pos (Or.inl (ps_ok (hk2 i hi)).2.1), if_pos (hk2 i hi)]
    by_cases c : Eb z (1 + 5 * k) 59 59
    · left
      have hle := ps_le z (1 + 5 * k)
      refine ⟨(ps z (1 + 5 * k)).2, k, by omega, ?_, ?_⟩
      · have L : lp S_X3_passesSorts_0 100 (XS si n 1 0 0, sa) = some (.inl (0, XS si n (ps z (1 + 5 * k)).2 k 0, sa)) := by
          refine lp_seq k (fun i => (XS si n (1 + 5 * i) i 0, sa)) EX ?_ 100 (by omega)
          intro rec
          rw [sortsX hn hX hz hk1, if_pos c, if_neg hk3]
        unfold F_X3_passesSorts
        rw [L]
        rfl
      · refine lp_to k (fun i => (1, TS ti (1 + 5 * i) i 0, AS z A i)) (0, TS ti (ps z (1 + 5 * k)).2 k 0, AS z A k) EM ?_ ?_ 100 (by omega)
        · intro rec
          rw [sortsM hn hB hM hz hk1, if_pos (Or.inl c), if_neg hk3]
        · intro rec; exact M_off rec _ _
    · have L : lp S_X3_passesSorts_0 100 (XS si n 1 0 0, sa) = some (.inr (XS si n (1 + 5 * k) k 0, sa)) := by
        refine lp_seq k (fun i => (XS si n (1 + 5 * i) i 0, sa)) EX ?_ 100 (by omega)
        intro rec
        rw [sortsX hn hX hz hk1, if_neg c]
      by_cases d : k < 2
      · left
        refine ⟨1 + 5 * k, k, by omega, ?_, ?_⟩
        · unfold F_X3_passesSorts
          rw [L]
          show (if nI k < 2 then _ else _) = _
          rw [if_pos ((lt2 k (by omega)).mpr d)]
        · refine lp_to k (fun i => (1, TS ti (1 + 5 * i) i 0, AS z A i)) (0, TS ti (1 + 5 * k) k 0, AS z A k) EM ?_ ?_ 100 (by omega)
          · intro rec
            rw [sortsM hn hB hM hz hk1, if_pos (Or.inr d), if_neg hk3, ps_no c]
          · intro rec; exact M_off rec _ _
      · right
        refine ⟨k, by omega, by omega, hk2, ?_, Or.inl ?_⟩
        · unfold F_X3_passesSorts
          rw [L]
          show (if nI k < 2 then _ else _) = _
          rw [if_neg (fun q => d ((lt2 k (by omega)).mp q))]
        · refine lp_seq k (fun i => (1, TS ti (1 + 5 * i) i 0, AS z A i)) EM ?_ 100 (by omega)
          intro rec
          rw [sortsM hn hB hM hz hk1, if_neg (fun q => by rcases q with q | q <;> contradiction)]
  · right
    have EX : ∀ i, i < 6 → ∀ rec, S_X3_passesSorts_0 rec (XS si n (1 + 5 * i) i 0, sa) = rec (XS si n (1 + 5 * (i + 1)) (i + 1) 0, sa) := by
      intro i hi rec
      rw [sortsX hn hX hz (show i < 6 by omega), if_pos (ps_ok (hall i hi)).2.1, if_pos (hall i hi)]
    have EM : ∀ i, i < 6 → ∀ rec, S_X6_readsFloor_50 (nI B) (nI n) rec (1, TS ti (1 + 5 * i) i 0, AS z A i) = rec (1, TS ti (1 + 5 * (i + 1)) (i + 1) 0, AS z A (i + 1)) := by
      intro i hi rec
      rw [sortsM hn hB hM hz (show i < 6 by omega), if_pos (Or.inl (ps_ok (hall i hi)).2.1), if_pos (hall i hi)]
    refine ⟨6, by decide, by decide, hall, ?_, ?_⟩
    · have L : lp S_X3_passesSorts_0 100 (XS si n 1 0 0, sa) = some (.inr (XS si n (1 + 5 * 6) 6 0, sa)) := by
        refine lp_seq 6 (fun i => (XS si n (1 + 5 * i) i 0, sa)) EX ?_ 100 (by omega)
        intro rec
        unfold S_X3_passesSorts_0
        dsimp only
        rw [if_pos (show (6 : Int32) ≤ XS si n (1 + 5 * 6) 6 0 7 by show (6 : Int32) ≤ nI 6; decide)]
      unfold F_X3_passesSorts
      rw [L]
      show (if nI 6 < 2 then some ((0 : Int32), XS si n (1 + 5 * 6) 6 0, sa) else some ((1 : Int32), XS si n (1 + 5 * 6) 6 0, sa)) = _
      rw [if_neg (by decide)]
    · have hM' : ∀ x, x < n → AS z A 6 20 (B + x) = z x := fun x hx => by rw [AS_fr z A (by decide) (by decide) (by decide) (by decide)]; exact hM x hx
      have e : ∀ rec, S_X6_readsFloor_50 (nI B) (nI n) rec (1, TS ti (1 + 5 * 6) 6 0, AS z A 6) = (if z (1 + 5 * 6) = 59 then rec (0, TS ti (1 + 5 * 6) 6 0, AS z A 6) else some (1, TS ti (1 + 5 * 6) 6 0, AS z A 6)) := by
        intro rec
        unfold S_X6_readsFloor_50 F_X6_readsSort
        dsimp only
        rw [if_neg ne10, if_neg (show ¬ TS ti (1 + 5 * 6) 6 0 4 < 2 from show ¬ nI 6 < 2 by decide), codeAt_eq hn hB hM' hz (by decide), if_pos (show TS ti (1 + 5 * 6) 6 0 4 = 6 from show nI 6 = 6 by decide)]
        simp only [Option.bind_some]
      by_cases c : z (1 + 5 * 6) = 59
      · right
        have w59 : z (1 + 5 * 6) = 59 ↔ Eb z (1 + 5 * 6) 59 59 := by
          have := eq_i (x := z (1 + 5 * 6)) (m := 59) (by decide)
          exact this.trans (by unfold Eb; omega)
        refine ⟨w59.mp c, ?_⟩
        refine lp_to 6 (fun i => (1, TS ti (1 + 5 * i) i 0, AS z A i)) (0, TS ti (1 + 5 * 6) 6 0, AS z A 6) EM ?_ ?_ 100 (by omega)
        · intro rec; rw [e, if_pos c]
        · intro rec; exact M_off rec _ _
      · left
        refine lp_seq 6 (fun i => (1, TS ti (1 + 5 * i) i 0, AS z A i)) EM ?_ 100 (by omega)
        intro rec
        rw [e, if_neg c]
end PARS
