section PARG
variable {n B : Nat} {z : Nat → Int32} {si : tSI} {sa : tSA} {ti : tSI} {A : tSA}
theorem signsX (hn : n ≤ 60) (hX : ∀ x, x < n → sa 11 x = z x) (hz : ∀ x, n ≤ x → z x = -9) {s k p : Nat} (hk : k < 5) (hp : p ≤ 40) (rec : tSI × tSA → Option ((Int32 × tSI × tSA) ⊕ (tSI × tSA))) : S_X3_passesSigns_0 rec (XS si n (p + 3 * k) s k, sa) = (if Eb z (p + 3 * k) 47 47 then (if (pg z (p + 3 * k)).1 = true then rec (XS si n (p + 3 * (k + 1)) s (k + 1), sa) else some (.inl (0, XS si n (pg z (p + 3 * k)).2 s k, sa))) else some (.inr (XS si n (p + 3 * k) s k, sa))) := by
  have h5 : ¬ (5 : Int32) ≤ nI k := nI_nle' (show k < 5 from hk) (by decide)
  have qn : F_X3_isNext 47 47 (XS si n (p + 3 * k) s k) sa = _ := isNext_eq (si := si) (s := s) (k := k) (lo := 47) (hi := 47) (p := p + 3 * k) hn hX hz (by omega) (by decide) (by decide)
  unfold S_X3_passesSigns_0
  dsimp only
  rw [if_neg (show ¬ (5 : Int32) ≤ XS si n (p + 3 * k) s k 8 from h5), qn]
  by_cases c : Eb z (p + 3 * k) 47 47
  · rw [if_pos c, if_pos c]
    simp only [Option.bind_some, if_neg ne10]
    rw [passesSign_eq hn hX hz (show p + 3 * k ≤ 90 by omega)]
    cases hb : (pg z (p + 3 * k)).1 with
    | true =>
      have e := (pg_ok hb).1
      rw [if_pos rfl, e]
      simp only [Option.bind_some, if_neg (show ¬ bi true = 0 by decide), show XS si n (p + 3 * k + 3) s k 8 = nI k from rfl, nI_1, XS_8]
      rfl
    | false =>
      rw [if_neg (by decide)]
      simp only [Option.bind_some, if_pos (show bi false = 0 by decide)]
  · rw [if_neg c, if_neg c]
    simp only [Option.bind_some, if_true]
theorem signsM (hn : n ≤ 60) (hB : B + n ≤ 240) (hM : ∀ x, x < n → A 20 (B + x) = z x) (hz : ∀ x, n ≤ x → z x = -9) {s k p : Nat} (hk : k < 5) (hp : p ≤ 40) (rec : Int32 × tSI × tSA → Option (Int32 × tSI × tSA)) : S_X6_readsFloor_83 (nI B) (nI n) rec (1, TS ti (p + 3 * k) s k, AG z p A k) = (if k = 0 ∨ p + 3 * k < n then (if (pg z (p + 3 * k)).1 = true then rec (1, TS ti (p + 3 * (k + 1)) s (k + 1), AG z p A (k + 1)) else rec (0, TS ti (pg z (p + 3 * k)).2 s k, AG z p A k)) else some (1, TS ti (p + 3 * k) s k, AG z p A k)) := by
  have hM' : ∀ x, x < n → AG z p A k 20 (B + x) = z x := fun x hx => by rw [AG_fr z p A (by decide)]; exact hM x hx
  have go : (F_X6_readsSign (nI B) (nI n) (TS ti (p + 3 * k) s k) (AG z p A k)).bind (fun r15 => rec (r15.1, r15.2.1, r15.2.2)) = (if (pg z (p + 3 * k)).1 = true then rec (1, TS ti (p + 3 * (k + 1)) s (k + 1), AG z p A (k + 1)) else rec (0, TS ti (pg z (p + 3 * k)).2 s k, AG z p A k)) := by
    rw [readsSign_eq hn hB hM' hz (show p + 3 * k ≤ 90 by omega) hk]
    cases hb : (pg z (p + 3 * k)).1 with
    | true =>
      have e := (pg_ok hb).1
      rw [e]
      simp only [Option.bind_some, if_true]
      rfl
    | false =>
      simp only [Option.bind_some, if_neg (show ¬ (false = true) by decide)]
      rfl
  unfold S_X6_readsFloor_83
  dsimp only
  rw [if_neg ne10]
  by_cases c : k = 0
  · rw [if_pos (Or.inl c), if_pos (show TS ti (p + 3 * k) s k 5 = 0 from by rw [show TS ti (p + 3 * k) s k 5 = nI k from rfl, c]; rfl)]
    exact go
  · rw [if_neg (show ¬ TS ti (p + 3 * k) s k 5 = 0 from fun q => c ((nI_z k (by omega)).mp q))]
    by_cases d : p + 3 * k < n
    · rw [if_pos (Or.inr d), if_neg (show ¬ nI n ≤ TS ti (p + 3 * k) s k 3 from nI_nle' d (by omega))]
      exact go
    · rw [if_pos (show nI n ≤ TS ti (p + 3 * k) s k 3 from nI_le (by omega) (by omega)), if_neg (show ¬ (k = 0 ∨ p + 3 * k < n) by omega)]
theorem signs_run (hn : n ≤ 60) (hB : B + n ≤ 240) (hX : ∀ x, x < n → sa 11 x = z x) (hM : ∀ x, x < n → A 20 (B + x) = z x) (hz : ∀ x, n ≤ x → z x = -9) {s p : Nat} (hp : p ≤ 40) :
    (∃ q k, q ≤ 60 ∧ F_X3_passesSigns (XS si n p s 0) sa = some (0, XS si n q s k, sa) ∧ lp (S_X6_readsFloor_83 (nI B) (nI n)) 100 (1, TS ti p s 0, A) = some (0, TS ti q s k, AG z p A k)) ∨
    (∃ k, 1 ≤ k ∧ k ≤ 5 ∧ (∀ t, t < k → (pg z (p + 3 * t)).1 = true) ∧ F_X3_passesSigns (XS si n p s 0) sa = some (1, XS si n (p + 3 * k) s k, sa) ∧ (n ≤ p + 3 * k ∧ lp (S_X6_readsFloor_83 (nI B) (nI n)) 100 (1, TS ti p s 0, A) = some (1, TS ti (p + 3 * k) s k, AG z p A k) ∨ p + 3 * k < n ∧ lp (S_X6_readsFloor_83 (nI B) (nI n)) 100 (1, TS ti p s 0, A) = some (0, TS ti (p + 3 * k) s k, AG z p A k))) := by
  have lt1 : ∀ s, s ≤ 6 → (nI s < 1 ↔ s < 1) := by decide
  rcases first_of (fun k => (pg z (p + 3 * k)).1 = true) 5 with ⟨k, hk1, hk2, hk3⟩ | hall
  · have EX : ∀ i, i < k → ∀ rec, S_X3_passesSigns_0 rec (XS si n (p + 3 * i) s i, sa) = rec (XS si n (p + 3 * (i + 1)) s (i + 1), sa) := by
      intro i hi rec
      rw [signsX hn hX hz (show i < 5 by omega) hp, if_pos (pg_ok (hk2 i hi)).2.1, if_pos (hk2 i hi)]
    have lt : ∀ i, Eb z i 47 47 → i < n := by
      intro i hi
      rcases Nat.lt_or_ge i n with q | q
      · exact q
      · have := hz i q
        unfold Eb at hi
        rw [this, show (-9 : Int32).toInt = -9 from rfl] at hi
        omega
    have EM : ∀ i, i < k → ∀ rec, S_X6_readsFloor_83 (nI B) (nI n) rec (1, TS ti (p + 3 * i) s i, AG z p A i) = rec (1, TS ti (p + 3 * (i + 1)) s (i + 1), AG z p A (i + 1)) := by
      intro i hi rec
      rw [signsM hn hB hM hz (show i < 5 by omega) hp, if_pos (Or.inr (lt _ (pg_ok (hk2 i hi)).2.1)), if_pos (hk2 i hi)]
    by_cases c : Eb z (p + 3 * k) 47 47
    · left
      have hle := pg_le z (p + 3 * k)
      refine ⟨(pg z (p + 3 * k)).2, k, by omega, ?_, ?_⟩
      · have L : lp S_X3_passesSigns_0 100 (XS si n p s 0, sa) = some (.inl (0, XS si n (pg z (p + 3 * k)).2 s k, sa)) := by
          refine lp_seq k (fun i => (XS si n (p + 3 * i) s i, sa)) EX ?_ 100 (by omega)
          intro rec
          rw [signsX hn hX hz hk1 hp, if_pos c, if_neg hk3]
        unfold F_X3_passesSigns
        rw [L]
        rfl
      · refine lp_to k (fun i => (1, TS ti (p + 3 * i) s i, AG z p A i)) (0, TS ti (pg z (p + 3 * k)).2 s k, AG z p A k) EM ?_ ?_ 100 (by omega)
        · intro rec
          rw [signsM hn hB hM hz hk1 hp, if_pos (Or.inr (lt _ c)), if_neg hk3]
        · intro rec; exact M_off2 rec _ _
    · have L : lp S_X3_passesSigns_0 100 (XS si n p s 0, sa) = some (.inr (XS si n (p + 3 * k) s k, sa)) := by
        refine lp_seq k (fun i => (XS si n (p + 3 * i) s i, sa)) EX ?_ 100 (by omega)
        intro rec
        rw [signsX hn hX hz hk1 hp, if_neg c]
      by_cases d : k < 1
      · left
        refine ⟨p + 3 * k, k, by omega, ?_, ?_⟩
        · unfold F_X3_passesSigns
          rw [L]
          show (if nI k < 1 then _ else _) = _
          rw [if_pos ((lt1 k (by omega)).mpr d)]
        · refine lp_to k (fun i => (1, TS ti (p + 3 * i) s i, AG z p A i)) (0, TS ti (p + 3 * k) s k, AG z p A k) EM ?_ ?_ 100 (by omega)
          · intro rec
            rw [signsM hn hB hM hz hk1 hp, if_pos (Or.inl (by omega)), if_neg hk3, pg_no c]
          · intro rec; exact M_off2 rec _ _
      · right
        refine ⟨k, by omega, by omega, hk2, ?_, ?_⟩
        · unfold F_X3_passesSigns
          rw [L]
          show (if nI k < 1 then _ else _) = _
          rw [if_neg (fun q => d ((lt1 k (by omega)).mp q))]
        · by_cases e : n ≤ p + 3 * k
          · left
            refine ⟨e, ?_⟩
            refine lp_seq k (fun i => (1, TS ti (p + 3 * i) s i, AG z p A i)) EM ?_ 100 (by omega)
            intro rec
            rw [signsM hn hB hM hz hk1 hp, if_neg (by omega)]
          · right
            refine ⟨by omega, ?_⟩
            refine lp_to k (fun i => (1, TS ti (p + 3 * i) s i, AG z p A i)) (0, TS ti (p + 3 * k) s k, AG z p A k) EM ?_ ?_ 100 (by omega)
            · intro rec
              rw [signsM hn hB hM hz hk1 hp, if_pos (Or.inr (by omega)), if_neg hk3, pg_no c]
            · intro rec; exact M_off2 rec _ _
  · right
    have lt : ∀ i, Eb z i 47 47 → i < n := by
      intro i hi
      rcases Nat.lt_or_ge i n with q | q
      · exact q
      · have := hz i q
        unfold Eb at hi
        rw [this, show (-9 : Int32).toInt = -9 from rfl] at hi
        omega
    have EX : ∀ i, i < 5 → ∀ rec, S_X3_passesSigns_0 rec (XS si n (p + 3 * i) s i, sa) = rec (XS si n (p + 3 * (i + 1)) s (i + 1), sa) := by
      intro i hi rec
      rw [signsX hn hX hz (show i < 5 by omega) hp, if_pos (pg_ok (hall i hi)).2.1, if_pos (hall i hi)]
    have EM : ∀ i, i < 5 → ∀ rec, S_X6_readsFloor_83 (nI B) (nI n) rec (1, TS ti (p + 3 * i) s i, AG z p A i) = rec (1, TS ti (p + 3 * (i + 1)) s (i + 1), AG z p A (i + 1)) := by
      intro i hi rec
      rw [signsM hn hB hM hz (show i < 5 by omega) hp, if_pos (Or.inr (lt _ (pg_ok (hall i hi)).2.1)), if_pos (hall i hi)]
    refine ⟨5, by decide, by decide, hall, ?_, ?_⟩
    · have L : lp S_X3_passesSigns_0 100 (XS si n p s 0, sa) = some (.inr (XS si n (p + 3 * 5) s 5, sa)) := by
        refine lp_seq 5 (fun i => (XS si n (p + 3 * i) s i, sa)) EX ?_ 100 (by omega)
        intro rec
        unfold S_X3_passesSigns_0
        dsimp only
        rw [if_pos (show (5 : Int32) ≤ XS si n (p + 3 * 5) s 5 8 from show (5 : Int32) ≤ nI 5 by decide)]
      unfold F_X3_passesSigns
      rw [L]
      show (if nI 5 < 1 then some ((0 : Int32), XS si n (p + 3 * 5) s 5, sa) else some ((1 : Int32), XS si n (p + 3 * 5) s 5, sa)) = _
      rw [if_neg (by decide)]
    · have e : ∀ rec, S_X6_readsFloor_83 (nI B) (nI n) rec (1, TS ti (p + 3 * 5) s 5, AG z p A 5) = (if nI n ≤ nI (p + 3 * 5) then some (1, TS ti (p + 3 * 5) s 5, AG z p A 5) else rec (0, TS ti (p + 3 * 5) s 5, AG z p A 5)) := by
        intro rec
        unfold S_X6_readsFloor_83 F_X6_readsSign
        dsimp only
        rw [if_neg ne10, if_neg (show ¬ TS ti (p + 3 * 5) s 5 5 = 0 from show ¬ nI 5 = 0 by decide), if_pos (show TS ti (p + 3 * 5) s 5 5 = 5 from show nI 5 = 5 by decide)]
        rfl
      by_cases d : n ≤ p + 3 * 5
      · left
        refine ⟨d, ?_⟩
        refine lp_seq 5 (fun i => (1, TS ti (p + 3 * i) s i, AG z p A i)) EM ?_ 100 (by omega)
        intro rec
        rw [e, if_pos (nI_le d (by omega))]
      · right
        refine ⟨by omega, ?_⟩
        refine lp_to 5 (fun i => (1, TS ti (p + 3 * i) s i, AG z p A i)) (0, TS ti (p + 3 * 5) s 5, AG z p A 5) EM ?_ ?_ 100 (by omega)
        · intro rec; rw [e, if_neg (nI_nle' (by omega) (by omega))]
        · intro rec; exact M_off2 rec _ _
/-- both parsers, side by side -/
theorem parse (hn : n ≤ 60) (hB : B + n ≤ 240) (hX : ∀ x, x < n → sa 11 x = z x) (hM : ∀ x, x < n → A 20 (B + x) = z x) (hz : ∀ x, n ≤ x → z x = -9) :
    (∃ p s k ta', p ≤ 60 ∧ F_X3_firstFault (nI n) si sa = some (nI p, XS si n p s k, sa) ∧ F_X6_readsFloor (nI B) (nI n) ti A = some (0, TS ti p s k, ta') ∧ ∀ j, j ≠ 5 → j ≠ 6 → j ≠ 7 → j ≠ 8 → j ≠ 9 → ta' j = A j) ∨
    (∃ so sg p, 2 ≤ so ∧ so ≤ 6 ∧ 1 ≤ sg ∧ sg ≤ 5 ∧ (∀ t, t < so → (ps z (1 + 5 * t)).1 = true) ∧ (∀ t, t < sg → (pg z (1 + 5 * so + 3 * t)).1 = true) ∧ F_X3_firstFault (nI n) si sa = some (-9, XS si n p so sg, sa) ∧ F_X6_readsFloor (nI B) (nI n) ti A = some (1, TS ti p so sg, AG z (1 + 5 * so) (AS z A so) sg)) := by
  have w116 : z 0 = 116 ↔ Eb z 0 116 116 := by
    have := eq_i (x := z 0) (m := 116) (by decide)
    exact this.trans (by unfold Eb; omega)
  have q0 : F_X3_passes 116 116 (upd (upd (upd (upd si 5 (nI n)) 6 0) 7 0) 8 0) sa = some (if Eb z 0 116 116 then (1, XS si n 1 0 0, sa) else (0, XS si n 0 0 0, sa)) := passes_eq (lo := 116) (hi := 116) (p := 0) (s := 0) (k := 0) hn hX hz (by decide) (by decide) (by decide)
  have m0 : F_X6_codeAt (nI B) (nI n) (upd (upd (upd ti 3 0) 4 0) 5 0) A = some (z 0) := codeAt_eq (p := 0) (s := 0) (k := 0) hn hB hM hz (by decide)
  unfold F_X3_firstFault F_X6_readsFloor
  rw [q0, m0]
  by_cases c : Eb z 0 116 116
  · rw [if_pos c]
    simp only [Option.bind_some, if_pos (w116.mpr c), if_neg ne10]
    have eT : upd (upd (upd (upd ti 3 0) 4 0) 5 0) 3 (0 + 1) = TS ti 1 0 0 := TS_3 ti 0 0 0 1
    rw [eT]
    rcases sorts_run (si := si) (ti := ti) hn hB hX hM hz with ⟨p, s, hp, hx, hm⟩ | ⟨s, hs1, hs2, hs3, hx, hm⟩
    · left
      refine ⟨p, s, 0, AS z A s, hp, ?_, ?_, fun j h5 h6 h7 h8 _ => AS_fr z A h5 h6 h7 h8 s⟩
      · rw [hx]; rfl
      · rw [hm]
        simp only [Option.bind_some]
        show (S_X6_readsFloor_83 (nI B) (nI n) _ _).bind _ = _
        rw [M_off2]
        rfl
    · have hM' : ∀ x, x < n → AS z A s 20 (B + x) = z x := fun x hx => by rw [AS_fr z A (by decide) (by decide) (by decide) (by decide)]; exact hM x hx
      rw [hx]
      simp only [Option.bind_some, if_neg ne10]
      rcases hm with hm | ⟨c2, hm⟩
      · rw [hm]
        simp only [Option.bind_some]
        rcases signs_run (si := si) (ti := ti) (s := s) (p := 1 + 5 * s) hn hB hX hM' hz (by omega) with ⟨p, k, hp, hx2, hm2⟩ | ⟨k, hk1, hk2, hk3, hx2, hm2⟩
        · left
          refine ⟨p, s, k, AG z (1 + 5 * s) (AS z A s) k, hp, ?_, ?_, fun j h5 h6 h7 h8 h9 => by rw [AG_fr z _ _ h9, AS_fr z A h5 h6 h7 h8 s]⟩
          · rw [hx2]; rfl
          · rw [hm2]; rfl
        · rw [hx2]
          simp only [Option.bind_some, if_neg ne10]
          rcases hm2 with ⟨hl, hm2⟩ | ⟨hl, hm2⟩
          · right
            rw [hm2]
            refine ⟨s, k, 1 + 5 * s + 3 * k, hs1, hs2, hk1, hk2, hs3, hk3, ?_, rfl⟩
            rw [if_pos (show XS si n (1 + 5 * s + 3 * k) s k 5 ≤ XS si n (1 + 5 * s + 3 * k) s k 6 from nI_le hl (by omega))]
          · left
            rw [hm2]
            refine ⟨1 + 5 * s + 3 * k, s, k, AG z (1 + 5 * s) (AS z A s) k, by omega, ?_, rfl, fun j h5 h6 h7 h8 h9 => by rw [AG_fr z _ _ h9, AS_fr z A h5 h6 h7 h8 s]⟩
            rw [if_neg (show ¬ XS si n (1 + 5 * s + 3 * k) s k 5 ≤ XS si n (1 + 5 * s + 3 * k) s k 6 from nI_nle' hl (by omega))]
            rfl
      · left
        refine ⟨1 + 5 * s, s, 0, AS z A s, by omega, ?_, ?_, fun j h5 h6 h7 h8 _ => AS_fr z A h5 h6 h7 h8 s⟩
        · have n47 : ¬ Eb z (1 + 5 * s + 3 * 0) 47 47 := by
            have e : 1 + 5 * s + 3 * 0 = 1 + 5 * s := by omega
            rw [e]
            unfold Eb at c2 ⊢; omega
          have L : lp S_X3_passesSigns_0 100 (XS si n (1 + 5 * s) s 0, sa) = some (.inr (XS si n (1 + 5 * s) s 0, sa)) := by
            show S_X3_passesSigns_0 _ (XS si n (1 + 5 * s + 3 * 0) s 0, sa) = _
            rw [signsX hn hX hz (by decide) (by omega), if_neg n47]
            rfl
          unfold F_X3_passesSigns
          rw [L]
          rfl
        · rw [hm]
          simp only [Option.bind_some]
          show (S_X6_readsFloor_83 (nI B) (nI n) _ _).bind _ = _
          rw [M_off2]
          rfl
  · left
    rw [if_neg c]
    simp only [Option.bind_some, if_neg (fun q => c (w116.mp q)), if_true]
    have eT : upd (upd (upd (upd ti 3 0) 4 0) 5 0) 3 (0 + 0) = TS ti 0 0 0 := TS_3 ti 0 0 0 0
    rw [eT]
    refine ⟨0, 0, 0, A, by decide, rfl, ?_, fun _ _ _ _ _ _ => rfl⟩
    show ((S_X6_readsFloor_50 (nI B) (nI n) _ _).bind _) = _
    rw [M_off]
    simp only [Option.bind_some]
    show ((S_X6_readsFloor_83 (nI B) (nI n) _ _).bind _) = _
    rw [M_off2]
    rfl
end PARG
