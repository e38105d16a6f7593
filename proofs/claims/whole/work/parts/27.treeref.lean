theorem tb_out {so n t : Nat} (hn : n < 2 ^ so) (h : n.testBit t = true) : t < so := by
  rcases Nat.lt_or_ge t so with z | z
  · exact z
  · rw [Nat.testBit_lt_two_pow (Nat.lt_of_lt_of_le hn (Nat.pow_le_pow_right (n := 2) (by decide) z))] at h; cases h
theorem and_mod {so n hm : Nat} (ho : so ≤ 6) (hn : n < 2 ^ so) (h6 : hm < 64) : n &&& (hm % 2 ^ so) = n &&& hm := by
  have h64 : n < 64 := Nat.lt_of_lt_of_le hn (p2le ho)
  refine eq64 (and_lt h64) (and_lt h64) fun t ht => ?_
  rw [Nat.testBit_and, Nat.testBit_and, Nat.testBit_mod_two_pow, Bool.and_eq_true, Bool.and_eq_true, Bool.and_eq_true, decide_eq_true_eq]
  exact ⟨fun z => ⟨z.1, z.2.2⟩, fun z => ⟨z.1, tb_out hn z.1, z.2⟩⟩
theorem andn_mod {so n hm : Nat} (ho : so ≤ 6) (hn : n < 2 ^ so) (h6 : hm < 64) : n &&& (63 ^^^ (hm % 2 ^ so)) = n &&& (63 ^^^ hm) := by
  have h64 : n < 64 := Nat.lt_of_lt_of_le hn (p2le ho)
  have hq : hm % 2 ^ so < 64 := Nat.lt_of_lt_of_le (Nat.mod_lt _ (Nat.pow_pos (by decide))) (p2le ho)
  refine eq64 (and_lt h64) (and_lt h64) fun t ht => ?_
  rw [Nat.testBit_and, Nat.testBit_and, tb63 t ht _ hq, tb63 t ht _ h6, Nat.testBit_mod_two_pow]
  cases r : n.testBit t with
  | false => simp
  | true => simp [tb_out hn r]
theorem fw_zero {h : Nat → Nat} {B : Nat → Option Nat} {n k j : Nat} (e : fw h B n k = some (0, j)) : ∀ m, fw h B n (k + m) = some (0, j) := by
  intro m
  induction m with
  | zero => exact e
  | succ m ih =>
    cases hp : pt h B n (k + m) with
    | none => rw [← Nat.add_assoc, fw_none hp]; exact ih
    | some c => rw [← Nat.add_assoc, fw_more hp ih, if_neg (by omega)]
theorem up14 (f : tSA) (a b a' b' : Nat → Int32) : va_up (va_up (va_up (va_up f 14 a) 15 b) 14 a') 15 b' = va_up (va_up f 14 a') 15 b' := by
  funext j
  by_cases h2 : j = 15
  · subst h2; rfl
  · by_cases h3 : j = 14
    · subst h3; rfl
    · rw [up_ne _ _ h2, up_ne _ _ h3, up_ne _ _ h2, up_ne _ _ h3, up_ne _ _ h2, up_ne _ _ h3]
theorem enc_neg (o : Option Nat) (hb : ∀ z, o = some z → z < 2 ^ 31) : enc o < 0 ↔ o = none := by
  cases o with
  | none => exact ⟨fun _ => rfl, fun _ => by decide⟩
  | some z => exact ⟨fun q => absurd q (nI_pos (hb z rfl)), fun q => by cases q⟩
/-- can, as the reference computes it -/
theorem can_eq {n a b : Nat} {T : Nat → Int32} {A B : Option Nat} (ha : a < 64) (hb : b < 64) (hA : a ≠ 0 → b ≠ 0 → T a = enc A) (hB : a ≠ 0 → b ≠ 0 → T b = enc B) (bA : ∀ z, A = some z → z < 2 ^ 31) (bB : ∀ z, B = some z → z < 2 ^ 31) :
    (if nI a = 0 then some (0 : Int32) else (if nI b = 0 then some 0 else ld (nI a) 64 ((if T (nI a).toNatClampNeg < 0 then some 0 else ld (nI b) 64 ((if T (nI b).toNatClampNeg < 0 then some 0 else some 1)))))) = some (if a = 0 ∨ b = 0 ∨ A = none ∨ B = none then 0 else 1) := by
  have z0 : ∀ a, a < 64 → (nI a = 0 ↔ a = 0) := fun a ha => nI_i64 a ha 0 (by decide)
  simp only [z0 a ha, z0 b hb, ld_nI ha (show 64 < 2 ^ 31 by decide), ld_nI hb (show 64 < 2 ^ 31 by decide), nI_c (show a < 2 ^ 31 by omega), nI_c (show b < 2 ^ 31 by omega)]
  by_cases q1 : a = 0
  · rw [if_pos q1, if_pos (Or.inl q1)]
  · rw [if_neg q1]
    by_cases q2 : b = 0
    · rw [if_pos q2, if_pos (Or.inr (Or.inl q2))]
    · rw [if_neg q2, hA q1 q2, hB q1 q2]
      simp only [enc_neg A bA, enc_neg B bB]
      by_cases q3 : A = none
      · rw [if_pos q3, if_pos (Or.inr (Or.inr (Or.inl q3)))]
      · rw [if_neg q3]
        by_cases q4 : B = none
        · rw [if_pos q4, if_pos (Or.inr (Or.inr (Or.inr q4)))]
        · rw [if_neg q4, if_neg]
          rintro (z | z | z | z)
          · exact q1 z
          · exact q2 z
          · exact q3 z
          · exact q4 z
theorem growTree_eq {so sg n : Nat} {h hm g : Nat → Nat} {si : tSI} {sa : tSA} (C : CMS so sg h hm g si sa) (hn : n < 2 ^ so) (hT : ∀ s, s < n → sa 14 s = enc (tv h g so sg s)) :
    F_X6_growTree (nI n) si sa = some (si, va_up (va_up sa 14 (upd (sa 14) n (enc (tv h g so sg n)))) 15 (upd (sa 15) n (enc (tf h g so sg n)))) := by
  have C0 := C
  obtain ⟨ho, hg, m1, m2, hh, hww, hb⟩ := C
  have hp := p2le ho
  have h64 : n < 64 := by omega
  have hh1 : ∀ k, k < sg → h k < 64 := by
    intro q hq
    rw [(hh q hq).2.2]
    exact Nat.lt_of_lt_of_le (Nat.mod_lt _ (Nat.pow_pos (by decide))) hp
  let B := tb h g so sg n
  let W := wt g n so
  have hW : W ≤ 1080 := by have := wt_le (g := g) n so hb; show wt g n so ≤ 1080; omega
  have fbd : ∀ k, k ≤ sg → ∀ p, fw h B n k = some p → p.1 ≤ 1080 * 64 ∧ p.2 < k := by
    intro k hk p hp
    obtain ⟨a, b, _, _⟩ := fw_sp k p hp
    exact ⟨pt_bd ho hh1 hb h64 (by omega) _ b, a⟩
  unfold F_X6_growTree
  simp only [pw_eq n h64, ld_nI h64 (show 64 < 2 ^ 31 by decide), nI_c (show n < 2 ^ 31 by omega)]
  by_cases c : n &&& (n - 1) = 0
  · rw [if_pos c]
    have e1 : enc (tv h g so sg n) = 0 := by unfold tv tval; rw [if_pos c]; rfl
    have e2 : enc (tf h g so sg n) = -9 := by unfold tf tfst; rw [if_pos c]; rfl
    rw [e1, e2]
    have L : lp (S_X6_growTree_30 (nI n)) 100 (0, si, va_up (va_up sa 14 (upd (sa 14) n 0)) 15 (upd (sa 15) n (-9))) = some (si, va_up (va_up sa 14 (upd (sa 14) n 0)) 15 (upd (sa 15) n (-9))) := by
      show S_X6_growTree_30 (nI n) _ _ = _
      unfold S_X6_growTree_30
      dsimp only
      by_cases y : si 2 ≤ 0
      · rw [if_pos y]
      · rw [if_neg y, ld_nI h64 (by decide), nI_c (show n < 2 ^ 31 by omega), if_pos]
        show upd (sa 14) n 0 n = 0
        exact upd_eq _ _ _
    simp only [Option.bind_some]
    have L' : lp (S_X6_growTree_30 (nI n)) 100 (0, si, va_up (va_up sa 14 (upd (sa 14) n 0)) 15 (upd (va_up sa 14 (upd (sa 14) n 0) 15) n (-9))) = some (si, va_up (va_up sa 14 (upd (sa 14) n 0)) 15 (upd (sa 15) n (-9))) := L
    first | rw [L] | rw [L']
    rfl
  · rw [if_neg c]
    let t : Nat → Int32 := fun k => enc ((fw h B n k).map fun p => p.1 + W)
    let f : Nat → Int32 := fun k => enc ((fw h B n k).map fun p => p.2)
    let ST : Nat → tSA := fun k => va_up (va_up sa 14 (upd (sa 14) n (t k))) 15 (upd (sa 15) n (f k))
    have stop : ∀ k, t k = 0 → ∃ j, fw h B n k = some (0, j) ∧ W = 0 := by
      intro k hk
      have hk : enc ((fw h B n k).map fun p => p.1 + W) = 0 := hk
      cases hf : fw h B n k with
      | none => rw [hf] at hk; exact absurd (show (-9 : Int32) = 0 from hk) (by decide)
      | some p =>
        rw [hf] at hk
        have hk : nI (p.1 + W) = 0 := hk
        by_cases hks : p.1 + W < 2 ^ 31
        · have := (nI_eq hks (show 0 < 2 ^ 31 by decide)).mp hk
          exact ⟨p.2, by congr 1; exact Prod.ext (by show p.1 = 0; omega) rfl, by omega⟩
        · obtain ⟨a, b, _, _⟩ := fw_sp k p hf
          exfalso
          unfold pt at b
          by_cases d : n &&& h p.2 = 0 ∨ n &&& (63 ^^^ h p.2) = 0
          · rw [if_pos d] at b; cases b
          · rw [if_neg d] at b
            obtain ⟨x, hx, h3⟩ := Option.bind_eq_some_iff.mp b
            obtain ⟨y, hy, e⟩ := Option.map_eq_some_iff.mp h3
            have la := and_lt (b := h p.2) h64
            have lb := and_lt (b := 63 ^^^ h p.2) h64
            have bt : ∀ m s z, m ≤ 64 → tb h g so sg m s = some z → z ≤ 1080 * 64 := by
              intro m s z hm hz
              by_cases q : s < m
              · rw [tb_lt m s q] at hz
                have := (tv_bd ho hh1 hb 64 s (by omega) (by omega) z hz).1
                omega
              · exfalso
                have : ∀ m, m ≤ s → tb h g so sg m s = none := by
                  intro m
                  induction m with
                  | zero => intro _; rfl
                  | succ m ih =>
                    intro hms
                    show (if s = m then _ else tb h g so sg m s) = none
                    rw [if_neg (by omega), ih (by omega)]
                rw [this m (by omega)] at hz
                cases hz
            have b1 := bt n _ x (by omega) hx
            have b2 := bt n _ y (by omega) hy
            omega
    have step : ∀ k, k < sg → ¬ t k = 0 → ∀ rec : Int32 × tSI × tSA → Option (tSI × tSA), S_X6_growTree_30 (nI n) rec (nI k, si, ST k) = rec (nI (k + 1), si, ST (k + 1)) := by
      intro k hk h0 rec
      obtain ⟨hm6, eh, emod⟩ := hh k hk
      unfold S_X6_growTree_30
      dsimp only
      have r14 : ST k 14 = upd (sa 14) n (t k) := rfl
      have r15 : ST k 15 = upd (sa 15) n (f k) := rfl
      have r4 : ST k 4 = sa 4 := rfl
      have eA : n &&& hm k = n &&& h k := by rw [emod, and_mod ho hn hm6]
      have eB : n &&& (63 ^^^ hm k) = n &&& (63 ^^^ h k) := by rw [emod, andn_mod ho hn hm6]
      have la := and_lt (b := h k) h64
      have lb := and_lt (b := 63 ^^^ h k) h64
      have sp := and_split n h64 (h k) (hh1 k hk)
      have hTn : ∀ s, s < n → upd (sa 14) n (t k) s = enc (B s) := by
        intro s hs
        rw [upd_ne _ _ (by omega), hT s hs]
        show _ = enc (tb h g so sg n s)
        rw [tb_lt n s hs]
      have SE : F_X6_looksOf (nI n) si (ST k) = some (nI W) := CMS.secs (so := so) (sg := sg) (h := h) (hm := hm) (g := g) (sa := ST k) C0 h64
      have bB : ∀ s, s < n → ∀ z, B s = some z → z ≤ 1080 * 64 := by
        intro s hs z hz
        have hz : tb h g so sg n s = some z := hz
        rw [tb_lt n s hs] at hz
        have := (tv_bd ho hh1 hb 64 s (by omega) (by omega) z hz).1
        omega
      rw [if_neg (show ¬ si 2 ≤ nI k by rw [m2]; exact nI_nle' hk (by omega))]
      simp only [ld_nI h64 (show 64 < 2 ^ 31 by decide), nI_c (show n < 2 ^ 31 by omega), r14, r15, r4, upd_eq, ld_nI (show k < 5 by omega) (show 5 < 2 ^ 31 by decide), nI_c (show k < 2 ^ 31 by omega), eh, and_eq n h64 _ hm6, andn_eq n h64 _ hm6, eA, eB, SE]
      rw [if_neg h0]
      rw [can_eq (n := n) (T := upd (sa 14) n (t k)) (A := B (n &&& h k)) (B := B (n &&& (63 ^^^ h k))) la lb (fun q1 q2 => hTn _ (by omega)) (fun q1 q2 => hTn _ (by omega))]
      · simp only [Option.bind_some, ld_nI la (show 64 < 2 ^ 31 by decide), ld_nI lb (show 64 < 2 ^ 31 by decide), nI_c (show n &&& h k < 2 ^ 31 by omega), nI_c (show n &&& (63 ^^^ h k) < 2 ^ 31 by omega), ld_nI h64 (show 64 < 2 ^ 31 by decide), nI_1, upd_eq]
        by_cases d : n &&& h k = 0 ∨ n &&& (63 ^^^ h k) = 0 ∨ B (n &&& h k) = none ∨ B (n &&& (63 ^^^ h k)) = none
        · rw [if_pos d, if_pos rfl]
          simp only [Option.bind_some, if_true]
          have hpn : pt h B n k = none := by
            unfold pt
            rcases d with d | d | d | d
            · rw [if_pos (Or.inl d)]
            · rw [if_pos (Or.inr d)]
            · split
              · rfl
              · rw [d]; rfl
            · split
              · rfl
              · rw [d]; cases B (n &&& h k) <;> rfl
          have e : fw h B n (k + 1) = fw h B n k := fw_none hpn
          have e1 : ST (k + 1) = ST k := by
            show va_up (va_up sa 14 (upd (sa 14) n (enc ((fw h B n (k + 1)).map fun p => p.1 + W)))) 15 (upd (sa 15) n (enc ((fw h B n (k + 1)).map fun p => p.2))) = _
            rw [e]
          rw [e1]
        · have d1 : ¬ n &&& h k = 0 := fun z => d (Or.inl z)
          have d2 : ¬ n &&& (63 ^^^ h k) = 0 := fun z => d (Or.inr (Or.inl z))
          obtain ⟨a, ha⟩ := Option.ne_none_iff_exists'.mp (fun z => d (Or.inr (Or.inr (Or.inl z))))
          obtain ⟨b, hb2⟩ := Option.ne_none_iff_exists'.mp (fun z => d (Or.inr (Or.inr (Or.inr z))))
          have ba := bB _ (by omega) a ha
          have bb := bB _ (by omega) b hb2
          have hpt : pt h B n k = some (a + b) := by
            unfold pt
            rw [if_neg (fun z => z.elim d1 d2), ha, hb2]
            rfl
          rw [if_neg d, if_neg ne10]
          simp only [Option.bind_some]
          rw [if_neg ne10, hTn _ (by omega), hTn _ (by omega), ha, hb2, enc_some, enc_some, nI_add, nI_add]
          have ex : W + a + b = a + b + W := by omega
          rw [ex]
          cases hf : fw h B n k with
          | none =>
            have ef : f k = -9 := by show enc ((fw h B n k).map fun p => p.2) = -9; rw [hf]; rfl
            have e : fw h B n (k + 1) = some (a + b, k) := fw_first hpt hf
            have e1 : ST (k + 1) = va_up (va_up sa 14 (upd (sa 14) n (nI (a + b + W)))) 15 (upd (sa 15) n (nI k)) := by
              show va_up (va_up sa 14 (upd (sa 14) n (enc ((fw h B n (k + 1)).map fun p => p.1 + W)))) 15 (upd (sa 15) n (enc ((fw h B n (k + 1)).map fun p => p.2))) = _
              rw [e]; rfl
            rw [ef, if_pos (show (-9 : Int32) < 0 by decide), e1]
            show rec (nI (k + 1), si, va_up (va_up (va_up (va_up sa 14 (upd (sa 14) n (t k))) 15 (upd (sa 15) n (f k))) 14 (upd (upd (sa 14) n (t k)) n (nI (a + b + W)))) 15 (upd (upd (sa 15) n (-9)) n (nI k))) = _
            rw [up14, upd_upd, upd_upd]
          | some p =>
            obtain ⟨pb, pk⟩ := fbd k (by omega) p hf
            have ef : f k = nI p.2 := by show enc ((fw h B n k).map fun p => p.2) = _; rw [hf]; rfl
            have et : t k = nI (p.1 + W) := by show enc ((fw h B n k).map fun p => p.1 + W) = _; rw [hf]; rfl
            have e : fw h B n (k + 1) = if a + b < p.1 then some (a + b, k) else some p := fw_more hpt hf
            rw [ef, if_neg (nI_pos (show p.2 < 2 ^ 31 by omega)), et]
            by_cases q : a + b < p.1
            · rw [if_pos q] at e
              have e1 : ST (k + 1) = va_up (va_up sa 14 (upd (sa 14) n (nI (a + b + W)))) 15 (upd (sa 15) n (nI k)) := by
                show va_up (va_up sa 14 (upd (sa 14) n (enc ((fw h B n (k + 1)).map fun p => p.1 + W)))) 15 (upd (sa 15) n (enc ((fw h B n (k + 1)).map fun p => p.2))) = _
                rw [e]; rfl
              rw [if_neg (nI_nle' (show a + b + W < p.1 + W by omega) (by omega)), e1]
              show rec (nI (k + 1), si, va_up (va_up (va_up (va_up sa 14 (upd (sa 14) n (t k))) 15 (upd (sa 15) n (f k))) 14 (upd (upd (sa 14) n (nI (p.1 + W))) n (nI (a + b + W)))) 15 (upd (upd (sa 15) n (nI p.2)) n (nI k))) = _
              rw [up14, upd_upd, upd_upd]
            · rw [if_neg q] at e
              have e1 : ST (k + 1) = ST k := by
                show va_up (va_up sa 14 (upd (sa 14) n (enc ((fw h B n (k + 1)).map fun p => p.1 + W)))) 15 (upd (sa 15) n (enc ((fw h B n (k + 1)).map fun p => p.2))) = va_up (va_up sa 14 (upd (sa 14) n (enc ((fw h B n k).map fun p => p.1 + W)))) 15 (upd (sa 15) n (enc ((fw h B n k).map fun p => p.2)))
                rw [e, hf]
              rw [if_pos (nI_le (show p.1 + W ≤ a + b + W by omega) (by omega)), e1]
      · intro z hz
        by_cases q : n &&& h k < n
        · have := bB _ q z hz; omega
        · exfalso
          have hz : tb h g so sg n (n &&& h k) = some z := hz
          have : ∀ m, m ≤ n &&& h k → tb h g so sg m (n &&& h k) = none := by
            intro m
            induction m with
            | zero => intro _; rfl
            | succ m ih =>
              intro hms
              show (if n &&& h k = m then _ else tb h g so sg m (n &&& h k)) = none
              rw [if_neg (by omega), ih (by omega)]
          rw [this n (by omega)] at hz
          cases hz
      · intro z hz
        by_cases q : n &&& (63 ^^^ h k) < n
        · have := bB _ q z hz; omega
        · exfalso
          have hz : tb h g so sg n (n &&& (63 ^^^ h k)) = some z := hz
          have : ∀ m, m ≤ n &&& (63 ^^^ h k) → tb h g so sg m (n &&& (63 ^^^ h k)) = none := by
            intro m
            induction m with
            | zero => intro _; rfl
            | succ m ih =>
              intro hms
              show (if n &&& (63 ^^^ h k) = m then _ else tb h g so sg m (n &&& (63 ^^^ h k))) = none
              rw [if_neg (by omega), ih (by omega)]
          rw [this n (by omega)] at hz
          cases hz
    have e1 : enc (tv h g so sg n) = t sg := by unfold tv tval; rw [if_neg c]
    have e2 : enc (tf h g so sg n) = f sg := by unfold tf tfst; rw [if_neg c]
    rw [e1, e2]
    have L : lp (S_X6_growTree_30 (nI n)) 100 (0, si, ST 0) = some (si, ST sg) := by
      rcases first_of (fun k => ¬ t k = 0) sg with ⟨k, hk1, hk2, hk3⟩ | hall
      · have hk3 := Decidable.not_not.mp hk3
        refine lp_seq k (fun k => (nI k, si, ST k)) ?_ ?_ 100 (by omega)
        · intro i hi rec; exact step i (by omega) (hk2 i hi) rec
        · intro rec
          obtain ⟨j, hj, hw0⟩ := stop k hk3
          have hfs := fw_zero hj (sg - k)
          rw [show k + (sg - k) = sg by omega] at hfs
          have es : ST sg = ST k := by
            show va_up (va_up sa 14 (upd (sa 14) n (enc ((fw h B n sg).map fun p => p.1 + W)))) 15 (upd (sa 15) n (enc ((fw h B n sg).map fun p => p.2))) = va_up (va_up sa 14 (upd (sa 14) n (enc ((fw h B n k).map fun p => p.1 + W)))) 15 (upd (sa 15) n (enc ((fw h B n k).map fun p => p.2)))
            rw [hfs, hj]
          unfold S_X6_growTree_30
          dsimp only
          rw [if_neg (show ¬ si 2 ≤ nI k by rw [m2]; exact nI_nle' hk1 (by omega)), ld_nI h64 (by decide), nI_c (show n < 2 ^ 31 by omega), if_pos (show ST k 14 n = 0 by show upd (sa 14) n (t k) n = 0; rw [upd_eq]; exact hk3), es]
      · refine lp_seq sg (fun k => (nI k, si, ST k)) ?_ ?_ 100 (by omega)
        · intro i hi rec; exact step i hi (hall i hi) rec
        · intro rec
          unfold S_X6_growTree_30
          dsimp only
          rw [if_pos (show si 2 ≤ nI sg by rw [m2]; exact nI_le (Nat.le_refl sg) (by omega))]
    simp only [Option.bind_some]
    have L' : lp (S_X6_growTree_30 (nI n)) 100 (0, si, va_up (va_up sa 14 (upd (sa 14) n (-9))) 15 (upd (sa 15) n (-9))) = some (si, ST sg) := L
    first | rw [L'] | (have L2 : lp (S_X6_growTree_30 (nI n)) 100 (0, si, va_up (va_up sa 14 (upd (sa 14) n (-9))) 15 (upd (va_up sa 14 (upd (sa 14) n (-9)) 15) n (-9))) = some (si, ST sg) := L; rw [L2])
    rfl
theorem trees_M {so sg : Nat} {h hm g : Nat → Nat} {si : tSI} {sa : tSA} (C : CMS so sg h hm g si sa) : lp S_X6_tree_25 100 (0, si, sa) = some (si, va_up (va_up sa 14 (fun s => if s < 2 ^ so then enc (tv h g so sg s) else sa 14 s)) 15 (fun s => if s < 2 ^ so then enc (tf h g so sg s) else sa 15 s)) := by
  have C0 := C
  obtain ⟨ho, hg, m1, m2, hh, hww, hb⟩ := C
  have hp := p2le ho
  have hp0 : 0 < 2 ^ so := Nat.pow_pos (by decide)
  let A : Nat → Nat → Int32 := fun n s => if s < n then enc (tv h g so sg s) else sa 14 s
  let F : Nat → Nat → Int32 := fun n s => if s < n then enc (tf h g so sg s) else sa 15 s
  have L : lp S_X6_tree_25 100 (nI 0, si, va_up (va_up sa 14 (A 0)) 15 (F 0)) = some (si, va_up (va_up sa 14 (A (2 ^ so))) 15 (F (2 ^ so))) := by
    refine lp_seq (2 ^ so) (fun n => (nI n, si, va_up (va_up sa 14 (A n)) 15 (F n))) ?_ ?_ 100 (by omega)
    · intro n hn rec
      unfold S_X6_tree_25
      dsimp only
      have ins : ∀ (f : Nat → Int32) (v : Nat → Int32), upd (fun s => if s < n then v s else f s) n (v n) = fun s => if s < n + 1 then v s else f s := by
        intro f v
        funext q
        by_cases e : q = n
        · subst e; rw [upd_eq, if_pos (by omega)]
        · rw [upd_ne _ _ e]
          by_cases z : q < n
          · rw [if_pos z, if_pos (by omega)]
          · rw [if_neg z, if_neg (by omega)]
      have as : upd (A n) n (enc (tv h g so sg n)) = A (n + 1) := ins (sa 14) (fun s => enc (tv h g so sg s))
      have fs : upd (F n) n (enc (tf h g so sg n)) = F (n + 1) := ins (sa 15) (fun s => enc (tf h g so sg s))
      rw [all_eq m1 ho]
      simp only [Option.bind_some]
      rw [if_neg (nI_nlt (show n ≤ 2 ^ so - 1 by omega) (by omega)), growTree_eq (so := so) (sg := sg) (h := h) (hm := hm) (g := g) (si := si) (sa := va_up (va_up sa 14 (A n)) 15 (F n)) C0 hn (fun s hs => if_pos hs)]
      simp only [Option.bind_some, nI_1]
      show rec (nI (n + 1), si, va_up (va_up (va_up (va_up sa 14 (A n)) 15 (F n)) 14 (upd (A n) n (enc (tv h g so sg n)))) 15 (upd (F n) n (enc (tf h g so sg n)))) = _
      rw [as, fs, up14]
    · intro rec
      unfold S_X6_tree_25
      dsimp only
      rw [all_eq m1 ho]
      simp only [Option.bind_some]
      rw [if_pos (nI_lt (show 2 ^ so - 1 < 2 ^ so by omega) (by omega))]
  have e0 : va_up (va_up sa 14 (A 0)) 15 (F 0) = sa := by
    have a : A 0 = sa 14 := by funext s; show (if s < 0 then _ else sa 14 s) = _; rw [if_neg (by omega)]
    have b : F 0 = sa 15 := by funext s; show (if s < 0 then _ else sa 15 s) = _; rw [if_neg (by omega)]
    rw [a, up_self, b, up_self]
  rw [e0] at L
  exact L
theorem all_nP1 : ∀ so, so ≤ 6 → 2 ≤ so → ¬ (2 ^ so - 1) &&& (2 ^ so - 1 - 1) = 0 := by decide
theorem e_tree {si : tSI} {sa : tSA} {ti : tSI} {ta : tSA} (R : Rel si sa ti ta) (a1 : Int32) : ∃ r si' sa' ti' ta', F_X5_tree a1 si sa = some (r, si', sa') ∧ F_X6_tree a1 ti ta = some (r, ti', ta') ∧ Rel si' sa' ti' ta' := by
  have R0 := R
  obtain ⟨so, sg, rd, ho, ho2, hg, hd, x2, m1, x3, m2, x4, m8, htr, hfa, hki, hco, hse, hal, hrs, hrt, hln, hce, hsz, hkr, hcr, hsr, har, hhv, hrr⟩ := R
  unfold F_X5_tree F_X6_tree
  rw [in32 (a := a1) (lo := 0) (hi := 1) 0 1 rfl rfl, isThere_eq x2 ho, m1]
  simp only [Option.bind_some, Int32.lt_iff_toInt_lt, Int32.le_iff_toInt_le, show (0 : Int32).toInt = 0 from rfl, show (1 : Int32).toInt = 1 from rfl]
  by_cases h : 0 ≤ a1.toInt ∧ a1.toInt ≤ 1
  · rw [if_neg (show ¬ a1.toInt < 0 by omega), if_pos h.2, if_pos h, if_neg ne10]
    by_cases c : so = 0
    · rw [if_pos c, if_pos rfl, if_pos ((nI_z so ho).mpr c)]
      exact ⟨_, _, _, _, _, rfl, rfl, R0⟩
    · rw [if_neg c, if_neg ne10, if_neg (fun z => c ((nI_z so ho).mp z))]
      have hso2 : 2 ≤ so := by omega
      obtain ⟨hh, hm, g, CX, CM⟩ := rel_ctx ho hg x2 x3 m1 m2 hki hco hse hkr hcr hsr hhv
      have hh1 : ∀ k, k < sg → hh k < 64 := fun k hk => (CX.2.2.2.2.1 k hk).1
      have hb := CX.2.2.2.2.2.2.2
      have hp := p2le ho
      have hp0 : 0 < 2 ^ so := Nat.pow_pos (by decide)
      have ha : 2 ^ so - 1 < 64 := by omega
      rw [trees_X CX, trees_M CM]
      simp only [Option.bind_some]
      have RR : Rel si (va_up sa 14 (fun s => if s < 2 ^ so then enc (tv hh g so sg s) else sa 14 s)) ti (va_up (va_up ta 14 (fun s => if s < 2 ^ so then enc (tv hh g so sg s) else ta 14 s)) 15 (fun s => if s < 2 ^ so then enc (tf hh g so sg s) else ta 15 s)) :=
        ⟨so, sg, rd, ho, ho2, hg, hd, x2, m1, x3, m2, x4, m8, htr, hfa, hki, hco, hse, hal, hrs, hrt, hln, hce, hsz, hkr, hcr, hsr, har, hhv, hrr⟩
      have C2 : CXS so sg hh g si (va_up sa 14 (fun s => if s < 2 ^ so then enc (tv hh g so sg s) else sa 14 s)) := CX
      have A14 : ∀ s, s < 2 ^ so → va_up sa 14 (fun s => if s < 2 ^ so then enc (tv hh g so sg s) else sa 14 s) 14 s = enc (tv hh g so sg s) := fun s hs => if_pos hs
      have M14 : (va_up (va_up ta 14 (fun s => if s < 2 ^ so then enc (tv hh g so sg s) else ta 14 s)) 15 (fun s => if s < 2 ^ so then enc (tf hh g so sg s) else ta 15 s)) 14 (2 ^ so - 1) = enc (tv hh g so sg (2 ^ so - 1)) := if_pos (show 2 ^ so - 1 < 2 ^ so by omega)
      have M15 : (va_up (va_up ta 14 (fun s => if s < 2 ^ so then enc (tv hh g so sg s) else ta 14 s)) 15 (fun s => if s < 2 ^ so then enc (tf hh g so sg s) else ta 15 s)) 15 (2 ^ so - 1) = enc (tf hh g so sg (2 ^ so - 1)) := if_pos (show 2 ^ so - 1 < 2 ^ so by omega)
      generalize hSA : va_up sa 14 (fun s => if s < 2 ^ so then enc (tv hh g so sg s) else sa 14 s) = SA at RR C2 A14 ⊢
      generalize hTA : va_up (va_up ta 14 (fun s => if s < 2 ^ so then enc (tv hh g so sg s) else ta 14 s)) 15 (fun s => if s < 2 ^ so then enc (tf hh g so sg s) else ta 15 s) = TA at RR M14 M15 ⊢
      rw [all_eq m1 ho]
      simp only [Option.bind_some, ld_nI ha (show 64 < 2 ^ 31 by decide), nI_c (show 2 ^ so - 1 < 2 ^ 31 by omega), M14, M15]
      unfold F_X1_fewestByTree_r2 F_X1_firstOfTree_r2
      rw [every_eq x2 ho]
      simp only [Option.bind_some, ld_nI ha (show 64 < 2 ^ 31 by decide), nI_c (show 2 ^ so - 1 < 2 ^ 31 by omega), A14 (2 ^ so - 1) (by omega), C2.secs ha]
      by_cases z : a1 = 0
      · rw [if_pos z, if_pos z]
        exact ⟨_, _, _, _, _, rfl, rfl, RR⟩
      · rw [if_neg z, if_neg z]
        have np := all_nP1 so ho hso2
        have etv : tv hh g so sg (2 ^ so - 1) = (fw hh (tb hh g so sg (2 ^ so - 1)) (2 ^ so - 1) sg).map fun p => p.1 + wt g (2 ^ so - 1) so := if_neg np
        have etf : tf hh g so sg (2 ^ so - 1) = (fw hh (tb hh g so sg (2 ^ so - 1)) (2 ^ so - 1) sg).map fun p => p.2 := if_neg np
        cases hf : fw hh (tb hh g so sg (2 ^ so - 1)) (2 ^ so - 1) sg with
        | none =>
          rw [hf] at etv etf
          rw [etv, etf]
          exact ⟨_, _, _, _, _, rfl, rfl, RR⟩
        | some p =>
          rw [hf] at etv etf
          obtain ⟨q1, q2, q3, q4⟩ := fw_sp sg p hf
          have pb := pt_bd ho hh1 hb ha q1 _ q2
          have wb := wt_le (g := g) (2 ^ so - 1) so hb
          have etv : tv hh g so sg (2 ^ so - 1) = some (p.1 + wt g (2 ^ so - 1) so) := etv
          have etf : tf hh g so sg (2 ^ so - 1) = some p.2 := etf
          have bp : ∀ k, k < sg → F_X1_behindParting_r2 (nI (2 ^ so - 1)) (nI k) si SA = some (enc (pt hh (tb hh g so sg (2 ^ so - 1)) (2 ^ so - 1) k)) := fun k hk => behind_eq ho hg C2.2.2.2.2.1 hb ha hk (fun s hs => A14 s (by omega)) si
          have L : lp (S_X1_firstOfTree_r2_35 si (nI (2 ^ so - 1)) SA (nI (wt g (2 ^ so - 1) so))) 100 0 = some (.inl (nI p.2)) := by
            have st : ∀ k, k < sg → ∀ rec : Int32 → Option (Int32 ⊕ Unit), S_X1_firstOfTree_r2_35 si (nI (2 ^ so - 1)) SA (nI (wt g (2 ^ so - 1) so)) rec (nI k) = (if pt hh (tb hh g so sg (2 ^ so - 1)) (2 ^ so - 1) k = some p.1 then some (.inl (nI k)) else rec (nI (k + 1))) := by
              intro k hk rec
              unfold S_X1_firstOfTree_r2_35
              rw [x3, if_neg (nI_nle' hk (by omega)), bp k hk, nI_c (show 2 ^ so - 1 < 2 ^ 31 by omega), A14 _ (show 2 ^ so - 1 < 2 ^ so by omega), etv, enc_some, subI (by omega), show p.1 + wt g (2 ^ so - 1) so - wt g (2 ^ so - 1) so = p.1 by omega, nI_1]
              simp only [Option.bind_some]
              cases hp2 : pt hh (tb hh g so sg (2 ^ so - 1)) (2 ^ so - 1) k with
              | none =>
                rw [enc_none, if_neg (fun z => nI_ne9 (by omega) z.symm), if_neg (fun z => by cases z)]
              | some c2 =>
                have cb := pt_bd ho hh1 hb ha hk _ hp2
                rw [enc_some]
                by_cases e : c2 = p.1
                · subst e; rw [if_pos rfl, if_pos rfl]
                · rw [if_neg (fun z => e ((nI_eq (by omega) (by omega)).mp z)), if_neg (fun z => e (Option.some.inj z))]
            refine lp_seq p.2 (fun k => nI k) ?_ ?_ 100 (by omega)
            · intro k hk rec; rw [st k (by omega), if_neg (q4 k hk)]
            · intro rec; rw [st p.2 q1, if_pos q2]
          rw [L, etv, etf, if_neg (enc_ne (z := p.1 + wt g (2 ^ so - 1) so) (by omega))]
          exact ⟨_, _, _, _, _, rfl, rfl, RR⟩
  · rw [if_neg h, if_pos rfl]
    by_cases h3 : a1.toInt < 0
    · rw [if_pos h3]; exact ⟨_, _, _, _, _, rfl, rfl, R0⟩
    · rw [if_neg h3, if_neg (show ¬ a1.toInt ≤ 1 by omega)]; exact ⟨_, _, _, _, _, rfl, rfl, R0⟩
