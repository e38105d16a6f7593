theorem l_and1 {n : Nat} (hn : n < 2 ^ 63) : lN n &&& 1 = lN (n % 2) := by
  apply Int64.toBitVec_inj.mp
  rw [Int64.toBitVec_and]
  apply BitVec.eq_of_toNat_eq
  rw [BitVec.toNat_and]
  show (BitVec.ofNat 64 n).toNat &&& (BitVec.ofNat 64 1).toNat = (BitVec.ofNat 64 (n % 2)).toNat
  rw [BitVec.toNat_ofNat, BitVec.toNat_ofNat, BitVec.toNat_ofNat, Nat.mod_eq_of_lt (show n < 2 ^ 64 by omega), Nat.mod_eq_of_lt (show n % 2 < 2 ^ 64 by omega)]
  exact Nat.and_two_pow_sub_one_eq_mod n 1
theorem pf1 {a : Nat} (h : a < 2 ^ 62) : lN a >>> (Int32.toInt64 1 &&& 63) = lN (a / 2) := by
  apply Int64.toInt_inj.mp
  have e : (lN a >>> (Int32.toInt64 1 &&& 63)).toInt = (lN a).toInt >>> 1 := BitVec.toInt_sshiftRight ..
  rw [e, Int.shiftRight_eq_div_pow, pk_lT (by omega), pk_lT (by omega)]
  rfl
theorem lN_z {a : Nat} (h : a < 2 ^ 63) : lN a = 0 ↔ a = 0 := by
  rw [show (0 : Int64) = lN 0 from rfl, pk_lEQ h (by decide)]
theorem two_mod {a b : Nat} (hb : b < a) (h0 : 0 < b) : 2 * (a % b) < a := by
  have h1 := Nat.mod_lt a h0
  have h2 := Nat.div_add_mod a b
  have h3 : 1 ≤ a / b := Nat.div_pos (by omega) h0
  have h4 : b * 1 ≤ b * (a / b) := Nat.mul_le_mul_left b h3
  omega
theorem share_run : ∀ k a b, a < 2 ^ 63 → b < 2 ^ k → k ≤ 62 → ∀ f, 2 * k < f → lp S_X6_share_6 f (lN b, lN a) = some (lN (Nat.gcd a b)) := by
  have step0 : ∀ a f, 0 < f → lp S_X6_share_6 f (lN 0, lN a) = some (lN a) := by
    intro a f hf
    obtain ⟨f, rfl⟩ : ∃ g, f = g + 1 := ⟨f - 1, by omega⟩
    show S_X6_share_6 _ _ = _
    unfold S_X6_share_6
    dsimp only
    exact if_pos (lcmp_eq.mpr (show lN 0 = 0 from rfl))
  have step1 : ∀ a b f, a < 2 ^ 63 → b < 2 ^ 63 → 0 < b → lp S_X6_share_6 (f + 1) (lN b, lN a) = lp S_X6_share_6 f (lN (a % b), lN b) := by
    intro a b f ha hb h0
    show S_X6_share_6 _ _ = _
    unfold S_X6_share_6
    dsimp only
    rw [if_neg (fun h => by have := (lN_z hb).mp (lcmp_eq.mp h); omega)]
    unfold dzl
    rw [if_neg (fun h => by have := (lN_z hb).mp h; omega), pk_lRem ha h0 hb]
  intro k
  induction k with
  | zero =>
    intro a b ha hb hk f hf
    have : b = 0 := by omega
    subst this
    rw [step0 a f (by omega), Nat.gcd_zero_right]
  | succ k ih =>
    intro a b ha hb hk f hf
    have hb63 : b < 2 ^ 63 := Nat.lt_of_lt_of_le hb (Nat.pow_le_pow_right (n := 2) (by decide) (by omega))
    by_cases h0 : b = 0
    · subst h0
      rw [step0 a f (by omega), Nat.gcd_zero_right]
    · obtain ⟨f, rfl⟩ : ∃ g, f = g + 2 := ⟨f - 2, by omega⟩
      have hr := Nat.mod_lt a (show b > 0 by omega)
      rw [step1 a b (f + 1) ha hb63 (by omega)]
      have g1 : Nat.gcd a b = Nat.gcd b (a % b) := by rw [Nat.gcd_comm a b, Nat.gcd_rec b a, Nat.gcd_comm]
      by_cases h1 : a % b = 0
      · rw [h1, step0 b (f + 1) (by omega), g1, h1, Nat.gcd_zero_right]
      · rw [step1 b (a % b) f hb63 (by omega) (by omega)]
        have g2 : Nat.gcd b (a % b) = Nat.gcd (a % b) (b % (a % b)) := by rw [Nat.gcd_comm b, Nat.gcd_rec (a % b) b, Nat.gcd_comm]
        rw [g1, g2]
        have h2 := two_mod hr (show 0 < a % b by omega)
        have h3 : 2 ^ (k + 1) = 2 * 2 ^ k := by rw [Nat.pow_succ]; omega
        exact ih (a % b) (b % (a % b)) (by omega) (by omega) (by omega) f (by omega)
/-- halving: what the class does in place of the greatest divisor -/
theorem halve_run (L : Nat) (hL : L ≤ 45) (up : Nat) (hu : up < 2 ^ 62) : ∃ g, 0 < g ∧ g = Nat.gcd up (2 ^ L) ∧ lp (S_X5_odds_61 (nI L)) 100 (0, lN (2 ^ L), lN up) = some (lN (2 ^ L / g), lN (up / g)) := by
  have pos : ∀ i, 0 < 2 ^ i := fun i => Nat.pow_pos (by decide)
  have lt62 : ∀ i, i ≤ 45 → 2 ^ i < 2 ^ 62 := fun i hi => Nat.pow_lt_pow_right (by decide) (by omega)
  have step : ∀ i, i < L → ∀ rec : Int32 × Int64 × Int64 → Option (Int64 × Int64), S_X5_odds_61 (nI L) rec (nI i, lN (2 ^ (L - i)), lN (up / 2 ^ i)) = (if up / 2 ^ i % 2 = 0 then rec (nI (i + 1), lN (2 ^ (L - (i + 1))), lN (up / 2 ^ (i + 1))) else some (lN (2 ^ (L - i)), lN (up / 2 ^ i))) := by
    intro i hi rec
    unfold S_X5_odds_61
    dsimp only
    have hq : up / 2 ^ i < 2 ^ 62 := Nat.lt_of_le_of_lt (Nat.div_le_self _ _) hu
    rw [if_neg (nI_nle' hi (by omega)), l_and1 (by omega), pf1 (lt62 _ (by omega)), pf1 hq, nI_1]
    have e1 : 2 ^ (L - i) / 2 = 2 ^ (L - (i + 1)) := by
      rw [show L - i = L - (i + 1) + 1 by omega, Nat.pow_succ, Nat.mul_div_cancel _ (by decide)]
    have e2 : up / 2 ^ i / 2 = up / 2 ^ (i + 1) := by rw [Nat.div_div_eq_div_mul, ← Nat.pow_succ]
    rw [e1, e2]
    by_cases c : up / 2 ^ i % 2 = 0
    · rw [if_pos c, if_pos (lcmp_eq.mpr (by rw [c]; rfl))]
    · rw [if_neg c, if_neg (fun h => c ((lN_z (by omega)).mp (lcmp_eq.mp h)))]
  have even : ∀ k, k ≤ L → (∀ i, i < k → up / 2 ^ i % 2 = 0) → 2 ^ k ∣ up := by
    intro k
    induction k with
    | zero => intro _ _; exact Nat.one_dvd _
    | succ k ih =>
      intro hk h
      obtain ⟨z, hz⟩ := ih (by omega) (fun i hi => h i (by omega))
      have h1 := h k (by omega)
      rw [hz, Nat.mul_div_cancel_left _ (pos k)] at h1
      refine ⟨z / 2, ?_⟩
      rw [hz, Nat.pow_succ, Nat.mul_assoc]
      congr 1
      omega
  rcases first_of (fun i => up / 2 ^ i % 2 = 0) L with ⟨k, hk1, hk2, hk3⟩ | hall
  · refine ⟨2 ^ k, pos k, ?_, ?_⟩
    · obtain ⟨z, hz⟩ := even k (by omega) hk2
      rw [hz, Nat.mul_div_cancel_left _ (pos k)] at hk3
      rw [hz, show 2 ^ L = 2 ^ k * 2 ^ (L - k) by rw [← Nat.pow_add]; congr 1; omega, Nat.gcd_mul_left]
      have co : Nat.Coprime z (2 ^ (L - k)) := by
        refine Nat.Coprime.pow_right _ ?_
        have h2 : z % 2 = 1 := by omega
        rw [Nat.coprime_comm]
        show Nat.gcd 2 z = 1
        rw [Nat.gcd_rec, h2]
        rfl
      rw [show Nat.gcd z (2 ^ (L - k)) = 1 from co, Nat.mul_one]
    · have h0 : ((0 : Int32), lN (2 ^ L), lN up) = (fun i => (nI i, lN (2 ^ (L - i)), lN (up / 2 ^ i))) 0 := by
        show _ = (nI 0, lN (2 ^ (L - 0)), lN (up / 2 ^ 0))
        rw [Nat.pow_zero, Nat.div_one]; rfl
      rw [h0]
      have e : 2 ^ L / 2 ^ k = 2 ^ (L - k) := Nat.pow_div (by omega) (by decide)
      rw [e]
      refine lp_seq k (fun i => (nI i, lN (2 ^ (L - i)), lN (up / 2 ^ i))) ?_ ?_ 100 (by omega)
      · intro i hi rec; rw [step i (by omega), if_pos (hk2 i hi)]
      · intro rec; rw [step k hk1, if_neg hk3]
  · refine ⟨2 ^ L, pos L, ?_, ?_⟩
    · exact (Nat.gcd_eq_right (even L (Nat.le_refl L) hall)).symm
    · have h0 : ((0 : Int32), lN (2 ^ L), lN up) = (fun i => (nI i, lN (2 ^ (L - i)), lN (up / 2 ^ i))) 0 := by
        show _ = (nI 0, lN (2 ^ (L - 0)), lN (up / 2 ^ 0))
        rw [Nat.pow_zero, Nat.div_one]; rfl
      rw [h0, Nat.div_self (pos L)]
      refine lp_seq L (fun i => (nI i, lN (2 ^ (L - i)), lN (up / 2 ^ i))) ?_ ?_ 100 (by omega)
      · intro i hi rec; rw [step i hi, if_pos (hall i hi)]
      · intro rec
        unfold S_X5_odds_61
        dsimp only
        rw [if_pos (nI_le (Nat.le_refl L) (by omega)), Nat.sub_self]
/-- in how many ways, step by step -/
def wv (L : Nat) : Nat → Nat
  | 0 => 1
  | i + 1 => wv L i * (L - i) / (i + 1)
def wsum (L : Nat) (v : Int32) : Nat → Nat
  | 0 => 0
  | i + 1 => if nI i < v then wsum L v i else wsum L v i + wv L i
theorem wsum_s (L : Nat) (v : Int32) (i : Nat) : wsum L v (i + 1) = if nI i < v then wsum L v i else wsum L v i + wv L i := rfl
theorem wv_lt : ∀ L, L ≤ 45 → ∀ i, i ≤ L → wv L i * (L - i) < 2 ^ 60 ∧ wv L i < 2 ^ 45 := by decide +kernel
theorem wsum_lt {L : Nat} (hL : L ≤ 45) (v : Int32) : ∀ i, i ≤ L + 1 → wsum L v i ≤ i * 2 ^ 45 := by
  intro i
  induction i with
  | zero => intro _; exact Nat.zero_le _
  | succ i ih =>
    intro hi
    have h1 := ih (by omega)
    have h2 := (wv_lt L hL i (by omega)).2
    rw [Nat.succ_mul]
    generalize 2 ^ 45 = K at h1 h2 ⊢
    rw [wsum_s]
    split
    · omega
    · omega
theorem wsum_62 {L : Nat} (hL : L ≤ 45) (v : Int32) {i : Nat} (hi : i ≤ L + 1) : wsum L v i < 2 ^ 62 := by
  have h1 := wsum_lt hL v i hi
  have h2 : i * 2 ^ 45 ≤ 46 * 2 ^ 45 := Nat.mul_le_mul_right _ (by omega)
  have h3 : 46 * 2 ^ 45 < 2 ^ 62 := by decide
  omega
theorem i1_64 {i : Nat} (h : i < 2 ^ 31) : Int32.toInt64 (nI i) = lN i := nI_l h
theorem way_step {L i : Nat} (hL : L ≤ 45) (hi : i ≤ L) : lN (wv L i) * Int32.toInt64 (nI L - nI i) / Int32.toInt64 (nI i + 1) = lN (wv L (i + 1)) := by
  have h1 := wv_lt L hL i hi
  rw [subI hi, nI_1, i1_64 (by omega), i1_64 (by omega), lN_mul, pk_lDiv (by omega) (by omega) (by omega)]
  rfl
theorem dz_i1 {β : Type} {i : Nat} (h : i ≤ 50) (x : Option β) : dzl (Int32.toInt64 (nI i + 1)) x = x := by
  unfold dzl
  rw [nI_1, i1_64 (by omega), if_neg (fun e => by have := (lN_z (by omega)).mp e; omega)]
theorem ways_X {L : Nat} (hL : L ≤ 45) (v : Int32) : F_X5_waysOfAtLeast (nI L) v = some (lN (wsum L v (L + 1))) := by
  have H : lp (S_X5_waysOfAtLeast_8 (nI L) v) 100 (0, 0, 1) = some (lN (wsum L v (L + 1))) := by
    refine lp_seq (L + 1) (fun i => (nI i, lN (wsum L v i), lN (wv L i))) ?_ ?_ 100 (by omega)
    · intro i hi rec
      unfold S_X5_waysOfAtLeast_8
      dsimp only
      rw [if_neg (nI_nlt (show i ≤ L by omega) (by omega))]
      rw [wsum_s]
      by_cases c : nI i < v
      · simp only [if_pos c, Option.bind_some, dz_i1 (show i ≤ 50 by omega), way_step hL (show i ≤ L by omega)]; rw [nI_1]
      · simp only [if_neg c, Option.bind_some, dz_i1 (show i ≤ 50 by omega), way_step hL (show i ≤ L by omega), lN_add]; rw [nI_1]
    · intro rec
      unfold S_X5_waysOfAtLeast_8
      dsimp only
      rw [if_pos (nI_lt (Nat.lt_succ_self L) (by omega))]
  unfold F_X5_waysOfAtLeast
  rw [H]; rfl
theorem ways_M {L : Nat} (hL : L ≤ 45) (v : Int32) : lp (S_X6_odds_107 (nI L) v) 100 (0, 0, 1) = some (lN (wsum L v (L + 1))) := by
  refine lp_seq (L + 1) (fun i => (nI i, lN (wsum L v i), lN (wv L i))) ?_ ?_ 100 (by omega)
  · intro i hi rec
    unfold S_X6_odds_107
    dsimp only
    rw [if_neg (nI_nlt (show i ≤ L by omega) (by omega))]
    rw [wsum_s]
    by_cases c : nI i < v
    · simp only [if_pos c, Option.bind_some, dz_i1 (show i ≤ 50 by omega), way_step hL (show i ≤ L by omega), Int64.add_zero]; rw [nI_1]
    · simp only [if_neg c, Option.bind_some, dz_i1 (show i ≤ 50 by omega), way_step hL (show i ≤ L by omega), lN_add]; rw [nI_1]
  · intro rec
    unfold S_X6_odds_107
    dsimp only
    rw [if_pos (nI_lt (Nat.lt_succ_self L) (by omega))]
/-- the letters that may come by mistake -/
def al (c : Nat → Nat) (ok : Nat → Prop) [DecidablePred ok] : Nat → Nat
  | 0 => 0
  | i + 1 => if ok i then al c ok i + c i else al c ok i
theorem al_s (c : Nat → Nat) (ok : Nat → Prop) [DecidablePred ok] (i : Nat) : al c ok (i + 1) = if ok i then al c ok i + c i else al c ok i := rfl
theorem al_le (c : Nat → Nat) (ok : Nat → Prop) [DecidablePred ok] (j : Nat) (hj : ¬ ok j) : ∀ n, (∀ s, s < n → c s ≤ 9) → al c ok n ≤ 9 * n ∧ (j < n → al c ok n + 9 ≤ 9 * n) := by
  intro n
  induction n with
  | zero => intro _; exact ⟨Nat.le_refl _, fun h => absurd h (by omega)⟩
  | succ n ih =>
    intro h
    obtain ⟨h1, h2⟩ := ih (fun s hs => h s (by omega))
    have h3 := h n (by omega)
    rw [al_s]
    by_cases e : n = j
    · subst e
      rw [if_neg hj]
      omega
    · split
      · refine ⟨by omega, fun hj2 => ?_⟩
        have := h2 (by omega)
        omega
      · refine ⟨by omega, fun hj2 => ?_⟩
        have := h2 (by omega)
        omega
theorem ne64 : ∀ n, n < 8 → ∀ m, m < 8 → (nI n = nI m ↔ n = m) := by decide +kernel
theorem e_odds {si : tSI} {sa : tSA} {ti : tSI} {ta : tSA} (R : Rel si sa ti ta) (a1 a2 a3 : Int32) : ∃ r, F_X5_odds a1 a2 a3 si sa = some r ∧ F_X6_odds a1 a2 a3 ti ta = some r := by
  obtain ⟨so, sg, rd, ho, ho2, hg, hd, x2, m1, x3, m2, x4, m8, htr, hfa, hki, hco, hse, hal, hrs, hrt, hln, hce, hsz, hkr, hcr, hsr, har, hhv, hrr⟩ := R
  unfold F_X5_odds F_X6_odds F_X6_lost
  rw [isSort_eq x2 (by omega), noSort_eq m1 (by omega), in32 0 99 rfl rfl, in32 0 1 rfl rfl]
  by_cases h : 0 ≤ a1.toInt ∧ a1.toInt < so
  · rw [if_pos h, if_pos h]
    obtain ⟨j, hj, rfl⟩ := nI_ex h.1 h.2
    have hj6 : j < 6 := by omega
    simp only [Option.bind_some, if_neg ne10, if_true, Int32.lt_iff_toInt_lt, Int32.le_iff_toInt_le, show (0 : Int32).toInt = 0 from rfl, show (99 : Int32).toInt = 99 from rfl, show (1 : Int32).toInt = 1 from rfl]
    by_cases h2 : 0 ≤ a2.toInt ∧ a2.toInt ≤ 99
    · rw [if_pos h2, if_neg (show ¬ a2.toInt < 0 by omega), if_neg (show ¬ (99 : Int) < a2.toInt by omega), if_neg ne10]
      by_cases h3 : 0 ≤ a3.toInt ∧ a3.toInt ≤ 1
      · rw [if_pos h3, if_neg (show ¬ a3.toInt < 0 by omega), if_pos h3.2, if_neg ne10]
        let c : Nat → Nat := fun s => (sa 5 s).toNatClampNeg
        have hc : ∀ s, s < so → c s ≤ 9 ∧ sa 5 s = nI (c s) := by
          intro s hs
          obtain ⟨k, hk, ek⟩ := hcr s hs
          show (sa 5 s).toNatClampNeg ≤ 9 ∧ sa 5 s = nI (sa 5 s).toNatClampNeg
          rw [ek, nI_c (by omega)]
          exact ⟨hk, rfl⟩
        let ok : Nat → Prop := fun s => ¬ s = j ∧ sa 4 s = 0 ∧ sa 7 s = nI j
        have LX : lp (S_X0_lettersAlike_4 si (nI j) sa) 100 (0, 0) = some (nI (al c ok so)) := by
          refine lp_seq so (fun i => (nI i, nI (al c ok i))) ?_ ?_ 100 (by omega)
          · intro i hi rec
            unfold S_X0_lettersAlike_4
            dsimp only
            rw [x2, if_neg (nI_nle' hi (by omega))]
            simp only [ld_nI (show i < 6 by omega) (show 6 < 2 ^ 31 by decide), nI_c (show i < 2 ^ 31 by omega), nI_1, ne64 i (by omega) j (by omega)]
            rw [al_s]
            by_cases q1 : i = j
            · rw [if_pos q1, if_neg (show ¬ ok i from fun z => z.1 q1)]
            · rw [if_neg q1]
              by_cases q2 : sa 4 i = 0
              · rw [if_pos q2]
                by_cases q3 : sa 7 i = nI j
                · rw [if_pos q3, if_pos (show ok i from ⟨q1, q2, q3⟩), (hc i hi).2, nI_add]
                · rw [if_neg q3, if_neg (show ¬ ok i from fun z => q3 z.2.2)]
              · rw [if_neg q2, if_neg (show ¬ ok i from fun z => q2 z.2.1)]
          · intro rec
            unfold S_X0_lettersAlike_4
            dsimp only
            rw [x2, if_pos (nI_le (Nat.le_refl so) (by omega))]
        have LM : lp (S_X6_odds_40 ti (nI j) ta) 100 (0, 0) = some (nI (al c ok so)) := by
          refine lp_seq so (fun i => (nI i, nI (al c ok i))) ?_ ?_ 100 (by omega)
          · intro i hi rec
            unfold S_X6_odds_40
            dsimp only
            rw [m1, if_neg (nI_nle' hi (by omega)), hki, hal, hco]
            simp only [ld_nI (show i < 6 by omega) (show 6 < 2 ^ 31 by decide), nI_c (show i < 2 ^ 31 by omega), nI_1, ne64 i (by omega) j (by omega), Int32.add_zero]
            rw [al_s]
            by_cases q1 : i = j
            · rw [if_pos q1, if_neg (show ¬ ok i from fun z => z.1 q1)]
            · rw [if_neg q1]
              by_cases q2 : sa 4 i = 0
              · rw [if_pos q2]
                by_cases q3 : sa 7 i = nI j
                · rw [if_pos q3, if_pos (show ok i from ⟨q1, q2, q3⟩), (hc i hi).2, nI_add]
                · rw [if_neg q3, if_neg (show ¬ ok i from fun z => q3 z.2.2)]
              · rw [if_neg q2, if_neg (show ¬ ok i from fun z => q2 z.2.1)]
          · intro rec
            unfold S_X6_odds_40
            dsimp only
            rw [m1, if_pos (nI_le (Nat.le_refl so) (by omega))]
        have hL : al c ok so ≤ 45 := by
          have := (al_le c ok j (fun z => z.1 rfl) so (fun s hs => (hc s hs).1)).2 hj
          omega
        generalize al c ok so = L at LX LM hL
        have sh : ∀ L, L ≤ 45 → (1 : Int64) <<< (Int32.toInt64 (nI L) &&& 63) = lN (2 ^ L) := by decide +kernel
        have hu := wsum_62 hL a2 (Nat.le_refl (L + 1))
        have hp : 2 ^ L < 2 ^ 46 := Nat.pow_lt_pow_right (by decide) (by omega)
        obtain ⟨g, hg0, hgg, HR⟩ := halve_run L hL _ hu
        have SR := share_run 46 (wsum L a2 (L + 1)) (2 ^ L) (by omega) hp (by decide) 100 (by decide)
        rw [← hgg] at SR
        have hgle : g ≤ 2 ^ L := by rw [hgg]; exact Nat.le_of_dvd (Nat.pow_pos (by decide)) (Nat.gcd_dvd_right _ _)
        unfold F_X0_lettersAlike F_X6_share
        rw [LX, LM]
        simp only [Option.bind_some]
        rw [ways_X hL, ways_M hL, sh L hL]
        simp only [Option.bind_some]
        rw [HR, SR]
        have d1 : ∀ {β : Type} (x : Option β), dzl (lN g) x = x := fun x => by
          unfold dzl
          rw [if_neg (fun e => by have := (lN_z (by omega)).mp e; omega)]
        simp only [Option.bind_some, d1, pk_lDiv (show wsum L a2 (L + 1) < 2 ^ 63 by omega) hg0 (show g < 2 ^ 63 by omega), pk_lDiv (show 2 ^ L < 2 ^ 63 by omega) hg0 (show g < 2 ^ 63 by omega)]
        by_cases q : a3 = 0
        · rw [if_pos q]; exact ⟨_, rfl, rfl⟩
        · rw [if_neg q]; exact ⟨_, rfl, rfl⟩
      · rw [if_neg h3, if_pos rfl]
        by_cases q : a3.toInt < 0
        · rw [if_pos q]; exact ⟨_, rfl, rfl⟩
        · rw [if_neg q, if_neg (show ¬ a3.toInt ≤ 1 by omega)]; exact ⟨_, rfl, rfl⟩
    · rw [if_neg h2, if_pos rfl]
      by_cases q : a2.toInt < 0
      · rw [if_pos q]; exact ⟨_, rfl, rfl⟩
      · rw [if_neg q, if_pos (show (99 : Int) < a2.toInt by omega)]; exact ⟨_, rfl, rfl⟩
  · rw [if_neg h, if_neg h]
    exact ⟨_, rfl, rfl⟩
