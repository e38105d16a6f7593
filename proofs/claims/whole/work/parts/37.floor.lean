def FX (z : Nat → Int32) (A : tSA) : Nat → tSA
  | 0 => A
  | s + 1 => va_up (va_up (va_up (va_up (FX z A s) 4 (upd (FX z A s 4) s (kd (z (1 + 5 * s + 1))))) 5 (upd (FX z A s 5) s (z (1 + 5 * s + 2) - 48))) 6 (upd (FX z A s 6) s (z (1 + 5 * s + 3) - 48))) 7 (upd (FX z A s 7) s (z (1 + 5 * s + 4) - 48))
theorem FX_s (z : Nat → Int32) (A : tSA) (s : Nat) : FX z A (s + 1) = va_up (va_up (va_up (va_up (FX z A s) 4 (upd (FX z A s 4) s (kd (z (1 + 5 * s + 1))))) 5 (upd (FX z A s 5) s (z (1 + 5 * s + 2) - 48))) 6 (upd (FX z A s 6) s (z (1 + 5 * s + 3) - 48))) 7 (upd (FX z A s 7) s (z (1 + 5 * s + 4) - 48)) := rfl
theorem FX_fr (z : Nat → Int32) (A : tSA) {j : Nat} (h4 : j ≠ 4) (h5 : j ≠ 5) (h6 : j ≠ 6) (h7 : j ≠ 7) : ∀ s, FX z A s j = A j := by
  intro s
  induction s with
  | zero => rfl
  | succ s ih => rw [FX_s, up_ne _ _ h7, up_ne _ _ h6, up_ne _ _ h5, up_ne _ _ h4, ih]
theorem updif (f : Nat → Int32) (g v : Nat → Int32) (s : Nat) (h : ∀ t, f t = if t < s then v t else g t) : ∀ t, upd f s (v s) t = if t < s + 1 then v t else g t := by
  intro t
  by_cases e : t = s
  · subst e; rw [upd_eq, if_pos (by omega)]
  · rw [upd_ne _ _ e, h t]
    by_cases c : t < s
    · rw [if_pos c, if_pos (by omega)]
    · rw [if_neg c, if_neg (by omega)]
theorem FX_at (z : Nat → Int32) (A : tSA) : ∀ s, (∀ t, FX z A s 4 t = if t < s then kd (z (1 + 5 * t + 1)) else A 4 t) ∧ (∀ t, FX z A s 5 t = if t < s then z (1 + 5 * t + 2) - 48 else A 5 t) ∧ (∀ t, FX z A s 6 t = if t < s then z (1 + 5 * t + 3) - 48 else A 6 t) ∧ ∀ t, FX z A s 7 t = if t < s then z (1 + 5 * t + 4) - 48 else A 7 t := by
  intro s
  induction s with
  | zero => exact ⟨fun t => by rw [if_neg (by omega)]; rfl, fun t => by rw [if_neg (by omega)]; rfl, fun t => by rw [if_neg (by omega)]; rfl, fun t => by rw [if_neg (by omega)]; rfl⟩
  | succ s ih =>
    obtain ⟨a, b, c, d⟩ := ih
    exact ⟨updif _ _ (fun t => kd (z (1 + 5 * t + 1))) s a, updif _ _ (fun t => z (1 + 5 * t + 2) - 48) s b, updif _ _ (fun t => z (1 + 5 * t + 3) - 48) s c, updif _ _ (fun t => z (1 + 5 * t + 4) - 48) s d⟩
def GX (z : Nat → Int32) (so p : Nat) (A : tSA) : Nat → tSA
  | 0 => A
  | k + 1 => va_up (GX z so p A k) 8 (upd (GX z so p A k 8) k (10 * (z (p + 3 * k + 1) - 48) + z (p + 3 * k + 2) - 48 &&& nI (2 ^ so - 1)))
theorem GX_s (z : Nat → Int32) (so p : Nat) (A : tSA) (k : Nat) : GX z so p A (k + 1) = va_up (GX z so p A k) 8 (upd (GX z so p A k 8) k (10 * (z (p + 3 * k + 1) - 48) + z (p + 3 * k + 2) - 48 &&& nI (2 ^ so - 1))) := rfl
theorem GX_fr (z : Nat → Int32) (so p : Nat) (A : tSA) {j : Nat} (h8 : j ≠ 8) : ∀ k, GX z so p A k j = A j := by
  intro k
  induction k with
  | zero => rfl
  | succ k ih => rw [GX_s, up_ne _ _ h8, ih]
theorem GX_at (z : Nat → Int32) (so p : Nat) (A : tSA) : ∀ k t, GX z so p A k 8 t = if t < k then 10 * (z (p + 3 * t + 1) - 48) + z (p + 3 * t + 2) - 48 &&& nI (2 ^ so - 1) else A 8 t := by
  intro k
  induction k with
  | zero => exact fun t => by rw [if_neg (by omega)]; rfl
  | succ k ih => exact updif _ _ (fun t => 10 * (z (p + 3 * t + 1) - 48) + z (p + 3 * t + 2) - 48 &&& nI (2 ^ so - 1)) k ih
def FM (A : tSA) : Nat → tSA
  | 0 => A
  | s + 1 => va_up (va_up (va_up (va_up (FM A s) 0 (upd (FM A s 0) s (A 5 s))) 1 (upd (FM A s 1) s (A 6 s))) 2 (upd (FM A s 2) s (A 7 s))) 3 (upd (FM A s 3) s (A 8 s))
theorem FM_s (A : tSA) (s : Nat) : FM A (s + 1) = va_up (va_up (va_up (va_up (FM A s) 0 (upd (FM A s 0) s (A 5 s))) 1 (upd (FM A s 1) s (A 6 s))) 2 (upd (FM A s 2) s (A 7 s))) 3 (upd (FM A s 3) s (A 8 s)) := rfl
theorem FM_fr (A : tSA) {j : Nat} (h0 : j ≠ 0) (h1 : j ≠ 1) (h2 : j ≠ 2) (h3 : j ≠ 3) : ∀ s, FM A s j = A j := by
  intro s
  induction s with
  | zero => rfl
  | succ s ih => rw [FM_s, up_ne _ _ h3, up_ne _ _ h2, up_ne _ _ h1, up_ne _ _ h0, ih]
theorem FM_at (A : tSA) : ∀ s, (∀ t, FM A s 0 t = if t < s then A 5 t else A 0 t) ∧ (∀ t, FM A s 1 t = if t < s then A 6 t else A 1 t) ∧ (∀ t, FM A s 2 t = if t < s then A 7 t else A 2 t) ∧ ∀ t, FM A s 3 t = if t < s then A 8 t else A 3 t := by
  intro s
  induction s with
  | zero => exact ⟨fun t => by rw [if_neg (by omega)]; rfl, fun t => by rw [if_neg (by omega)]; rfl, fun t => by rw [if_neg (by omega)]; rfl, fun t => by rw [if_neg (by omega)]; rfl⟩
  | succ s ih =>
    obtain ⟨a, b, c, d⟩ := ih
    exact ⟨updif _ _ (A 5) s a, updif _ _ (A 6) s b, updif _ _ (A 7) s c, updif _ _ (A 8) s d⟩
def GM (A : tSA) : Nat → tSA
  | 0 => A
  | k + 1 => va_up (GM A k) 4 (upd (GM A k 4) k (A 9 k))
theorem GM_s (A : tSA) (k : Nat) : GM A (k + 1) = va_up (GM A k) 4 (upd (GM A k 4) k (A 9 k)) := rfl
theorem GM_fr (A : tSA) {j : Nat} (h4 : j ≠ 4) : ∀ k, GM A k j = A j := by
  intro k
  induction k with
  | zero => rfl
  | succ k ih => rw [GM_s, up_ne _ _ h4, ih]
theorem GM_at (A : tSA) : ∀ k t, GM A k 4 t = if t < k then A 9 t else A 4 t := by
  intro k
  induction k with
  | zero => exact fun t => by rw [if_neg (by omega)]; rfl
  | succ k ih => exact updif _ _ (A 9) k ih
theorem Eb_nI {z : Nat → Int32} {p lo hi : Nat} (h : Eb z p lo hi) : ∃ d, lo ≤ d ∧ d ≤ hi ∧ z p = nI d := by
  unfold Eb at h
  obtain ⟨j, hj, e⟩ := nI_exle (a := z p) (n := hi) (by omega) h.2
  have := h.1
  have hb := Int32.toInt_lt (z p)
  rw [e] at this hb
  have h2 : (nI j).toInt = j ∨ 2 ^ 31 ≤ j := by
    rcases Nat.lt_or_ge j (2 ^ 31) with q | q
    · exact Or.inl (nI_toInt q)
    · exact Or.inr q
  obtain ⟨j2, hj2, e2⟩ := nI_of (x := z p) (by rw [Int32.lt_iff_toInt_lt, show (0 : Int32).toInt = 0 from rfl]; omega)
  have h3 := h.1
  have h4 := h.2
  rw [e2, nI_toInt hj2] at h3 h4
  exact ⟨j2, by omega, by omega, e2⟩
section FLO
variable {n : Nat} {z : Nat → Int32}
theorem Eb_lt (hz : ∀ x, n ≤ x → z x = -9) {p lo hi : Nat} (h : Eb z p lo hi) : p < n := by
  rcases Nat.lt_or_ge p n with q | q
  · exact q
  · have := hz p q
    unfold Eb at h
    rw [this, show (-9 : Int32).toInt = -9 from rfl] at h
    omega
theorem fill_eq (hz : ∀ x, n ≤ x → z x = -9) {si : tSI} {sa : tSA} (hX : ∀ x, x < n → sa 11 x = z x) {so sg : Nat} (ho : so ≤ 6) (hg : sg ≤ 5) (h1 : ∀ t, t < so → (ps z (1 + 5 * t)).1 = true) (h2 : ∀ t, t < sg → (pg z (1 + 5 * so + 3 * t)).1 = true) (e7 : si 7 = nI so) (e8 : si 8 = nI sg) :
    F_X0_fill_r3 si sa = some (upd (upd (upd si 2 (nI so)) 3 (nI sg)) 4 0, GX z so (1 + 5 * so) (FX z sa so) sg) := by
  unfold F_X0_fill_r3
  rw [e7, e8]
  generalize hSI : upd (upd (upd si 2 (nI so)) 3 (nI sg)) 4 0 = SI
  have s2 : SI 2 = nI so := by rw [← hSI]; rfl
  have s3 : SI 3 = nI sg := by rw [← hSI]; rfl
  have L1 : lp S_X0_fill_r3_23 100 (0, SI, sa) = some (SI, FX z sa so) := by
    refine lp_seq so (fun i => (nI i, SI, FX z sa i)) ?_ ?_ 100 (by omega)
    · intro i hi rec
      obtain ⟨_, _, c1, c2, c3, c4⟩ := ps_ok (h1 i hi)
      have l4 := Eb_lt hz c4
      have A := fun x (hx : x < n) => (congrFun (FX_fr z sa (j := 11) (by decide) (by decide) (by decide) (by decide) i) x).trans (hX x hx)
      have e1 : (1 : Int32) + nI i * 5 = nI (1 + 5 * i) := by
        rw [show (5 : Int32) = nI 5 from rfl, pk_mul, show (1 : Int32) = nI 1 from rfl, nI_add, Nat.mul_comm]
      have e2 : ∀ j, nI (1 + 5 * i) + nI j = nI (1 + 5 * i + j) := fun j => nI_add _ _
      have f1 : nI (1 + 5 * i) + 1 = nI (1 + 5 * i + 1) := e2 1
      have f2 : nI (1 + 5 * i) + 2 = nI (1 + 5 * i + 2) := e2 2
      have f3 : nI (1 + 5 * i) + 3 = nI (1 + 5 * i + 3) := e2 3
      have f4 : nI (1 + 5 * i) + 4 = nI (1 + 5 * i + 4) := e2 4
      unfold S_X0_fill_r3_23 F_X0_fillSort_r17
      dsimp only
      rw [if_neg (show ¬ SI 2 ≤ nI i by rw [s2]; exact nI_nle' hi (by omega)), e1, f1, f2, f3, f4]
      simp only [ld_nI (show 1 + 5 * i + 1 < 60 by omega) (show 60 < 2 ^ 31 by decide), ld_nI (show 1 + 5 * i + 2 < 60 by omega) (show 60 < 2 ^ 31 by decide), ld_nI (show 1 + 5 * i + 3 < 60 by omega) (show 60 < 2 ^ 31 by decide), ld_nI (show 1 + 5 * i + 4 < 60 by omega) (show 60 < 2 ^ 31 by decide), ld_nI (show i < 6 by omega) (show 6 < 2 ^ 31 by decide), nI_c (show i < 2 ^ 31 by omega), nI_c (show 1 + 5 * i + 1 < 2 ^ 31 by omega), nI_c (show 1 + 5 * i + 2 < 2 ^ 31 by omega), nI_c (show 1 + 5 * i + 3 < 2 ^ 31 by omega), nI_c (show 1 + 5 * i + 4 < 2 ^ 31 by omega), A _ (show 1 + 5 * i + 1 < n by omega), A _ (show 1 + 5 * i + 2 < n by omega), A _ (show 1 + 5 * i + 3 < n by omega), A _ l4, nI_1]
      rw [FX_s]
      unfold kd
      by_cases k1 : z (1 + 5 * i + 1) = 112
      · simp only [if_pos k1, Option.bind_some]
      · by_cases k2 : z (1 + 5 * i + 1) = 115
        · simp only [if_neg k1, if_pos k2, Option.bind_some]
        · simp only [if_neg k1, if_neg k2, Option.bind_some]
    · intro rec
      unfold S_X0_fill_r3_23
      dsimp only
      rw [if_pos (show SI 2 ≤ nI so by rw [s2]; exact nI_le (Nat.le_refl so) (by omega))]
  have L2 : lp (S_X0_fill_r3_62 (SI, FX z sa so)) 100 (0, SI, FX z sa so) = some (SI, GX z so (1 + 5 * so) (FX z sa so) sg) := by
    refine lp_seq sg (fun i => (nI i, SI, GX z so (1 + 5 * so) (FX z sa so) i)) ?_ ?_ 100 (by omega)
    · intro i hi rec
      obtain ⟨_, _, c1, c2⟩ := pg_ok (h2 i hi)
      have l2 := Eb_lt hz c2
      have A := fun x (hx : x < n) => ((congrFun (GX_fr z so (1 + 5 * so) (FX z sa so) (j := 11) (by decide) i) x).trans (congrFun (FX_fr z sa (j := 11) (by decide) (by decide) (by decide) (by decide) so) x)).trans (hX x hx)
      have e0 : ∀ j, (1 : Int32) + nI so * 5 + nI i * 3 + nI j = nI (1 + 5 * so + 3 * i + j) := by
        intro j
        rw [show (5 : Int32) = nI 5 from rfl, pk_mul, show (3 : Int32) = nI 3 from rfl, pk_mul, show (1 : Int32) = nI 1 from rfl, nI_add, nI_add, nI_add, Nat.mul_comm so, Nat.mul_comm i]
      have f1 : (1 : Int32) + nI so * 5 + nI i * 3 + 1 = nI (1 + 5 * so + 3 * i + 1) := e0 1
      have f2 : (1 : Int32) + nI so * 5 + nI i * 3 + 2 = nI (1 + 5 * so + 3 * i + 2) := e0 2
      unfold S_X0_fill_r3_62
      dsimp only
      rw [if_neg (show ¬ SI 3 ≤ nI i by rw [s3]; exact nI_nle' hi (by omega))]
      simp only [s2, f1, f2, every_eq s2 ho, Option.bind_some, ld_nI (show 1 + 5 * so + 3 * i + 1 < 60 by omega) (show 60 < 2 ^ 31 by decide), ld_nI (show 1 + 5 * so + 3 * i + 2 < 60 by omega) (show 60 < 2 ^ 31 by decide), ld_nI (show i < 5 by omega) (show 5 < 2 ^ 31 by decide), nI_c (show i < 2 ^ 31 by omega), nI_c (show 1 + 5 * so + 3 * i + 1 < 2 ^ 31 by omega), nI_c (show 1 + 5 * so + 3 * i + 2 < 2 ^ 31 by omega), A _ (show 1 + 5 * so + 3 * i + 1 < n by omega), A _ l2, nI_1]
      rw [GX_s]
    · intro rec
      unfold S_X0_fill_r3_62
      dsimp only
      rw [if_pos (show SI 3 ≤ nI sg by rw [s3]; exact nI_le (Nat.le_refl sg) (by omega))]
  rw [L1]
  simp only [Option.bind_some]
  rw [L2]
  rfl
end FLO
theorem floorM {so sg : Nat} (ho : so ≤ 6) (hg : sg ≤ 5) {ti : tSI} {A : tSA} (m1 : ti 1 = nI so) (m2 : ti 2 = nI sg) : lp S_X6_floor_98 100 (0, ti, A) = some (ti, FM A so) ∧ lp S_X6_floor_172 100 (0, ti, FM A so) = some (ti, GM (FM A so) sg) := by
  constructor
  · refine lp_seq so (fun i => (nI i, ti, FM A i)) ?_ ?_ 100 (by omega)
    · intro i hi rec
      unfold S_X6_floor_98
      dsimp only
      have e5 := FM_fr A (j := 5) (by decide) (by decide) (by decide) (by decide) i
      have e6 := FM_fr A (j := 6) (by decide) (by decide) (by decide) (by decide) i
      have e7 := FM_fr A (j := 7) (by decide) (by decide) (by decide) (by decide) i
      have e8 := FM_fr A (j := 8) (by decide) (by decide) (by decide) (by decide) i
      rw [if_neg (show ¬ ti 1 ≤ nI i by rw [m1]; exact nI_nle' hi (by omega))]
      simp only [ld_nI (show i < 6 by omega) (show 6 < 2 ^ 31 by decide), nI_c (show i < 2 ^ 31 by omega), e5, e6, e7, e8, nI_1]
      rw [FM_s]
    · intro rec
      unfold S_X6_floor_98
      dsimp only
      rw [if_pos (show ti 1 ≤ nI so by rw [m1]; exact nI_le (Nat.le_refl so) (by omega))]
  · refine lp_seq sg (fun i => (nI i, ti, GM (FM A so) i)) ?_ ?_ 100 (by omega)
    · intro i hi rec
      unfold S_X6_floor_172
      dsimp only
      have e9 := GM_fr (FM A so) (j := 9) (by decide) i
      rw [if_neg (show ¬ ti 2 ≤ nI i by rw [m2]; exact nI_nle' hi (by omega))]
      simp only [ld_nI (show i < 5 by omega) (show 5 < 2 ^ 31 by decide), nI_c (show i < 2 ^ 31 by omega), e9, nI_1]
      rw [GM_s]
    · intro rec
      unfold S_X6_floor_172
      dsimp only
      rw [if_pos (show ti 2 ≤ nI sg by rw [m2]; exact nI_le (Nat.le_refl sg) (by omega))]
