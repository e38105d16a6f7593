theorem e_floor {si : tSI} {sa : tSA} {ti : tSI} {ta : tSA} (R : Rel si sa ti ta) (a1 a2 a3 a4 : Int32) : ∃ r si' sa' ti' ta', F_X5_floor a1 a2 a3 a4 si sa = some (r, si', sa') ∧ F_X6_floor a1 a2 a3 a4 ti ta = some (r, ti', ta') ∧ Rel si' sa' ti' ta' := by
  have R0 := R
  obtain ⟨so, sg, rd, ho, ho2, hg, hd, x2, m1, x3, m2, x4, m8, htr, hfa, hki, hco, hse, hal, hrs, hrt, hln, hce, hsz, hkr, hcr, hsr, har, hhv, hrr⟩ := R
  unfold F_X5_floor F_X6_floor
  rw [isSheet_eq, noSheet_eq, isLane_eq, in32 0 2 rfl rfl]
  by_cases h : 0 ≤ a1.toInt ∧ a1.toInt < 4
  · rw [if_pos h, if_pos h]
    obtain ⟨k, hk, rfl⟩ := nI_ex (n := 4) h.1 h.2
    simp only [Option.bind_some, if_neg ne10, if_true]
    by_cases h2 : 0 ≤ a2.toInt ∧ a2.toInt < 3
    · rw [if_pos h2, if_pos (show 0 ≤ a2.toInt ∧ a2.toInt ≤ 2 by omega), if_neg ne10, if_neg ne10]
      rcases barred_cases hk (hsz k hk) hln a2 a3 a4 with ⟨h3, e⟩ | ⟨h3, e⟩ | ⟨h3, h4, e⟩ | ⟨h3, h4, h5, e⟩ | ⟨m, hm, e3, h3, h5, h6, h7, h8, e⟩
      · rw [h3, e]
        refine ⟨_, _, _, _, _, rfl, rfl, ?_⟩
        rw [upd_upd]
        exact R0.fault 1
      · rw [h3, e]
        refine ⟨_, _, _, _, _, rfl, rfl, ?_⟩
        rw [upd_upd]
        exact R0.fault 2
      · rw [h3, e]
        simp only [Option.bind_some, if_true]
        rw [if_neg (show ¬ (0 : Int32) ≤ a4 by rw [Int32.le_iff_toInt_le, show (0 : Int32).toInt = 0 from rfl]; omega)]
        refine ⟨_, _, _, _, _, rfl, rfl, ?_⟩
        rw [upd_upd]
        exact R0.fault 4
      · rw [h3, e]
        simp only [Option.bind_some, if_true]
        rw [if_pos (show (0 : Int32) ≤ a4 by rw [Int32.le_iff_toInt_le, show (0 : Int32).toInt = 0 from rfl]; omega)]
        simp only [Option.bind_some, if_true]
        rw [h5]
        refine ⟨_, _, _, _, _, rfl, rfl, ?_⟩
        rw [upd_upd]
        exact R0.fault 3
      · obtain ⟨i, hi, rfl⟩ := nI_exle (a := a3) (n := m) h6 (by omega)
        obtain ⟨n, hn, rfl⟩ := nI_exle (a := a4) (n := m) h7 (by omega)
        rw [nI_toInt (show i < 2 ^ 31 by omega), nI_toInt (show n < 2 ^ 31 by omega)] at h8
        rw [h3, e]
        simp only [Option.bind_some, if_true]
        rw [if_pos (show (0 : Int32) ≤ nI n from nI_ge0 (by omega))]
        simp only [Option.bind_some, if_true]
        rw [h5]
        simp only [Option.bind_some, if_true]
        unfold F_X2_take_r17
        have g1 : 60 * k + i + n ≤ 240 := by omega
        have g2 : 0 + n ≤ 60 := by omega
        rw [ix1, show (0 : Int32) = nI 0 from rfl, cpk_in g1 g2 (by decide) (by decide), nI_c (show 60 * k + i < 2 ^ 31 by omega), nI_c (show 0 < 2 ^ 31 by decide), nI_c (show n < 2 ^ 31 by omega), show nI 0 = (0 : Int32) from rfl, ix2]
        let z : Nat → Int32 := fun x => if x < n then sa 1 (60 * k + i + x) else -9
        have hz : ∀ x, n ≤ x → z x = -9 := fun x hx => if_neg (by omega)
        have hM : ∀ x, x < n → ta 20 (60 * k + i + x) = z x := fun x hx => by
          show _ = if x < n then _ else _
          rw [if_pos hx, hce]
        have hX : ∀ x, x < n → (va_up sa 11 (va_cpy (sa 1) (sa 11) (60 * k + i) 0 n)) 11 x = z x := fun x hx => by
          rw [up_eq]
          unfold va_cpy
          show _ = if x < n then _ else _
          rw [if_pos (by omega), if_pos hx, Nat.sub_zero]
        have hY : ∀ j, j ≠ 11 → (va_up sa 11 (va_cpy (sa 1) (sa 11) (60 * k + i) 0 n)) j = sa j := fun j hj => up_ne _ _ hj
        generalize va_up sa 11 (va_cpy (sa 1) (sa 11) (60 * k + i) 0 n) = SA at hX hY
        simp only [Option.bind_some]
        rcases parse (si := upd si 1 0) (ti := ti) (show n ≤ 60 by omega) g1 hX hM hz with ⟨p, s, q, ta', hp, e1, e2, hfr⟩ | ⟨so', sg', p, o1, o2, o3, o4, hps, hpg, e1, e2⟩
        · rw [e1, e2]
          simp only [Option.bind_some, if_neg (nI_ne9 (show p < 2 ^ 31 by omega)), if_true, show ((0 : Int32) ≤ 0) = True by decide]
          refine ⟨-100 - nI p, XS (upd si 1 0) n p s q, SA, upd (TS ti p s q) 0 0, ta', rfl, rfl, so, sg, rd, ho, ho2, hg, hd, x2, m1, x3, m2, x4, m8, htr, rfl, ?_, ?_, ?_, ?_, ?_, ?_, ?_, ?_, ?_, ?_, ?_, ?_, ?_, ?_, ?_⟩
          · rw [hfr 0 (by decide) (by decide) (by decide) (by decide) (by decide), hY 4 (by decide)]; exact hki
          · rw [hfr 1 (by decide) (by decide) (by decide) (by decide) (by decide), hY 5 (by decide)]; exact hco
          · rw [hfr 2 (by decide) (by decide) (by decide) (by decide) (by decide), hY 6 (by decide)]; exact hse
          · rw [hfr 3 (by decide) (by decide) (by decide) (by decide) (by decide), hY 7 (by decide)]; exact hal
          · rw [hfr 16 (by decide) (by decide) (by decide) (by decide) (by decide), hY 9 (by decide)]; exact hrs
          · rw [hfr 17 (by decide) (by decide) (by decide) (by decide) (by decide), hY 10 (by decide)]; exact hrt
          · rw [hfr 19 (by decide) (by decide) (by decide) (by decide) (by decide), hY 2 (by decide)]; exact hln
          · rw [hfr 20 (by decide) (by decide) (by decide) (by decide) (by decide), hY 1 (by decide)]; exact hce
          · rw [hfr 18 (by decide) (by decide) (by decide) (by decide) (by decide), hY 3 (by decide)]; exact hsz
          · rw [hY 4 (by decide)]; exact hkr
          · rw [hY 5 (by decide)]; exact hcr
          · rw [hY 6 (by decide)]; exact hsr
          · rw [hY 7 (by decide)]; exact har
          · rw [hfr 4 (by decide) (by decide) (by decide) (by decide) (by decide), hY 8 (by decide)]; exact hhv
          · rw [hY 9 (by decide)]; exact hrr
        · rw [e1, e2]
          simp only [Option.bind_some, if_neg ne10, if_true, show ((0 : Int32) ≤ 0) = True by decide]
          rw [fill_eq hz hX o2 o4 hps hpg rfl rfl]
          have FL := floorM (so := so') (sg := sg') o2 o4 (ti := upd (upd (TS ti p so' sg') 1 (nI so')) 2 (nI sg')) (A := AG z (1 + 5 * so') (AS z ta so') sg') rfl rfl
          have E1 : lp S_X6_floor_98 100 (0, upd (upd (TS ti p so' sg') 1 (TS ti p so' sg' 4)) 2 (TS ti p so' sg' 5), AG z (1 + 5 * so') (AS z ta so') sg') = _ := FL.1
          rw [E1]
          simp only [Option.bind_some]
          rw [FL.2]
          have xfr : ∀ j, j ≠ 4 → j ≠ 5 → j ≠ 6 → j ≠ 7 → j ≠ 8 → j ≠ 11 → GX z so' (1 + 5 * so') (FX z SA so') sg' j = sa j := by
            intro j g4 g5 g6 g7 g8 g11
            rw [GX_fr _ _ _ _ g8, FX_fr _ _ g4 g5 g6 g7, hY j g11]
          have mfr : ∀ j, j ≠ 0 → j ≠ 1 → j ≠ 2 → j ≠ 3 → j ≠ 4 → j ≠ 5 → j ≠ 6 → j ≠ 7 → j ≠ 8 → j ≠ 9 → GM (FM (AG z (1 + 5 * so') (AS z ta so') sg') so') sg' j = ta j := by
            intro j g0 g1 g2 g3 g4 g5 g6 g7 g8 g9
            rw [GM_fr _ g4, FM_fr _ g0 g1 g2 g3, AG_fr _ _ _ g9, AS_fr _ _ g5 g6 g7 g8]
          obtain ⟨fx4, fx5, fx6, fx7⟩ := FX_at z SA so'
          obtain ⟨fm0, fm1, fm2, fm3⟩ := FM_at (AG z (1 + 5 * so') (AS z ta so') sg') so'
          have x4e : ∀ t, GX z so' (1 + 5 * so') (FX z SA so') sg' 4 t = if t < so' then kd (z (1 + 5 * t + 1)) else sa 4 t := fun t => by rw [GX_fr _ _ _ _ (by decide), fx4, hY 4 (by decide)]
          have x5e : ∀ t, GX z so' (1 + 5 * so') (FX z SA so') sg' 5 t = if t < so' then z (1 + 5 * t + 2) - 48 else sa 5 t := fun t => by rw [GX_fr _ _ _ _ (by decide), fx5, hY 5 (by decide)]
          have x6e : ∀ t, GX z so' (1 + 5 * so') (FX z SA so') sg' 6 t = if t < so' then z (1 + 5 * t + 3) - 48 else sa 6 t := fun t => by rw [GX_fr _ _ _ _ (by decide), fx6, hY 6 (by decide)]
          have x7e : ∀ t, GX z so' (1 + 5 * so') (FX z SA so') sg' 7 t = if t < so' then z (1 + 5 * t + 4) - 48 else sa 7 t := fun t => by rw [GX_fr _ _ _ _ (by decide), fx7, hY 7 (by decide)]
          have dg9 : ∀ {x lo hi : Nat}, 48 ≤ lo → Eb z x lo hi → ∃ d, lo - 48 ≤ d ∧ d ≤ hi - 48 ∧ z x - 48 = nI d := by
            intro x lo hi hlo hE
            obtain ⟨d, d1, d2, de⟩ := Eb_nI hE
            exact ⟨d - 48, by omega, by omega, by rw [de, show (48 : Int32) = nI 48 from rfl, subI (by omega)]⟩
          refine ⟨nI so', upd (upd (upd (XS (upd si 1 0) n p so' sg') 2 (nI so')) 3 (nI sg')) 4 0, GX z so' (1 + 5 * so') (FX z SA so') sg', upd (upd (upd (upd (TS ti p so' sg') 1 (nI so')) 2 (nI sg')) 8 0) 0 0, GM (FM (AG z (1 + 5 * so') (AS z ta so') sg') so') sg', rfl, rfl, so', sg', 0, o2, Or.inr o1, o4, by decide, rfl, rfl, rfl, rfl, rfl, rfl, htr, rfl, ?_, ?_, ?_, ?_, ?_, ?_, ?_, ?_, ?_, ?_, ?_, ?_, ?_, ?_, ?_⟩
          · funext t
            rw [GM_fr _ (j := 0) (by decide), fm0, x4e, AG_fr _ _ _ (j := 5) (by decide), AG_fr _ _ _ (j := 0) (by decide), AS_fr _ _ (j := 0) (by decide) (by decide) (by decide) (by decide), hki]
            by_cases c : t < so'
            · rw [if_pos c, if_pos c, (AS_at z ta so' t c).1]
            · rw [if_neg c, if_neg c]
          · funext t
            rw [GM_fr _ (j := 1) (by decide), fm1, x5e, AG_fr _ _ _ (j := 6) (by decide), AG_fr _ _ _ (j := 1) (by decide), AS_fr _ _ (j := 1) (by decide) (by decide) (by decide) (by decide), hco]
            by_cases c : t < so'
            · rw [if_pos c, if_pos c, (AS_at z ta so' t c).2.1]
            · rw [if_neg c, if_neg c]
          · funext t
            rw [GM_fr _ (j := 2) (by decide), fm2, x6e, AG_fr _ _ _ (j := 7) (by decide), AG_fr _ _ _ (j := 2) (by decide), AS_fr _ _ (j := 2) (by decide) (by decide) (by decide) (by decide), hse]
            by_cases c : t < so'
            · rw [if_pos c, if_pos c, (AS_at z ta so' t c).2.2.1]
            · rw [if_neg c, if_neg c]
          · funext t
            rw [GM_fr _ (j := 3) (by decide), fm3, x7e, AG_fr _ _ _ (j := 8) (by decide), AG_fr _ _ _ (j := 3) (by decide), AS_fr _ _ (j := 3) (by decide) (by decide) (by decide) (by decide), hal]
            by_cases c : t < so'
            · rw [if_pos c, if_pos c, (AS_at z ta so' t c).2.2.2]
            · rw [if_neg c, if_neg c]
          · rw [mfr 16 (by decide) (by decide) (by decide) (by decide) (by decide) (by decide) (by decide) (by decide) (by decide) (by decide), xfr 9 (by decide) (by decide) (by decide) (by decide) (by decide) (by decide)]; exact hrs
          · rw [mfr 17 (by decide) (by decide) (by decide) (by decide) (by decide) (by decide) (by decide) (by decide) (by decide) (by decide), xfr 10 (by decide) (by decide) (by decide) (by decide) (by decide) (by decide)]; exact hrt
          · rw [mfr 19 (by decide) (by decide) (by decide) (by decide) (by decide) (by decide) (by decide) (by decide) (by decide) (by decide), xfr 2 (by decide) (by decide) (by decide) (by decide) (by decide) (by decide)]; exact hln
          · rw [mfr 20 (by decide) (by decide) (by decide) (by decide) (by decide) (by decide) (by decide) (by decide) (by decide) (by decide), xfr 1 (by decide) (by decide) (by decide) (by decide) (by decide) (by decide)]; exact hce
          · rw [mfr 18 (by decide) (by decide) (by decide) (by decide) (by decide) (by decide) (by decide) (by decide) (by decide) (by decide), xfr 3 (by decide) (by decide) (by decide) (by decide) (by decide) (by decide)]; exact hsz
          · intro t ht
            rw [x4e, if_pos ht]
            unfold kd
            split
            · exact ⟨0, by decide, rfl⟩
            · split
              · exact ⟨1, by decide, rfl⟩
              · exact ⟨2, by decide, rfl⟩
          · intro t ht
            obtain ⟨_, _, c1, c2, c3, c4⟩ := ps_ok (hps t ht)
            obtain ⟨d, d1, d2, de⟩ := dg9 (by decide) c2
            exact ⟨d, d2, by rw [x5e, if_pos ht, de]⟩
          · intro t ht
            obtain ⟨_, _, c1, c2, c3, c4⟩ := ps_ok (hps t ht)
            obtain ⟨d, d1, d2, de⟩ := dg9 (by decide) c3
            exact ⟨d, d1, d2, by rw [x6e, if_pos ht, de]⟩
          · intro t ht
            obtain ⟨_, _, c1, c2, c3, c4⟩ := ps_ok (hps t ht)
            obtain ⟨d, d1, d2, de⟩ := dg9 (by decide) c4
            exact ⟨d, d2, by rw [x7e, if_pos ht, de]⟩
          · intro t ht
            obtain ⟨_, _, c1, c2⟩ := pg_ok (hpg t ht)
            obtain ⟨d, d1, d2, de⟩ := Eb_nI c1
            obtain ⟨f, f1, f2, fe⟩ := Eb_nI c2
            have hh : 10 * (d - 48) + (f - 48) < 64 := by
              rw [de, nI_toInt (show d < 2 ^ 31 by omega)] at f2
              by_cases q : (d : Int) = 54
              · rw [if_pos q] at f2; omega
              · rw [if_neg q] at f2; omega
            refine ⟨10 * (d - 48) + (f - 48), hh, ?_, ?_⟩
            · rw [GM_at, if_pos ht, FM_fr _ (by decide) (by decide) (by decide) (by decide), AG_at _ _ _ _ _ ht, de, fe, show (48 : Int32) = nI 48 from rfl, subI (by omega), subI (by omega), show (10 : Int32) = nI 10 from rfl, pk_mul, nI_add]
            · have hp := p2le o2
              rw [GX_at, if_pos ht, de, fe, show (48 : Int32) = nI 48 from rfl, subI (by omega), show (10 : Int32) = nI 10 from rfl, pk_mul, nI_add, subI (by omega), show 10 * (d - 48) + f - 48 = 10 * (d - 48) + (f - 48) by omega, and_eq _ hh _ (by omega), Nat.and_two_pow_sub_one_eq_mod]
          · intro r hr; omega
    · rw [if_neg h2, if_neg (show ¬ (0 ≤ a2.toInt ∧ a2.toInt ≤ 2) by omega)]
      exact ⟨_, _, _, _, _, rfl, rfl, R0.fault 0⟩
  · rw [if_neg h, if_neg h]
    exact ⟨_, _, _, _, _, rfl, rfl, R0.fault 0⟩
