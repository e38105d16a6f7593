theorem lk_X5_plan : LK yX5_plan cX5_plan 7 (some .int) 5 := ⟨q278, q1, by decide +kernel⟩
def K_X5_plan_23 (a1 : Int32) (a2 : Int32) (a4 : Int32) (si : tSI) (sa : tSA) (a3 : Int32) (a5 : Int32) : Option (Int32 × tSI × tSA) :=
  (F_X5_refusalOfRow a1 a2 a4 (20 : Int32) (upd si 1 (0 : Int32)) sa).bind fun r3 => ((if r3 = 0 then (F_X5_takeNumbers a1 a2 a3 a4 (si 3) (upd si 1 (0 : Int32)) sa).bind fun r18 => some (r18.1, r18.2.1, r18.2.2) else some (r3, (upd si 1 (0 : Int32)), sa))).bind fun (x4 : (Int32 × tSI × tSA)) => (if x4.1 = 0 then (F_X4_go_r2_r6 a4 x4.2.1 x4.2.2).bind fun r6 => (if a5 = 0 then some ((r6.1 9), r6.1, r6.2) else (if a5 = 1 then some ((r6.1 10), r6.1, r6.2) else (if a5 = 2 then (F_X0_heaps (r6.1 11) r6.1 r6.2).bind fun r10 => some (r10, r6.1, r6.2) else (if a5 = 3 then (F_X0_everySort r6.1 r6.2).bind fun r12 => (F_X0_waiting (r6.1 11) r6.1 r6.2).bind fun r13 => some ((r12 &&& (r13 ^^^ (-1 : Int32))), r6.1, r6.2) else (if (20 : Int32) ≤ a5 then (F_X5_leastBeside (a5 - (20 : Int32)) r6.1 r6.2).bind fun r15 => some (r15, r6.1, r6.2) else (F_X5_readyBehind (a5 - (10 : Int32)) r6.1 r6.2).bind fun r16 => some (r16, r6.1, r6.2)))))) else some (x4.1, x4.2.1, x4.2.2))
def F_X5_plan (a1 : Int32) (a2 : Int32) (a3 : Int32) (a4 : Int32) (a5 : Int32) (si : tSI) (sa : tSA) : Option (Int32 × tSI × tSA) :=
  (F_X2_isSheet a1).bind fun r1 => (if r1 = 0 then K_X5_plan_23 a1 a2 a4 si sa a3 a5 else (F_X5_isOfPlans a5).bind fun r20 => (if r20 = 0 then some ((-2 : Int32), (upd si 1 (0 : Int32)), sa) else K_X5_plan_23 a1 a2 a4 si sa a3 a5))
set_option maxHeartbeats 4000000 in
set_option maxRecDepth 100000 in
theorem c_X5_plan (l : Launch) (D : va_G) (cA : ClassId) (ad : Nat → Nat) (si : tSI) (sa : tSA) (a1 : Int32) (a2 : Int32) (a3 : Int32) (a4 : Int32) (a5 : Int32) (o : (Int32 × tSI × tSA)) (hF : F_X5_plan a1 a2 a3 a4 a5 si sa = some o) : CG l yX5_plan cX5_plan 7 (some .int) 5 117 D cA [.ref (ad 0), .int a1, .int a2, .int a3, .int a4, .int a5] (WX cA ad si sa) (WX cA ad o.2.1 o.2.2) (some (.int o.1)) := by
  refine CG.ofi (by decide) (Nat.le_of_ble_eq_true rfl) ?_
  intro p ee s m args below meth c A Q H0 ls C0 hA hP hD hS hl hE
  have hl : lv_has ls 7 [(0, .ref (ad 0)), (1, .int a1), (2, .int a2), (3, .int a3), (4, .int a4), (5, .int a5)] := hl
  obtain ⟨hx, hb, hml, hown, ht, hK⟩ := id C0
  unfold F_X5_plan at hF
  refine lv_aload_n hx hb dX5_plan_0 rfl (lv_at hl 0 rfl) ?_
  refine lv_iconst (v := (0 : Int32)) hx hb dX5_plan_1 (by decide) ?_
  refine pX0_7 C0 hP hD hS q152 dX5_plan_2 (fun H locs hP hD hS => ?_)
  refine lv_iload_n hx hb dX5_plan_5 rfl (lv_at hl 1 rfl) ?_
  obtain ⟨r1, hr1, hF⟩ := bd_some hF
  refine kcS (As := [.int a1]) (rest := []) C0 hA hP hD hS (c_X2_isSheet l D cA ad (upd si 1 (0 : Int32)) sa a1 r1 hr1) lk_X2_isSheet q175 q174 hl.1 rfl rfl (Nat.le_of_ble_eq_true rfl) ⟨Nat.le_of_ble_eq_true rfl, Nat.le_of_ble_eq_true rfl⟩ ⟨Nat.le_refl _, Nat.le_refl _⟩ dX5_plan_6 (fun H locs hP hD hS => ?_)
  refine W.eq (g2 := F0 m 9 ls [.int r1]) rfl ?_
  have Jx2 : ∀ (H : Heap) (locs : List Loc) (ls : Array Slot), K_X5_plan_23 a1 a2 a4 si sa a3 a5 = some o → va_P D vwCl (WX cA ad (upd si 1 (0 : Int32)) sa) H → va_D A (WX cA ad (upd si 1 (0 : Int32)) sa) → va_S A H0 H locs → lv_has ls 7 [(0, .ref (ad 0)), (1, .int a1), (2, .int a2), (3, .int a3), (4, .int a4), (5, .int a5)] → W p l ee (rmx 5 117) s m args below meth c H locs 0 0 Q (F0 m 23 ls []) := by
    intro H locs ls hF hP hD hS hl
    unfold K_X5_plan_23 at hF
    refine lv_aload_n hx hb dX5_plan_23 rfl (lv_at hl 0 rfl) ?_
    refine lv_iload_n hx hb dX5_plan_24 rfl (lv_at hl 1 rfl) ?_
    refine lv_iload_n hx hb dX5_plan_25 rfl (lv_at hl 2 rfl) ?_
    refine lv_iload hx hb dX5_plan_26 (lv_at hl 4 rfl) ?_
    refine lv_bipush (v := (20 : Int32)) hx hb dX5_plan_28 (by decide) ?_
    obtain ⟨r3, hr3, hF⟩ := bd_some hF
    refine kcV (As := [.int a1, .int a2, .int a4, .int (20 : Int32)]) (rest := []) C0 hA hP hD hS (c_X5_refusalOfRow l D cA ad (upd si 1 (0 : Int32)) sa a1 a2 a4 (20 : Int32) r3 hr3) lk_X5_refusalOfRow q284 s9 q282 0 5 rfl rfl hl.1 rfl rfl (Nat.le_of_ble_eq_true rfl) ⟨Nat.le_of_ble_eq_true rfl, Nat.le_of_ble_eq_true rfl⟩ ⟨Nat.le_refl _, Nat.le_refl _⟩ dX5_plan_30 (fun H locs hP hD hS => ?_)
    refine W.eq (g2 := F0 m 33 ls [.int r3]) rfl ?_
    refine lv_istore (lv' := [(6, .int r3), (0, .ref (ad 0)), (1, .int a1), (2, .int a2), (3, .int a3), (4, .int a4), (5, .int a5)]) hx hb dX5_plan_33 hl (by decide) rfl (fun ls hl => ?_)
    refine lv_iload hx hb dX5_plan_35 (lv_at hl 0 rfl) ?_
    obtain ⟨x4, hRx4, hF⟩ := bd_some hF
    have Jx4 : ∀ (H : Heap) (locs : List Loc) (ls : Array Slot), va_P D vwCl (WX cA ad x4.2.1 x4.2.2) H → va_D A (WX cA ad x4.2.1 x4.2.2) → va_S A H0 H locs → lv_has ls 7 [(6, .int x4.1), (0, .ref (ad 0)), (4, .int a4), (5, .int a5)] → W p l ee (rmx 5 117) s m args below meth c H locs 0 0 Q (F0 m 58 ls []) := by
      intro H locs ls hP hD hS hl
      refine lv_iload hx hb dX5_plan_58 (lv_at hl 0 rfl) ?_
      refine lv_if_eq (tgt := 66) hx hb dX5_plan_60 (by decide) (fun c5 => ?_) (fun c5 => ?_)
      · have hF := (if_pos c5).symm.trans hF
        refine lv_aload_n hx hb dX5_plan_66 rfl (lv_at hl 1 rfl) ?_
        refine gX0_3 C0 hP q148 dX5_plan_67 ?_
        refine lv_aload_n hx hb dX5_plan_70 rfl (lv_at hl 1 rfl) ?_
        refine gX0_1 C0 hP q146 dX5_plan_71 ?_
        refine lv_aload_n hx hb dX5_plan_74 rfl (lv_at hl 1 rfl) ?_
        refine gX0_5 C0 hP q150 dX5_plan_75 ?_
        refine lv_iload hx hb dX5_plan_78 (lv_at hl 2 rfl) ?_
        obtain ⟨r6, hr6, hF⟩ := bd_some hF
        refine kcV (As := [.ref (ad 2), .ref (ad 6), .int a4]) (rest := []) C0 hA hP hD hS (c_X4_go_r2_r6 l D cA ad x4.2.1 x4.2.2 a4 r6 hr6) lk_X4_go q295 q296 q294 4 4 rfl rfl hl.1 rfl rfl (Nat.le_of_ble_eq_true rfl) ⟨Nat.le_of_ble_eq_true rfl, Nat.le_of_ble_eq_true rfl⟩ ⟨Nat.le_refl _, Nat.le_refl _⟩ dX5_plan_80 (fun H locs hP hD hS => ?_)
        refine W.eq (g2 := F0 m 83 ls []) rfl ?_
        refine lv_iload hx hb dX5_plan_83 (lv_at hl 3 rfl) ?_
        rcases Decidable.em (a5 = 0) with c7 | c7
        · have hF := (if_pos c7).symm.trans hF
          refine lv_tableIn (off := 31) (tgt := 116) hx hb dX5_plan_85 (by rw [c7]; decide) (by rw [c7]; decide) (by rw [c7]; rfl) (by decide) ?_
          refine lv_aload_n hx hb dX5_plan_116 rfl (lv_at hl 1 rfl) ?_
          refine gX0_3 C0 hP q148 dX5_plan_117 ?_
          refine gX4_0 (v := (r6.1 9)) C0 hP rfl q116 dX5_plan_120 ?_
          have hF := Option.some.inj hF
          subst hF
          exact hE _ _ _ _ _ hP hD hS dX5_plan_123 rfl rfl
        · have hF := (if_neg c7).symm.trans hF
          rcases Decidable.em (a5 = 1) with c8 | c8
          · have hF := (if_pos c8).symm.trans hF
            refine lv_tableIn (off := 39) (tgt := 124) hx hb dX5_plan_85 (by rw [c8]; decide) (by rw [c8]; decide) (by rw [c8]; rfl) (by decide) ?_
            refine lv_aload_n hx hb dX5_plan_124 rfl (lv_at hl 1 rfl) ?_
            refine gX0_3 C0 hP q148 dX5_plan_125 ?_
            refine gX4_1 (v := (r6.1 10)) C0 hP rfl q118 dX5_plan_128 ?_
            have hF := Option.some.inj hF
            subst hF
            exact hE _ _ _ _ _ hP hD hS dX5_plan_131 rfl rfl
          · have hF := (if_neg c8).symm.trans hF
            rcases Decidable.em (a5 = 2) with c9 | c9
            · have hF := (if_pos c9).symm.trans hF
              refine lv_tableIn (off := 47) (tgt := 132) hx hb dX5_plan_85 (by rw [c9]; decide) (by rw [c9]; decide) (by rw [c9]; rfl) (by decide) ?_
              refine lv_aload_n hx hb dX5_plan_132 rfl (lv_at hl 1 rfl) ?_
              refine gX0_1 C0 hP q146 dX5_plan_133 ?_
              refine lv_aload_n hx hb dX5_plan_136 rfl (lv_at hl 1 rfl) ?_
              refine gX0_3 C0 hP q148 dX5_plan_137 ?_
              refine gX4_2 (v := (r6.1 11)) C0 hP rfl q120 dX5_plan_140 ?_
              obtain ⟨r10, hr10, hF⟩ := bd_some hF
              refine kcV (As := [.int (r6.1 11)]) (rest := []) C0 hA hP hD hS (c_X0_heaps l D cA ad r6.1 r6.2 (r6.1 11) r10 hr10) lk_X0_heaps q319 q320 q331 2 0 rfl rfl hl.1 rfl rfl (Nat.le_of_ble_eq_true rfl) ⟨Nat.le_of_ble_eq_true rfl, Nat.le_of_ble_eq_true rfl⟩ ⟨Nat.le_refl _, Nat.le_refl _⟩ dX5_plan_143 (fun H locs hP hD hS => ?_)
              refine W.eq (g2 := F0 m 146 ls [.int r10]) rfl ?_
              have hF := Option.some.inj hF
              subst hF
              exact hE _ _ _ _ _ hP hD hS dX5_plan_146 rfl rfl
            · have hF := (if_neg c9).symm.trans hF
              rcases Decidable.em (a5 = 3) with c11 | c11
              · have hF := (if_pos c11).symm.trans hF
                refine lv_tableIn (off := 62) (tgt := 147) hx hb dX5_plan_85 (by rw [c11]; decide) (by rw [c11]; decide) (by rw [c11]; rfl) (by decide) ?_
                refine lv_aload_n hx hb dX5_plan_147 rfl (lv_at hl 1 rfl) ?_
                refine gX0_1 C0 hP q146 dX5_plan_148 ?_
                obtain ⟨r12, hr12, hF⟩ := bd_some hF
                refine kcV (As := []) (rest := []) C0 hA hP hD hS (c_X0_everySort l D cA ad r6.1 r6.2 r12 hr12) lk_X0_everySort q244 q245 q274 2 0 rfl rfl hl.1 rfl rfl (Nat.le_of_ble_eq_true rfl) ⟨Nat.le_of_ble_eq_true rfl, Nat.le_of_ble_eq_true rfl⟩ ⟨Nat.le_refl _, Nat.le_refl _⟩ dX5_plan_151 (fun H locs hP hD hS => ?_)
                refine W.eq (g2 := F0 m 154 ls [.int r12]) rfl ?_
                refine lv_aload_n hx hb dX5_plan_154 rfl (lv_at hl 1 rfl) ?_
                refine gX0_1 C0 hP q146 dX5_plan_155 ?_
                refine lv_aload_n hx hb dX5_plan_158 rfl (lv_at hl 1 rfl) ?_
                refine gX0_3 C0 hP q148 dX5_plan_159 ?_
                refine gX4_2 (v := (r6.1 11)) C0 hP rfl q120 dX5_plan_162 ?_
                obtain ⟨r13, hr13, hF⟩ := bd_some hF
                refine kcV (As := [.int (r6.1 11)]) (rest := [.int r12]) C0 hA hP hD hS (c_X0_waiting l D cA ad r6.1 r6.2 (r6.1 11) r13 hr13) lk_X0_waiting q303 q304 q332 2 0 rfl rfl hl.1 rfl rfl (Nat.le_of_ble_eq_true rfl) ⟨Nat.le_of_ble_eq_true rfl, Nat.le_of_ble_eq_true rfl⟩ ⟨Nat.le_refl _, Nat.le_refl _⟩ dX5_plan_165 (fun H locs hP hD hS => ?_)
                refine W.eq (g2 := F0 m 168 ls [.int r13, .int r12]) rfl ?_
                refine lv_iconst (v := (-1 : Int32)) hx hb dX5_plan_168 (by decide) ?_
                refine lv_ixor hx hb dX5_plan_169 ?_
                refine lv_iand hx hb dX5_plan_170 ?_
                have hF := Option.some.inj hF
                subst hF
                exact hE _ _ _ _ _ hP hD hS dX5_plan_171 rfl rfl
              · have hF := (if_neg c11).symm.trans hF
                have hout : (Int32.toInt a5) < 0 ∨ 3 < (Int32.toInt a5) := by
                  have hc7 := ne_toIntk (0) (0) (by decide) c7
                  have hc8 := ne_toIntk (1) (1) (by decide) c8
                  have hc9 := ne_toIntk (2) (2) (by decide) c9
                  have hc11 := ne_toIntk (3) (3) (by decide) c11
                  omega
                refine lv_tableOut (tgt := 172) hx hb dX5_plan_85 hout (by decide) ?_
                refine lv_iload hx hb dX5_plan_172 (lv_at hl 3 rfl) ?_
                refine lv_bipush (v := (20 : Int32)) hx hb dX5_plan_174 (by decide) ?_
                refine lv_icmp_ge (tgt := 191) hx hb dX5_plan_176 (by decide) (fun c14 => ?_) (fun c14 => ?_)
                · have hF := (if_pos c14).symm.trans hF
                  refine lv_aload_n hx hb dX5_plan_191 rfl (lv_at hl 1 rfl) ?_
                  refine lv_iload hx hb dX5_plan_192 (lv_at hl 3 rfl) ?_
                  refine lv_bipush (v := (20 : Int32)) hx hb dX5_plan_194 (by decide) ?_
                  refine lv_isub hx hb dX5_plan_196 ?_
                  obtain ⟨r15, hr15, hF⟩ := bd_some hF
                  refine kcV (As := [.int (a5 - (20 : Int32))]) (rest := []) C0 hA hP hD hS (c_X5_leastBeside l D cA ad r6.1 r6.2 (a5 - (20 : Int32)) r15 hr15) lk_X5_leastBeside q339 s14 q337 0 5 rfl rfl hl.1 rfl rfl (Nat.le_of_ble_eq_true rfl) ⟨Nat.le_of_ble_eq_true rfl, Nat.le_of_ble_eq_true rfl⟩ ⟨Nat.le_refl _, Nat.le_refl _⟩ dX5_plan_197 (fun H locs hP hD hS => ?_)
                  refine W.eq (g2 := F0 m 200 ls [.int r15]) rfl ?_
                  have hF := Option.some.inj hF
                  subst hF
                  exact hE _ _ _ _ _ hP hD hS dX5_plan_200 rfl rfl
                · have hF := (if_neg c14).symm.trans hF
                  refine lv_aload_n hx hb dX5_plan_179 rfl (lv_at hl 1 rfl) ?_
                  refine lv_iload hx hb dX5_plan_180 (lv_at hl 3 rfl) ?_
                  refine lv_bipush (v := (10 : Int32)) hx hb dX5_plan_182 (by decide) ?_
                  refine lv_isub hx hb dX5_plan_184 ?_
                  obtain ⟨r16, hr16, hF⟩ := bd_some hF
                  refine kcV (As := [.int (a5 - (10 : Int32))]) (rest := []) C0 hA hP hD hS (c_X5_readyBehind l D cA ad r6.1 r6.2 (a5 - (10 : Int32)) r16 hr16) lk_X5_readyBehind q335 s13 q333 0 5 rfl rfl hl.1 rfl rfl (Nat.le_of_ble_eq_true rfl) ⟨Nat.le_of_ble_eq_true rfl, Nat.le_of_ble_eq_true rfl⟩ ⟨Nat.le_refl _, Nat.le_refl _⟩ dX5_plan_185 (fun H locs hP hD hS => ?_)
                  refine W.eq (g2 := F0 m 188 ls [.int r16]) rfl ?_
                  refine lv_goto (tgt := 200) hx hb dX5_plan_188 (by decide) ?_
                  have hF := Option.some.inj hF
                  subst hF
                  exact hE _ _ _ _ _ hP hD hS dX5_plan_200 rfl rfl
      · have hF := (if_neg c5).symm.trans hF
        refine lv_iload hx hb dX5_plan_63 (lv_at hl 0 rfl) ?_
        have hF := Option.some.inj hF
        subst hF
        exact hE _ _ _ _ _ hP hD hS dX5_plan_65 rfl rfl
    have hF := hRx4
    refine lv_if_ne (tgt := 58) hx hb dX5_plan_37 (by decide) (fun c17 => ?_) (fun c17 => ?_)
    · have hF := (if_neg c17).symm.trans hF
      have hF := Option.some.inj hF
      subst hF
      exact Jx4 _ _ _ hP hD hS (lv_sub hl [0, 1, 5, 6] rfl)
    · have hF := (if_pos c17).symm.trans hF
      refine lv_aload_n hx hb dX5_plan_40 rfl (lv_at hl 1 rfl) ?_
      refine lv_iload_n hx hb dX5_plan_41 rfl (lv_at hl 2 rfl) ?_
      refine lv_iload_n hx hb dX5_plan_42 rfl (lv_at hl 3 rfl) ?_
      refine lv_iload_n hx hb dX5_plan_43 rfl (lv_at hl 4 rfl) ?_
      refine lv_iload hx hb dX5_plan_44 (lv_at hl 5 rfl) ?_
      refine lv_aload_n hx hb dX5_plan_46 rfl (lv_at hl 1 rfl) ?_
      refine gX0_1 C0 hP q146 dX5_plan_47 ?_
      refine gX2_1 (v := (si 3)) C0 hP rfl q46 dX5_plan_50 ?_
      obtain ⟨r18, hr18, hF⟩ := bd_some hF
      refine kcV (As := [.int a1, .int a2, .int a3, .int a4, .int (si 3)]) (rest := []) C0 hA hP hD hS (c_X5_takeNumbers l D cA ad (upd si 1 (0 : Int32)) sa a1 a2 a3 a4 (si 3) r18 hr18) lk_X5_takeNumbers q292 s10 q290 0 5 rfl rfl hl.1 rfl rfl (Nat.le_of_ble_eq_true rfl) ⟨Nat.le_of_ble_eq_true rfl, Nat.le_of_ble_eq_true rfl⟩ ⟨Nat.le_refl _, Nat.le_refl _⟩ dX5_plan_53 (fun H locs hP hD hS => ?_)
      refine W.eq (g2 := F0 m 56 ls [.int r18.1]) rfl ?_
      refine lv_istore (lv' := [(6, .int r18.1), (0, .ref (ad 0)), (1, .int a1), (2, .int a2), (3, .int a3), (4, .int a4), (5, .int a5)]) hx hb dX5_plan_56 hl (by decide) rfl (fun ls hl => ?_)
      have hF := Option.some.inj hF
      subst hF
      exact Jx4 _ _ _ hP hD hS (lv_sub hl [0, 1, 5, 6] rfl)
  refine lv_if_eq (tgt := 23) hx hb dX5_plan_9 (by decide) (fun c19 => ?_) (fun c19 => ?_)
  · have hF := (if_pos c19).symm.trans hF
    exact Jx2 _ _ _ hF hP hD hS (lv_sub hl [0, 1, 2, 3, 4, 5] rfl)
  · have hF := (if_neg c19).symm.trans hF
    refine lv_iload hx hb dX5_plan_12 (lv_at hl 5 rfl) ?_
    obtain ⟨r20, hr20, hF⟩ := bd_some hF
    refine kcS (As := [.int a5]) (rest := []) C0 hA hP hD hS (c_X5_isOfPlans l D cA ad (upd si 1 (0 : Int32)) sa a5 r20 hr20) lk_X5_isOfPlans q280 q279 hl.1 rfl rfl (Nat.le_of_ble_eq_true rfl) ⟨Nat.le_of_ble_eq_true rfl, Nat.le_of_ble_eq_true rfl⟩ ⟨Nat.le_refl _, Nat.le_refl _⟩ dX5_plan_14 (fun H locs hP hD hS => ?_)
    refine W.eq (g2 := F0 m 17 ls [.int r20]) rfl ?_
    refine lv_if_ne (tgt := 23) hx hb dX5_plan_17 (by decide) (fun c21 => ?_) (fun c21 => ?_)
    · have hF := (if_neg c21).symm.trans hF
      exact Jx2 _ _ _ hF hP hD hS (lv_sub hl [0, 1, 2, 3, 4, 5] rfl)
    · have hF := (if_pos c21).symm.trans hF
      refine lv_bipush (v := (-2 : Int32)) hx hb dX5_plan_20 (by decide) ?_
      have hF := Option.some.inj hF
      subst hF
      exact hE _ _ _ _ _ hP hD hS dX5_plan_22 rfl rfl
theorem lk_X0_firstShort : LK yX0_firstShort cX0_firstShort 6 (some .int) 2 := ⟨q350, q3, by decide +kernel⟩
def S_X0_firstShort_r6_13 (t1 : Int32) (sa : tSA) (rec4 : ((Int32 × Int32) → Option Int32)) (t4 : (Int32 × Int32)) : Option Int32 :=
  (if t1 ≤ t4.1 then some t4.2 else ld t4.1 60 (ld t1 60 ((if ((sa 0) (Int32.toNatClampNeg t4.1)) = ((sa 0) (Int32.toNatClampNeg t1)) then rec4 ((t4.1 + 1), (t4.2 + (1 : Int32))) else rec4 ((t4.1 + 1), (t4.2 + (0 : Int32)))))))
def S_X0_firstShort_r6_2 (a2 : Int32) (sa : tSA) (rec1 : (Int32 → Option (Int32 ⊕ Unit))) (t1 : Int32) : Option (Int32 ⊕ Unit) :=
  (if a2 ≤ t1 then some (.inr ()) else (lp (S_X0_firstShort_r6_13 t1 sa) 100 ((0 : Int32), (0 : Int32))).bind fun (e5 : Int32) => ld t1 60 (ld ((sa 0) (Int32.toNatClampNeg t1)) 6 ((if e5 < ((sa 5) (Int32.toNatClampNeg ((sa 0) (Int32.toNatClampNeg t1)))) then rec1 (t1 + 1) else some (.inl t1)))))
def F_X0_firstShort_r6 (a2 : Int32) (si : tSI) (sa : tSA) : Option Int32 :=
  (lp (S_X0_firstShort_r6_2 a2 sa) 100 (0 : Int32)).bind (Sum.elim some fun (e2 : Unit) => some (-9 : Int32))
set_option maxHeartbeats 4000000 in
set_option maxRecDepth 100000 in
theorem c_X0_firstShort_r6 (l : Launch) (D : va_G) (cA : ClassId) (ad : Nat → Nat) (si : tSI) (sa : tSA) (a2 : Int32) (o : Int32) (hF : F_X0_firstShort_r6 a2 si sa = some o) : CG l yX0_firstShort cX0_firstShort 6 (some .int) 0 0 D cA [.ref (ad 2), .ref (ad 6), .int a2] (WX cA ad si sa) (WX cA ad si sa) (some (.int o)) := by
  refine CG.ofi (by decide) (Nat.le_of_ble_eq_true rfl) ?_
  intro p ee s m args below meth c A Q H0 ls C0 hA hP hD hS hl hE
  have hl : lv_has ls 6 [(0, .ref (ad 2)), (1, .ref (ad 6)), (2, .int a2)] := hl
  obtain ⟨hx, hb, hml, hown, ht, hK⟩ := id C0
  unfold F_X0_firstShort_r6 at hF
  refine lv_iconst (v := (0 : Int32)) hx hb dX0_firstShort_0 (by decide) ?_
  refine lv_istore_n (lv' := [(3, .int (0 : Int32)), (0, .ref (ad 2)), (1, .ref (ad 6)), (2, .int a2)]) hx hb dX0_firstShort_1 rfl hl (by decide) rfl (fun ls hl => ?_)
  obtain ⟨ox1, hL1, hI1, hX1⟩ := bds_all hF
  have JE1 : ∀ (e2 : Unit), ox1 = .inr e2 → ∀ (H : Heap) (locs : List Loc) (ls : Array Slot), va_P D vwCl (WX cA ad si sa) H → va_D A (WX cA ad si sa) → va_S A H0 H locs → lv_has ls 6 [] → W p l ee (rmx 0 0) s m args below meth c H locs 0 0 Q (F0 m 66 ls []) := by
    intro e2 he H locs ls hP hD hS hl
    have hF := hX1 _ he
    refine lv_bipush (v := (-9 : Int32)) hx hb dX0_firstShort_66 (by decide) ?_
    have hF := Option.some.inj hF
    exact hE _ _ _ _ _ hP hD hS dX0_firstShort_68 rfl hF
  have LP1 : ∀ (k1 : Nat) (t1 : Int32), lp (S_X0_firstShort_r6_2 a2 sa) k1 t1 = some ox1 → ∀ (H : Heap) (locs : List Loc) (ls : Array Slot), va_P D vwCl (WX cA ad si sa) H → va_D A (WX cA ad si sa) → va_S A H0 H locs → lv_has ls 6 [(3, .int t1), (0, .ref (ad 2)), (1, .ref (ad 6)), (2, .int a2)] → W p l ee (rmx 0 0) s m args below meth c H locs 0 0 Q (F0 m 2 ls []) := by
    intro k1
    induction k1 with
    | zero => intro t1 hF; exact (lp_no hF).elim
    | succ k1 ih1 =>
      intro t1 hF H locs ls hP hD hS hl
      change (S_X0_firstShort_r6_2 a2 sa) (lp (S_X0_firstShort_r6_2 a2 sa) k1) t1 = some ox1 at hF
      unfold S_X0_firstShort_r6_2 at hF
      refine lv_iload_n hx hb dX0_firstShort_2 rfl (lv_at hl 0 rfl) ?_
      refine lv_iload_n hx hb dX0_firstShort_3 rfl (lv_at hl 3 rfl) ?_
      refine lv_icmp_ge (tgt := 66) hx hb dX0_firstShort_4 (by decide) (fun c3 => ?_) (fun c3 => ?_)
      · have hF := (if_pos c3).symm.trans hF
        exact JE1 _ (Option.some.inj hF).symm _ _ _ hP hD hS (lv_sub hl [] rfl)
      · have hF := (if_neg c3).symm.trans hF
        refine lv_iconst (v := (0 : Int32)) hx hb dX0_firstShort_7 (by decide) ?_
        refine lv_istore (lv' := [(4, .int (0 : Int32)), (3, .int t1), (0, .ref (ad 2)), (1, .ref (ad 6)), (2, .int a2)]) hx hb dX0_firstShort_8 hl (by decide) rfl (fun ls hl => ?_)
        refine lv_iconst (v := (0 : Int32)) hx hb dX0_firstShort_10 (by decide) ?_
        refine lv_istore (lv' := [(5, .int (0 : Int32)), (4, .int (0 : Int32)), (3, .int t1), (0, .ref (ad 2)), (1, .ref (ad 6)), (2, .int a2)]) hx hb dX0_firstShort_11 hl (by decide) rfl (fun ls hl => ?_)
        obtain ⟨ox4, hL4, hX4⟩ := bd_all hF
        have JE4 : ∀ (e5 : Int32), ox4 = e5 → ∀ (H : Heap) (locs : List Loc) (ls : Array Slot), va_P D vwCl (WX cA ad si sa) H → va_D A (WX cA ad si sa) → va_S A H0 H locs → lv_has ls 6 [(4, .int e5), (3, .int t1), (0, .ref (ad 2)), (1, .ref (ad 6)), (2, .int a2)] → W p l ee (rmx 0 0) s m args below meth c H locs 0 0 Q (F0 m 45 ls []) := by
          intro e5 he H locs ls hP hD hS hl
          have hF := hX4 _ he
          refine lv_iload hx hb dX0_firstShort_45 (lv_at hl 0 rfl) ?_
          refine lv_aload_n hx hb dX0_firstShort_47 rfl (lv_at hl 2 rfl) ?_
          refine gX2_4 C0 hP q51 dX0_firstShort_48 ?_
          refine lv_aload_n hx hb dX0_firstShort_51 rfl (lv_at hl 3 rfl) ?_
          refine lv_iload_n hx hb dX0_firstShort_52 rfl (lv_at hl 1 rfl) ?_
          obtain ⟨hin, hF⟩ := ld_some hF
          refine aXl0 (f := (sa 0)) C0 hP rfl hin dX0_firstShort_53 ?_
          obtain ⟨hin, hF⟩ := ld_some hF
          refine aXl5 (f := (sa 5)) C0 hP rfl hin dX0_firstShort_54 ?_
          refine lv_icmp_lt (tgt := 60) hx hb dX0_firstShort_55 (by decide) (fun c6 => ?_) (fun c6 => ?_)
          · have hF := (if_pos c6).symm.trans hF
            refine lv_iinc (v := (t1 + 1)) (lv' := [(3, .int (t1 + 1)), (4, .int e5), (0, .ref (ad 2)), (1, .ref (ad 6)), (2, .int a2)]) hx hb dX0_firstShort_60 hl (k := 1) rfl rfl (by decide) rfl (fun ls hl => ?_)
            refine lv_goto (tgt := 2) hx hb dX0_firstShort_63 (by decide) ?_
            exact ih1 _ hF _ _ _ hP hD hS (lv_sub hl [0, 2, 3, 4] rfl)
          · have hF := (if_neg c6).symm.trans hF
            refine lv_iload_n hx hb dX0_firstShort_58 rfl (lv_at hl 1 rfl) ?_
            have hF := Option.some.inj hF
            subst hF
            have hF := hI1 _ rfl
            exact hE _ _ _ _ _ hP hD hS dX0_firstShort_59 rfl hF
        have LP4 : ∀ (k4 : Nat) (t4 : (Int32 × Int32)), lp (S_X0_firstShort_r6_13 t1 sa) k4 t4 = some ox4 → ∀ (H : Heap) (locs : List Loc) (ls : Array Slot), va_P D vwCl (WX cA ad si sa) H → va_D A (WX cA ad si sa) → va_S A H0 H locs → lv_has ls 6 [(5, .int t4.1), (4, .int t4.2), (3, .int t1), (0, .ref (ad 2)), (1, .ref (ad 6)), (2, .int a2)] → W p l ee (rmx 0 0) s m args below meth c H locs 0 0 Q (F0 m 13 ls []) := by
          intro k4
          induction k4 with
          | zero => intro t4 hF; exact (lp_no hF).elim
          | succ k4 ih4 =>
            intro t4 hF H locs ls hP hD hS hl
            change (S_X0_firstShort_r6_13 t1 sa) (lp (S_X0_firstShort_r6_13 t1 sa) k4) t4 = some ox4 at hF
            unfold S_X0_firstShort_r6_13 at hF
            refine lv_iload hx hb dX0_firstShort_13 (lv_at hl 0 rfl) ?_
            refine lv_iload_n hx hb dX0_firstShort_15 rfl (lv_at hl 2 rfl) ?_
            refine lv_icmp_ge (tgt := 45) hx hb dX0_firstShort_16 (by decide) (fun c7 => ?_) (fun c7 => ?_)
            · have hF := (if_pos c7).symm.trans hF
              exact JE4 _ (Option.some.inj hF).symm _ _ _ hP hD hS (lv_sub hl [1, 2, 3, 4, 5] rfl)
            · have hF := (if_neg c7).symm.trans hF
              refine lv_iload hx hb dX0_firstShort_19 (lv_at hl 1 rfl) ?_
              refine lv_aload_n hx hb dX0_firstShort_21 rfl (lv_at hl 4 rfl) ?_
              refine lv_iload hx hb dX0_firstShort_22 (lv_at hl 0 rfl) ?_
              obtain ⟨hin, hF⟩ := ld_some hF
              refine aXl0 (f := (sa 0)) C0 hP rfl hin dX0_firstShort_24 ?_
              refine lv_aload_n hx hb dX0_firstShort_25 rfl (lv_at hl 4 rfl) ?_
              refine lv_iload_n hx hb dX0_firstShort_26 rfl (lv_at hl 2 rfl) ?_
              obtain ⟨hin, hF⟩ := ld_some hF
              refine aXl0 (f := (sa 0)) C0 hP rfl hin dX0_firstShort_27 ?_
              refine lv_icmp_ne (tgt := 35) hx hb dX0_firstShort_28 (by decide) (fun c8 => ?_) (fun c8 => ?_)
              · have hF := (if_neg c8).symm.trans hF
                refine lv_iconst (v := (0 : Int32)) hx hb dX0_firstShort_35 (by decide) ?_
                refine lv_iadd hx hb dX0_firstShort_36 ?_
                refine lv_istore (lv' := [(4, .int (t4.2 + (0 : Int32))), (5, .int t4.1), (3, .int t1), (0, .ref (ad 2)), (1, .ref (ad 6)), (2, .int a2)]) hx hb dX0_firstShort_37 hl (by decide) rfl (fun ls hl => ?_)
                refine lv_iinc (v := (t4.1 + 1)) (lv' := [(5, .int (t4.1 + 1)), (4, .int (t4.2 + (0 : Int32))), (3, .int t1), (0, .ref (ad 2)), (1, .ref (ad 6)), (2, .int a2)]) hx hb dX0_firstShort_39 hl (k := 1) rfl rfl (by decide) rfl (fun ls hl => ?_)
                refine lv_goto (tgt := 13) hx hb dX0_firstShort_42 (by decide) ?_
                exact ih4 _ hF _ _ _ hP hD hS (lv_sub hl [0, 1, 2, 3, 4, 5] rfl)
              · have hF := (if_pos c8).symm.trans hF
                refine lv_iconst (v := (1 : Int32)) hx hb dX0_firstShort_31 (by decide) ?_
                refine lv_goto (tgt := 36) hx hb dX0_firstShort_32 (by decide) ?_
                refine lv_iadd hx hb dX0_firstShort_36 ?_
                refine lv_istore (lv' := [(4, .int (t4.2 + (1 : Int32))), (5, .int t4.1), (3, .int t1), (0, .ref (ad 2)), (1, .ref (ad 6)), (2, .int a2)]) hx hb dX0_firstShort_37 hl (by decide) rfl (fun ls hl => ?_)
                refine lv_iinc (v := (t4.1 + 1)) (lv' := [(5, .int (t4.1 + 1)), (4, .int (t4.2 + (1 : Int32))), (3, .int t1), (0, .ref (ad 2)), (1, .ref (ad 6)), (2, .int a2)]) hx hb dX0_firstShort_39 hl (k := 1) rfl rfl (by decide) rfl (fun ls hl => ?_)
                refine lv_goto (tgt := 13) hx hb dX0_firstShort_42 (by decide) ?_
                exact ih4 _ hF _ _ _ hP hD hS (lv_sub hl [0, 1, 2, 3, 4, 5] rfl)
        exact LP4 _ _ hL4 _ _ _ hP hD hS (lv_sub hl [0, 1, 2, 3, 4, 5] rfl)
  exact LP1 _ _ hL1 _ _ _ hP hD hS (lv_sub hl [0, 1, 2, 3] rfl)
theorem lk_X5_line : LK yX5_line cX5_line 6 (some .int) 4 := ⟨q346, q1, by decide +kernel⟩
def F_X5_line (a1 : Int32) (a2 : Int32) (a3 : Int32) (a4 : Int32) (si : tSI) (sa : tSA) : Option (Int32 × tSI × tSA) :=
  (F_X5_refusalOfRow a1 a2 a4 (60 : Int32) (upd si 1 (0 : Int32)) sa).bind fun r1 => ((if r1 = 0 then (F_X5_takeNumbers a1 a2 a3 a4 (si 2) (upd si 1 (0 : Int32)) sa).bind fun r6 => some (r6.1, r6.2.1, r6.2.2) else some (r1, (upd si 1 (0 : Int32)), sa))).bind fun (x2 : (Int32 × tSI × tSA)) => (if x2.1 = 0 then (F_X0_firstShort_r6 a4 x2.2.1 x2.2.2).bind fun r4 => some (r4, x2.2.1, x2.2.2) else some (x2.1, x2.2.1, x2.2.2))
set_option maxHeartbeats 4000000 in
set_option maxRecDepth 100000 in
theorem c_X5_line (l : Launch) (D : va_G) (cA : ClassId) (ad : Nat → Nat) (si : tSI) (sa : tSA) (a1 : Int32) (a2 : Int32) (a3 : Int32) (a4 : Int32) (o : (Int32 × tSI × tSA)) (hF : F_X5_line a1 a2 a3 a4 si sa = some o) : CG l yX5_line cX5_line 6 (some .int) 3 111 D cA [.ref (ad 0), .int a1, .int a2, .int a3, .int a4] (WX cA ad si sa) (WX cA ad o.2.1 o.2.2) (some (.int o.1)) := by
  refine CG.ofi (by decide) (Nat.le_of_ble_eq_true rfl) ?_
  intro p ee s m args below meth c A Q H0 ls C0 hA hP hD hS hl hE
  have hl : lv_has ls 6 [(0, .ref (ad 0)), (1, .int a1), (2, .int a2), (3, .int a3), (4, .int a4)] := hl
  obtain ⟨hx, hb, hml, hown, ht, hK⟩ := id C0
  unfold F_X5_line at hF
  refine lv_aload_n hx hb dX5_line_0 rfl (lv_at hl 0 rfl) ?_
  refine lv_iconst (v := (0 : Int32)) hx hb dX5_line_1 (by decide) ?_
  refine pX0_7 C0 hP hD hS q152 dX5_line_2 (fun H locs hP hD hS => ?_)
  refine lv_aload_n hx hb dX5_line_5 rfl (lv_at hl 0 rfl) ?_
  refine lv_iload_n hx hb dX5_line_6 rfl (lv_at hl 1 rfl) ?_
  refine lv_iload_n hx hb dX5_line_7 rfl (lv_at hl 2 rfl) ?_
  refine lv_iload hx hb dX5_line_8 (lv_at hl 4 rfl) ?_
  refine lv_bipush (v := (60 : Int32)) hx hb dX5_line_10 (by decide) ?_
  obtain ⟨r1, hr1, hF⟩ := bd_some hF
  refine kcV (As := [.int a1, .int a2, .int a4, .int (60 : Int32)]) (rest := []) C0 hA hP hD hS (c_X5_refusalOfRow l D cA ad (upd si 1 (0 : Int32)) sa a1 a2 a4 (60 : Int32) r1 hr1) lk_X5_refusalOfRow q284 s9 q282 0 5 rfl rfl hl.1 rfl rfl (Nat.le_of_ble_eq_true rfl) ⟨Nat.le_of_ble_eq_true rfl, Nat.le_of_ble_eq_true rfl⟩ ⟨Nat.le_refl _, Nat.le_refl _⟩ dX5_line_12 (fun H locs hP hD hS => ?_)
  refine W.eq (g2 := F0 m 15 ls [.int r1]) rfl ?_
  refine lv_istore (lv' := [(5, .int r1), (0, .ref (ad 0)), (1, .int a1), (2, .int a2), (3, .int a3), (4, .int a4)]) hx hb dX5_line_15 hl (by decide) rfl (fun ls hl => ?_)
  refine lv_iload hx hb dX5_line_17 (lv_at hl 0 rfl) ?_
  obtain ⟨x2, hRx2, hF⟩ := bd_some hF
  have Jx2 : ∀ (H : Heap) (locs : List Loc) (ls : Array Slot), va_P D vwCl (WX cA ad x2.2.1 x2.2.2) H → va_D A (WX cA ad x2.2.1 x2.2.2) → va_S A H0 H locs → lv_has ls 6 [(5, .int x2.1), (0, .ref (ad 0)), (4, .int a4)] → W p l ee (rmx 3 111) s m args below meth c H locs 0 0 Q (F0 m 40 ls []) := by
    intro H locs ls hP hD hS hl
    refine lv_iload hx hb dX5_line_40 (lv_at hl 0 rfl) ?_
    refine lv_if_ne (tgt := 61) hx hb dX5_line_42 (by decide) (fun c3 => ?_) (fun c3 => ?_)
    · have hF := (if_neg c3).symm.trans hF
      refine lv_iload hx hb dX5_line_61 (lv_at hl 0 rfl) ?_
      have hF := Option.some.inj hF
      subst hF
      exact hE _ _ _ _ _ hP hD hS dX5_line_63 rfl rfl
    · have hF := (if_pos c3).symm.trans hF
      refine lv_aload_n hx hb dX5_line_45 rfl (lv_at hl 1 rfl) ?_
      refine gX0_1 C0 hP q146 dX5_line_46 ?_
      refine lv_aload_n hx hb dX5_line_49 rfl (lv_at hl 1 rfl) ?_
      refine gX0_5 C0 hP q150 dX5_line_50 ?_
      refine lv_iload hx hb dX5_line_53 (lv_at hl 2 rfl) ?_
      obtain ⟨r4, hr4, hF⟩ := bd_some hF
      refine kcV (As := [.ref (ad 6), .int a4]) (rest := []) C0 hA hP hD hS (c_X0_firstShort_r6 l D cA ad x2.2.1 x2.2.2 a4 r4 hr4) lk_X0_firstShort q348 q349 q347 2 0 rfl rfl hl.1 rfl rfl (Nat.le_of_ble_eq_true rfl) ⟨Nat.le_of_ble_eq_true rfl, Nat.le_of_ble_eq_true rfl⟩ ⟨Nat.le_refl _, Nat.le_refl _⟩ dX5_line_55 (fun H locs hP hD hS => ?_)
      refine W.eq (g2 := F0 m 58 ls [.int r4]) rfl ?_
      refine lv_goto (tgt := 63) hx hb dX5_line_58 (by decide) ?_
      have hF := Option.some.inj hF
      subst hF
      exact hE _ _ _ _ _ hP hD hS dX5_line_63 rfl rfl
  have hF := hRx2
  refine lv_if_ne (tgt := 40) hx hb dX5_line_19 (by decide) (fun c5 => ?_) (fun c5 => ?_)
  · have hF := (if_neg c5).symm.trans hF
    have hF := Option.some.inj hF
    subst hF
    exact Jx2 _ _ _ hP hD hS (lv_sub hl [0, 1, 5] rfl)
  · have hF := (if_pos c5).symm.trans hF
    refine lv_aload_n hx hb dX5_line_22 rfl (lv_at hl 1 rfl) ?_
    refine lv_iload_n hx hb dX5_line_23 rfl (lv_at hl 2 rfl) ?_
    refine lv_iload_n hx hb dX5_line_24 rfl (lv_at hl 3 rfl) ?_
    refine lv_iload_n hx hb dX5_line_25 rfl (lv_at hl 4 rfl) ?_
    refine lv_iload hx hb dX5_line_26 (lv_at hl 5 rfl) ?_
    refine lv_aload_n hx hb dX5_line_28 rfl (lv_at hl 1 rfl) ?_
    refine gX0_1 C0 hP q146 dX5_line_29 ?_
    refine gX2_0 (v := (si 2)) C0 hP rfl q43 dX5_line_32 ?_
    obtain ⟨r6, hr6, hF⟩ := bd_some hF
    refine kcV (As := [.int a1, .int a2, .int a3, .int a4, .int (si 2)]) (rest := []) C0 hA hP hD hS (c_X5_takeNumbers l D cA ad (upd si 1 (0 : Int32)) sa a1 a2 a3 a4 (si 2) r6 hr6) lk_X5_takeNumbers q292 s10 q290 0 5 rfl rfl hl.1 rfl rfl (Nat.le_of_ble_eq_true rfl) ⟨Nat.le_of_ble_eq_true rfl, Nat.le_of_ble_eq_true rfl⟩ ⟨Nat.le_refl _, Nat.le_refl _⟩ dX5_line_35 (fun H locs hP hD hS => ?_)
    refine W.eq (g2 := F0 m 38 ls [.int r6.1]) rfl ?_
    refine lv_istore (lv' := [(5, .int r6.1), (0, .ref (ad 0)), (1, .int a1), (2, .int a2), (3, .int a3), (4, .int a4)]) hx hb dX5_line_38 hl (by decide) rfl (fun ls hl => ?_)
    have hF := Option.some.inj hF
    subst hF
    exact Jx2 _ _ _ hP hD hS (lv_sub hl [0, 1, 5] rfl)
theorem lk_X0_isSet : LK yX0_isSet cX0_isSet 2 (some .boolean) 1 := ⟨q358, q3, by decide +kernel⟩
def F_X0_isSet (a1 : Int32) (si : tSI) (sa : tSA) : Option Int32 :=
  (if a1 < 0 then some (0 : Int32) else (F_X0_everySort si sa).bind fun r2 => (if r2 < a1 then some (0 : Int32) else some (1 : Int32)))
set_option maxHeartbeats 4000000 in
set_option maxRecDepth 100000 in
theorem c_X0_isSet (l : Launch) (D : va_G) (cA : ClassId) (ad : Nat → Nat) (si : tSI) (sa : tSA) (a1 : Int32) (o : Int32) (hF : F_X0_isSet a1 si sa = some o) : CG l yX0_isSet cX0_isSet 2 (some .boolean) 1 20 D cA [.ref (ad 2), .int a1] (WX cA ad si sa) (WX cA ad si sa) (some (.int o)) := by
  refine CG.ofi (by decide) (Nat.le_of_ble_eq_true rfl) ?_
  intro p ee s m args below meth c A Q H0 ls C0 hA hP hD hS hl hE
  have hl : lv_has ls 2 [(0, .ref (ad 2)), (1, .int a1)] := hl
  obtain ⟨hx, hb, hml, hown, ht, hK⟩ := id C0
  unfold F_X0_isSet at hF
  refine lv_iload_n hx hb dX0_isSet_0 rfl (lv_at hl 1 rfl) ?_
  refine lv_if_lt (tgt := 16) hx hb dX0_isSet_1 (by decide) (fun c1 => ?_) (fun c1 => ?_)
  · have hF := (if_pos c1).symm.trans hF
    refine lv_iconst (v := (0 : Int32)) hx hb dX0_isSet_16 (by decide) ?_
    have hF := Option.some.inj hF
    exact hE _ _ _ _ _ hP hD hS dX0_isSet_17 rfl hF
  · have hF := (if_neg c1).symm.trans hF
    refine lv_iload_n hx hb dX0_isSet_4 rfl (lv_at hl 1 rfl) ?_
    refine lv_aload_n hx hb dX0_isSet_5 rfl (lv_at hl 0 rfl) ?_
    obtain ⟨r2, hr2, hF⟩ := bd_some hF
    refine kcV (As := []) (rest := [.int a1]) C0 hA hP hD hS (c_X0_everySort l D cA ad si sa r2 hr2) lk_X0_everySort q244 q245 q243 2 0 rfl rfl hl.1 rfl rfl (Nat.le_of_ble_eq_true rfl) ⟨Nat.le_of_ble_eq_true rfl, Nat.le_of_ble_eq_true rfl⟩ ⟨Nat.le_refl _, Nat.le_refl _⟩ dX0_isSet_6 (fun H locs hP hD hS => ?_)
    refine W.eq (g2 := F0 m 9 ls [.int r2, .int a1]) rfl ?_
    refine lv_icmp_gt (tgt := 16) hx hb dX0_isSet_9 (by decide) (fun c3 => ?_) (fun c3 => ?_)
    · have hF := (if_pos c3).symm.trans hF
      refine lv_iconst (v := (0 : Int32)) hx hb dX0_isSet_16 (by decide) ?_
      have hF := Option.some.inj hF
      exact hE _ _ _ _ _ hP hD hS dX0_isSet_17 rfl hF
    · have hF := (if_neg c3).symm.trans hF
      refine lv_iconst (v := (1 : Int32)) hx hb dX0_isSet_12 (by decide) ?_
      refine lv_goto (tgt := 17) hx hb dX0_isSet_13 (by decide) ?_
      have hF := Option.some.inj hF
      exact hE _ _ _ _ _ hP hD hS dX0_isSet_17 rfl hF
theorem lk_X4_allReadyBehind : LK yX4_allReadyBehind cX4_allReadyBehind 4 (some .int) 1 := ⟨q362, q5, by decide +kernel⟩
def S_X4_allReadyBehind_4 (a1 : Int32) (sa : tSA) (rec1 : ((Int32 × Int32) → Option (Int32 ⊕ Int32))) (t1 : (Int32 × Int32)) : Option (Int32 ⊕ Int32) :=
  (if (6 : Int32) ≤ t1.1 then some (.inr t1.2) else (F_X5_holds a1 t1.1).bind fun r4 => (if r4 = 0 then rec1 ((t1.1 + 1), t1.2) else ld t1.1 6 ((if ((sa 12) (Int32.toNatClampNeg t1.1)) = (-9 : Int32) then some (.inl (-9 : Int32)) else ld t1.1 6 (rec1 ((t1.1 + 1), (if t1.2 < ((sa 12) (Int32.toNatClampNeg t1.1)) then ((sa 12) (Int32.toNatClampNeg t1.1)) else t1.2)))))))
def F_X4_allReadyBehind (a1 : Int32) (si : tSI) (sa : tSA) : Option Int32 :=
  (lp (S_X4_allReadyBehind_4 a1 sa) 100 ((0 : Int32), (0 : Int32))).bind (Sum.elim some fun (e2 : Int32) => some e2)
set_option maxHeartbeats 4000000 in
set_option maxRecDepth 100000 in
theorem c_X4_allReadyBehind (l : Launch) (D : va_G) (cA : ClassId) (ad : Nat → Nat) (si : tSI) (sa : tSA) (a1 : Int32) (o : Int32) (hF : F_X4_allReadyBehind a1 si sa = some o) : CG l yX4_allReadyBehind cX4_allReadyBehind 4 (some .int) 1 40 D cA [.ref (ad 4), .int a1] (WX cA ad si sa) (WX cA ad si sa) (some (.int o)) := by
  refine CG.ofi (by decide) (Nat.le_of_ble_eq_true rfl) ?_
  intro p ee s m args below meth c A Q H0 ls C0 hA hP hD hS hl hE
  have hl : lv_has ls 4 [(0, .ref (ad 4)), (1, .int a1)] := hl
  obtain ⟨hx, hb, hml, hown, ht, hK⟩ := id C0
  unfold F_X4_allReadyBehind at hF
  refine lv_iconst (v := (0 : Int32)) hx hb dX4_allReadyBehind_0 (by decide) ?_
  refine lv_istore_n (lv' := [(2, .int (0 : Int32)), (0, .ref (ad 4)), (1, .int a1)]) hx hb dX4_allReadyBehind_1 rfl hl (by decide) rfl (fun ls hl => ?_)
  refine lv_iconst (v := (0 : Int32)) hx hb dX4_allReadyBehind_2 (by decide) ?_
  refine lv_istore_n (lv' := [(3, .int (0 : Int32)), (2, .int (0 : Int32)), (0, .ref (ad 4)), (1, .int a1)]) hx hb dX4_allReadyBehind_3 rfl hl (by decide) rfl (fun ls hl => ?_)
  obtain ⟨ox1, hL1, hI1, hX1⟩ := bds_all hF
  have JE1 : ∀ (e2 : Int32), ox1 = .inr e2 → ∀ (H : Heap) (locs : List Loc) (ls : Array Slot), va_P D vwCl (WX cA ad si sa) H → va_D A (WX cA ad si sa) → va_S A H0 H locs → lv_has ls 4 [(2, .int e2)] → W p l ee (rmx 1 40) s m args below meth c H locs 0 0 Q (F0 m 49 ls []) := by
    intro e2 he H locs ls hP hD hS hl
    have hF := hX1 _ he
    refine lv_iload_n hx hb dX4_allReadyBehind_49 rfl (lv_at hl 0 rfl) ?_
    have hF := Option.some.inj hF
    exact hE _ _ _ _ _ hP hD hS dX4_allReadyBehind_50 rfl hF
  have LP1 : ∀ (k1 : Nat) (t1 : (Int32 × Int32)), lp (S_X4_allReadyBehind_4 a1 sa) k1 t1 = some ox1 → ∀ (H : Heap) (locs : List Loc) (ls : Array Slot), va_P D vwCl (WX cA ad si sa) H → va_D A (WX cA ad si sa) → va_S A H0 H locs → lv_has ls 4 [(3, .int t1.1), (2, .int t1.2), (0, .ref (ad 4)), (1, .int a1)] → W p l ee (rmx 1 40) s m args below meth c H locs 0 0 Q (F0 m 4 ls []) := by
    intro k1
    induction k1 with
    | zero => intro t1 hF; exact (lp_no hF).elim
    | succ k1 ih1 =>
      intro t1 hF H locs ls hP hD hS hl
      change (S_X4_allReadyBehind_4 a1 sa) (lp (S_X4_allReadyBehind_4 a1 sa) k1) t1 = some ox1 at hF
      unfold S_X4_allReadyBehind_4 at hF
      refine lv_iload_n hx hb dX4_allReadyBehind_4 rfl (lv_at hl 0 rfl) ?_
      refine lv_bipush (v := (6 : Int32)) hx hb dX4_allReadyBehind_5 (by decide) ?_
      refine lv_icmp_ge (tgt := 49) hx hb dX4_allReadyBehind_7 (by decide) (fun c3 => ?_) (fun c3 => ?_)
      · have hF := (if_pos c3).symm.trans hF
        exact JE1 _ (Option.some.inj hF).symm _ _ _ hP hD hS (lv_sub hl [1] rfl)
      · have hF := (if_neg c3).symm.trans hF
        refine lv_iload_n hx hb dX4_allReadyBehind_10 rfl (lv_at hl 3 rfl) ?_
        refine lv_iload_n hx hb dX4_allReadyBehind_11 rfl (lv_at hl 0 rfl) ?_
        obtain ⟨r4, hr4, hF⟩ := bd_some hF
        refine kcSN (As := [.int a1, .int t1.1]) (rest := []) C0 hA hP hD hS (c_X5_holds l D cA ad si sa a1 t1.1 r4 hr4) lk_X5_holds q311 (List.mem_of_getElem? (i := 7) rfl) hl.1 rfl rfl (Nat.le_of_ble_eq_true rfl) ⟨Nat.le_of_ble_eq_true rfl, Nat.le_of_ble_eq_true rfl⟩ ⟨Nat.le_refl _, Nat.le_refl _⟩ dX4_allReadyBehind_12 (fun H locs hP hD hS => ?_)
        refine W.eq (g2 := F0 m 15 ls [.int r4]) rfl ?_
        refine lv_if_eq (tgt := 43) hx hb dX4_allReadyBehind_15 (by decide) (fun c5 => ?_) (fun c5 => ?_)
        · have hF := (if_pos c5).symm.trans hF
          refine lv_iinc (v := (t1.1 + 1)) (lv' := [(3, .int (t1.1 + 1)), (2, .int t1.2), (0, .ref (ad 4)), (1, .int a1)]) hx hb dX4_allReadyBehind_43 hl (k := 0) rfl rfl (by decide) rfl (fun ls hl => ?_)
          refine lv_goto (tgt := 4) hx hb dX4_allReadyBehind_46 (by decide) ?_
          exact ih1 _ hF _ _ _ hP hD hS (lv_sub hl [0, 1, 2, 3] rfl)
        · have hF := (if_neg c5).symm.trans hF
          refine lv_aload_n hx hb dX4_allReadyBehind_18 rfl (lv_at hl 2 rfl) ?_
          refine gX4_3 C0 hP q121 dX4_allReadyBehind_19 ?_
          refine lv_iload_n hx hb dX4_allReadyBehind_22 rfl (lv_at hl 0 rfl) ?_
          obtain ⟨hin, hF⟩ := ld_some hF
          refine aXl12 (f := (sa 12)) C0 hP rfl hin dX4_allReadyBehind_23 ?_
          refine lv_bipush (v := (-9 : Int32)) hx hb dX4_allReadyBehind_24 (by decide) ?_
          refine lv_icmp_ne (tgt := 32) hx hb dX4_allReadyBehind_26 (by decide) (fun c6 => ?_) (fun c6 => ?_)
          · have hF := (if_neg c6).symm.trans hF
            refine lv_iload_n hx hb dX4_allReadyBehind_32 rfl (lv_at hl 1 rfl) ?_
            refine lv_aload_n hx hb dX4_allReadyBehind_33 rfl (lv_at hl 2 rfl) ?_
            refine gX4_3 C0 hP q121 dX4_allReadyBehind_34 ?_
            refine lv_iload_n hx hb dX4_allReadyBehind_37 rfl (lv_at hl 0 rfl) ?_
            obtain ⟨hin, hF⟩ := ld_some hF
            refine aXl12 (f := (sa 12)) C0 hP rfl hin dX4_allReadyBehind_38 ?_
            refine va_mmax hx hb (hml.trans hl.1.symm) hown (ht _ q363) (ht _ q364) (ht _ q9) (ht _ q365) (Nat.le_of_ble_eq_true rfl) (Nat.le_of_ble_eq_true rfl) (Nat.le_refl _) (Nat.le_refl _) dX4_allReadyBehind_39 ?_
            refine lv_istore_n (lv' := [(2, .int (if t1.2 < ((sa 12) (Int32.toNatClampNeg t1.1)) then ((sa 12) (Int32.toNatClampNeg t1.1)) else t1.2)), (3, .int t1.1), (0, .ref (ad 4)), (1, .int a1)]) hx hb dX4_allReadyBehind_42 rfl hl (by decide) rfl (fun ls hl => ?_)
            refine lv_iinc (v := (t1.1 + 1)) (lv' := [(3, .int (t1.1 + 1)), (2, .int (if t1.2 < ((sa 12) (Int32.toNatClampNeg t1.1)) then ((sa 12) (Int32.toNatClampNeg t1.1)) else t1.2)), (0, .ref (ad 4)), (1, .int a1)]) hx hb dX4_allReadyBehind_43 hl (k := 1) rfl rfl (by decide) rfl (fun ls hl => ?_)
            refine lv_goto (tgt := 4) hx hb dX4_allReadyBehind_46 (by decide) ?_
            exact ih1 _ hF _ _ _ hP hD hS (lv_sub hl [0, 1, 2, 3] rfl)
          · have hF := (if_pos c6).symm.trans hF
            refine lv_bipush (v := (-9 : Int32)) hx hb dX4_allReadyBehind_29 (by decide) ?_
            have hF := Option.some.inj hF
            subst hF
            have hF := hI1 _ rfl
            exact hE _ _ _ _ _ hP hD hS dX4_allReadyBehind_31 rfl hF
  exact LP1 _ _ hL1 _ _ _ hP hD hS (lv_sub hl [0, 1, 2, 3] rfl)
theorem lk_X5_soon : LK yX5_soon cX5_soon 7 (some .int) 5 := ⟨q354, q1, by decide +kernel⟩
def F_X5_soon (a1 : Int32) (a2 : Int32) (a3 : Int32) (a4 : Int32) (a5 : Int32) (si : tSI) (sa : tSA) : Option (Int32 × tSI × tSA) :=
  (F_X5_refusalOfRow a2 a3 a5 (20 : Int32) (upd si 1 (0 : Int32)) sa).bind fun r1 => ((if r1 = 0 then (F_X0_isSet a1 (upd si 1 (0 : Int32)) sa).bind fun r10 => (if r10 = 0 then some (-2 : Int32) else some r1) else some r1)).bind fun (x2 : Int32) => ((if x2 = 0 then (F_X5_takeNumbers a2 a3 a4 a5 (si 3) (upd si 1 (0 : Int32)) sa).bind fun r8 => some (r8.1, r8.2.1, r8.2.2) else some (x2, (upd si 1 (0 : Int32)), sa))).bind fun (x3 : (Int32 × tSI × tSA)) => (if x3.1 = 0 then (F_X4_go_r2_r6 a5 x3.2.1 x3.2.2).bind fun r5 => (F_X4_allReadyBehind a1 r5.1 r5.2).bind fun r6 => some (r6, r5.1, r5.2) else some (x3.1, x3.2.1, x3.2.2))
set_option maxHeartbeats 4000000 in
set_option maxRecDepth 100000 in
theorem c_X5_soon (l : Launch) (D : va_G) (cA : ClassId) (ad : Nat → Nat) (si : tSI) (sa : tSA) (a1 : Int32) (a2 : Int32) (a3 : Int32) (a4 : Int32) (a5 : Int32) (o : (Int32 × tSI × tSA)) (hF : F_X5_soon a1 a2 a3 a4 a5 si sa = some o) : CG l yX5_soon cX5_soon 7 (some .int) 5 117 D cA [.ref (ad 0), .int a1, .int a2, .int a3, .int a4, .int a5] (WX cA ad si sa) (WX cA ad o.2.1 o.2.2) (some (.int o.1)) := by
  refine CG.ofi (by decide) (Nat.le_of_ble_eq_true rfl) ?_
  intro p ee s m args below meth c A Q H0 ls C0 hA hP hD hS hl hE
  have hl : lv_has ls 7 [(0, .ref (ad 0)), (1, .int a1), (2, .int a2), (3, .int a3), (4, .int a4), (5, .int a5)] := hl
  obtain ⟨hx, hb, hml, hown, ht, hK⟩ := id C0
  unfold F_X5_soon at hF
  refine lv_aload_n hx hb dX5_soon_0 rfl (lv_at hl 0 rfl) ?_
  refine lv_iconst (v := (0 : Int32)) hx hb dX5_soon_1 (by decide) ?_
  refine pX0_7 C0 hP hD hS q152 dX5_soon_2 (fun H locs hP hD hS => ?_)
  refine lv_aload_n hx hb dX5_soon_5 rfl (lv_at hl 0 rfl) ?_
  refine lv_iload_n hx hb dX5_soon_6 rfl (lv_at hl 2 rfl) ?_
  refine lv_iload_n hx hb dX5_soon_7 rfl (lv_at hl 3 rfl) ?_
  refine lv_iload hx hb dX5_soon_8 (lv_at hl 5 rfl) ?_
  refine lv_bipush (v := (20 : Int32)) hx hb dX5_soon_10 (by decide) ?_
  obtain ⟨r1, hr1, hF⟩ := bd_some hF
  refine kcV (As := [.int a2, .int a3, .int a5, .int (20 : Int32)]) (rest := []) C0 hA hP hD hS (c_X5_refusalOfRow l D cA ad (upd si 1 (0 : Int32)) sa a2 a3 a5 (20 : Int32) r1 hr1) lk_X5_refusalOfRow q284 s9 q282 0 5 rfl rfl hl.1 rfl rfl (Nat.le_of_ble_eq_true rfl) ⟨Nat.le_of_ble_eq_true rfl, Nat.le_of_ble_eq_true rfl⟩ ⟨Nat.le_refl _, Nat.le_refl _⟩ dX5_soon_12 (fun H locs hP hD hS => ?_)
  refine W.eq (g2 := F0 m 15 ls [.int r1]) rfl ?_
  refine lv_istore (lv' := [(6, .int r1), (0, .ref (ad 0)), (1, .int a1), (2, .int a2), (3, .int a3), (4, .int a4), (5, .int a5)]) hx hb dX5_soon_15 hl (by decide) rfl (fun ls hl => ?_)
  refine lv_iload hx hb dX5_soon_17 (lv_at hl 0 rfl) ?_
  obtain ⟨x2, hRx2, hF⟩ := bd_some hF
  have Jx2 : ∀ (H : Heap) (locs : List Loc) (ls : Array Slot), va_P D vwCl (WX cA ad (upd si 1 (0 : Int32)) sa) H → va_D A (WX cA ad (upd si 1 (0 : Int32)) sa) → va_S A H0 H locs → lv_has ls 7 [(6, .int x2), (0, .ref (ad 0)), (1, .int a1), (2, .int a2), (3, .int a3), (4, .int a4), (5, .int a5)] → W p l ee (rmx 5 117) s m args below meth c H locs 0 0 Q (F0 m 37 ls []) := by
    intro H locs ls hP hD hS hl
    refine lv_iload hx hb dX5_soon_37 (lv_at hl 0 rfl) ?_
    obtain ⟨x3, hRx3, hF⟩ := bd_some hF
    have Jx3 : ∀ (H : Heap) (locs : List Loc) (ls : Array Slot), va_P D vwCl (WX cA ad x3.2.1 x3.2.2) H → va_D A (WX cA ad x3.2.1 x3.2.2) → va_S A H0 H locs → lv_has ls 7 [(6, .int x3.1), (0, .ref (ad 0)), (1, .int a1), (5, .int a5)] → W p l ee (rmx 5 117) s m args below meth c H locs 0 0 Q (F0 m 61 ls []) := by
      intro H locs ls hP hD hS hl
      refine lv_iload hx hb dX5_soon_61 (lv_at hl 0 rfl) ?_
      refine lv_if_eq (tgt := 69) hx hb dX5_soon_63 (by decide) (fun c4 => ?_) (fun c4 => ?_)
      · have hF := (if_pos c4).symm.trans hF
        refine lv_aload_n hx hb dX5_soon_69 rfl (lv_at hl 1 rfl) ?_
        refine gX0_3 C0 hP q148 dX5_soon_70 ?_
        refine lv_aload_n hx hb dX5_soon_73 rfl (lv_at hl 1 rfl) ?_
        refine gX0_1 C0 hP q146 dX5_soon_74 ?_
        refine lv_aload_n hx hb dX5_soon_77 rfl (lv_at hl 1 rfl) ?_
        refine gX0_5 C0 hP q150 dX5_soon_78 ?_
        refine lv_iload hx hb dX5_soon_81 (lv_at hl 3 rfl) ?_
        obtain ⟨r5, hr5, hF⟩ := bd_some hF
        refine kcV (As := [.ref (ad 2), .ref (ad 6), .int a5]) (rest := []) C0 hA hP hD hS (c_X4_go_r2_r6 l D cA ad x3.2.1 x3.2.2 a5 r5 hr5) lk_X4_go q295 q296 q294 4 4 rfl rfl hl.1 rfl rfl (Nat.le_of_ble_eq_true rfl) ⟨Nat.le_of_ble_eq_true rfl, Nat.le_of_ble_eq_true rfl⟩ ⟨Nat.le_refl _, Nat.le_refl _⟩ dX5_soon_83 (fun H locs hP hD hS => ?_)
        refine W.eq (g2 := F0 m 86 ls []) rfl ?_
        refine lv_aload_n hx hb dX5_soon_86 rfl (lv_at hl 1 rfl) ?_
        refine gX0_3 C0 hP q148 dX5_soon_87 ?_
        refine lv_iload_n hx hb dX5_soon_90 rfl (lv_at hl 2 rfl) ?_
        obtain ⟨r6, hr6, hF⟩ := bd_some hF
        refine kcV (As := [.int a1]) (rest := []) C0 hA hP hD hS (c_X4_allReadyBehind l D cA ad r5.1 r5.2 a1 r6 hr6) lk_X4_allReadyBehind q360 q361 q359 4 4 rfl rfl hl.1 rfl rfl (Nat.le_of_ble_eq_true rfl) ⟨Nat.le_of_ble_eq_true rfl, Nat.le_of_ble_eq_true rfl⟩ ⟨Nat.le_refl _, Nat.le_refl _⟩ dX5_soon_91 (fun H locs hP hD hS => ?_)
        refine W.eq (g2 := F0 m 94 ls [.int r6]) rfl ?_
        have hF := Option.some.inj hF
        subst hF
        exact hE _ _ _ _ _ hP hD hS dX5_soon_94 rfl rfl
      · have hF := (if_neg c4).symm.trans hF
        refine lv_iload hx hb dX5_soon_66 (lv_at hl 0 rfl) ?_
        have hF := Option.some.inj hF
        subst hF
        exact hE _ _ _ _ _ hP hD hS dX5_soon_68 rfl rfl
    have hF := hRx3
    refine lv_if_ne (tgt := 61) hx hb dX5_soon_39 (by decide) (fun c7 => ?_) (fun c7 => ?_)
    · have hF := (if_neg c7).symm.trans hF
      have hF := Option.some.inj hF
      subst hF
      exact Jx3 _ _ _ hP hD hS (lv_sub hl [0, 1, 2, 6] rfl)
    · have hF := (if_pos c7).symm.trans hF
      refine lv_aload_n hx hb dX5_soon_42 rfl (lv_at hl 1 rfl) ?_
      refine lv_iload_n hx hb dX5_soon_43 rfl (lv_at hl 3 rfl) ?_
      refine lv_iload_n hx hb dX5_soon_44 rfl (lv_at hl 4 rfl) ?_
      refine lv_iload hx hb dX5_soon_45 (lv_at hl 5 rfl) ?_
      refine lv_iload hx hb dX5_soon_47 (lv_at hl 6 rfl) ?_
      refine lv_aload_n hx hb dX5_soon_49 rfl (lv_at hl 1 rfl) ?_
      refine gX0_1 C0 hP q146 dX5_soon_50 ?_
      refine gX2_1 (v := (si 3)) C0 hP rfl q46 dX5_soon_53 ?_
      obtain ⟨r8, hr8, hF⟩ := bd_some hF
      refine kcV (As := [.int a2, .int a3, .int a4, .int a5, .int (si 3)]) (rest := []) C0 hA hP hD hS (c_X5_takeNumbers l D cA ad (upd si 1 (0 : Int32)) sa a2 a3 a4 a5 (si 3) r8 hr8) lk_X5_takeNumbers q292 s10 q290 0 5 rfl rfl hl.1 rfl rfl (Nat.le_of_ble_eq_true rfl) ⟨Nat.le_of_ble_eq_true rfl, Nat.le_of_ble_eq_true rfl⟩ ⟨Nat.le_refl _, Nat.le_refl _⟩ dX5_soon_56 (fun H locs hP hD hS => ?_)
      refine W.eq (g2 := F0 m 59 ls [.int r8.1]) rfl ?_
      refine lv_istore (lv' := [(6, .int r8.1), (0, .ref (ad 0)), (1, .int a1), (2, .int a2), (3, .int a3), (4, .int a4), (5, .int a5)]) hx hb dX5_soon_59 hl (by decide) rfl (fun ls hl => ?_)
      have hF := Option.some.inj hF
      subst hF
      exact Jx3 _ _ _ hP hD hS (lv_sub hl [0, 1, 2, 6] rfl)
  have hF := hRx2
  refine lv_if_ne (tgt := 37) hx hb dX5_soon_19 (by decide) (fun c9 => ?_) (fun c9 => ?_)
  · have hF := (if_neg c9).symm.trans hF
    have hF := Option.some.inj hF
    subst hF
    exact Jx2 _ _ _ hP hD hS (lv_sub hl [0, 1, 2, 3, 4, 5, 6] rfl)
  · have hF := (if_pos c9).symm.trans hF
    refine lv_aload_n hx hb dX5_soon_22 rfl (lv_at hl 1 rfl) ?_
    refine gX0_1 C0 hP q146 dX5_soon_23 ?_
    refine lv_iload_n hx hb dX5_soon_26 rfl (lv_at hl 2 rfl) ?_
    obtain ⟨r10, hr10, hF⟩ := bd_some hF
    refine kcV (As := [.int a1]) (rest := []) C0 hA hP hD hS (c_X0_isSet l D cA ad (upd si 1 (0 : Int32)) sa a1 r10 hr10) lk_X0_isSet q356 q357 q355 2 0 rfl rfl hl.1 rfl rfl (Nat.le_of_ble_eq_true rfl) ⟨Nat.le_of_ble_eq_true rfl, Nat.le_of_ble_eq_true rfl⟩ ⟨Nat.le_refl _, Nat.le_refl _⟩ dX5_soon_27 (fun H locs hP hD hS => ?_)
    refine W.eq (g2 := F0 m 30 ls [.int r10]) rfl ?_
    refine lv_if_ne (tgt := 37) hx hb dX5_soon_30 (by decide) (fun c11 => ?_) (fun c11 => ?_)
    · have hF := (if_neg c11).symm.trans hF
      have hF := Option.some.inj hF
      subst hF
      exact Jx2 _ _ _ hP hD hS (lv_sub hl [0, 1, 2, 3, 4, 5, 6] rfl)
    · have hF := (if_pos c11).symm.trans hF
      refine lv_bipush (v := (-2 : Int32)) hx hb dX5_soon_33 (by decide) ?_
      refine lv_istore (lv' := [(6, .int (-2 : Int32)), (0, .ref (ad 0)), (1, .int a1), (2, .int a2), (3, .int a3), (4, .int a4), (5, .int a5)]) hx hb dX5_soon_35 hl (by decide) rfl (fun ls hl => ?_)
      have hF := Option.some.inj hF
      subst hF
      exact Jx2 _ _ _ hP hD hS (lv_sub hl [0, 1, 2, 3, 4, 5, 6] rfl)
theorem lk_X1_fewer : LK yX1_fewer cX1_fewer 2 (some .int) 2 := ⟨q382, q6, by decide +kernel⟩
def F_X1_fewer (a1 : Int32) (a2 : Int32) : Option Int32 :=
  (if a1 = (-9 : Int32) then some a2 else (if a2 = (-9 : Int32) then some a1 else some (if a2 < a1 then a2 else a1)))
set_option maxHeartbeats 4000000 in
set_option maxRecDepth 100000 in
theorem c_X1_fewer (l : Launch) (D : va_G) (cA : ClassId) (ad : Nat → Nat) (si : tSI) (sa : tSA) (a1 : Int32) (a2 : Int32) (o : Int32) (hF : F_X1_fewer a1 a2 = some o) : CG l yX1_fewer cX1_fewer 2 (some .int) 1 40 D cA [.int a1, .int a2] (WX cA ad si sa) (WX cA ad si sa) (some (.int o)) := by
  refine CG.ofi (by decide) (Nat.le_of_ble_eq_true rfl) ?_
  intro p ee s m args below meth c A Q H0 ls C0 hA hP hD hS hl hE
  have hl : lv_has ls 2 [(0, .int a1), (1, .int a2)] := hl
  obtain ⟨hx, hb, hml, hown, ht, hK⟩ := id C0
  unfold F_X1_fewer at hF
  refine lv_iload_n hx hb dX1_fewer_0 rfl (lv_at hl 0 rfl) ?_
  refine lv_bipush (v := (-9 : Int32)) hx hb dX1_fewer_1 (by decide) ?_
  refine lv_icmp_ne (tgt := 8) hx hb dX1_fewer_3 (by decide) (fun c1 => ?_) (fun c1 => ?_)
  · have hF := (if_neg c1).symm.trans hF
    refine lv_iload_n hx hb dX1_fewer_8 rfl (lv_at hl 1 rfl) ?_
    refine lv_bipush (v := (-9 : Int32)) hx hb dX1_fewer_9 (by decide) ?_
    refine lv_icmp_ne (tgt := 18) hx hb dX1_fewer_11 (by decide) (fun c2 => ?_) (fun c2 => ?_)
    · have hF := (if_neg c2).symm.trans hF
      refine lv_iload_n hx hb dX1_fewer_18 rfl (lv_at hl 0 rfl) ?_
      refine lv_iload_n hx hb dX1_fewer_19 rfl (lv_at hl 1 rfl) ?_
      refine va_mmin hx hb (hml.trans hl.1.symm) hown (ht _ q383) (ht _ q384) (ht _ q9) (ht _ q385) (Nat.le_of_ble_eq_true rfl) (Nat.le_of_ble_eq_true rfl) (Nat.le_refl _) (Nat.le_refl _) dX1_fewer_20 ?_
      have hF := Option.some.inj hF
      exact hE _ _ _ _ _ hP hD hS dX1_fewer_23 rfl hF
    · have hF := (if_pos c2).symm.trans hF
      refine lv_iload_n hx hb dX1_fewer_14 rfl (lv_at hl 0 rfl) ?_
      refine lv_goto (tgt := 23) hx hb dX1_fewer_15 (by decide) ?_
      have hF := Option.some.inj hF
      exact hE _ _ _ _ _ hP hD hS dX1_fewer_23 rfl hF
  · have hF := (if_pos c1).symm.trans hF
    refine lv_iload_n hx hb dX1_fewer_6 rfl (lv_at hl 1 rfl) ?_
    have hF := Option.some.inj hF
    exact hE _ _ _ _ _ hP hD hS dX1_fewer_7 rfl hF
theorem lk_X1_fewestFrom : LK yX1_fewestFrom cX1_fewestFrom 6 (some .int) 3 := ⟨q378, q6, by decide +kernel⟩
def S_X1_fewestFrom_r2_7 (si : tSI) (a2 : Int32) (sa : tSA) (rec1 : ((Int32 × Int32) → Option Int32)) (t1 : (Int32 × Int32)) : Option Int32 :=
  (if (si 3) ≤ t1.1 then some t1.2 else (F_X5_holds a2 t1.1).bind fun r6 => (if r6 = 0 then ld (a2 ||| ((1 : Int32) <<< (t1.1 &&& 31))) 32 ((F_X1_fewer t1.2 ((sa 13) (Int32.toNatClampNeg (a2 ||| ((1 : Int32) <<< (t1.1 &&& 31)))))).bind fun r8 => rec1 ((t1.1 + 1), r8)) else rec1 ((t1.1 + 1), t1.2)))
def F_X1_fewestFrom_r2 (a2 : Int32) (a3 : Int32) (si : tSI) (sa : tSA) : Option Int32 :=
  (lp (S_X1_fewestFrom_r2_7 si a2 sa) 100 ((0 : Int32), (-9 : Int32))).bind fun (e2 : Int32) => (if e2 = (-9 : Int32) then some (-9 : Int32) else (F_X0_secondsFor a3 si sa).bind fun r4 => some (e2 + r4))
set_option maxHeartbeats 4000000 in
set_option maxRecDepth 100000 in
theorem c_X1_fewestFrom_r2 (l : Launch) (D : va_G) (cA : ClassId) (ad : Nat → Nat) (si : tSI) (sa : tSA) (a2 : Int32) (a3 : Int32) (o : Int32) (hF : F_X1_fewestFrom_r2 a2 a3 si sa = some o) : CG l yX1_fewestFrom cX1_fewestFrom 6 (some .int) 2 61 D cA [.ref (ad 5), .ref (ad 2), .int a2, .int a3] (WX cA ad si sa) (WX cA ad si sa) (some (.int o)) := by
  refine CG.ofi (by decide) (Nat.le_of_ble_eq_true rfl) ?_
  intro p ee s m args below meth c A Q H0 ls C0 hA hP hD hS hl hE
  have hl : lv_has ls 6 [(0, .ref (ad 5)), (1, .ref (ad 2)), (2, .int a2), (3, .int a3)] := hl
  obtain ⟨hx, hb, hml, hown, ht, hK⟩ := id C0
  unfold F_X1_fewestFrom_r2 at hF
  refine lv_bipush (v := (-9 : Int32)) hx hb dX1_fewestFrom_0 (by decide) ?_
  refine lv_istore (lv' := [(4, .int (-9 : Int32)), (0, .ref (ad 5)), (1, .ref (ad 2)), (2, .int a2), (3, .int a3)]) hx hb dX1_fewestFrom_2 hl (by decide) rfl (fun ls hl => ?_)
  refine lv_iconst (v := (0 : Int32)) hx hb dX1_fewestFrom_4 (by decide) ?_
  refine lv_istore (lv' := [(5, .int (0 : Int32)), (4, .int (-9 : Int32)), (0, .ref (ad 5)), (1, .ref (ad 2)), (2, .int a2), (3, .int a3)]) hx hb dX1_fewestFrom_5 hl (by decide) rfl (fun ls hl => ?_)
  obtain ⟨ox1, hL1, hX1⟩ := bd_all hF
  have JE1 : ∀ (e2 : Int32), ox1 = e2 → ∀ (H : Heap) (locs : List Loc) (ls : Array Slot), va_P D vwCl (WX cA ad si sa) H → va_D A (WX cA ad si sa) → va_S A H0 H locs → lv_has ls 6 [(4, .int e2), (1, .ref (ad 2)), (3, .int a3)] → W p l ee (rmx 2 61) s m args below meth c H locs 0 0 Q (F0 m 49 ls []) := by
    intro e2 he H locs ls hP hD hS hl
    have hF := hX1 _ he
    refine lv_iload hx hb dX1_fewestFrom_49 (lv_at hl 0 rfl) ?_
    refine lv_bipush (v := (-9 : Int32)) hx hb dX1_fewestFrom_51 (by decide) ?_
    refine lv_icmp_ne (tgt := 61) hx hb dX1_fewestFrom_53 (by decide) (fun c3 => ?_) (fun c3 => ?_)
    · have hF := (if_neg c3).symm.trans hF
      refine lv_iload hx hb dX1_fewestFrom_61 (lv_at hl 0 rfl) ?_
      refine lv_aload_n hx hb dX1_fewestFrom_63 rfl (lv_at hl 1 rfl) ?_
      refine lv_iload_n hx hb dX1_fewestFrom_64 rfl (lv_at hl 2 rfl) ?_
      obtain ⟨r4, hr4, hF⟩ := bd_some hF
      refine kcV (As := [.int a3]) (rest := [.int e2]) C0 hA hP hD hS (c_X0_secondsFor l D cA ad si sa a3 r4 hr4) lk_X0_secondsFor q314 q315 q386 2 0 rfl rfl hl.1 rfl rfl (Nat.le_of_ble_eq_true rfl) ⟨Nat.le_of_ble_eq_true rfl, Nat.le_of_ble_eq_true rfl⟩ ⟨Nat.le_refl _, Nat.le_refl _⟩ dX1_fewestFrom_65 (fun H locs hP hD hS => ?_)
      refine W.eq (g2 := F0 m 68 ls [.int r4, .int e2]) rfl ?_
      refine lv_iadd hx hb dX1_fewestFrom_68 ?_
      have hF := Option.some.inj hF
      exact hE _ _ _ _ _ hP hD hS dX1_fewestFrom_69 rfl hF
    · have hF := (if_pos c3).symm.trans hF
      refine lv_bipush (v := (-9 : Int32)) hx hb dX1_fewestFrom_56 (by decide) ?_
      refine lv_goto (tgt := 69) hx hb dX1_fewestFrom_58 (by decide) ?_
      have hF := Option.some.inj hF
      exact hE _ _ _ _ _ hP hD hS dX1_fewestFrom_69 rfl hF
  have LP1 : ∀ (k1 : Nat) (t1 : (Int32 × Int32)), lp (S_X1_fewestFrom_r2_7 si a2 sa) k1 t1 = some ox1 → ∀ (H : Heap) (locs : List Loc) (ls : Array Slot), va_P D vwCl (WX cA ad si sa) H → va_D A (WX cA ad si sa) → va_S A H0 H locs → lv_has ls 6 [(5, .int t1.1), (4, .int t1.2), (0, .ref (ad 5)), (1, .ref (ad 2)), (2, .int a2), (3, .int a3)] → W p l ee (rmx 2 61) s m args below meth c H locs 0 0 Q (F0 m 7 ls []) := by
    intro k1
    induction k1 with
    | zero => intro t1 hF; exact (lp_no hF).elim
    | succ k1 ih1 =>
      intro t1 hF H locs ls hP hD hS hl
      change (S_X1_fewestFrom_r2_7 si a2 sa) (lp (S_X1_fewestFrom_r2_7 si a2 sa) k1) t1 = some ox1 at hF
      unfold S_X1_fewestFrom_r2_7 at hF
      refine lv_iload hx hb dX1_fewestFrom_7 (lv_at hl 0 rfl) ?_
      refine lv_aload_n hx hb dX1_fewestFrom_9 rfl (lv_at hl 3 rfl) ?_
      refine gX2_1 (v := (si 3)) C0 hP rfl q44 dX1_fewestFrom_10 ?_
      refine lv_icmp_ge (tgt := 49) hx hb dX1_fewestFrom_13 (by decide) (fun c5 => ?_) (fun c5 => ?_)
      · have hF := (if_pos c5).symm.trans hF
        exact JE1 _ (Option.some.inj hF).symm _ _ _ hP hD hS (lv_sub hl [1, 3, 5] rfl)
      · have hF := (if_neg c5).symm.trans hF
        refine lv_iload_n hx hb dX1_fewestFrom_16 rfl (lv_at hl 4 rfl) ?_
        refine lv_iload hx hb dX1_fewestFrom_17 (lv_at hl 0 rfl) ?_
        obtain ⟨r6, hr6, hF⟩ := bd_some hF
        refine kcSN (As := [.int a2, .int t1.1]) (rest := []) C0 hA hP hD hS (c_X5_holds l D cA ad si sa a2 t1.1 r6 hr6) lk_X5_holds q311 (List.mem_of_getElem? (i := 8) rfl) hl.1 rfl rfl (Nat.le_of_ble_eq_true rfl) ⟨Nat.le_of_ble_eq_true rfl, Nat.le_of_ble_eq_true rfl⟩ ⟨Nat.le_refl _, Nat.le_refl _⟩ dX1_fewestFrom_19 (fun H locs hP hD hS => ?_)
        refine W.eq (g2 := F0 m 22 ls [.int r6]) rfl ?_
        refine lv_if_ne (tgt := 43) hx hb dX1_fewestFrom_22 (by decide) (fun c7 => ?_) (fun c7 => ?_)
        · have hF := (if_neg c7).symm.trans hF
          refine lv_iinc (v := (t1.1 + 1)) (lv' := [(5, .int (t1.1 + 1)), (4, .int t1.2), (0, .ref (ad 5)), (1, .ref (ad 2)), (2, .int a2), (3, .int a3)]) hx hb dX1_fewestFrom_43 hl (k := 0) rfl rfl (by decide) rfl (fun ls hl => ?_)
          refine lv_goto (tgt := 7) hx hb dX1_fewestFrom_46 (by decide) ?_
          exact ih1 _ hF _ _ _ hP hD hS (lv_sub hl [0, 1, 2, 3, 4, 5] rfl)
        · have hF := (if_pos c7).symm.trans hF
          refine lv_iload hx hb dX1_fewestFrom_25 (lv_at hl 1 rfl) ?_
          refine lv_aload_n hx hb dX1_fewestFrom_27 rfl (lv_at hl 2 rfl) ?_
          refine gX5_0 C0 hP q138 dX1_fewestFrom_28 ?_
          refine lv_iload_n hx hb dX1_fewestFrom_31 rfl (lv_at hl 4 rfl) ?_
          refine lv_iconst (v := (1 : Int32)) hx hb dX1_fewestFrom_32 (by decide) ?_
          refine lv_iload hx hb dX1_fewestFrom_33 (lv_at hl 0 rfl) ?_
          refine lv_ishl hx hb dX1_fewestFrom_35 ?_
          refine lv_ior hx hb dX1_fewestFrom_36 ?_
          obtain ⟨hin, hF⟩ := ld_some hF
          refine aXl13 (f := (sa 13)) C0 hP rfl hin dX1_fewestFrom_37 ?_
          obtain ⟨r8, hr8, hF⟩ := bd_some hF
          refine kcS (As := [.int t1.2, .int ((sa 13) (Int32.toNatClampNeg (a2 ||| ((1 : Int32) <<< (t1.1 &&& 31)))))]) (rest := []) C0 hA hP hD hS (c_X1_fewer l D cA ad si sa t1.2 ((sa 13) (Int32.toNatClampNeg (a2 ||| ((1 : Int32) <<< (t1.1 &&& 31))))) r8 hr8) lk_X1_fewer q381 q380 hl.1 rfl rfl (Nat.le_of_ble_eq_true rfl) ⟨Nat.le_of_ble_eq_true rfl, Nat.le_of_ble_eq_true rfl⟩ ⟨Nat.le_refl _, Nat.le_refl _⟩ dX1_fewestFrom_38 (fun H locs hP hD hS => ?_)
          refine W.eq (g2 := F0 m 41 ls [.int r8]) rfl ?_
          refine lv_istore (lv' := [(4, .int r8), (5, .int t1.1), (0, .ref (ad 5)), (1, .ref (ad 2)), (2, .int a2), (3, .int a3)]) hx hb dX1_fewestFrom_41 hl (by decide) rfl (fun ls hl => ?_)
          refine lv_iinc (v := (t1.1 + 1)) (lv' := [(5, .int (t1.1 + 1)), (4, .int r8), (0, .ref (ad 5)), (1, .ref (ad 2)), (2, .int a2), (3, .int a3)]) hx hb dX1_fewestFrom_43 hl (k := 1) rfl rfl (by decide) rfl (fun ls hl => ?_)
          refine lv_goto (tgt := 7) hx hb dX1_fewestFrom_46 (by decide) ?_
          exact ih1 _ hF _ _ _ hP hD hS (lv_sub hl [0, 1, 2, 3, 4, 5] rfl)
  exact LP1 _ _ hL1 _ _ _ hP hD hS (lv_sub hl [0, 1, 2, 3, 4, 5] rfl)
theorem lk_X1_weighOrders : LK yX1_weighOrders cX1_weighOrders 4 none 1 := ⟨q373, q6, by decide +kernel⟩
def S_X1_weighOrders_r2_9 (rec1 : ((Int32 × tSI × tSA) → Option (tSI × tSA))) (t1 : (Int32 × tSI × tSA)) : Option (tSI × tSA) :=
  (if t1.1 < 0 then some (t1.2.1, t1.2.2) else (F_X0_waiting t1.1 t1.2.1 t1.2.2).bind fun r4 => (if r4 = 0 then ld t1.1 32 (rec1 ((t1.1 + (-1)), t1.2.1, (va_up t1.2.2 13 (upd (t1.2.2 13) (Int32.toNatClampNeg t1.1) (0 : Int32))))) else (F_X1_fewestFrom_r2 t1.1 r4 t1.2.1 t1.2.2).bind fun r6 => ld t1.1 32 (rec1 ((t1.1 + (-1)), t1.2.1, (va_up t1.2.2 13 (upd (t1.2.2 13) (Int32.toNatClampNeg t1.1) r6))))))
def F_X1_weighOrders_r2 (si : tSI) (sa : tSA) : Option (tSI × tSA) :=
  (lp S_X1_weighOrders_r2_9 100 ((((1 : Int32) <<< ((si 3) &&& 31)) - (1 : Int32)), si, sa)).bind fun (e2 : (tSI × tSA)) => some (e2.1, e2.2)
set_option maxHeartbeats 4000000 in
set_option maxRecDepth 100000 in
theorem c_X1_weighOrders_r2 (l : Launch) (D : va_G) (cA : ClassId) (ad : Nat → Nat) (si : tSI) (sa : tSA) (o : (tSI × tSA)) (hF : F_X1_weighOrders_r2 si sa = some o) : CG l yX1_weighOrders cX1_weighOrders 4 none 3 86 D cA [.ref (ad 5), .ref (ad 2)] (WX cA ad si sa) (WX cA ad o.1 o.2) none := by
  refine CG.ofv (by decide) (Nat.le_of_ble_eq_true rfl) ?_
  intro p ee s m args below meth c A Q H0 ls C0 hA hP hD hS hl hE
  have hl : lv_has ls 4 [(0, .ref (ad 5)), (1, .ref (ad 2))] := hl
  obtain ⟨hx, hb, hml, hown, ht, hK⟩ := id C0
  unfold F_X1_weighOrders_r2 at hF
  refine lv_iconst (v := (1 : Int32)) hx hb dX1_weighOrders_0 (by decide) ?_
  refine lv_aload_n hx hb dX1_weighOrders_1 rfl (lv_at hl 1 rfl) ?_
  refine gX2_1 (v := (si 3)) C0 hP rfl q44 dX1_weighOrders_2 ?_
  refine lv_ishl hx hb dX1_weighOrders_5 ?_
  refine lv_iconst (v := (1 : Int32)) hx hb dX1_weighOrders_6 (by decide) ?_
  refine lv_isub hx hb dX1_weighOrders_7 ?_
  refine lv_istore_n (lv' := [(2, .int (((1 : Int32) <<< ((si 3) &&& 31)) - (1 : Int32))), (0, .ref (ad 5)), (1, .ref (ad 2))]) hx hb dX1_weighOrders_8 rfl hl (by decide) rfl (fun ls hl => ?_)
  obtain ⟨ox1, hL1, hX1⟩ := bd_all hF
  have JE1 : ∀ (e2 : (tSI × tSA)), ox1 = e2 → ∀ (H : Heap) (locs : List Loc) (ls : Array Slot), va_P D vwCl (WX cA ad e2.1 e2.2) H → va_D A (WX cA ad e2.1 e2.2) → va_S A H0 H locs → lv_has ls 4 [] → W p l ee (rmx 3 86) s m args below meth c H locs 0 0 Q (F0 m 46 ls []) := by
    intro e2 he H locs ls hP hD hS hl
    have hF := hX1 _ he
    have hF := Option.some.inj hF
    subst hF
    exact hE _ _ _ _ hP hD hS dX1_weighOrders_46
  have LP1 : ∀ (k1 : Nat) (t1 : (Int32 × tSI × tSA)), lp S_X1_weighOrders_r2_9 k1 t1 = some ox1 → ∀ (H : Heap) (locs : List Loc) (ls : Array Slot), va_P D vwCl (WX cA ad t1.2.1 t1.2.2) H → va_D A (WX cA ad t1.2.1 t1.2.2) → va_S A H0 H locs → lv_has ls 4 [(2, .int t1.1), (0, .ref (ad 5)), (1, .ref (ad 2))] → W p l ee (rmx 3 86) s m args below meth c H locs 0 0 Q (F0 m 9 ls []) := by
    intro k1
    induction k1 with
    | zero => intro t1 hF; exact (lp_no hF).elim
    | succ k1 ih1 =>
      intro t1 hF H locs ls hP hD hS hl
      change S_X1_weighOrders_r2_9 (lp S_X1_weighOrders_r2_9 k1) t1 = some ox1 at hF
      unfold S_X1_weighOrders_r2_9 at hF
      refine lv_iload_n hx hb dX1_weighOrders_9 rfl (lv_at hl 0 rfl) ?_
      refine lv_if_lt (tgt := 46) hx hb dX1_weighOrders_10 (by decide) (fun c3 => ?_) (fun c3 => ?_)
      · have hF := (if_pos c3).symm.trans hF
        exact JE1 _ (Option.some.inj hF).symm _ _ _ hP hD hS (lv_sub hl [] rfl)
      · have hF := (if_neg c3).symm.trans hF
        refine lv_aload_n hx hb dX1_weighOrders_13 rfl (lv_at hl 2 rfl) ?_
        refine lv_iload_n hx hb dX1_weighOrders_14 rfl (lv_at hl 0 rfl) ?_
        obtain ⟨r4, hr4, hF⟩ := bd_some hF
        refine kcV (As := [.int t1.1]) (rest := []) C0 hA hP hD hS (c_X0_waiting l D cA ad t1.2.1 t1.2.2 t1.1 r4 hr4) lk_X0_waiting q303 q304 q374 2 0 rfl rfl hl.1 rfl rfl (Nat.le_of_ble_eq_true rfl) ⟨Nat.le_of_ble_eq_true rfl, Nat.le_of_ble_eq_true rfl⟩ ⟨Nat.le_refl _, Nat.le_refl _⟩ dX1_weighOrders_15 (fun H locs hP hD hS => ?_)
        refine W.eq (g2 := F0 m 18 ls [.int r4]) rfl ?_
        refine lv_istore_n (lv' := [(3, .int r4), (2, .int t1.1), (0, .ref (ad 5)), (1, .ref (ad 2))]) hx hb dX1_weighOrders_18 rfl hl (by decide) rfl (fun ls hl => ?_)
        refine lv_aload_n hx hb dX1_weighOrders_19 rfl (lv_at hl 2 rfl) ?_
        refine gX5_0 C0 hP q138 dX1_weighOrders_20 ?_
        refine lv_iload_n hx hb dX1_weighOrders_23 rfl (lv_at hl 1 rfl) ?_
        refine lv_iload_n hx hb dX1_weighOrders_24 rfl (lv_at hl 0 rfl) ?_
        refine lv_if_ne (tgt := 32) hx hb dX1_weighOrders_25 (by decide) (fun c5 => ?_) (fun c5 => ?_)
        · have hF := (if_neg c5).symm.trans hF
          refine lv_aload_n hx hb dX1_weighOrders_32 rfl (lv_at hl 2 rfl) ?_
          refine lv_aload_n hx hb dX1_weighOrders_33 rfl (lv_at hl 3 rfl) ?_
          refine lv_iload_n hx hb dX1_weighOrders_34 rfl (lv_at hl 1 rfl) ?_
          refine lv_iload_n hx hb dX1_weighOrders_35 rfl (lv_at hl 0 rfl) ?_
          obtain ⟨r6, hr6, hF⟩ := bd_some hF
          refine kcV (As := [.ref (ad 2), .int t1.1, .int r4]) (rest := [.int t1.1, .ref (ad 19)]) C0 hA hP hD hS (c_X1_fewestFrom_r2 l D cA ad t1.2.1 t1.2.2 t1.1 r4 r6 hr6) lk_X1_fewestFrom q377 s15 q375 5 1 rfl rfl hl.1 rfl rfl (Nat.le_of_ble_eq_true rfl) ⟨Nat.le_of_ble_eq_true rfl, Nat.le_of_ble_eq_true rfl⟩ ⟨Nat.le_refl _, Nat.le_refl _⟩ dX1_weighOrders_36 (fun H locs hP hD hS => ?_)
          refine W.eq (g2 := F0 m 39 ls [.int r6, .int t1.1, .ref (ad 19)]) rfl ?_
          obtain ⟨hin, hF⟩ := ld_some hF
          refine aXs13 (f := (t1.2.2 13)) C0 hP hD hS rfl hin dX1_weighOrders_39 (fun H locs hP hD hS => ?_)
          refine lv_iinc (v := (t1.1 + (-1))) (lv' := [(2, .int (t1.1 + (-1))), (3, .int r4), (0, .ref (ad 5)), (1, .ref (ad 2))]) hx hb dX1_weighOrders_40 hl (k := 1) rfl rfl (by decide) rfl (fun ls hl => ?_)
          refine lv_goto (tgt := 9) hx hb dX1_weighOrders_43 (by decide) ?_
          exact ih1 _ hF _ _ _ hP hD hS (lv_sub hl [0, 2, 3] rfl)
        · have hF := (if_pos c5).symm.trans hF
          refine lv_iconst (v := (0 : Int32)) hx hb dX1_weighOrders_28 (by decide) ?_
          refine lv_goto (tgt := 39) hx hb dX1_weighOrders_29 (by decide) ?_
          obtain ⟨hin, hF⟩ := ld_some hF
          refine aXs13 (f := (t1.2.2 13)) C0 hP hD hS rfl hin dX1_weighOrders_39 (fun H locs hP hD hS => ?_)
          refine lv_iinc (v := (t1.1 + (-1))) (lv' := [(2, .int (t1.1 + (-1))), (3, .int r4), (0, .ref (ad 5)), (1, .ref (ad 2))]) hx hb dX1_weighOrders_40 hl (k := 1) rfl rfl (by decide) rfl (fun ls hl => ?_)
          refine lv_goto (tgt := 9) hx hb dX1_weighOrders_43 (by decide) ?_
          exact ih1 _ hF _ _ _ hP hD hS (lv_sub hl [0, 2, 3] rfl)
  exact LP1 _ _ hL1 _ _ _ hP hD hS (lv_sub hl [0, 1, 2] rfl)
theorem lk_X1_nextSign : LK yX1_nextSign cX1_nextSign 6 (some .int) 2 := ⟨q398, q6, by decide +kernel⟩
def S_X1_nextSign_r2_41 (si : tSI) (a2 : Int32) (sa : tSA) (r4 : Int32) (rec5 : (Int32 → Option (Int32 ⊕ Unit))) (t5 : Int32) : Option (Int32 ⊕ Unit) :=
  (if (si 3) ≤ t5 then some (.inr ()) else (F_X5_holds a2 t5).bind fun r8 => (if r8 = 0 then ld (a2 ||| ((1 : Int32) <<< (t5 &&& 31))) 32 ((if ((sa 13) (Int32.toNatClampNeg (a2 ||| ((1 : Int32) <<< (t5 &&& 31))))) = (((sa 13) (Int32.toNatClampNeg a2)) - r4) then some (.inl t5) else rec5 (t5 + 1))) else rec5 (t5 + 1)))
def F_X1_nextSign_r2 (a2 : Int32) (si : tSI) (sa : tSA) : Option Int32 :=
  (F_X0_waiting a2 si sa).bind fun r1 => ld a2 32 ((if ((sa 13) (Int32.toNatClampNeg a2)) = (-9 : Int32) then some (-9 : Int32) else (if r1 = 0 then some (-9 : Int32) else ld a2 32 ((F_X0_secondsFor r1 si sa).bind fun r4 => (lp (S_X1_nextSign_r2_41 si a2 sa r4) 100 (0 : Int32)).bind (Sum.elim some fun (e6 : Unit) => some (-9 : Int32))))))
set_option maxHeartbeats 4000000 in
set_option maxRecDepth 100000 in
theorem c_X1_nextSign_r2 (l : Launch) (D : va_G) (cA : ClassId) (ad : Nat → Nat) (si : tSI) (sa : tSA) (a2 : Int32) (o : Int32) (hF : F_X1_nextSign_r2 a2 si sa = some o) : CG l yX1_nextSign cX1_nextSign 6 (some .int) 3 68 D cA [.ref (ad 5), .ref (ad 2), .int a2] (WX cA ad si sa) (WX cA ad si sa) (some (.int o)) := by
  refine CG.ofi (by decide) (Nat.le_of_ble_eq_true rfl) ?_
  intro p ee s m args below meth c A Q H0 ls C0 hA hP hD hS hl hE
  have hl : lv_has ls 6 [(0, .ref (ad 5)), (1, .ref (ad 2)), (2, .int a2)] := hl
  obtain ⟨hx, hb, hml, hown, ht, hK⟩ := id C0
  unfold F_X1_nextSign_r2 at hF
  refine lv_aload_n hx hb dX1_nextSign_0 rfl (lv_at hl 1 rfl) ?_
  refine lv_iload_n hx hb dX1_nextSign_1 rfl (lv_at hl 2 rfl) ?_
  obtain ⟨r1, hr1, hF⟩ := bd_some hF
  refine kcV (As := [.int a2]) (rest := []) C0 hA hP hD hS (c_X0_waiting l D cA ad si sa a2 r1 hr1) lk_X0_waiting q303 q304 q374 2 0 rfl rfl hl.1 rfl rfl (Nat.le_of_ble_eq_true rfl) ⟨Nat.le_of_ble_eq_true rfl, Nat.le_of_ble_eq_true rfl⟩ ⟨Nat.le_refl _, Nat.le_refl _⟩ dX1_nextSign_2 (fun H locs hP hD hS => ?_)
  refine W.eq (g2 := F0 m 5 ls [.int r1]) rfl ?_
  refine lv_istore_n (lv' := [(3, .int r1), (0, .ref (ad 5)), (1, .ref (ad 2)), (2, .int a2)]) hx hb dX1_nextSign_5 rfl hl (by decide) rfl (fun ls hl => ?_)
  refine lv_aload_n hx hb dX1_nextSign_6 rfl (lv_at hl 1 rfl) ?_
  refine gX5_0 C0 hP q138 dX1_nextSign_7 ?_
  refine lv_iload_n hx hb dX1_nextSign_10 rfl (lv_at hl 3 rfl) ?_
  obtain ⟨hin, hF⟩ := ld_some hF
  refine aXl13 (f := (sa 13)) C0 hP rfl hin dX1_nextSign_11 ?_
  refine lv_bipush (v := (-9 : Int32)) hx hb dX1_nextSign_12 (by decide) ?_
  refine lv_icmp_eq (tgt := 21) hx hb dX1_nextSign_14 (by decide) (fun c2 => ?_) (fun c2 => ?_)
  · have hF := (if_pos c2).symm.trans hF
    refine lv_bipush (v := (-9 : Int32)) hx hb dX1_nextSign_21 (by decide) ?_
    have hF := Option.some.inj hF
    exact hE _ _ _ _ _ hP hD hS dX1_nextSign_23 rfl hF
  · have hF := (if_neg c2).symm.trans hF
    refine lv_iload_n hx hb dX1_nextSign_17 rfl (lv_at hl 0 rfl) ?_
    refine lv_if_ne (tgt := 24) hx hb dX1_nextSign_18 (by decide) (fun c3 => ?_) (fun c3 => ?_)
    · have hF := (if_neg c3).symm.trans hF
      refine lv_aload_n hx hb dX1_nextSign_24 rfl (lv_at hl 1 rfl) ?_
      refine gX5_0 C0 hP q138 dX1_nextSign_25 ?_
      refine lv_iload_n hx hb dX1_nextSign_28 rfl (lv_at hl 3 rfl) ?_
      obtain ⟨hin, hF⟩ := ld_some hF
      refine aXl13 (f := (sa 13)) C0 hP rfl hin dX1_nextSign_29 ?_
      refine lv_aload_n hx hb dX1_nextSign_30 rfl (lv_at hl 2 rfl) ?_
      refine lv_iload_n hx hb dX1_nextSign_31 rfl (lv_at hl 0 rfl) ?_
      obtain ⟨r4, hr4, hF⟩ := bd_some hF
      refine kcV (As := [.int r1]) (rest := [.int ((sa 13) (Int32.toNatClampNeg a2))]) C0 hA hP hD hS (c_X0_secondsFor l D cA ad si sa r1 r4 hr4) lk_X0_secondsFor q314 q315 q386 2 0 rfl rfl hl.1 rfl rfl (Nat.le_of_ble_eq_true rfl) ⟨Nat.le_of_ble_eq_true rfl, Nat.le_of_ble_eq_true rfl⟩ ⟨Nat.le_refl _, Nat.le_refl _⟩ dX1_nextSign_32 (fun H locs hP hD hS => ?_)
      refine W.eq (g2 := F0 m 35 ls [.int r4, .int ((sa 13) (Int32.toNatClampNeg a2))]) rfl ?_
      refine lv_isub hx hb dX1_nextSign_35 ?_
      refine lv_istore (lv' := [(4, .int (((sa 13) (Int32.toNatClampNeg a2)) - r4)), (3, .int r1), (0, .ref (ad 5)), (1, .ref (ad 2)), (2, .int a2)]) hx hb dX1_nextSign_36 hl (by decide) rfl (fun ls hl => ?_)
      refine lv_iconst (v := (0 : Int32)) hx hb dX1_nextSign_38 (by decide) ?_
      refine lv_istore (lv' := [(5, .int (0 : Int32)), (4, .int (((sa 13) (Int32.toNatClampNeg a2)) - r4)), (3, .int r1), (0, .ref (ad 5)), (1, .ref (ad 2)), (2, .int a2)]) hx hb dX1_nextSign_39 hl (by decide) rfl (fun ls hl => ?_)
      obtain ⟨ox5, hL5, hI5, hX5⟩ := bds_all hF
      have JE5 : ∀ (e6 : Unit), ox5 = .inr e6 → ∀ (H : Heap) (locs : List Loc) (ls : Array Slot), va_P D vwCl (WX cA ad si sa) H → va_D A (WX cA ad si sa) → va_S A H0 H locs → lv_has ls 6 [] → W p l ee (rmx 3 68) s m args below meth c H locs 0 0 Q (F0 m 84 ls []) := by
        intro e6 he H locs ls hP hD hS hl
        have hF := hX5 _ he
        refine lv_bipush (v := (-9 : Int32)) hx hb dX1_nextSign_84 (by decide) ?_
        have hF := Option.some.inj hF
        exact hE _ _ _ _ _ hP hD hS dX1_nextSign_86 rfl hF
      have LP5 : ∀ (k5 : Nat) (t5 : Int32), lp (S_X1_nextSign_r2_41 si a2 sa r4) k5 t5 = some ox5 → ∀ (H : Heap) (locs : List Loc) (ls : Array Slot), va_P D vwCl (WX cA ad si sa) H → va_D A (WX cA ad si sa) → va_S A H0 H locs → lv_has ls 6 [(5, .int t5), (4, .int (((sa 13) (Int32.toNatClampNeg a2)) - r4)), (0, .ref (ad 5)), (1, .ref (ad 2)), (2, .int a2)] → W p l ee (rmx 3 68) s m args below meth c H locs 0 0 Q (F0 m 41 ls []) := by
        intro k5
        induction k5 with
        | zero => intro t5 hF; exact (lp_no hF).elim
        | succ k5 ih5 =>
          intro t5 hF H locs ls hP hD hS hl
          change (S_X1_nextSign_r2_41 si a2 sa r4) (lp (S_X1_nextSign_r2_41 si a2 sa r4) k5) t5 = some ox5 at hF
          unfold S_X1_nextSign_r2_41 at hF
          refine lv_iload hx hb dX1_nextSign_41 (lv_at hl 0 rfl) ?_
          refine lv_aload_n hx hb dX1_nextSign_43 rfl (lv_at hl 3 rfl) ?_
          refine gX2_1 (v := (si 3)) C0 hP rfl q44 dX1_nextSign_44 ?_
          refine lv_icmp_ge (tgt := 84) hx hb dX1_nextSign_47 (by decide) (fun c7 => ?_) (fun c7 => ?_)
          · have hF := (if_pos c7).symm.trans hF
            exact JE5 _ (Option.some.inj hF).symm _ _ _ hP hD hS (lv_sub hl [] rfl)
          · have hF := (if_neg c7).symm.trans hF
            refine lv_iload_n hx hb dX1_nextSign_50 rfl (lv_at hl 4 rfl) ?_
            refine lv_iload hx hb dX1_nextSign_51 (lv_at hl 0 rfl) ?_
            obtain ⟨r8, hr8, hF⟩ := bd_some hF
            refine kcSN (As := [.int a2, .int t5]) (rest := []) C0 hA hP hD hS (c_X5_holds l D cA ad si sa a2 t5 r8 hr8) lk_X5_holds q311 (List.mem_of_getElem? (i := 8) rfl) hl.1 rfl rfl (Nat.le_of_ble_eq_true rfl) ⟨Nat.le_of_ble_eq_true rfl, Nat.le_of_ble_eq_true rfl⟩ ⟨Nat.le_refl _, Nat.le_refl _⟩ dX1_nextSign_53 (fun H locs hP hD hS => ?_)
            refine W.eq (g2 := F0 m 56 ls [.int r8]) rfl ?_
            refine lv_if_ne (tgt := 78) hx hb dX1_nextSign_56 (by decide) (fun c9 => ?_) (fun c9 => ?_)
            · have hF := (if_neg c9).symm.trans hF
              refine lv_iinc (v := (t5 + 1)) (lv' := [(5, .int (t5 + 1)), (4, .int (((sa 13) (Int32.toNatClampNeg a2)) - r4)), (0, .ref (ad 5)), (1, .ref (ad 2)), (2, .int a2)]) hx hb dX1_nextSign_78 hl (k := 0) rfl rfl (by decide) rfl (fun ls hl => ?_)
              refine lv_goto (tgt := 41) hx hb dX1_nextSign_81 (by decide) ?_
              exact ih5 _ hF _ _ _ hP hD hS (lv_sub hl [0, 1, 2, 3, 4] rfl)
            · have hF := (if_pos c9).symm.trans hF
              refine lv_aload_n hx hb dX1_nextSign_59 rfl (lv_at hl 2 rfl) ?_
              refine gX5_0 C0 hP q138 dX1_nextSign_60 ?_
              refine lv_iload_n hx hb dX1_nextSign_63 rfl (lv_at hl 4 rfl) ?_
              refine lv_iconst (v := (1 : Int32)) hx hb dX1_nextSign_64 (by decide) ?_
              refine lv_iload hx hb dX1_nextSign_65 (lv_at hl 0 rfl) ?_
              refine lv_ishl hx hb dX1_nextSign_67 ?_
              refine lv_ior hx hb dX1_nextSign_68 ?_
              obtain ⟨hin, hF⟩ := ld_some hF
              refine aXl13 (f := (sa 13)) C0 hP rfl hin dX1_nextSign_69 ?_
              refine lv_iload hx hb dX1_nextSign_70 (lv_at hl 1 rfl) ?_
              refine lv_icmp_ne (tgt := 78) hx hb dX1_nextSign_72 (by decide) (fun c10 => ?_) (fun c10 => ?_)
              · have hF := (if_neg c10).symm.trans hF
                refine lv_iinc (v := (t5 + 1)) (lv' := [(5, .int (t5 + 1)), (4, .int (((sa 13) (Int32.toNatClampNeg a2)) - r4)), (0, .ref (ad 5)), (1, .ref (ad 2)), (2, .int a2)]) hx hb dX1_nextSign_78 hl (k := 0) rfl rfl (by decide) rfl (fun ls hl => ?_)
                refine lv_goto (tgt := 41) hx hb dX1_nextSign_81 (by decide) ?_
                exact ih5 _ hF _ _ _ hP hD hS (lv_sub hl [0, 1, 2, 3, 4] rfl)
              · have hF := (if_pos c10).symm.trans hF
                refine lv_iload hx hb dX1_nextSign_75 (lv_at hl 0 rfl) ?_
                have hF := Option.some.inj hF
                subst hF
                have hF := hI5 _ rfl
                exact hE _ _ _ _ _ hP hD hS dX1_nextSign_77 rfl hF
      exact LP5 _ _ hL5 _ _ _ hP hD hS (lv_sub hl [0, 1, 3, 4, 5] rfl)
    · have hF := (if_pos c3).symm.trans hF
      refine lv_bipush (v := (-9 : Int32)) hx hb dX1_nextSign_21 (by decide) ?_
      have hF := Option.some.inj hF
      exact hE _ _ _ _ _ hP hD hS dX1_nextSign_23 rfl hF
theorem lk_X1_signOfOrder : LK yX1_signOfOrder cX1_signOfOrder 6 (some .int) 2 := ⟨q394, q6, by decide +kernel⟩
def S_X1_signOfOrder_r2_5 (a2 : Int32) (si : tSI) (sa : tSA) (rec1 : ((Int32 × Int32) → Option (Int32 ⊕ Int32))) (t1 : (Int32 × Int32)) : Option (Int32 ⊕ Int32) :=
  (if a2 ≤ t1.1 then some (.inr t1.2) else (F_X1_nextSign_r2 t1.2 si sa).bind fun r5 => (if r5 = (-9 : Int32) then some (.inl (-9 : Int32)) else rec1 ((t1.1 + 1), (t1.2 ||| ((1 : Int32) <<< (r5 &&& 31))))))
def F_X1_signOfOrder_r2 (a2 : Int32) (si : tSI) (sa : tSA) : Option Int32 :=
  (lp (S_X1_signOfOrder_r2_5 a2 si sa) 100 ((0 : Int32), (0 : Int32))).bind (Sum.elim some fun (e2 : Int32) => (F_X1_nextSign_r2 e2 si sa).bind fun r3 => some r3)
set_option maxHeartbeats 4000000 in
set_option maxRecDepth 100000 in
theorem c_X1_signOfOrder_r2 (l : Launch) (D : va_G) (cA : ClassId) (ad : Nat → Nat) (si : tSI) (sa : tSA) (a2 : Int32) (o : Int32) (hF : F_X1_signOfOrder_r2 a2 si sa = some o) : CG l yX1_signOfOrder cX1_signOfOrder 6 (some .int) 4 93 D cA [.ref (ad 5), .ref (ad 2), .int a2] (WX cA ad si sa) (WX cA ad si sa) (some (.int o)) := by
  refine CG.ofi (by decide) (Nat.le_of_ble_eq_true rfl) ?_
  intro p ee s m args below meth c A Q H0 ls C0 hA hP hD hS hl hE
  have hl : lv_has ls 6 [(0, .ref (ad 5)), (1, .ref (ad 2)), (2, .int a2)] := hl
  obtain ⟨hx, hb, hml, hown, ht, hK⟩ := id C0
  unfold F_X1_signOfOrder_r2 at hF
  refine lv_iconst (v := (0 : Int32)) hx hb dX1_signOfOrder_0 (by decide) ?_
  refine lv_istore_n (lv' := [(3, .int (0 : Int32)), (0, .ref (ad 5)), (1, .ref (ad 2)), (2, .int a2)]) hx hb dX1_signOfOrder_1 rfl hl (by decide) rfl (fun ls hl => ?_)
  refine lv_iconst (v := (0 : Int32)) hx hb dX1_signOfOrder_2 (by decide) ?_
  refine lv_istore (lv' := [(4, .int (0 : Int32)), (3, .int (0 : Int32)), (0, .ref (ad 5)), (1, .ref (ad 2)), (2, .int a2)]) hx hb dX1_signOfOrder_3 hl (by decide) rfl (fun ls hl => ?_)
  obtain ⟨ox1, hL1, hI1, hX1⟩ := bds_all hF
  have JE1 : ∀ (e2 : Int32), ox1 = .inr e2 → ∀ (H : Heap) (locs : List Loc) (ls : Array Slot), va_P D vwCl (WX cA ad si sa) H → va_D A (WX cA ad si sa) → va_S A H0 H locs → lv_has ls 6 [(3, .int e2), (0, .ref (ad 5)), (1, .ref (ad 2))] → W p l ee (rmx 4 93) s m args below meth c H locs 0 0 Q (F0 m 42 ls []) := by
    intro e2 he H locs ls hP hD hS hl
    have hF := hX1 _ he
    refine lv_aload_n hx hb dX1_signOfOrder_42 rfl (lv_at hl 1 rfl) ?_
    refine lv_aload_n hx hb dX1_signOfOrder_43 rfl (lv_at hl 2 rfl) ?_
    refine lv_iload_n hx hb dX1_signOfOrder_44 rfl (lv_at hl 0 rfl) ?_
    obtain ⟨r3, hr3, hF⟩ := bd_some hF
    refine kcV (As := [.ref (ad 2), .int e2]) (rest := []) C0 hA hP hD hS (c_X1_nextSign_r2 l D cA ad si sa e2 r3 hr3) lk_X1_nextSign q397 s16 q395 5 1 rfl rfl hl.1 rfl rfl (Nat.le_of_ble_eq_true rfl) ⟨Nat.le_of_ble_eq_true rfl, Nat.le_of_ble_eq_true rfl⟩ ⟨Nat.le_refl _, Nat.le_refl _⟩ dX1_signOfOrder_45 (fun H locs hP hD hS => ?_)
    refine W.eq (g2 := F0 m 48 ls [.int r3]) rfl ?_
    have hF := Option.some.inj hF
    exact hE _ _ _ _ _ hP hD hS dX1_signOfOrder_48 rfl hF
  have LP1 : ∀ (k1 : Nat) (t1 : (Int32 × Int32)), lp (S_X1_signOfOrder_r2_5 a2 si sa) k1 t1 = some ox1 → ∀ (H : Heap) (locs : List Loc) (ls : Array Slot), va_P D vwCl (WX cA ad si sa) H → va_D A (WX cA ad si sa) → va_S A H0 H locs → lv_has ls 6 [(4, .int t1.1), (3, .int t1.2), (0, .ref (ad 5)), (1, .ref (ad 2)), (2, .int a2)] → W p l ee (rmx 4 93) s m args below meth c H locs 0 0 Q (F0 m 5 ls []) := by
    intro k1
    induction k1 with
    | zero => intro t1 hF; exact (lp_no hF).elim
    | succ k1 ih1 =>
      intro t1 hF H locs ls hP hD hS hl
      change (S_X1_signOfOrder_r2_5 a2 si sa) (lp (S_X1_signOfOrder_r2_5 a2 si sa) k1) t1 = some ox1 at hF
      unfold S_X1_signOfOrder_r2_5 at hF
      refine lv_iload hx hb dX1_signOfOrder_5 (lv_at hl 0 rfl) ?_
      refine lv_iload_n hx hb dX1_signOfOrder_7 rfl (lv_at hl 4 rfl) ?_
      refine lv_icmp_ge (tgt := 42) hx hb dX1_signOfOrder_8 (by decide) (fun c4 => ?_) (fun c4 => ?_)
      · have hF := (if_pos c4).symm.trans hF
        exact JE1 _ (Option.some.inj hF).symm _ _ _ hP hD hS (lv_sub hl [1, 2, 3] rfl)
      · have hF := (if_neg c4).symm.trans hF
        refine lv_aload_n hx hb dX1_signOfOrder_11 rfl (lv_at hl 2 rfl) ?_
        refine lv_aload_n hx hb dX1_signOfOrder_12 rfl (lv_at hl 3 rfl) ?_
        refine lv_iload_n hx hb dX1_signOfOrder_13 rfl (lv_at hl 1 rfl) ?_
        obtain ⟨r5, hr5, hF⟩ := bd_some hF
        refine kcV (As := [.ref (ad 2), .int t1.2]) (rest := []) C0 hA hP hD hS (c_X1_nextSign_r2 l D cA ad si sa t1.2 r5 hr5) lk_X1_nextSign q397 s16 q395 5 1 rfl rfl hl.1 rfl rfl (Nat.le_of_ble_eq_true rfl) ⟨Nat.le_of_ble_eq_true rfl, Nat.le_of_ble_eq_true rfl⟩ ⟨Nat.le_refl _, Nat.le_refl _⟩ dX1_signOfOrder_14 (fun H locs hP hD hS => ?_)
        refine W.eq (g2 := F0 m 17 ls [.int r5]) rfl ?_
        refine lv_istore (lv' := [(5, .int r5), (4, .int t1.1), (3, .int t1.2), (0, .ref (ad 5)), (1, .ref (ad 2)), (2, .int a2)]) hx hb dX1_signOfOrder_17 hl (by decide) rfl (fun ls hl => ?_)
        refine lv_iload hx hb dX1_signOfOrder_19 (lv_at hl 0 rfl) ?_
        refine lv_bipush (v := (-9 : Int32)) hx hb dX1_signOfOrder_21 (by decide) ?_
        refine lv_icmp_ne (tgt := 29) hx hb dX1_signOfOrder_23 (by decide) (fun c6 => ?_) (fun c6 => ?_)
        · have hF := (if_neg c6).symm.trans hF
          refine lv_iload_n hx hb dX1_signOfOrder_29 rfl (lv_at hl 2 rfl) ?_
          refine lv_iconst (v := (1 : Int32)) hx hb dX1_signOfOrder_30 (by decide) ?_
          refine lv_iload hx hb dX1_signOfOrder_31 (lv_at hl 0 rfl) ?_
          refine lv_ishl hx hb dX1_signOfOrder_33 ?_
          refine lv_ior hx hb dX1_signOfOrder_34 ?_
          refine lv_istore_n (lv' := [(3, .int (t1.2 ||| ((1 : Int32) <<< (r5 &&& 31)))), (5, .int r5), (4, .int t1.1), (0, .ref (ad 5)), (1, .ref (ad 2)), (2, .int a2)]) hx hb dX1_signOfOrder_35 rfl hl (by decide) rfl (fun ls hl => ?_)
          refine lv_iinc (v := (t1.1 + 1)) (lv' := [(4, .int (t1.1 + 1)), (3, .int (t1.2 ||| ((1 : Int32) <<< (r5 &&& 31)))), (5, .int r5), (0, .ref (ad 5)), (1, .ref (ad 2)), (2, .int a2)]) hx hb dX1_signOfOrder_36 hl (k := 2) rfl rfl (by decide) rfl (fun ls hl => ?_)
          refine lv_goto (tgt := 5) hx hb dX1_signOfOrder_39 (by decide) ?_
          exact ih1 _ hF _ _ _ hP hD hS (lv_sub hl [0, 1, 3, 4, 5] rfl)
        · have hF := (if_pos c6).symm.trans hF
          refine lv_bipush (v := (-9 : Int32)) hx hb dX1_signOfOrder_26 (by decide) ?_
          have hF := Option.some.inj hF
          subst hF
          have hF := hI1 _ rfl
          exact hE _ _ _ _ _ hP hD hS dX1_signOfOrder_28 rfl hF
  exact LP1 _ _ hL1 _ _ _ hP hD hS (lv_sub hl [0, 1, 2, 3, 4] rfl)
theorem lk_X1_fewestByOrder : LK yX1_fewestByOrder cX1_fewestByOrder 1 (some .int) 0 := ⟨q390, q6, by decide +kernel⟩
def F_X1_fewestByOrder (si : tSI) (sa : tSA) : Option Int32 :=
  ld (0 : Int32) 32 (some ((sa 13) (Int32.toNatClampNeg (0 : Int32))))
set_option maxHeartbeats 4000000 in
set_option maxRecDepth 100000 in
theorem c_X1_fewestByOrder (l : Launch) (D : va_G) (cA : ClassId) (ad : Nat → Nat) (si : tSI) (sa : tSA) (o : Int32) (hF : F_X1_fewestByOrder si sa = some o) : CG l yX1_fewestByOrder cX1_fewestByOrder 1 (some .int) 0 0 D cA [.ref (ad 5)] (WX cA ad si sa) (WX cA ad si sa) (some (.int o)) := by
  refine CG.ofi (by decide) (Nat.le_of_ble_eq_true rfl) ?_
  intro p ee s m args below meth c A Q H0 ls C0 hA hP hD hS hl hE
  have hl : lv_has ls 1 [(0, .ref (ad 5))] := hl
  obtain ⟨hx, hb, hml, hown, ht, hK⟩ := id C0
  unfold F_X1_fewestByOrder at hF
  refine lv_aload_n hx hb dX1_fewestByOrder_0 rfl (lv_at hl 0 rfl) ?_
  refine gX5_0 C0 hP q138 dX1_fewestByOrder_1 ?_
  refine lv_iconst (v := (0 : Int32)) hx hb dX1_fewestByOrder_4 (by decide) ?_
  obtain ⟨hin, hF⟩ := ld_some hF
  refine aXl13 (f := (sa 13)) C0 hP rfl hin dX1_fewestByOrder_5 ?_
  have hF := Option.some.inj hF
  exact hE _ _ _ _ _ hP hD hS dX1_fewestByOrder_6 rfl hF
theorem lk_X5_order : LK yX5_order cX5_order 2 (some .int) 1 := ⟨q369, q1, by decide +kernel⟩
def F_X5_order (a1 : Int32) (si : tSI) (sa : tSA) : Option (Int32 × tSI × tSA) :=
  (if a1 < (-1 : Int32) then some ((-2 : Int32), si, sa) else (if a1 < (5 : Int32) then (F_X0_isThere si sa).bind fun r3 => (if r3 = 0 then some ((-3 : Int32), si, sa) else (F_X1_weighOrders_r2 si sa).bind fun r5 => (if 0 ≤ a1 then (F_X1_signOfOrder_r2 a1 r5.1 r5.2).bind fun r7 => some (r7, r5.1, r5.2) else (F_X1_fewestByOrder r5.1 r5.2).bind fun r8 => some (r8, r5.1, r5.2))) else some ((-2 : Int32), si, sa)))
set_option maxHeartbeats 4000000 in
set_option maxRecDepth 100000 in
theorem c_X5_order (l : Launch) (D : va_G) (cA : ClassId) (ad : Nat → Nat) (si : tSI) (sa : tSA) (a1 : Int32) (o : (Int32 × tSI × tSA)) (hF : F_X5_order a1 si sa = some o) : CG l yX5_order cX5_order 2 (some .int) 5 118 D cA [.ref (ad 0), .int a1] (WX cA ad si sa) (WX cA ad o.2.1 o.2.2) (some (.int o.1)) := by
  refine CG.ofi (by decide) (Nat.le_of_ble_eq_true rfl) ?_
  intro p ee s m args below meth c A Q H0 ls C0 hA hP hD hS hl hE
  have hl : lv_has ls 2 [(0, .ref (ad 0)), (1, .int a1)] := hl
  obtain ⟨hx, hb, hml, hown, ht, hK⟩ := id C0
  unfold F_X5_order at hF
  refine lv_iload_n hx hb dX5_order_0 rfl (lv_at hl 1 rfl) ?_
  refine lv_iconst (v := (-1 : Int32)) hx hb dX5_order_1 (by decide) ?_
  refine lv_icmp_lt (tgt := 10) hx hb dX5_order_2 (by decide) (fun c1 => ?_) (fun c1 => ?_)
  · have hF := (if_pos c1).symm.trans hF
    refine lv_bipush (v := (-2 : Int32)) hx hb dX5_order_10 (by decide) ?_
    have hF := Option.some.inj hF
    subst hF
    exact hE _ _ _ _ _ hP hD hS dX5_order_12 rfl rfl
  · have hF := (if_neg c1).symm.trans hF
    refine lv_iload_n hx hb dX5_order_5 rfl (lv_at hl 1 rfl) ?_
    refine lv_iconst (v := (5 : Int32)) hx hb dX5_order_6 (by decide) ?_
    refine lv_icmp_lt (tgt := 13) hx hb dX5_order_7 (by decide) (fun c2 => ?_) (fun c2 => ?_)
    · have hF := (if_pos c2).symm.trans hF
      refine lv_aload_n hx hb dX5_order_13 rfl (lv_at hl 0 rfl) ?_
      refine gX0_1 C0 hP q146 dX5_order_14 ?_
      obtain ⟨r3, hr3, hF⟩ := bd_some hF
      refine kcV (As := []) (rest := []) C0 hA hP hD hS (c_X0_isThere l D cA ad si sa r3 hr3) lk_X0_isThere q287 q288 q286 2 0 rfl rfl hl.1 rfl rfl (Nat.le_of_ble_eq_true rfl) ⟨Nat.le_of_ble_eq_true rfl, Nat.le_of_ble_eq_true rfl⟩ ⟨Nat.le_refl _, Nat.le_refl _⟩ dX5_order_17 (fun H locs hP hD hS => ?_)
      refine W.eq (g2 := F0 m 20 ls [.int r3]) rfl ?_
      refine lv_if_ne (tgt := 26) hx hb dX5_order_20 (by decide) (fun c4 => ?_) (fun c4 => ?_)
      · have hF := (if_neg c4).symm.trans hF
        refine lv_aload_n hx hb dX5_order_26 rfl (lv_at hl 0 rfl) ?_
        refine gX0_4 C0 hP q149 dX5_order_27 ?_
        refine lv_aload_n hx hb dX5_order_30 rfl (lv_at hl 0 rfl) ?_
        refine gX0_1 C0 hP q146 dX5_order_31 ?_
        obtain ⟨r5, hr5, hF⟩ := bd_some hF
        refine kcV (As := [.ref (ad 2)]) (rest := []) C0 hA hP hD hS (c_X1_weighOrders_r2 l D cA ad si sa r5 hr5) lk_X1_weighOrders q371 q372 q370 5 1 rfl rfl hl.1 rfl rfl (Nat.le_of_ble_eq_true rfl) ⟨Nat.le_of_ble_eq_true rfl, Nat.le_of_ble_eq_true rfl⟩ ⟨Nat.le_refl _, Nat.le_refl _⟩ dX5_order_34 (fun H locs hP hD hS => ?_)
        refine W.eq (g2 := F0 m 37 ls []) rfl ?_
        refine lv_iload_n hx hb dX5_order_37 rfl (lv_at hl 1 rfl) ?_
        refine lv_if_ge (tgt := 51) hx hb dX5_order_38 (by decide) (fun c6 => ?_) (fun c6 => ?_)
        · have hF := (if_pos c6).symm.trans hF
          refine lv_aload_n hx hb dX5_order_51 rfl (lv_at hl 0 rfl) ?_
          refine gX0_4 C0 hP q149 dX5_order_52 ?_
          refine lv_aload_n hx hb dX5_order_55 rfl (lv_at hl 0 rfl) ?_
          refine gX0_1 C0 hP q146 dX5_order_56 ?_
          refine lv_iload_n hx hb dX5_order_59 rfl (lv_at hl 1 rfl) ?_
          obtain ⟨r7, hr7, hF⟩ := bd_some hF
          refine kcV (As := [.ref (ad 2), .int a1]) (rest := []) C0 hA hP hD hS (c_X1_signOfOrder_r2 l D cA ad r5.1 r5.2 a1 r7 hr7) lk_X1_signOfOrder q392 q393 q391 5 1 rfl rfl hl.1 rfl rfl (Nat.le_of_ble_eq_true rfl) ⟨Nat.le_of_ble_eq_true rfl, Nat.le_of_ble_eq_true rfl⟩ ⟨Nat.le_refl _, Nat.le_refl _⟩ dX5_order_60 (fun H locs hP hD hS => ?_)
          refine W.eq (g2 := F0 m 63 ls [.int r7]) rfl ?_
          have hF := Option.some.inj hF
          subst hF
          exact hE _ _ _ _ _ hP hD hS dX5_order_63 rfl rfl
        · have hF := (if_neg c6).symm.trans hF
          refine lv_aload_n hx hb dX5_order_41 rfl (lv_at hl 0 rfl) ?_
          refine gX0_4 C0 hP q149 dX5_order_42 ?_
          obtain ⟨r8, hr8, hF⟩ := bd_some hF
          refine kcV (As := []) (rest := []) C0 hA hP hD hS (c_X1_fewestByOrder l D cA ad r5.1 r5.2 r8 hr8) lk_X1_fewestByOrder q388 q389 q387 5 1 rfl rfl hl.1 rfl rfl (Nat.le_of_ble_eq_true rfl) ⟨Nat.le_of_ble_eq_true rfl, Nat.le_of_ble_eq_true rfl⟩ ⟨Nat.le_refl _, Nat.le_refl _⟩ dX5_order_45 (fun H locs hP hD hS => ?_)
          refine W.eq (g2 := F0 m 48 ls [.int r8]) rfl ?_
          refine lv_goto (tgt := 63) hx hb dX5_order_48 (by decide) ?_
          have hF := Option.some.inj hF
          subst hF
          exact hE _ _ _ _ _ hP hD hS dX5_order_63 rfl rfl
      · have hF := (if_pos c4).symm.trans hF
        refine lv_bipush (v := (-3 : Int32)) hx hb dX5_order_23 (by decide) ?_
        have hF := Option.some.inj hF
        subst hF
        exact hE _ _ _ _ _ hP hD hS dX5_order_25 rfl rfl
    · have hF := (if_neg c2).symm.trans hF
      refine lv_bipush (v := (-2 : Int32)) hx hb dX5_order_10 (by decide) ?_
      have hF := Option.some.inj hF
      subst hF
      exact hE _ _ _ _ _ hP hD hS dX5_order_12 rfl rfl
theorem lk_J6_bitCount_0f7a4 : LK yJ6_bitCount_0f7a4 cJ6_bitCount_0f7a4 1 (some .int) 1 := ⟨q410, q10, by decide +kernel⟩
def F_J6_bitCount_0f7a4 (a1 : Int32) : Option Int32 :=
  some ((((((((a1 - ((Int32.toUInt32 a1 >>> (Int32.toUInt32 (1 : Int32) &&& Int32.toUInt32 31)).toInt32 &&& (1431655765 : Int32))) &&& (858993459 : Int32)) + ((Int32.toUInt32 (a1 - ((Int32.toUInt32 a1 >>> (Int32.toUInt32 (1 : Int32) &&& Int32.toUInt32 31)).toInt32 &&& (1431655765 : Int32))) >>> (Int32.toUInt32 (2 : Int32) &&& Int32.toUInt32 31)).toInt32 &&& (858993459 : Int32))) + (Int32.toUInt32 (((a1 - ((Int32.toUInt32 a1 >>> (Int32.toUInt32 (1 : Int32) &&& Int32.toUInt32 31)).toInt32 &&& (1431655765 : Int32))) &&& (858993459 : Int32)) + ((Int32.toUInt32 (a1 - ((Int32.toUInt32 a1 >>> (Int32.toUInt32 (1 : Int32) &&& Int32.toUInt32 31)).toInt32 &&& (1431655765 : Int32))) >>> (Int32.toUInt32 (2 : Int32) &&& Int32.toUInt32 31)).toInt32 &&& (858993459 : Int32))) >>> (Int32.toUInt32 (4 : Int32) &&& Int32.toUInt32 31)).toInt32) &&& (252645135 : Int32)) + (Int32.toUInt32 (((((a1 - ((Int32.toUInt32 a1 >>> (Int32.toUInt32 (1 : Int32) &&& Int32.toUInt32 31)).toInt32 &&& (1431655765 : Int32))) &&& (858993459 : Int32)) + ((Int32.toUInt32 (a1 - ((Int32.toUInt32 a1 >>> (Int32.toUInt32 (1 : Int32) &&& Int32.toUInt32 31)).toInt32 &&& (1431655765 : Int32))) >>> (Int32.toUInt32 (2 : Int32) &&& Int32.toUInt32 31)).toInt32 &&& (858993459 : Int32))) + (Int32.toUInt32 (((a1 - ((Int32.toUInt32 a1 >>> (Int32.toUInt32 (1 : Int32) &&& Int32.toUInt32 31)).toInt32 &&& (1431655765 : Int32))) &&& (858993459 : Int32)) + ((Int32.toUInt32 (a1 - ((Int32.toUInt32 a1 >>> (Int32.toUInt32 (1 : Int32) &&& Int32.toUInt32 31)).toInt32 &&& (1431655765 : Int32))) >>> (Int32.toUInt32 (2 : Int32) &&& Int32.toUInt32 31)).toInt32 &&& (858993459 : Int32))) >>> (Int32.toUInt32 (4 : Int32) &&& Int32.toUInt32 31)).toInt32) &&& (252645135 : Int32)) >>> (Int32.toUInt32 (8 : Int32) &&& Int32.toUInt32 31)).toInt32) + (Int32.toUInt32 ((((((a1 - ((Int32.toUInt32 a1 >>> (Int32.toUInt32 (1 : Int32) &&& Int32.toUInt32 31)).toInt32 &&& (1431655765 : Int32))) &&& (858993459 : Int32)) + ((Int32.toUInt32 (a1 - ((Int32.toUInt32 a1 >>> (Int32.toUInt32 (1 : Int32) &&& Int32.toUInt32 31)).toInt32 &&& (1431655765 : Int32))) >>> (Int32.toUInt32 (2 : Int32) &&& Int32.toUInt32 31)).toInt32 &&& (858993459 : Int32))) + (Int32.toUInt32 (((a1 - ((Int32.toUInt32 a1 >>> (Int32.toUInt32 (1 : Int32) &&& Int32.toUInt32 31)).toInt32 &&& (1431655765 : Int32))) &&& (858993459 : Int32)) + ((Int32.toUInt32 (a1 - ((Int32.toUInt32 a1 >>> (Int32.toUInt32 (1 : Int32) &&& Int32.toUInt32 31)).toInt32 &&& (1431655765 : Int32))) >>> (Int32.toUInt32 (2 : Int32) &&& Int32.toUInt32 31)).toInt32 &&& (858993459 : Int32))) >>> (Int32.toUInt32 (4 : Int32) &&& Int32.toUInt32 31)).toInt32) &&& (252645135 : Int32)) + (Int32.toUInt32 (((((a1 - ((Int32.toUInt32 a1 >>> (Int32.toUInt32 (1 : Int32) &&& Int32.toUInt32 31)).toInt32 &&& (1431655765 : Int32))) &&& (858993459 : Int32)) + ((Int32.toUInt32 (a1 - ((Int32.toUInt32 a1 >>> (Int32.toUInt32 (1 : Int32) &&& Int32.toUInt32 31)).toInt32 &&& (1431655765 : Int32))) >>> (Int32.toUInt32 (2 : Int32) &&& Int32.toUInt32 31)).toInt32 &&& (858993459 : Int32))) + (Int32.toUInt32 (((a1 - ((Int32.toUInt32 a1 >>> (Int32.toUInt32 (1 : Int32) &&& Int32.toUInt32 31)).toInt32 &&& (1431655765 : Int32))) &&& (858993459 : Int32)) + ((Int32.toUInt32 (a1 - ((Int32.toUInt32 a1 >>> (Int32.toUInt32 (1 : Int32) &&& Int32.toUInt32 31)).toInt32 &&& (1431655765 : Int32))) >>> (Int32.toUInt32 (2 : Int32) &&& Int32.toUInt32 31)).toInt32 &&& (858993459 : Int32))) >>> (Int32.toUInt32 (4 : Int32) &&& Int32.toUInt32 31)).toInt32) &&& (252645135 : Int32)) >>> (Int32.toUInt32 (8 : Int32) &&& Int32.toUInt32 31)).toInt32) >>> (Int32.toUInt32 (16 : Int32) &&& Int32.toUInt32 31)).toInt32) &&& (63 : Int32))
set_option maxHeartbeats 4000000 in
set_option maxRecDepth 100000 in
theorem c_J6_bitCount_0f7a4 (l : Launch) (D : va_G) (cA : ClassId) (ad : Nat → Nat) (si : tSI) (sa : tSA) (a1 : Int32) (o : Int32) (hF : F_J6_bitCount_0f7a4 a1 = some o) : CG l yJ6_bitCount_0f7a4 cJ6_bitCount_0f7a4 1 (some .int) 0 0 D cA [.int a1] (WX cA ad si sa) (WX cA ad si sa) (some (.int o)) := by
  refine CG.ofi (by decide) (Nat.le_of_ble_eq_true rfl) ?_
  intro p ee s m args below meth c A Q H0 ls C0 hA hP hD hS hl hE
  have hl : lv_has ls 1 [(0, .int a1)] := hl
  obtain ⟨hx, hb, hml, hown, ht, hK⟩ := id C0
  unfold F_J6_bitCount_0f7a4 at hF
  refine lv_iload_n hx hb dJ6_bitCount_0f7a4_0 rfl (lv_at hl 0 rfl) ?_
  refine lv_iload_n hx hb dJ6_bitCount_0f7a4_1 rfl (lv_at hl 0 rfl) ?_
  refine lv_iconst (v := (1 : Int32)) hx hb dJ6_bitCount_0f7a4_2 (by decide) ?_
  refine lv_iushr hx hb dJ6_bitCount_0f7a4_3 rfl ?_
  refine lv_ldcw (v := (1431655765 : Int32)) hx hb hown (ht _ q411) dJ6_bitCount_0f7a4_4 ?_
  refine lv_iand hx hb dJ6_bitCount_0f7a4_7 ?_
  refine lv_isub hx hb dJ6_bitCount_0f7a4_8 ?_
  refine lv_istore_n (lv' := [(0, .int (a1 - ((Int32.toUInt32 a1 >>> (Int32.toUInt32 (1 : Int32) &&& Int32.toUInt32 31)).toInt32 &&& (1431655765 : Int32))))]) hx hb dJ6_bitCount_0f7a4_9 rfl hl (by decide) rfl (fun ls hl => ?_)
  refine lv_iload_n hx hb dJ6_bitCount_0f7a4_10 rfl (lv_at hl 0 rfl) ?_
  refine lv_ldcw (v := (858993459 : Int32)) hx hb hown (ht _ q412) dJ6_bitCount_0f7a4_11 ?_
  refine lv_iand hx hb dJ6_bitCount_0f7a4_14 ?_
  refine lv_iload_n hx hb dJ6_bitCount_0f7a4_15 rfl (lv_at hl 0 rfl) ?_
  refine lv_iconst (v := (2 : Int32)) hx hb dJ6_bitCount_0f7a4_16 (by decide) ?_
  refine lv_iushr hx hb dJ6_bitCount_0f7a4_17 rfl ?_
  refine lv_ldcw (v := (858993459 : Int32)) hx hb hown (ht _ q412) dJ6_bitCount_0f7a4_18 ?_
  refine lv_iand hx hb dJ6_bitCount_0f7a4_21 ?_
  refine lv_iadd hx hb dJ6_bitCount_0f7a4_22 ?_
  refine lv_istore_n (lv' := [(0, .int (((a1 - ((Int32.toUInt32 a1 >>> (Int32.toUInt32 (1 : Int32) &&& Int32.toUInt32 31)).toInt32 &&& (1431655765 : Int32))) &&& (858993459 : Int32)) + ((Int32.toUInt32 (a1 - ((Int32.toUInt32 a1 >>> (Int32.toUInt32 (1 : Int32) &&& Int32.toUInt32 31)).toInt32 &&& (1431655765 : Int32))) >>> (Int32.toUInt32 (2 : Int32) &&& Int32.toUInt32 31)).toInt32 &&& (858993459 : Int32))))]) hx hb dJ6_bitCount_0f7a4_23 rfl hl (by decide) rfl (fun ls hl => ?_)
  refine lv_iload_n hx hb dJ6_bitCount_0f7a4_24 rfl (lv_at hl 0 rfl) ?_
  refine lv_iload_n hx hb dJ6_bitCount_0f7a4_25 rfl (lv_at hl 0 rfl) ?_
  refine lv_iconst (v := (4 : Int32)) hx hb dJ6_bitCount_0f7a4_26 (by decide) ?_
  refine lv_iushr hx hb dJ6_bitCount_0f7a4_27 rfl ?_
  refine lv_iadd hx hb dJ6_bitCount_0f7a4_28 ?_
  refine lv_ldcw (v := (252645135 : Int32)) hx hb hown (ht _ q413) dJ6_bitCount_0f7a4_29 ?_
  refine lv_iand hx hb dJ6_bitCount_0f7a4_32 ?_
  refine lv_istore_n (lv' := [(0, .int (((((a1 - ((Int32.toUInt32 a1 >>> (Int32.toUInt32 (1 : Int32) &&& Int32.toUInt32 31)).toInt32 &&& (1431655765 : Int32))) &&& (858993459 : Int32)) + ((Int32.toUInt32 (a1 - ((Int32.toUInt32 a1 >>> (Int32.toUInt32 (1 : Int32) &&& Int32.toUInt32 31)).toInt32 &&& (1431655765 : Int32))) >>> (Int32.toUInt32 (2 : Int32) &&& Int32.toUInt32 31)).toInt32 &&& (858993459 : Int32))) + (Int32.toUInt32 (((a1 - ((Int32.toUInt32 a1 >>> (Int32.toUInt32 (1 : Int32) &&& Int32.toUInt32 31)).toInt32 &&& (1431655765 : Int32))) &&& (858993459 : Int32)) + ((Int32.toUInt32 (a1 - ((Int32.toUInt32 a1 >>> (Int32.toUInt32 (1 : Int32) &&& Int32.toUInt32 31)).toInt32 &&& (1431655765 : Int32))) >>> (Int32.toUInt32 (2 : Int32) &&& Int32.toUInt32 31)).toInt32 &&& (858993459 : Int32))) >>> (Int32.toUInt32 (4 : Int32) &&& Int32.toUInt32 31)).toInt32) &&& (252645135 : Int32)))]) hx hb dJ6_bitCount_0f7a4_33 rfl hl (by decide) rfl (fun ls hl => ?_)
  refine lv_iload_n hx hb dJ6_bitCount_0f7a4_34 rfl (lv_at hl 0 rfl) ?_
  refine lv_iload_n hx hb dJ6_bitCount_0f7a4_35 rfl (lv_at hl 0 rfl) ?_
  refine lv_bipush (v := (8 : Int32)) hx hb dJ6_bitCount_0f7a4_36 (by decide) ?_
  refine lv_iushr hx hb dJ6_bitCount_0f7a4_38 rfl ?_
  refine lv_iadd hx hb dJ6_bitCount_0f7a4_39 ?_
  refine lv_istore_n (lv' := [(0, .int ((((((a1 - ((Int32.toUInt32 a1 >>> (Int32.toUInt32 (1 : Int32) &&& Int32.toUInt32 31)).toInt32 &&& (1431655765 : Int32))) &&& (858993459 : Int32)) + ((Int32.toUInt32 (a1 - ((Int32.toUInt32 a1 >>> (Int32.toUInt32 (1 : Int32) &&& Int32.toUInt32 31)).toInt32 &&& (1431655765 : Int32))) >>> (Int32.toUInt32 (2 : Int32) &&& Int32.toUInt32 31)).toInt32 &&& (858993459 : Int32))) + (Int32.toUInt32 (((a1 - ((Int32.toUInt32 a1 >>> (Int32.toUInt32 (1 : Int32) &&& Int32.toUInt32 31)).toInt32 &&& (1431655765 : Int32))) &&& (858993459 : Int32)) + ((Int32.toUInt32 (a1 - ((Int32.toUInt32 a1 >>> (Int32.toUInt32 (1 : Int32) &&& Int32.toUInt32 31)).toInt32 &&& (1431655765 : Int32))) >>> (Int32.toUInt32 (2 : Int32) &&& Int32.toUInt32 31)).toInt32 &&& (858993459 : Int32))) >>> (Int32.toUInt32 (4 : Int32) &&& Int32.toUInt32 31)).toInt32) &&& (252645135 : Int32)) + (Int32.toUInt32 (((((a1 - ((Int32.toUInt32 a1 >>> (Int32.toUInt32 (1 : Int32) &&& Int32.toUInt32 31)).toInt32 &&& (1431655765 : Int32))) &&& (858993459 : Int32)) + ((Int32.toUInt32 (a1 - ((Int32.toUInt32 a1 >>> (Int32.toUInt32 (1 : Int32) &&& Int32.toUInt32 31)).toInt32 &&& (1431655765 : Int32))) >>> (Int32.toUInt32 (2 : Int32) &&& Int32.toUInt32 31)).toInt32 &&& (858993459 : Int32))) + (Int32.toUInt32 (((a1 - ((Int32.toUInt32 a1 >>> (Int32.toUInt32 (1 : Int32) &&& Int32.toUInt32 31)).toInt32 &&& (1431655765 : Int32))) &&& (858993459 : Int32)) + ((Int32.toUInt32 (a1 - ((Int32.toUInt32 a1 >>> (Int32.toUInt32 (1 : Int32) &&& Int32.toUInt32 31)).toInt32 &&& (1431655765 : Int32))) >>> (Int32.toUInt32 (2 : Int32) &&& Int32.toUInt32 31)).toInt32 &&& (858993459 : Int32))) >>> (Int32.toUInt32 (4 : Int32) &&& Int32.toUInt32 31)).toInt32) &&& (252645135 : Int32)) >>> (Int32.toUInt32 (8 : Int32) &&& Int32.toUInt32 31)).toInt32))]) hx hb dJ6_bitCount_0f7a4_40 rfl hl (by decide) rfl (fun ls hl => ?_)
  refine lv_iload_n hx hb dJ6_bitCount_0f7a4_41 rfl (lv_at hl 0 rfl) ?_
  refine lv_iload_n hx hb dJ6_bitCount_0f7a4_42 rfl (lv_at hl 0 rfl) ?_
  refine lv_bipush (v := (16 : Int32)) hx hb dJ6_bitCount_0f7a4_43 (by decide) ?_
  refine lv_iushr hx hb dJ6_bitCount_0f7a4_45 rfl ?_
  refine lv_iadd hx hb dJ6_bitCount_0f7a4_46 ?_
  refine lv_istore_n (lv' := [(0, .int (((((((a1 - ((Int32.toUInt32 a1 >>> (Int32.toUInt32 (1 : Int32) &&& Int32.toUInt32 31)).toInt32 &&& (1431655765 : Int32))) &&& (858993459 : Int32)) + ((Int32.toUInt32 (a1 - ((Int32.toUInt32 a1 >>> (Int32.toUInt32 (1 : Int32) &&& Int32.toUInt32 31)).toInt32 &&& (1431655765 : Int32))) >>> (Int32.toUInt32 (2 : Int32) &&& Int32.toUInt32 31)).toInt32 &&& (858993459 : Int32))) + (Int32.toUInt32 (((a1 - ((Int32.toUInt32 a1 >>> (Int32.toUInt32 (1 : Int32) &&& Int32.toUInt32 31)).toInt32 &&& (1431655765 : Int32))) &&& (858993459 : Int32)) + ((Int32.toUInt32 (a1 - ((Int32.toUInt32 a1 >>> (Int32.toUInt32 (1 : Int32) &&& Int32.toUInt32 31)).toInt32 &&& (1431655765 : Int32))) >>> (Int32.toUInt32 (2 : Int32) &&& Int32.toUInt32 31)).toInt32 &&& (858993459 : Int32))) >>> (Int32.toUInt32 (4 : Int32) &&& Int32.toUInt32 31)).toInt32) &&& (252645135 : Int32)) + (Int32.toUInt32 (((((a1 - ((Int32.toUInt32 a1 >>> (Int32.toUInt32 (1 : Int32) &&& Int32.toUInt32 31)).toInt32 &&& (1431655765 : Int32))) &&& (858993459 : Int32)) + ((Int32.toUInt32 (a1 - ((Int32.toUInt32 a1 >>> (Int32.toUInt32 (1 : Int32) &&& Int32.toUInt32 31)).toInt32 &&& (1431655765 : Int32))) >>> (Int32.toUInt32 (2 : Int32) &&& Int32.toUInt32 31)).toInt32 &&& (858993459 : Int32))) + (Int32.toUInt32 (((a1 - ((Int32.toUInt32 a1 >>> (Int32.toUInt32 (1 : Int32) &&& Int32.toUInt32 31)).toInt32 &&& (1431655765 : Int32))) &&& (858993459 : Int32)) + ((Int32.toUInt32 (a1 - ((Int32.toUInt32 a1 >>> (Int32.toUInt32 (1 : Int32) &&& Int32.toUInt32 31)).toInt32 &&& (1431655765 : Int32))) >>> (Int32.toUInt32 (2 : Int32) &&& Int32.toUInt32 31)).toInt32 &&& (858993459 : Int32))) >>> (Int32.toUInt32 (4 : Int32) &&& Int32.toUInt32 31)).toInt32) &&& (252645135 : Int32)) >>> (Int32.toUInt32 (8 : Int32) &&& Int32.toUInt32 31)).toInt32) + (Int32.toUInt32 ((((((a1 - ((Int32.toUInt32 a1 >>> (Int32.toUInt32 (1 : Int32) &&& Int32.toUInt32 31)).toInt32 &&& (1431655765 : Int32))) &&& (858993459 : Int32)) + ((Int32.toUInt32 (a1 - ((Int32.toUInt32 a1 >>> (Int32.toUInt32 (1 : Int32) &&& Int32.toUInt32 31)).toInt32 &&& (1431655765 : Int32))) >>> (Int32.toUInt32 (2 : Int32) &&& Int32.toUInt32 31)).toInt32 &&& (858993459 : Int32))) + (Int32.toUInt32 (((a1 - ((Int32.toUInt32 a1 >>> (Int32.toUInt32 (1 : Int32) &&& Int32.toUInt32 31)).toInt32 &&& (1431655765 : Int32))) &&& (858993459 : Int32)) + ((Int32.toUInt32 (a1 - ((Int32.toUInt32 a1 >>> (Int32.toUInt32 (1 : Int32) &&& Int32.toUInt32 31)).toInt32 &&& (1431655765 : Int32))) >>> (Int32.toUInt32 (2 : Int32) &&& Int32.toUInt32 31)).toInt32 &&& (858993459 : Int32))) >>> (Int32.toUInt32 (4 : Int32) &&& Int32.toUInt32 31)).toInt32) &&& (252645135 : Int32)) + (Int32.toUInt32 (((((a1 - ((Int32.toUInt32 a1 >>> (Int32.toUInt32 (1 : Int32) &&& Int32.toUInt32 31)).toInt32 &&& (1431655765 : Int32))) &&& (858993459 : Int32)) + ((Int32.toUInt32 (a1 - ((Int32.toUInt32 a1 >>> (Int32.toUInt32 (1 : Int32) &&& Int32.toUInt32 31)).toInt32 &&& (1431655765 : Int32))) >>> (Int32.toUInt32 (2 : Int32) &&& Int32.toUInt32 31)).toInt32 &&& (858993459 : Int32))) + (Int32.toUInt32 (((a1 - ((Int32.toUInt32 a1 >>> (Int32.toUInt32 (1 : Int32) &&& Int32.toUInt32 31)).toInt32 &&& (1431655765 : Int32))) &&& (858993459 : Int32)) + ((Int32.toUInt32 (a1 - ((Int32.toUInt32 a1 >>> (Int32.toUInt32 (1 : Int32) &&& Int32.toUInt32 31)).toInt32 &&& (1431655765 : Int32))) >>> (Int32.toUInt32 (2 : Int32) &&& Int32.toUInt32 31)).toInt32 &&& (858993459 : Int32))) >>> (Int32.toUInt32 (4 : Int32) &&& Int32.toUInt32 31)).toInt32) &&& (252645135 : Int32)) >>> (Int32.toUInt32 (8 : Int32) &&& Int32.toUInt32 31)).toInt32) >>> (Int32.toUInt32 (16 : Int32) &&& Int32.toUInt32 31)).toInt32))]) hx hb dJ6_bitCount_0f7a4_47 rfl hl (by decide) rfl (fun ls hl => ?_)
  refine lv_iload_n hx hb dJ6_bitCount_0f7a4_48 rfl (lv_at hl 0 rfl) ?_
  refine lv_bipush (v := (63 : Int32)) hx hb dJ6_bitCount_0f7a4_49 (by decide) ?_
  refine lv_iand hx hb dJ6_bitCount_0f7a4_51 ?_
  have hF := Option.some.inj hF
  exact hE _ _ _ _ _ hP hD hS dJ6_bitCount_0f7a4_52 rfl hF
theorem lk_X1_behindParting : LK yX1_behindParting cX1_behindParting 6 (some .int) 3 := ⟨q421, q6, by decide +kernel⟩
def F_X1_behindParting_r2 (a2 : Int32) (a3 : Int32) (si : tSI) (sa : tSA) : Option Int32 :=
  ld a3 5 (ld a3 5 ((if (a2 &&& ((sa 8) (Int32.toNatClampNeg a3))) = 0 then some (-9 : Int32) else (if (a2 &&& (((sa 8) (Int32.toNatClampNeg a3)) ^^^ (-1 : Int32))) = 0 then some (-9 : Int32) else ld (a2 &&& ((sa 8) (Int32.toNatClampNeg a3))) 64 ((if ((sa 14) (Int32.toNatClampNeg (a2 &&& ((sa 8) (Int32.toNatClampNeg a3))))) = (-9 : Int32) then some (-9 : Int32) else ld (a2 &&& (((sa 8) (Int32.toNatClampNeg a3)) ^^^ (-1 : Int32))) 64 ((if ((sa 14) (Int32.toNatClampNeg (a2 &&& (((sa 8) (Int32.toNatClampNeg a3)) ^^^ (-1 : Int32))))) = (-9 : Int32) then some (-9 : Int32) else ld (a2 &&& ((sa 8) (Int32.toNatClampNeg a3))) 64 (ld (a2 &&& (((sa 8) (Int32.toNatClampNeg a3)) ^^^ (-1 : Int32))) 64 (some (((sa 14) (Int32.toNatClampNeg (a2 &&& ((sa 8) (Int32.toNatClampNeg a3))))) + ((sa 14) (Int32.toNatClampNeg (a2 &&& (((sa 8) (Int32.toNatClampNeg a3)) ^^^ (-1 : Int32))))))))))))))))
set_option maxHeartbeats 4000000 in
set_option maxRecDepth 100000 in
theorem c_X1_behindParting_r2 (l : Launch) (D : va_G) (cA : ClassId) (ad : Nat → Nat) (si : tSI) (sa : tSA) (a2 : Int32) (a3 : Int32) (o : Int32) (hF : F_X1_behindParting_r2 a2 a3 si sa = some o) : CG l yX1_behindParting cX1_behindParting 6 (some .int) 0 0 D cA [.ref (ad 5), .ref (ad 2), .int a2, .int a3] (WX cA ad si sa) (WX cA ad si sa) (some (.int o)) := by
  refine CG.ofi (by decide) (Nat.le_of_ble_eq_true rfl) ?_
  intro p ee s m args below meth c A Q H0 ls C0 hA hP hD hS hl hE
  have hl : lv_has ls 6 [(0, .ref (ad 5)), (1, .ref (ad 2)), (2, .int a2), (3, .int a3)] := hl
  obtain ⟨hx, hb, hml, hown, ht, hK⟩ := id C0
  unfold F_X1_behindParting_r2 at hF
  refine lv_iload_n hx hb dX1_behindParting_0 rfl (lv_at hl 2 rfl) ?_
  refine lv_aload_n hx hb dX1_behindParting_1 rfl (lv_at hl 1 rfl) ?_
  refine gX2_7 C0 hP q59 dX1_behindParting_2 ?_
  refine lv_iload_n hx hb dX1_behindParting_5 rfl (lv_at hl 3 rfl) ?_
  obtain ⟨hin, hF⟩ := ld_some hF
  refine aXl8 (f := (sa 8)) C0 hP rfl hin dX1_behindParting_6 ?_
  refine lv_iand hx hb dX1_behindParting_7 ?_
  refine lv_istore (lv' := [(4, .int (a2 &&& ((sa 8) (Int32.toNatClampNeg a3)))), (0, .ref (ad 5)), (1, .ref (ad 2)), (2, .int a2), (3, .int a3)]) hx hb dX1_behindParting_8 hl (by decide) rfl (fun ls hl => ?_)
  refine lv_iload_n hx hb dX1_behindParting_10 rfl (lv_at hl 3 rfl) ?_
  refine lv_aload_n hx hb dX1_behindParting_11 rfl (lv_at hl 2 rfl) ?_
  refine gX2_7 C0 hP q59 dX1_behindParting_12 ?_
  refine lv_iload_n hx hb dX1_behindParting_15 rfl (lv_at hl 4 rfl) ?_
  obtain ⟨hin, hF⟩ := ld_some hF
  refine aXl8 (f := (sa 8)) C0 hP rfl hin dX1_behindParting_16 ?_
  refine lv_iconst (v := (-1 : Int32)) hx hb dX1_behindParting_17 (by decide) ?_
  refine lv_ixor hx hb dX1_behindParting_18 ?_
  refine lv_iand hx hb dX1_behindParting_19 ?_
  refine lv_istore (lv' := [(5, .int (a2 &&& (((sa 8) (Int32.toNatClampNeg a3)) ^^^ (-1 : Int32)))), (4, .int (a2 &&& ((sa 8) (Int32.toNatClampNeg a3)))), (0, .ref (ad 5)), (1, .ref (ad 2)), (2, .int a2), (3, .int a3)]) hx hb dX1_behindParting_20 hl (by decide) rfl (fun ls hl => ?_)
  refine lv_iload hx hb dX1_behindParting_22 (lv_at hl 1 rfl) ?_
  refine lv_if_eq (tgt := 56) hx hb dX1_behindParting_24 (by decide) (fun c1 => ?_) (fun c1 => ?_)
  · have hF := (if_pos c1).symm.trans hF
    refine lv_bipush (v := (-9 : Int32)) hx hb dX1_behindParting_56 (by decide) ?_
    have hF := Option.some.inj hF
    exact hE _ _ _ _ _ hP hD hS dX1_behindParting_58 rfl hF
  · have hF := (if_neg c1).symm.trans hF
    refine lv_iload hx hb dX1_behindParting_27 (lv_at hl 0 rfl) ?_
    refine lv_if_eq (tgt := 56) hx hb dX1_behindParting_29 (by decide) (fun c2 => ?_) (fun c2 => ?_)
    · have hF := (if_pos c2).symm.trans hF
      refine lv_bipush (v := (-9 : Int32)) hx hb dX1_behindParting_56 (by decide) ?_
      have hF := Option.some.inj hF
      exact hE _ _ _ _ _ hP hD hS dX1_behindParting_58 rfl hF
    · have hF := (if_neg c2).symm.trans hF
      refine lv_aload_n hx hb dX1_behindParting_32 rfl (lv_at hl 2 rfl) ?_
      refine gX5_1 C0 hP q139 dX1_behindParting_33 ?_
      refine lv_iload hx hb dX1_behindParting_36 (lv_at hl 1 rfl) ?_
      obtain ⟨hin, hF⟩ := ld_some hF
      refine aXl14 (f := (sa 14)) C0 hP rfl hin dX1_behindParting_38 ?_
      refine lv_bipush (v := (-9 : Int32)) hx hb dX1_behindParting_39 (by decide) ?_
      refine lv_icmp_eq (tgt := 56) hx hb dX1_behindParting_41 (by decide) (fun c3 => ?_) (fun c3 => ?_)
      · have hF := (if_pos c3).symm.trans hF
        refine lv_bipush (v := (-9 : Int32)) hx hb dX1_behindParting_56 (by decide) ?_
        have hF := Option.some.inj hF
        exact hE _ _ _ _ _ hP hD hS dX1_behindParting_58 rfl hF
      · have hF := (if_neg c3).symm.trans hF
        refine lv_aload_n hx hb dX1_behindParting_44 rfl (lv_at hl 2 rfl) ?_
        refine gX5_1 C0 hP q139 dX1_behindParting_45 ?_
        refine lv_iload hx hb dX1_behindParting_48 (lv_at hl 0 rfl) ?_
        obtain ⟨hin, hF⟩ := ld_some hF
        refine aXl14 (f := (sa 14)) C0 hP rfl hin dX1_behindParting_50 ?_
        refine lv_bipush (v := (-9 : Int32)) hx hb dX1_behindParting_51 (by decide) ?_
        refine lv_icmp_ne (tgt := 59) hx hb dX1_behindParting_53 (by decide) (fun c4 => ?_) (fun c4 => ?_)
        · have hF := (if_neg c4).symm.trans hF
          refine lv_aload_n hx hb dX1_behindParting_59 rfl (lv_at hl 2 rfl) ?_
          refine gX5_1 C0 hP q139 dX1_behindParting_60 ?_
          refine lv_iload hx hb dX1_behindParting_63 (lv_at hl 1 rfl) ?_
          obtain ⟨hin, hF⟩ := ld_some hF
          refine aXl14 (f := (sa 14)) C0 hP rfl hin dX1_behindParting_65 ?_
          refine lv_aload_n hx hb dX1_behindParting_66 rfl (lv_at hl 2 rfl) ?_
          refine gX5_1 C0 hP q139 dX1_behindParting_67 ?_
          refine lv_iload hx hb dX1_behindParting_70 (lv_at hl 0 rfl) ?_
          obtain ⟨hin, hF⟩ := ld_some hF
          refine aXl14 (f := (sa 14)) C0 hP rfl hin dX1_behindParting_72 ?_
          refine lv_iadd hx hb dX1_behindParting_73 ?_
          have hF := Option.some.inj hF
          exact hE _ _ _ _ _ hP hD hS dX1_behindParting_74 rfl hF
        · have hF := (if_pos c4).symm.trans hF
          refine lv_bipush (v := (-9 : Int32)) hx hb dX1_behindParting_56 (by decide) ?_
          have hF := Option.some.inj hF
          exact hE _ _ _ _ _ hP hD hS dX1_behindParting_58 rfl hF
theorem lk_X1_fewestOf : LK yX1_fewestOf cX1_fewestOf 5 (some .int) 2 := ⟨q417, q6, by decide +kernel⟩
def S_X1_fewestOf_r2_6 (si : tSI) (a2 : Int32) (sa : tSA) (rec1 : ((Int32 × Int32) → Option Int32)) (t1 : (Int32 × Int32)) : Option Int32 :=
  (if (si 3) ≤ t1.1 then some t1.2 else (F_X1_behindParting_r2 a2 t1.1 si sa).bind fun r6 => (F_X1_fewer t1.2 r6).bind fun r7 => rec1 ((t1.1 + 1), r7))
def F_X1_fewestOf_r2 (a2 : Int32) (si : tSI) (sa : tSA) : Option Int32 :=
  (lp (S_X1_fewestOf_r2_6 si a2 sa) 100 ((0 : Int32), (-9 : Int32))).bind fun (e2 : Int32) => (if e2 = (-9 : Int32) then some (-9 : Int32) else (F_X0_secondsFor a2 si sa).bind fun r4 => some (e2 + r4))
set_option maxHeartbeats 4000000 in
set_option maxRecDepth 100000 in
theorem c_X1_fewestOf_r2 (l : Launch) (D : va_G) (cA : ClassId) (ad : Nat → Nat) (si : tSI) (sa : tSA) (a2 : Int32) (o : Int32) (hF : F_X1_fewestOf_r2 a2 si sa = some o) : CG l yX1_fewestOf cX1_fewestOf 5 (some .int) 2 61 D cA [.ref (ad 5), .ref (ad 2), .int a2] (WX cA ad si sa) (WX cA ad si sa) (some (.int o)) := by
  refine CG.ofi (by decide) (Nat.le_of_ble_eq_true rfl) ?_
  intro p ee s m args below meth c A Q H0 ls C0 hA hP hD hS hl hE
  have hl : lv_has ls 5 [(0, .ref (ad 5)), (1, .ref (ad 2)), (2, .int a2)] := hl
  obtain ⟨hx, hb, hml, hown, ht, hK⟩ := id C0
  unfold F_X1_fewestOf_r2 at hF
  refine lv_bipush (v := (-9 : Int32)) hx hb dX1_fewestOf_0 (by decide) ?_
  refine lv_istore_n (lv' := [(3, .int (-9 : Int32)), (0, .ref (ad 5)), (1, .ref (ad 2)), (2, .int a2)]) hx hb dX1_fewestOf_2 rfl hl (by decide) rfl (fun ls hl => ?_)
  refine lv_iconst (v := (0 : Int32)) hx hb dX1_fewestOf_3 (by decide) ?_
  refine lv_istore (lv' := [(4, .int (0 : Int32)), (3, .int (-9 : Int32)), (0, .ref (ad 5)), (1, .ref (ad 2)), (2, .int a2)]) hx hb dX1_fewestOf_4 hl (by decide) rfl (fun ls hl => ?_)
  obtain ⟨ox1, hL1, hX1⟩ := bd_all hF
  have JE1 : ∀ (e2 : Int32), ox1 = e2 → ∀ (H : Heap) (locs : List Loc) (ls : Array Slot), va_P D vwCl (WX cA ad si sa) H → va_D A (WX cA ad si sa) → va_S A H0 H locs → lv_has ls 5 [(3, .int e2), (1, .ref (ad 2)), (2, .int a2)] → W p l ee (rmx 2 61) s m args below meth c H locs 0 0 Q (F0 m 34 ls []) := by
    intro e2 he H locs ls hP hD hS hl
    have hF := hX1 _ he
    refine lv_iload_n hx hb dX1_fewestOf_34 rfl (lv_at hl 0 rfl) ?_
    refine lv_bipush (v := (-9 : Int32)) hx hb dX1_fewestOf_35 (by decide) ?_
    refine lv_icmp_ne (tgt := 45) hx hb dX1_fewestOf_37 (by decide) (fun c3 => ?_) (fun c3 => ?_)
    · have hF := (if_neg c3).symm.trans hF
      refine lv_iload_n hx hb dX1_fewestOf_45 rfl (lv_at hl 0 rfl) ?_
      refine lv_aload_n hx hb dX1_fewestOf_46 rfl (lv_at hl 1 rfl) ?_
      refine lv_iload_n hx hb dX1_fewestOf_47 rfl (lv_at hl 2 rfl) ?_
      obtain ⟨r4, hr4, hF⟩ := bd_some hF
      refine kcV (As := [.int a2]) (rest := [.int e2]) C0 hA hP hD hS (c_X0_secondsFor l D cA ad si sa a2 r4 hr4) lk_X0_secondsFor q314 q315 q386 2 0 rfl rfl hl.1 rfl rfl (Nat.le_of_ble_eq_true rfl) ⟨Nat.le_of_ble_eq_true rfl, Nat.le_of_ble_eq_true rfl⟩ ⟨Nat.le_refl _, Nat.le_refl _⟩ dX1_fewestOf_48 (fun H locs hP hD hS => ?_)
      refine W.eq (g2 := F0 m 51 ls [.int r4, .int e2]) rfl ?_
      refine lv_iadd hx hb dX1_fewestOf_51 ?_
      have hF := Option.some.inj hF
      exact hE _ _ _ _ _ hP hD hS dX1_fewestOf_52 rfl hF
    · have hF := (if_pos c3).symm.trans hF
      refine lv_bipush (v := (-9 : Int32)) hx hb dX1_fewestOf_40 (by decide) ?_
      refine lv_goto (tgt := 52) hx hb dX1_fewestOf_42 (by decide) ?_
      have hF := Option.some.inj hF
      exact hE _ _ _ _ _ hP hD hS dX1_fewestOf_52 rfl hF
  have LP1 : ∀ (k1 : Nat) (t1 : (Int32 × Int32)), lp (S_X1_fewestOf_r2_6 si a2 sa) k1 t1 = some ox1 → ∀ (H : Heap) (locs : List Loc) (ls : Array Slot), va_P D vwCl (WX cA ad si sa) H → va_D A (WX cA ad si sa) → va_S A H0 H locs → lv_has ls 5 [(4, .int t1.1), (3, .int t1.2), (0, .ref (ad 5)), (1, .ref (ad 2)), (2, .int a2)] → W p l ee (rmx 2 61) s m args below meth c H locs 0 0 Q (F0 m 6 ls []) := by
    intro k1
    induction k1 with
    | zero => intro t1 hF; exact (lp_no hF).elim
    | succ k1 ih1 =>
      intro t1 hF H locs ls hP hD hS hl
      change (S_X1_fewestOf_r2_6 si a2 sa) (lp (S_X1_fewestOf_r2_6 si a2 sa) k1) t1 = some ox1 at hF
      unfold S_X1_fewestOf_r2_6 at hF
      refine lv_iload hx hb dX1_fewestOf_6 (lv_at hl 0 rfl) ?_
      refine lv_aload_n hx hb dX1_fewestOf_8 rfl (lv_at hl 3 rfl) ?_
      refine gX2_1 (v := (si 3)) C0 hP rfl q44 dX1_fewestOf_9 ?_
      refine lv_icmp_ge (tgt := 34) hx hb dX1_fewestOf_12 (by decide) (fun c5 => ?_) (fun c5 => ?_)
      · have hF := (if_pos c5).symm.trans hF
        exact JE1 _ (Option.some.inj hF).symm _ _ _ hP hD hS (lv_sub hl [1, 3, 4] rfl)
      · have hF := (if_neg c5).symm.trans hF
        refine lv_iload_n hx hb dX1_fewestOf_15 rfl (lv_at hl 1 rfl) ?_
        refine lv_aload_n hx hb dX1_fewestOf_16 rfl (lv_at hl 2 rfl) ?_
        refine lv_aload_n hx hb dX1_fewestOf_17 rfl (lv_at hl 3 rfl) ?_
        refine lv_iload_n hx hb dX1_fewestOf_18 rfl (lv_at hl 4 rfl) ?_
        refine lv_iload hx hb dX1_fewestOf_19 (lv_at hl 0 rfl) ?_
        obtain ⟨r6, hr6, hF⟩ := bd_some hF
        refine kcV (As := [.ref (ad 2), .int a2, .int t1.1]) (rest := [.int t1.2]) C0 hA hP hD hS (c_X1_behindParting_r2 l D cA ad si sa a2 t1.1 r6 hr6) lk_X1_behindParting q420 s18 q418 5 1 rfl rfl hl.1 rfl rfl (Nat.le_of_ble_eq_true rfl) ⟨Nat.le_of_ble_eq_true rfl, Nat.le_of_ble_eq_true rfl⟩ ⟨Nat.le_refl _, Nat.le_refl _⟩ dX1_fewestOf_21 (fun H locs hP hD hS => ?_)
        refine W.eq (g2 := F0 m 24 ls [.int r6, .int t1.2]) rfl ?_
        obtain ⟨r7, hr7, hF⟩ := bd_some hF
        refine kcS (As := [.int t1.2, .int r6]) (rest := []) C0 hA hP hD hS (c_X1_fewer l D cA ad si sa t1.2 r6 r7 hr7) lk_X1_fewer q381 q380 hl.1 rfl rfl (Nat.le_of_ble_eq_true rfl) ⟨Nat.le_of_ble_eq_true rfl, Nat.le_of_ble_eq_true rfl⟩ ⟨Nat.le_refl _, Nat.le_refl _⟩ dX1_fewestOf_24 (fun H locs hP hD hS => ?_)
        refine W.eq (g2 := F0 m 27 ls [.int r7]) rfl ?_
        refine lv_istore_n (lv' := [(3, .int r7), (4, .int t1.1), (0, .ref (ad 5)), (1, .ref (ad 2)), (2, .int a2)]) hx hb dX1_fewestOf_27 rfl hl (by decide) rfl (fun ls hl => ?_)
        refine lv_iinc (v := (t1.1 + 1)) (lv' := [(4, .int (t1.1 + 1)), (3, .int r7), (0, .ref (ad 5)), (1, .ref (ad 2)), (2, .int a2)]) hx hb dX1_fewestOf_28 hl (k := 1) rfl rfl (by decide) rfl (fun ls hl => ?_)
        refine lv_goto (tgt := 6) hx hb dX1_fewestOf_31 (by decide) ?_
        exact ih1 _ hF _ _ _ hP hD hS (lv_sub hl [0, 1, 2, 3, 4] rfl)
  exact LP1 _ _ hL1 _ _ _ hP hD hS (lv_sub hl [0, 1, 2, 3, 4] rfl)
theorem lk_X1_weighTrees : LK yX1_weighTrees cX1_weighTrees 3 none 1 := ⟨q406, q6, by decide +kernel⟩
def S_X1_weighTrees_r2_2 (rec1 : ((Int32 × tSI × tSA) → Option (tSI × tSA))) (t1 : (Int32 × tSI × tSA)) : Option (tSI × tSA) :=
  (F_X0_everySort t1.2.1 t1.2.2).bind fun r3 => (if r3 < t1.1 then some (t1.2.1, t1.2.2) else (F_J6_bitCount_0f7a4 t1.1).bind fun r5 => (if (2 : Int32) ≤ r5 then (F_X1_fewestOf_r2 t1.1 t1.2.1 t1.2.2).bind fun r7 => ld t1.1 64 (rec1 ((t1.1 + 1), t1.2.1, (va_up t1.2.2 14 (upd (t1.2.2 14) (Int32.toNatClampNeg t1.1) r7)))) else ld t1.1 64 (rec1 ((t1.1 + 1), t1.2.1, (va_up t1.2.2 14 (upd (t1.2.2 14) (Int32.toNatClampNeg t1.1) (0 : Int32)))))))
def F_X1_weighTrees_r2 (si : tSI) (sa : tSA) : Option (tSI × tSA) :=
  (lp S_X1_weighTrees_r2_2 100 ((0 : Int32), si, sa)).bind fun (e2 : (tSI × tSA)) => some (e2.1, e2.2)
set_option maxHeartbeats 4000000 in
set_option maxRecDepth 100000 in
theorem c_X1_weighTrees_r2 (l : Launch) (D : va_G) (cA : ClassId) (ad : Nat → Nat) (si : tSI) (sa : tSA) (o : (tSI × tSA)) (hF : F_X1_weighTrees_r2 si sa = some o) : CG l yX1_weighTrees cX1_weighTrees 3 none 3 85 D cA [.ref (ad 5), .ref (ad 2)] (WX cA ad si sa) (WX cA ad o.1 o.2) none := by
  refine CG.ofv (by decide) (Nat.le_of_ble_eq_true rfl) ?_
  intro p ee s m args below meth c A Q H0 ls C0 hA hP hD hS hl hE
  have hl : lv_has ls 3 [(0, .ref (ad 5)), (1, .ref (ad 2))] := hl
  obtain ⟨hx, hb, hml, hown, ht, hK⟩ := id C0
  unfold F_X1_weighTrees_r2 at hF
  refine lv_iconst (v := (0 : Int32)) hx hb dX1_weighTrees_0 (by decide) ?_
  refine lv_istore_n (lv' := [(2, .int (0 : Int32)), (0, .ref (ad 5)), (1, .ref (ad 2))]) hx hb dX1_weighTrees_1 rfl hl (by decide) rfl (fun ls hl => ?_)
  obtain ⟨ox1, hL1, hX1⟩ := bd_all hF
  have JE1 : ∀ (e2 : (tSI × tSA)), ox1 = e2 → ∀ (H : Heap) (locs : List Loc) (ls : Array Slot), va_P D vwCl (WX cA ad e2.1 e2.2) H → va_D A (WX cA ad e2.1 e2.2) → va_S A H0 H locs → lv_has ls 3 [] → W p l ee (rmx 3 85) s m args below meth c H locs 0 0 Q (F0 m 40 ls []) := by
    intro e2 he H locs ls hP hD hS hl
    have hF := hX1 _ he
    have hF := Option.some.inj hF
    subst hF
    exact hE _ _ _ _ hP hD hS dX1_weighTrees_40
  have LP1 : ∀ (k1 : Nat) (t1 : (Int32 × tSI × tSA)), lp S_X1_weighTrees_r2_2 k1 t1 = some ox1 → ∀ (H : Heap) (locs : List Loc) (ls : Array Slot), va_P D vwCl (WX cA ad t1.2.1 t1.2.2) H → va_D A (WX cA ad t1.2.1 t1.2.2) → va_S A H0 H locs → lv_has ls 3 [(2, .int t1.1), (0, .ref (ad 5)), (1, .ref (ad 2))] → W p l ee (rmx 3 85) s m args below meth c H locs 0 0 Q (F0 m 2 ls []) := by
    intro k1
    induction k1 with
    | zero => intro t1 hF; exact (lp_no hF).elim
    | succ k1 ih1 =>
      intro t1 hF H locs ls hP hD hS hl
      change S_X1_weighTrees_r2_2 (lp S_X1_weighTrees_r2_2 k1) t1 = some ox1 at hF
      unfold S_X1_weighTrees_r2_2 at hF
      refine lv_iload_n hx hb dX1_weighTrees_2 rfl (lv_at hl 0 rfl) ?_
      refine lv_aload_n hx hb dX1_weighTrees_3 rfl (lv_at hl 2 rfl) ?_
      obtain ⟨r3, hr3, hF⟩ := bd_some hF
      refine kcV (As := []) (rest := [.int t1.1]) C0 hA hP hD hS (c_X0_everySort l D cA ad t1.2.1 t1.2.2 r3 hr3) lk_X0_everySort q244 q245 q407 2 0 rfl rfl hl.1 rfl rfl (Nat.le_of_ble_eq_true rfl) ⟨Nat.le_of_ble_eq_true rfl, Nat.le_of_ble_eq_true rfl⟩ ⟨Nat.le_refl _, Nat.le_refl _⟩ dX1_weighTrees_4 (fun H locs hP hD hS => ?_)
      refine W.eq (g2 := F0 m 7 ls [.int r3, .int t1.1]) rfl ?_
      refine lv_icmp_gt (tgt := 40) hx hb dX1_weighTrees_7 (by decide) (fun c4 => ?_) (fun c4 => ?_)
      · have hF := (if_pos c4).symm.trans hF
        exact JE1 _ (Option.some.inj hF).symm _ _ _ hP hD hS (lv_sub hl [] rfl)
      · have hF := (if_neg c4).symm.trans hF
        refine lv_aload_n hx hb dX1_weighTrees_10 rfl (lv_at hl 1 rfl) ?_
        refine gX5_1 C0 hP q139 dX1_weighTrees_11 ?_
        refine lv_iload_n hx hb dX1_weighTrees_14 rfl (lv_at hl 0 rfl) ?_
        refine lv_iload_n hx hb dX1_weighTrees_15 rfl (lv_at hl 0 rfl) ?_
        obtain ⟨r5, hr5, hF⟩ := bd_some hF
        refine kcS (As := [.int t1.1]) (rest := [.int t1.1, .ref (ad 20)]) C0 hA hP hD hS (c_J6_bitCount_0f7a4 l D cA ad t1.2.1 t1.2.2 t1.1 r5 hr5) lk_J6_bitCount_0f7a4 q409 q408 hl.1 rfl rfl (Nat.le_of_ble_eq_true rfl) ⟨Nat.le_of_ble_eq_true rfl, Nat.le_of_ble_eq_true rfl⟩ ⟨Nat.le_refl _, Nat.le_refl _⟩ dX1_weighTrees_16 (fun H locs hP hD hS => ?_)
        refine W.eq (g2 := F0 m 19 ls [.int r5, .int t1.1, .ref (ad 20)]) rfl ?_
        refine lv_iconst (v := (2 : Int32)) hx hb dX1_weighTrees_19 (by decide) ?_
        refine lv_icmp_ge (tgt := 27) hx hb dX1_weighTrees_20 (by decide) (fun c6 => ?_) (fun c6 => ?_)
        · have hF := (if_pos c6).symm.trans hF
          refine lv_aload_n hx hb dX1_weighTrees_27 rfl (lv_at hl 1 rfl) ?_
          refine lv_aload_n hx hb dX1_weighTrees_28 rfl (lv_at hl 2 rfl) ?_
          refine lv_iload_n hx hb dX1_weighTrees_29 rfl (lv_at hl 0 rfl) ?_
          obtain ⟨r7, hr7, hF⟩ := bd_some hF
          refine kcV (As := [.ref (ad 2), .int t1.1]) (rest := [.int t1.1, .ref (ad 20)]) C0 hA hP hD hS (c_X1_fewestOf_r2 l D cA ad t1.2.1 t1.2.2 t1.1 r7 hr7) lk_X1_fewestOf q416 s17 q414 5 1 rfl rfl hl.1 rfl rfl (Nat.le_of_ble_eq_true rfl) ⟨Nat.le_of_ble_eq_true rfl, Nat.le_of_ble_eq_true rfl⟩ ⟨Nat.le_refl _, Nat.le_refl _⟩ dX1_weighTrees_30 (fun H locs hP hD hS => ?_)
          refine W.eq (g2 := F0 m 33 ls [.int r7, .int t1.1, .ref (ad 20)]) rfl ?_
          obtain ⟨hin, hF⟩ := ld_some hF
          refine aXs14 (f := (t1.2.2 14)) C0 hP hD hS rfl hin dX1_weighTrees_33 (fun H locs hP hD hS => ?_)
          refine lv_iinc (v := (t1.1 + 1)) (lv' := [(2, .int (t1.1 + 1)), (0, .ref (ad 5)), (1, .ref (ad 2))]) hx hb dX1_weighTrees_34 hl (k := 0) rfl rfl (by decide) rfl (fun ls hl => ?_)
          refine lv_goto (tgt := 2) hx hb dX1_weighTrees_37 (by decide) ?_
          exact ih1 _ hF _ _ _ hP hD hS (lv_sub hl [0, 1, 2] rfl)
        · have hF := (if_neg c6).symm.trans hF
          refine lv_iconst (v := (0 : Int32)) hx hb dX1_weighTrees_23 (by decide) ?_
          refine lv_goto (tgt := 33) hx hb dX1_weighTrees_24 (by decide) ?_
          obtain ⟨hin, hF⟩ := ld_some hF
          refine aXs14 (f := (t1.2.2 14)) C0 hP hD hS rfl hin dX1_weighTrees_33 (fun H locs hP hD hS => ?_)
          refine lv_iinc (v := (t1.1 + 1)) (lv' := [(2, .int (t1.1 + 1)), (0, .ref (ad 5)), (1, .ref (ad 2))]) hx hb dX1_weighTrees_34 hl (k := 0) rfl rfl (by decide) rfl (fun ls hl => ?_)
          refine lv_goto (tgt := 2) hx hb dX1_weighTrees_37 (by decide) ?_
          exact ih1 _ hF _ _ _ hP hD hS (lv_sub hl [0, 1, 2] rfl)
  exact LP1 _ _ hL1 _ _ _ hP hD hS (lv_sub hl [0, 1, 2] rfl)
theorem lk_X1_firstOfTree : LK yX1_firstOfTree cX1_firstOfTree 5 (some .int) 1 := ⟨q429, q6, by decide +kernel⟩
def S_X1_firstOfTree_r2_35 (si : tSI) (r1 : Int32) (sa : tSA) (r3 : Int32) (rec4 : (Int32 → Option (Int32 ⊕ Unit))) (t4 : Int32) : Option (Int32 ⊕ Unit) :=
  (if (si 3) ≤ t4 then some (.inr ()) else (F_X1_behindParting_r2 r1 t4 si sa).bind fun r7 => (if r7 = (((sa 14) (Int32.toNatClampNeg r1)) - r3) then some (.inl t4) else rec4 (t4 + 1)))
def F_X1_firstOfTree_r2 (si : tSI) (sa : tSA) : Option Int32 :=
  (F_X0_everySort si sa).bind fun r1 => ld r1 64 ((if ((sa 14) (Int32.toNatClampNeg r1)) = (-9 : Int32) then some (-9 : Int32) else ld r1 64 ((F_X0_secondsFor r1 si sa).bind fun r3 => (lp (S_X1_firstOfTree_r2_35 si r1 sa r3) 100 (0 : Int32)).bind (Sum.elim some fun (e5 : Unit) => some (-9 : Int32)))))
set_option maxHeartbeats 4000000 in
set_option maxRecDepth 100000 in
theorem c_X1_firstOfTree_r2 (l : Launch) (D : va_G) (cA : ClassId) (ad : Nat → Nat) (si : tSI) (sa : tSA) (o : Int32) (hF : F_X1_firstOfTree_r2 si sa = some o) : CG l yX1_firstOfTree cX1_firstOfTree 5 (some .int) 2 44 D cA [.ref (ad 5), .ref (ad 2)] (WX cA ad si sa) (WX cA ad si sa) (some (.int o)) := by
  refine CG.ofi (by decide) (Nat.le_of_ble_eq_true rfl) ?_
  intro p ee s m args below meth c A Q H0 ls C0 hA hP hD hS hl hE
  have hl : lv_has ls 5 [(0, .ref (ad 5)), (1, .ref (ad 2))] := hl
  obtain ⟨hx, hb, hml, hown, ht, hK⟩ := id C0
  unfold F_X1_firstOfTree_r2 at hF
  refine lv_aload_n hx hb dX1_firstOfTree_0 rfl (lv_at hl 1 rfl) ?_
  obtain ⟨r1, hr1, hF⟩ := bd_some hF
  refine kcV (As := []) (rest := []) C0 hA hP hD hS (c_X0_everySort l D cA ad si sa r1 hr1) lk_X0_everySort q244 q245 q407 2 0 rfl rfl hl.1 rfl rfl (Nat.le_of_ble_eq_true rfl) ⟨Nat.le_of_ble_eq_true rfl, Nat.le_of_ble_eq_true rfl⟩ ⟨Nat.le_refl _, Nat.le_refl _⟩ dX1_firstOfTree_1 (fun H locs hP hD hS => ?_)
  refine W.eq (g2 := F0 m 4 ls [.int r1]) rfl ?_
  refine lv_istore_n (lv' := [(2, .int r1), (0, .ref (ad 5)), (1, .ref (ad 2))]) hx hb dX1_firstOfTree_4 rfl hl (by decide) rfl (fun ls hl => ?_)
  refine lv_aload_n hx hb dX1_firstOfTree_5 rfl (lv_at hl 1 rfl) ?_
  refine gX5_1 C0 hP q139 dX1_firstOfTree_6 ?_
  refine lv_iload_n hx hb dX1_firstOfTree_9 rfl (lv_at hl 0 rfl) ?_
  obtain ⟨hin, hF⟩ := ld_some hF
  refine aXl14 (f := (sa 14)) C0 hP rfl hin dX1_firstOfTree_10 ?_
  refine lv_bipush (v := (-9 : Int32)) hx hb dX1_firstOfTree_11 (by decide) ?_
  refine lv_icmp_ne (tgt := 19) hx hb dX1_firstOfTree_13 (by decide) (fun c2 => ?_) (fun c2 => ?_)
  · have hF := (if_neg c2).symm.trans hF
    refine lv_aload_n hx hb dX1_firstOfTree_19 rfl (lv_at hl 1 rfl) ?_
    refine gX5_1 C0 hP q139 dX1_firstOfTree_20 ?_
    refine lv_iload_n hx hb dX1_firstOfTree_23 rfl (lv_at hl 0 rfl) ?_
    obtain ⟨hin, hF⟩ := ld_some hF
    refine aXl14 (f := (sa 14)) C0 hP rfl hin dX1_firstOfTree_24 ?_
    refine lv_aload_n hx hb dX1_firstOfTree_25 rfl (lv_at hl 2 rfl) ?_
    refine lv_iload_n hx hb dX1_firstOfTree_26 rfl (lv_at hl 0 rfl) ?_
    obtain ⟨r3, hr3, hF⟩ := bd_some hF
    refine kcV (As := [.int r1]) (rest := [.int ((sa 14) (Int32.toNatClampNeg r1))]) C0 hA hP hD hS (c_X0_secondsFor l D cA ad si sa r1 r3 hr3) lk_X0_secondsFor q314 q315 q386 2 0 rfl rfl hl.1 rfl rfl (Nat.le_of_ble_eq_true rfl) ⟨Nat.le_of_ble_eq_true rfl, Nat.le_of_ble_eq_true rfl⟩ ⟨Nat.le_refl _, Nat.le_refl _⟩ dX1_firstOfTree_27 (fun H locs hP hD hS => ?_)
    refine W.eq (g2 := F0 m 30 ls [.int r3, .int ((sa 14) (Int32.toNatClampNeg r1))]) rfl ?_
    refine lv_isub hx hb dX1_firstOfTree_30 ?_
    refine lv_istore_n (lv' := [(3, .int (((sa 14) (Int32.toNatClampNeg r1)) - r3)), (2, .int r1), (0, .ref (ad 5)), (1, .ref (ad 2))]) hx hb dX1_firstOfTree_31 rfl hl (by decide) rfl (fun ls hl => ?_)
    refine lv_iconst (v := (0 : Int32)) hx hb dX1_firstOfTree_32 (by decide) ?_
    refine lv_istore (lv' := [(4, .int (0 : Int32)), (3, .int (((sa 14) (Int32.toNatClampNeg r1)) - r3)), (2, .int r1), (0, .ref (ad 5)), (1, .ref (ad 2))]) hx hb dX1_firstOfTree_33 hl (by decide) rfl (fun ls hl => ?_)
    obtain ⟨ox4, hL4, hI4, hX4⟩ := bds_all hF
    have JE4 : ∀ (e5 : Unit), ox4 = .inr e5 → ∀ (H : Heap) (locs : List Loc) (ls : Array Slot), va_P D vwCl (WX cA ad si sa) H → va_D A (WX cA ad si sa) → va_S A H0 H locs → lv_has ls 5 [] → W p l ee (rmx 2 44) s m args below meth c H locs 0 0 Q (F0 m 65 ls []) := by
      intro e5 he H locs ls hP hD hS hl
      have hF := hX4 _ he
      refine lv_bipush (v := (-9 : Int32)) hx hb dX1_firstOfTree_65 (by decide) ?_
      have hF := Option.some.inj hF
      exact hE _ _ _ _ _ hP hD hS dX1_firstOfTree_67 rfl hF
    have LP4 : ∀ (k4 : Nat) (t4 : Int32), lp (S_X1_firstOfTree_r2_35 si r1 sa r3) k4 t4 = some ox4 → ∀ (H : Heap) (locs : List Loc) (ls : Array Slot), va_P D vwCl (WX cA ad si sa) H → va_D A (WX cA ad si sa) → va_S A H0 H locs → lv_has ls 5 [(4, .int t4), (3, .int (((sa 14) (Int32.toNatClampNeg r1)) - r3)), (2, .int r1), (0, .ref (ad 5)), (1, .ref (ad 2))] → W p l ee (rmx 2 44) s m args below meth c H locs 0 0 Q (F0 m 35 ls []) := by
      intro k4
      induction k4 with
      | zero => intro t4 hF; exact (lp_no hF).elim
      | succ k4 ih4 =>
        intro t4 hF H locs ls hP hD hS hl
        change (S_X1_firstOfTree_r2_35 si r1 sa r3) (lp (S_X1_firstOfTree_r2_35 si r1 sa r3) k4) t4 = some ox4 at hF
        unfold S_X1_firstOfTree_r2_35 at hF
        refine lv_iload hx hb dX1_firstOfTree_35 (lv_at hl 0 rfl) ?_
        refine lv_aload_n hx hb dX1_firstOfTree_37 rfl (lv_at hl 4 rfl) ?_
        refine gX2_1 (v := (si 3)) C0 hP rfl q44 dX1_firstOfTree_38 ?_
        refine lv_icmp_ge (tgt := 65) hx hb dX1_firstOfTree_41 (by decide) (fun c6 => ?_) (fun c6 => ?_)
        · have hF := (if_pos c6).symm.trans hF
          exact JE4 _ (Option.some.inj hF).symm _ _ _ hP hD hS (lv_sub hl [] rfl)
        · have hF := (if_neg c6).symm.trans hF
          refine lv_aload_n hx hb dX1_firstOfTree_44 rfl (lv_at hl 3 rfl) ?_
          refine lv_aload_n hx hb dX1_firstOfTree_45 rfl (lv_at hl 4 rfl) ?_
          refine lv_iload_n hx hb dX1_firstOfTree_46 rfl (lv_at hl 2 rfl) ?_
          refine lv_iload hx hb dX1_firstOfTree_47 (lv_at hl 0 rfl) ?_
          obtain ⟨r7, hr7, hF⟩ := bd_some hF
          refine kcV (As := [.ref (ad 2), .int r1, .int t4]) (rest := []) C0 hA hP hD hS (c_X1_behindParting_r2 l D cA ad si sa r1 t4 r7 hr7) lk_X1_behindParting q420 s18 q418 5 1 rfl rfl hl.1 rfl rfl (Nat.le_of_ble_eq_true rfl) ⟨Nat.le_of_ble_eq_true rfl, Nat.le_of_ble_eq_true rfl⟩ ⟨Nat.le_refl _, Nat.le_refl _⟩ dX1_firstOfTree_49 (fun H locs hP hD hS => ?_)
          refine W.eq (g2 := F0 m 52 ls [.int r7]) rfl ?_
          refine lv_iload_n hx hb dX1_firstOfTree_52 rfl (lv_at hl 1 rfl) ?_
          refine lv_icmp_ne (tgt := 59) hx hb dX1_firstOfTree_53 (by decide) (fun c8 => ?_) (fun c8 => ?_)
          · have hF := (if_neg c8).symm.trans hF
            refine lv_iinc (v := (t4 + 1)) (lv' := [(4, .int (t4 + 1)), (3, .int (((sa 14) (Int32.toNatClampNeg r1)) - r3)), (2, .int r1), (0, .ref (ad 5)), (1, .ref (ad 2))]) hx hb dX1_firstOfTree_59 hl (k := 0) rfl rfl (by decide) rfl (fun ls hl => ?_)
            refine lv_goto (tgt := 35) hx hb dX1_firstOfTree_62 (by decide) ?_
            exact ih4 _ hF _ _ _ hP hD hS (lv_sub hl [0, 1, 2, 3, 4] rfl)
          · have hF := (if_pos c8).symm.trans hF
            refine lv_iload hx hb dX1_firstOfTree_56 (lv_at hl 0 rfl) ?_
            have hF := Option.some.inj hF
            subst hF
            have hF := hI4 _ rfl
            exact hE _ _ _ _ _ hP hD hS dX1_firstOfTree_58 rfl hF
    exact LP4 _ _ hL4 _ _ _ hP hD hS (lv_sub hl [0, 1, 2, 3, 4] rfl)
  · have hF := (if_pos c2).symm.trans hF
    refine lv_bipush (v := (-9 : Int32)) hx hb dX1_firstOfTree_16 (by decide) ?_
    have hF := Option.some.inj hF
    exact hE _ _ _ _ _ hP hD hS dX1_firstOfTree_18 rfl hF
theorem lk_X1_fewestByTree : LK yX1_fewestByTree cX1_fewestByTree 2 (some .int) 1 := ⟨q425, q6, by decide +kernel⟩
def F_X1_fewestByTree_r2 (si : tSI) (sa : tSA) : Option Int32 :=
  (F_X0_everySort si sa).bind fun r1 => ld r1 64 (some ((sa 14) (Int32.toNatClampNeg r1)))
set_option maxHeartbeats 4000000 in
set_option maxRecDepth 100000 in
theorem c_X1_fewestByTree_r2 (l : Launch) (D : va_G) (cA : ClassId) (ad : Nat → Nat) (si : tSI) (sa : tSA) (o : Int32) (hF : F_X1_fewestByTree_r2 si sa = some o) : CG l yX1_fewestByTree cX1_fewestByTree 2 (some .int) 1 20 D cA [.ref (ad 5), .ref (ad 2)] (WX cA ad si sa) (WX cA ad si sa) (some (.int o)) := by
  refine CG.ofi (by decide) (Nat.le_of_ble_eq_true rfl) ?_
  intro p ee s m args below meth c A Q H0 ls C0 hA hP hD hS hl hE
  have hl : lv_has ls 2 [(0, .ref (ad 5)), (1, .ref (ad 2))] := hl
  obtain ⟨hx, hb, hml, hown, ht, hK⟩ := id C0
  unfold F_X1_fewestByTree_r2 at hF
  refine lv_aload_n hx hb dX1_fewestByTree_0 rfl (lv_at hl 0 rfl) ?_
  refine gX5_1 C0 hP q139 dX1_fewestByTree_1 ?_
  refine lv_aload_n hx hb dX1_fewestByTree_4 rfl (lv_at hl 1 rfl) ?_
  obtain ⟨r1, hr1, hF⟩ := bd_some hF
  refine kcV (As := []) (rest := [.ref (ad 20)]) C0 hA hP hD hS (c_X0_everySort l D cA ad si sa r1 hr1) lk_X0_everySort q244 q245 q407 2 0 rfl rfl hl.1 rfl rfl (Nat.le_of_ble_eq_true rfl) ⟨Nat.le_of_ble_eq_true rfl, Nat.le_of_ble_eq_true rfl⟩ ⟨Nat.le_refl _, Nat.le_refl _⟩ dX1_fewestByTree_5 (fun H locs hP hD hS => ?_)
  refine W.eq (g2 := F0 m 8 ls [.int r1, .ref (ad 20)]) rfl ?_
  obtain ⟨hin, hF⟩ := ld_some hF
  refine aXl14 (f := (sa 14)) C0 hP rfl hin dX1_fewestByTree_8 ?_
  have hF := Option.some.inj hF
  exact hE _ _ _ _ _ hP hD hS dX1_fewestByTree_9 rfl hF
theorem lk_X5_tree : LK yX5_tree cX5_tree 2 (some .int) 1 := ⟨q402, q1, by decide +kernel⟩
def F_X5_tree (a1 : Int32) (si : tSI) (sa : tSA) : Option (Int32 × tSI × tSA) :=
  (if a1 < 0 then some ((-2 : Int32), si, sa) else (if a1 ≤ (1 : Int32) then (F_X0_isThere si sa).bind fun r3 => (if r3 = 0 then some ((-3 : Int32), si, sa) else (F_X1_weighTrees_r2 si sa).bind fun r5 => (if a1 = 0 then (F_X1_fewestByTree_r2 r5.1 r5.2).bind fun r8 => some (r8, r5.1, r5.2) else (F_X1_firstOfTree_r2 r5.1 r5.2).bind fun r7 => some (r7, r5.1, r5.2))) else some ((-2 : Int32), si, sa)))
set_option maxHeartbeats 4000000 in
set_option maxRecDepth 100000 in
theorem c_X5_tree (l : Launch) (D : va_G) (cA : ClassId) (ad : Nat → Nat) (si : tSI) (sa : tSA) (a1 : Int32) (o : (Int32 × tSI × tSA)) (hF : F_X5_tree a1 si sa = some o) : CG l yX5_tree cX5_tree 2 (some .int) 4 107 D cA [.ref (ad 0), .int a1] (WX cA ad si sa) (WX cA ad o.2.1 o.2.2) (some (.int o.1)) := by
  refine CG.ofi (by decide) (Nat.le_of_ble_eq_true rfl) ?_
  intro p ee s m args below meth c A Q H0 ls C0 hA hP hD hS hl hE
  have hl : lv_has ls 2 [(0, .ref (ad 0)), (1, .int a1)] := hl
  obtain ⟨hx, hb, hml, hown, ht, hK⟩ := id C0
  unfold F_X5_tree at hF
  refine lv_iload_n hx hb dX5_tree_0 rfl (lv_at hl 1 rfl) ?_
  refine lv_if_lt (tgt := 9) hx hb dX5_tree_1 (by decide) (fun c1 => ?_) (fun c1 => ?_)
  · have hF := (if_pos c1).symm.trans hF
    refine lv_bipush (v := (-2 : Int32)) hx hb dX5_tree_9 (by decide) ?_
    have hF := Option.some.inj hF
    subst hF
    exact hE _ _ _ _ _ hP hD hS dX5_tree_11 rfl rfl
  · have hF := (if_neg c1).symm.trans hF
    refine lv_iload_n hx hb dX5_tree_4 rfl (lv_at hl 1 rfl) ?_
    refine lv_iconst (v := (1 : Int32)) hx hb dX5_tree_5 (by decide) ?_
    refine lv_icmp_le (tgt := 12) hx hb dX5_tree_6 (by decide) (fun c2 => ?_) (fun c2 => ?_)
    · have hF := (if_pos c2).symm.trans hF
      refine lv_aload_n hx hb dX5_tree_12 rfl (lv_at hl 0 rfl) ?_
      refine gX0_1 C0 hP q146 dX5_tree_13 ?_
      obtain ⟨r3, hr3, hF⟩ := bd_some hF
      refine kcV (As := []) (rest := []) C0 hA hP hD hS (c_X0_isThere l D cA ad si sa r3 hr3) lk_X0_isThere q287 q288 q286 2 0 rfl rfl hl.1 rfl rfl (Nat.le_of_ble_eq_true rfl) ⟨Nat.le_of_ble_eq_true rfl, Nat.le_of_ble_eq_true rfl⟩ ⟨Nat.le_refl _, Nat.le_refl _⟩ dX5_tree_16 (fun H locs hP hD hS => ?_)
      refine W.eq (g2 := F0 m 19 ls [.int r3]) rfl ?_
      refine lv_if_ne (tgt := 25) hx hb dX5_tree_19 (by decide) (fun c4 => ?_) (fun c4 => ?_)
      · have hF := (if_neg c4).symm.trans hF
        refine lv_aload_n hx hb dX5_tree_25 rfl (lv_at hl 0 rfl) ?_
        refine gX0_4 C0 hP q149 dX5_tree_26 ?_
        refine lv_aload_n hx hb dX5_tree_29 rfl (lv_at hl 0 rfl) ?_
        refine gX0_1 C0 hP q146 dX5_tree_30 ?_
        obtain ⟨r5, hr5, hF⟩ := bd_some hF
        refine kcV (As := [.ref (ad 2)]) (rest := []) C0 hA hP hD hS (c_X1_weighTrees_r2 l D cA ad si sa r5 hr5) lk_X1_weighTrees q404 q405 q403 5 1 rfl rfl hl.1 rfl rfl (Nat.le_of_ble_eq_true rfl) ⟨Nat.le_of_ble_eq_true rfl, Nat.le_of_ble_eq_true rfl⟩ ⟨Nat.le_refl _, Nat.le_refl _⟩ dX5_tree_33 (fun H locs hP hD hS => ?_)
        refine W.eq (g2 := F0 m 36 ls []) rfl ?_
        refine lv_iload_n hx hb dX5_tree_36 rfl (lv_at hl 1 rfl) ?_
        refine lv_if_ne (tgt := 54) hx hb dX5_tree_37 (by decide) (fun c6 => ?_) (fun c6 => ?_)
        · have hF := (if_neg c6).symm.trans hF
          refine lv_aload_n hx hb dX5_tree_54 rfl (lv_at hl 0 rfl) ?_
          refine gX0_4 C0 hP q149 dX5_tree_55 ?_
          refine lv_aload_n hx hb dX5_tree_58 rfl (lv_at hl 0 rfl) ?_
          refine gX0_1 C0 hP q146 dX5_tree_59 ?_
          obtain ⟨r7, hr7, hF⟩ := bd_some hF
          refine kcV (As := [.ref (ad 2)]) (rest := []) C0 hA hP hD hS (c_X1_firstOfTree_r2 l D cA ad r5.1 r5.2 r7 hr7) lk_X1_firstOfTree q427 q428 q426 5 1 rfl rfl hl.1 rfl rfl (Nat.le_of_ble_eq_true rfl) ⟨Nat.le_of_ble_eq_true rfl, Nat.le_of_ble_eq_true rfl⟩ ⟨Nat.le_refl _, Nat.le_refl _⟩ dX5_tree_62 (fun H locs hP hD hS => ?_)
          refine W.eq (g2 := F0 m 65 ls [.int r7]) rfl ?_
          have hF := Option.some.inj hF
          subst hF
          exact hE _ _ _ _ _ hP hD hS dX5_tree_65 rfl rfl
        · have hF := (if_pos c6).symm.trans hF
          refine lv_aload_n hx hb dX5_tree_40 rfl (lv_at hl 0 rfl) ?_
          refine gX0_4 C0 hP q149 dX5_tree_41 ?_
          refine lv_aload_n hx hb dX5_tree_44 rfl (lv_at hl 0 rfl) ?_
          refine gX0_1 C0 hP q146 dX5_tree_45 ?_
          obtain ⟨r8, hr8, hF⟩ := bd_some hF
          refine kcV (As := [.ref (ad 2)]) (rest := []) C0 hA hP hD hS (c_X1_fewestByTree_r2 l D cA ad r5.1 r5.2 r8 hr8) lk_X1_fewestByTree q423 q424 q422 5 1 rfl rfl hl.1 rfl rfl (Nat.le_of_ble_eq_true rfl) ⟨Nat.le_of_ble_eq_true rfl, Nat.le_of_ble_eq_true rfl⟩ ⟨Nat.le_refl _, Nat.le_refl _⟩ dX5_tree_48 (fun H locs hP hD hS => ?_)
          refine W.eq (g2 := F0 m 51 ls [.int r8]) rfl ?_
          refine lv_goto (tgt := 65) hx hb dX5_tree_51 (by decide) ?_
          have hF := Option.some.inj hF
          subst hF
          exact hE _ _ _ _ _ hP hD hS dX5_tree_65 rfl rfl
      · have hF := (if_pos c4).symm.trans hF
        refine lv_bipush (v := (-3 : Int32)) hx hb dX5_tree_22 (by decide) ?_
        have hF := Option.some.inj hF
        subst hF
        exact hE _ _ _ _ _ hP hD hS dX5_tree_24 rfl rfl
    · have hF := (if_neg c2).symm.trans hF
      refine lv_bipush (v := (-2 : Int32)) hx hb dX5_tree_9 (by decide) ?_
      have hF := Option.some.inj hF
      subst hF
      exact hE _ _ _ _ _ hP hD hS dX5_tree_11 rfl rfl
theorem lk_X0_lettersAlike : LK yX0_lettersAlike cX0_lettersAlike 4 (some .int) 1 := ⟨q438, q3, by decide +kernel⟩
def S_X0_lettersAlike_4 (si : tSI) (a1 : Int32) (sa : tSA) (rec1 : ((Int32 × Int32) → Option Int32)) (t1 : (Int32 × Int32)) : Option Int32 :=
  (if (si 2) ≤ t1.1 then some t1.2 else (if t1.1 = a1 then rec1 ((t1.1 + 1), t1.2) else ld t1.1 6 ((if ((sa 4) (Int32.toNatClampNeg t1.1)) = 0 then ld t1.1 6 ((if ((sa 7) (Int32.toNatClampNeg t1.1)) = a1 then ld t1.1 6 (rec1 ((t1.1 + 1), (t1.2 + ((sa 5) (Int32.toNatClampNeg t1.1))))) else rec1 ((t1.1 + 1), t1.2))) else rec1 ((t1.1 + 1), t1.2)))))
def F_X0_lettersAlike (a1 : Int32) (si : tSI) (sa : tSA) : Option Int32 :=
  (lp (S_X0_lettersAlike_4 si a1 sa) 100 ((0 : Int32), (0 : Int32))).bind fun (e2 : Int32) => some e2
set_option maxHeartbeats 4000000 in
set_option maxRecDepth 100000 in
theorem c_X0_lettersAlike (l : Launch) (D : va_G) (cA : ClassId) (ad : Nat → Nat) (si : tSI) (sa : tSA) (a1 : Int32) (o : Int32) (hF : F_X0_lettersAlike a1 si sa = some o) : CG l yX0_lettersAlike cX0_lettersAlike 4 (some .int) 0 0 D cA [.ref (ad 2), .int a1] (WX cA ad si sa) (WX cA ad si sa) (some (.int o)) := by
  refine CG.ofi (by decide) (Nat.le_of_ble_eq_true rfl) ?_
  intro p ee s m args below meth c A Q H0 ls C0 hA hP hD hS hl hE
  have hl : lv_has ls 4 [(0, .ref (ad 2)), (1, .int a1)] := hl
  obtain ⟨hx, hb, hml, hown, ht, hK⟩ := id C0
  unfold F_X0_lettersAlike at hF
  refine lv_iconst (v := (0 : Int32)) hx hb dX0_lettersAlike_0 (by decide) ?_
  refine lv_istore_n (lv' := [(2, .int (0 : Int32)), (0, .ref (ad 2)), (1, .int a1)]) hx hb dX0_lettersAlike_1 rfl hl (by decide) rfl (fun ls hl => ?_)
  refine lv_iconst (v := (0 : Int32)) hx hb dX0_lettersAlike_2 (by decide) ?_
  refine lv_istore_n (lv' := [(3, .int (0 : Int32)), (2, .int (0 : Int32)), (0, .ref (ad 2)), (1, .int a1)]) hx hb dX0_lettersAlike_3 rfl hl (by decide) rfl (fun ls hl => ?_)
  obtain ⟨ox1, hL1, hX1⟩ := bd_all hF
  have JE1 : ∀ (e2 : Int32), ox1 = e2 → ∀ (H : Heap) (locs : List Loc) (ls : Array Slot), va_P D vwCl (WX cA ad si sa) H → va_D A (WX cA ad si sa) → va_S A H0 H locs → lv_has ls 4 [(2, .int e2)] → W p l ee (rmx 0 0) s m args below meth c H locs 0 0 Q (F0 m 51 ls []) := by
    intro e2 he H locs ls hP hD hS hl
    have hF := hX1 _ he
    refine lv_iload_n hx hb dX0_lettersAlike_51 rfl (lv_at hl 0 rfl) ?_
    have hF := Option.some.inj hF
    exact hE _ _ _ _ _ hP hD hS dX0_lettersAlike_52 rfl hF
  have LP1 : ∀ (k1 : Nat) (t1 : (Int32 × Int32)), lp (S_X0_lettersAlike_4 si a1 sa) k1 t1 = some ox1 → ∀ (H : Heap) (locs : List Loc) (ls : Array Slot), va_P D vwCl (WX cA ad si sa) H → va_D A (WX cA ad si sa) → va_S A H0 H locs → lv_has ls 4 [(3, .int t1.1), (2, .int t1.2), (0, .ref (ad 2)), (1, .int a1)] → W p l ee (rmx 0 0) s m args below meth c H locs 0 0 Q (F0 m 4 ls []) := by
    intro k1
    induction k1 with
    | zero => intro t1 hF; exact (lp_no hF).elim
    | succ k1 ih1 =>
      intro t1 hF H locs ls hP hD hS hl
      change (S_X0_lettersAlike_4 si a1 sa) (lp (S_X0_lettersAlike_4 si a1 sa) k1) t1 = some ox1 at hF
      unfold S_X0_lettersAlike_4 at hF
      refine lv_iload_n hx hb dX0_lettersAlike_4 rfl (lv_at hl 0 rfl) ?_
      refine lv_aload_n hx hb dX0_lettersAlike_5 rfl (lv_at hl 2 rfl) ?_
      refine gX2_0 (v := (si 2)) C0 hP rfl q42 dX0_lettersAlike_6 ?_
      refine lv_icmp_ge (tgt := 51) hx hb dX0_lettersAlike_9 (by decide) (fun c3 => ?_) (fun c3 => ?_)
      · have hF := (if_pos c3).symm.trans hF
        exact JE1 _ (Option.some.inj hF).symm _ _ _ hP hD hS (lv_sub hl [1] rfl)
      · have hF := (if_neg c3).symm.trans hF
        refine lv_iload_n hx hb dX0_lettersAlike_12 rfl (lv_at hl 0 rfl) ?_
        refine lv_iload_n hx hb dX0_lettersAlike_13 rfl (lv_at hl 3 rfl) ?_
        refine lv_icmp_eq (tgt := 45) hx hb dX0_lettersAlike_14 (by decide) (fun c4 => ?_) (fun c4 => ?_)
        · have hF := (if_pos c4).symm.trans hF
          refine lv_iinc (v := (t1.1 + 1)) (lv' := [(3, .int (t1.1 + 1)), (2, .int t1.2), (0, .ref (ad 2)), (1, .int a1)]) hx hb dX0_lettersAlike_45 hl (k := 0) rfl rfl (by decide) rfl (fun ls hl => ?_)
          refine lv_goto (tgt := 4) hx hb dX0_lettersAlike_48 (by decide) ?_
          exact ih1 _ hF _ _ _ hP hD hS (lv_sub hl [0, 1, 2, 3] rfl)
        · have hF := (if_neg c4).symm.trans hF
          refine lv_aload_n hx hb dX0_lettersAlike_17 rfl (lv_at hl 2 rfl) ?_
          refine gX2_3 C0 hP q49 dX0_lettersAlike_18 ?_
          refine lv_iload_n hx hb dX0_lettersAlike_21 rfl (lv_at hl 0 rfl) ?_
          obtain ⟨hin, hF⟩ := ld_some hF
          refine aXl4 (f := (sa 4)) C0 hP rfl hin dX0_lettersAlike_22 ?_
          refine lv_if_ne (tgt := 45) hx hb dX0_lettersAlike_23 (by decide) (fun c5 => ?_) (fun c5 => ?_)
          · have hF := (if_neg c5).symm.trans hF
            refine lv_iinc (v := (t1.1 + 1)) (lv' := [(3, .int (t1.1 + 1)), (2, .int t1.2), (0, .ref (ad 2)), (1, .int a1)]) hx hb dX0_lettersAlike_45 hl (k := 0) rfl rfl (by decide) rfl (fun ls hl => ?_)
            refine lv_goto (tgt := 4) hx hb dX0_lettersAlike_48 (by decide) ?_
            exact ih1 _ hF _ _ _ hP hD hS (lv_sub hl [0, 1, 2, 3] rfl)
          · have hF := (if_pos c5).symm.trans hF
            refine lv_aload_n hx hb dX0_lettersAlike_26 rfl (lv_at hl 2 rfl) ?_
            refine gX2_6 C0 hP q55 dX0_lettersAlike_27 ?_
            refine lv_iload_n hx hb dX0_lettersAlike_30 rfl (lv_at hl 0 rfl) ?_
            obtain ⟨hin, hF⟩ := ld_some hF
            refine aXl7 (f := (sa 7)) C0 hP rfl hin dX0_lettersAlike_31 ?_
            refine lv_iload_n hx hb dX0_lettersAlike_32 rfl (lv_at hl 3 rfl) ?_
            refine lv_icmp_ne (tgt := 45) hx hb dX0_lettersAlike_33 (by decide) (fun c6 => ?_) (fun c6 => ?_)
            · have hF := (if_neg c6).symm.trans hF
              refine lv_iinc (v := (t1.1 + 1)) (lv' := [(3, .int (t1.1 + 1)), (2, .int t1.2), (0, .ref (ad 2)), (1, .int a1)]) hx hb dX0_lettersAlike_45 hl (k := 0) rfl rfl (by decide) rfl (fun ls hl => ?_)
              refine lv_goto (tgt := 4) hx hb dX0_lettersAlike_48 (by decide) ?_
              exact ih1 _ hF _ _ _ hP hD hS (lv_sub hl [0, 1, 2, 3] rfl)
            · have hF := (if_pos c6).symm.trans hF
              refine lv_iload_n hx hb dX0_lettersAlike_36 rfl (lv_at hl 1 rfl) ?_
              refine lv_aload_n hx hb dX0_lettersAlike_37 rfl (lv_at hl 2 rfl) ?_
              refine gX2_4 C0 hP q51 dX0_lettersAlike_38 ?_
              refine lv_iload_n hx hb dX0_lettersAlike_41 rfl (lv_at hl 0 rfl) ?_
              obtain ⟨hin, hF⟩ := ld_some hF
              refine aXl5 (f := (sa 5)) C0 hP rfl hin dX0_lettersAlike_42 ?_
              refine lv_iadd hx hb dX0_lettersAlike_43 ?_
              refine lv_istore_n (lv' := [(2, .int (t1.2 + ((sa 5) (Int32.toNatClampNeg t1.1)))), (3, .int t1.1), (0, .ref (ad 2)), (1, .int a1)]) hx hb dX0_lettersAlike_44 rfl hl (by decide) rfl (fun ls hl => ?_)
              refine lv_iinc (v := (t1.1 + 1)) (lv' := [(3, .int (t1.1 + 1)), (2, .int (t1.2 + ((sa 5) (Int32.toNatClampNeg t1.1)))), (0, .ref (ad 2)), (1, .int a1)]) hx hb dX0_lettersAlike_45 hl (k := 1) rfl rfl (by decide) rfl (fun ls hl => ?_)
              refine lv_goto (tgt := 4) hx hb dX0_lettersAlike_48 (by decide) ?_
              exact ih1 _ hF _ _ _ hP hD hS (lv_sub hl [0, 1, 2, 3] rfl)
  exact LP1 _ _ hL1 _ _ _ hP hD hS (lv_sub hl [0, 1, 2, 3] rfl)
theorem lk_X5_waysOfAtLeast : LK yX5_waysOfAtLeast cX5_waysOfAtLeast 7 (some .long) 2 := ⟨q441, q1, by decide +kernel⟩
def S_X5_waysOfAtLeast_8 (a1 : Int32) (a2 : Int32) (rec1 : ((Int32 × Int64 × Int64) → Option Int64)) (t1 : (Int32 × Int64 × Int64)) : Option Int64 :=
  (if a1 < t1.1 then some t1.2.1 else ((if t1.1 < a2 then some t1.2.1 else some (t1.2.1 + t1.2.2))).bind fun (x4 : Int64) => dzl (Int32.toInt64 (t1.1 + (1 : Int32))) (rec1 ((t1.1 + 1), x4, ((t1.2.2 * (Int32.toInt64 (a1 - t1.1))) / (Int32.toInt64 (t1.1 + (1 : Int32)))))))
def F_X5_waysOfAtLeast (a1 : Int32) (a2 : Int32) : Option Int64 :=
  (lp (S_X5_waysOfAtLeast_8 a1 a2) 100 ((0 : Int32), (0 : Int64), (1 : Int64))).bind fun (e2 : Int64) => some e2
set_option maxHeartbeats 4000000 in
set_option maxRecDepth 100000 in
theorem c_X5_waysOfAtLeast (l : Launch) (D : va_G) (cA : ClassId) (ad : Nat → Nat) (si : tSI) (sa : tSA) (a1 : Int32) (a2 : Int32) (o : Int64) (hF : F_X5_waysOfAtLeast a1 a2 = some o) : CG l yX5_waysOfAtLeast cX5_waysOfAtLeast 7 (some .long) 0 0 D cA [.int a1, .int a2] (WX cA ad si sa) (WX cA ad si sa) (some (.long o)) := by
  refine CG.ofl (by decide) (Nat.le_of_ble_eq_true rfl) ?_
  intro p ee s m args below meth c A Q H0 ls C0 hA hP hD hS hl hE
  have hl : lv_has ls 7 [(0, .int a1), (1, .int a2)] := hl
  obtain ⟨hx, hb, hml, hown, ht, hK⟩ := id C0
  unfold F_X5_waysOfAtLeast at hF
  refine lv_lconst (v := (1 : Int64)) hx hb dX5_waysOfAtLeast_0 (by decide) ?_
  refine lv_lstore_n (lv' := [(2, .long (1 : Int64)), (0, .int a1), (1, .int a2)]) hx hb dX5_waysOfAtLeast_1 rfl hl (by decide) rfl (fun ls hl => ?_)
  refine lv_lconst (v := (0 : Int64)) hx hb dX5_waysOfAtLeast_2 (by decide) ?_
  refine lv_lstore (lv' := [(4, .long (0 : Int64)), (2, .long (1 : Int64)), (0, .int a1), (1, .int a2)]) hx hb dX5_waysOfAtLeast_3 hl (by decide) rfl (fun ls hl => ?_)
  refine lv_iconst (v := (0 : Int32)) hx hb dX5_waysOfAtLeast_5 (by decide) ?_
  refine lv_istore (lv' := [(6, .int (0 : Int32)), (4, .long (0 : Int64)), (2, .long (1 : Int64)), (0, .int a1), (1, .int a2)]) hx hb dX5_waysOfAtLeast_6 hl (by decide) rfl (fun ls hl => ?_)
  obtain ⟨ox1, hL1, hX1⟩ := bd_all hF
  have JE1 : ∀ (e2 : Int64), ox1 = e2 → ∀ (H : Heap) (locs : List Loc) (ls : Array Slot), va_P D vwCl (WX cA ad si sa) H → va_D A (WX cA ad si sa) → va_S A H0 H locs → lv_has ls 7 [(4, .long e2)] → W p l ee (rmx 0 0) s m args below meth c H locs 0 0 Q (F0 m 46 ls []) := by
    intro e2 he H locs ls hP hD hS hl
    have hF := hX1 _ he
    refine lv_lload hx hb dX5_waysOfAtLeast_46 (lv_at hl 0 rfl) ?_
    have hF := Option.some.inj hF
    exact hE _ _ _ _ _ hP hD hS dX5_waysOfAtLeast_48 hF
  have LP1 : ∀ (k1 : Nat) (t1 : (Int32 × Int64 × Int64)), lp (S_X5_waysOfAtLeast_8 a1 a2) k1 t1 = some ox1 → ∀ (H : Heap) (locs : List Loc) (ls : Array Slot), va_P D vwCl (WX cA ad si sa) H → va_D A (WX cA ad si sa) → va_S A H0 H locs → lv_has ls 7 [(6, .int t1.1), (4, .long t1.2.1), (2, .long t1.2.2), (0, .int a1), (1, .int a2)] → W p l ee (rmx 0 0) s m args below meth c H locs 0 0 Q (F0 m 8 ls []) := by
    intro k1
    induction k1 with
    | zero => intro t1 hF; exact (lp_no hF).elim
    | succ k1 ih1 =>
      intro t1 hF H locs ls hP hD hS hl
      change (S_X5_waysOfAtLeast_8 a1 a2) (lp (S_X5_waysOfAtLeast_8 a1 a2) k1) t1 = some ox1 at hF
      unfold S_X5_waysOfAtLeast_8 at hF
      refine lv_iload hx hb dX5_waysOfAtLeast_8 (lv_at hl 0 rfl) ?_
      refine lv_iload_n hx hb dX5_waysOfAtLeast_10 rfl (lv_at hl 3 rfl) ?_
      refine lv_icmp_gt (tgt := 46) hx hb dX5_waysOfAtLeast_11 (by decide) (fun c3 => ?_) (fun c3 => ?_)
      · have hF := (if_pos c3).symm.trans hF
        exact JE1 _ (Option.some.inj hF).symm _ _ _ hP hD hS (lv_sub hl [1] rfl)
      · have hF := (if_neg c3).symm.trans hF
        refine lv_iload hx hb dX5_waysOfAtLeast_14 (lv_at hl 0 rfl) ?_
        refine lv_iload_n hx hb dX5_waysOfAtLeast_16 rfl (lv_at hl 4 rfl) ?_
        obtain ⟨x4, hRx4, hF⟩ := bd_some hF
        have Jx4 : ∀ (H : Heap) (locs : List Loc) (ls : Array Slot), va_P D vwCl (WX cA ad si sa) H → va_D A (WX cA ad si sa) → va_S A H0 H locs → lv_has ls 7 [(6, .int t1.1), (4, .long x4), (2, .long t1.2.2), (0, .int a1), (1, .int a2)] → W p l ee (rmx 0 0) s m args below meth c H locs 0 0 Q (F0 m 26 ls []) := by
          intro H locs ls hP hD hS hl
          refine lv_lload_n hx hb dX5_waysOfAtLeast_26 rfl (lv_at hl 2 rfl) ?_
          refine lv_iload_n hx hb dX5_waysOfAtLeast_27 rfl (lv_at hl 3 rfl) ?_
          refine lv_iload hx hb dX5_waysOfAtLeast_28 (lv_at hl 0 rfl) ?_
          refine lv_isub hx hb dX5_waysOfAtLeast_30 ?_
          refine lv_i2l hx hb dX5_waysOfAtLeast_31 rfl ?_
          refine lv_lmul hx hb dX5_waysOfAtLeast_32 ?_
          refine lv_iload hx hb dX5_waysOfAtLeast_33 (lv_at hl 0 rfl) ?_
          refine lv_iconst (v := (1 : Int32)) hx hb dX5_waysOfAtLeast_35 (by decide) ?_
          refine lv_iadd hx hb dX5_waysOfAtLeast_36 ?_
          refine lv_i2l hx hb dX5_waysOfAtLeast_37 rfl ?_
          obtain ⟨hdz, hF⟩ := dzl_some hF
          refine lv_ldiv hx hb dX5_waysOfAtLeast_38 hdz ?_
          refine lv_lstore_n (lv' := [(2, .long ((t1.2.2 * (Int32.toInt64 (a1 - t1.1))) / (Int32.toInt64 (t1.1 + (1 : Int32))))), (6, .int t1.1), (4, .long x4), (0, .int a1), (1, .int a2)]) hx hb dX5_waysOfAtLeast_39 rfl hl (by decide) rfl (fun ls hl => ?_)
          refine lv_iinc (v := (t1.1 + 1)) (lv' := [(6, .int (t1.1 + 1)), (2, .long ((t1.2.2 * (Int32.toInt64 (a1 - t1.1))) / (Int32.toInt64 (t1.1 + (1 : Int32))))), (4, .long x4), (0, .int a1), (1, .int a2)]) hx hb dX5_waysOfAtLeast_40 hl (k := 1) rfl rfl (by decide) rfl (fun ls hl => ?_)
          refine lv_goto (tgt := 8) hx hb dX5_waysOfAtLeast_43 (by decide) ?_
          exact ih1 _ hF _ _ _ hP hD hS (lv_sub hl [0, 2, 1, 3, 4] rfl)
        have hF := hRx4
        refine lv_icmp_lt (tgt := 26) hx hb dX5_waysOfAtLeast_17 (by decide) (fun c5 => ?_) (fun c5 => ?_)
        · have hF := (if_pos c5).symm.trans hF
          have hF := Option.some.inj hF
          subst hF
          exact Jx4 _ _ _ hP hD hS (lv_sub hl [0, 1, 2, 3, 4] rfl)
        · have hF := (if_neg c5).symm.trans hF
          refine lv_lload hx hb dX5_waysOfAtLeast_20 (lv_at hl 1 rfl) ?_
          refine lv_lload_n hx hb dX5_waysOfAtLeast_22 rfl (lv_at hl 2 rfl) ?_
          refine lv_ladd hx hb dX5_waysOfAtLeast_23 ?_
          refine lv_lstore (lv' := [(4, .long (t1.2.1 + t1.2.2)), (6, .int t1.1), (2, .long t1.2.2), (0, .int a1), (1, .int a2)]) hx hb dX5_waysOfAtLeast_24 hl (by decide) rfl (fun ls hl => ?_)
          have hF := Option.some.inj hF
          subst hF
          exact Jx4 _ _ _ hP hD hS (lv_sub hl [1, 0, 2, 3, 4] rfl)
  exact LP1 _ _ hL1 _ _ _ hP hD hS (lv_sub hl [0, 1, 2, 3, 4] rfl)
theorem lk_X5_odds : LK yX5_odds cX5_odds 10 (some .long) 3 := ⟨q433, q1, by decide +kernel⟩
def S_X5_odds_61 (r7 : Int32) (rec9 : ((Int32 × Int64 × Int64) → Option (Int64 × Int64))) (t9 : (Int32 × Int64 × Int64)) : Option (Int64 × Int64) :=
  (if r7 ≤ t9.1 then some (t9.2.1, t9.2.2) else (if (lg_cmp (t9.2.2 &&& (1 : Int64)) (0 : Int64)) = 0 then rec9 ((t9.1 + 1), (t9.2.1 >>> (Int32.toInt64 (1 : Int32) &&& 63)), (t9.2.2 >>> (Int32.toInt64 (1 : Int32) &&& 63))) else some (t9.2.1, t9.2.2)))
def F_X5_odds (a1 : Int32) (a2 : Int32) (a3 : Int32) (si : tSI) (sa : tSA) : Option Int64 :=
  (F_X0_isSort a1 si sa).bind fun r1 => (if r1 = 0 then some (-9223372036854775808 : Int64) else (if a2 < 0 then some (-9223372036854775808 : Int64) else (if (99 : Int32) < a2 then some (-9223372036854775808 : Int64) else (if a3 < 0 then some (-9223372036854775808 : Int64) else (if a3 ≤ (1 : Int32) then (F_X0_lettersAlike a1 si sa).bind fun r7 => (F_X5_waysOfAtLeast r7 a2).bind fun r8 => (lp (S_X5_odds_61 r7) 100 ((0 : Int32), ((1 : Int64) <<< (Int32.toInt64 r7 &&& 63)), r8)).bind fun (e10 : (Int64 × Int64)) => (if a3 = 0 then some e10.2 else some e10.1) else some (-9223372036854775808 : Int64))))))
set_option maxHeartbeats 4000000 in
set_option maxRecDepth 100000 in
theorem c_X5_odds (l : Launch) (D : va_G) (cA : ClassId) (ad : Nat → Nat) (si : tSI) (sa : tSA) (a1 : Int32) (a2 : Int32) (a3 : Int32) (o : Int64) (hF : F_X5_odds a1 a2 a3 si sa = some o) : CG l yX5_odds cX5_odds 10 (some .long) 1 26 D cA [.ref (ad 0), .int a1, .int a2, .int a3] (WX cA ad si sa) (WX cA ad si sa) (some (.long o)) := by
  refine CG.ofl (by decide) (Nat.le_of_ble_eq_true rfl) ?_
  intro p ee s m args below meth c A Q H0 ls C0 hA hP hD hS hl hE
  have hl : lv_has ls 10 [(0, .ref (ad 0)), (1, .int a1), (2, .int a2), (3, .int a3)] := hl
  obtain ⟨hx, hb, hml, hown, ht, hK⟩ := id C0
  unfold F_X5_odds at hF
  refine lv_aload_n hx hb dX5_odds_0 rfl (lv_at hl 0 rfl) ?_
  refine gX0_1 C0 hP q146 dX5_odds_1 ?_
  refine lv_iload_n hx hb dX5_odds_4 rfl (lv_at hl 1 rfl) ?_
  obtain ⟨r1, hr1, hF⟩ := bd_some hF
  refine kcV (As := [.int a1]) (rest := []) C0 hA hP hD hS (c_X0_isSort l D cA ad si sa a1 r1 hr1) lk_X0_isSort q252 q253 q251 2 0 rfl rfl hl.1 rfl rfl (Nat.le_of_ble_eq_true rfl) ⟨Nat.le_of_ble_eq_true rfl, Nat.le_of_ble_eq_true rfl⟩ ⟨Nat.le_refl _, Nat.le_refl _⟩ dX5_odds_5 (fun H locs hP hD hS => ?_)
  refine W.eq (g2 := F0 m 8 ls [.int r1]) rfl ?_
  refine lv_if_eq (tgt := 30) hx hb dX5_odds_8 (by decide) (fun c2 => ?_) (fun c2 => ?_)
  · have hF := (if_pos c2).symm.trans hF
    refine lv_ldc2 (v := (-9223372036854775808 : Int64)) hx hb hown (ht _ q434) dX5_odds_30 ?_
    have hF := Option.some.inj hF
    exact hE _ _ _ _ _ hP hD hS dX5_odds_33 hF
  · have hF := (if_neg c2).symm.trans hF
    refine lv_iload_n hx hb dX5_odds_11 rfl (lv_at hl 2 rfl) ?_
    refine lv_if_lt (tgt := 30) hx hb dX5_odds_12 (by decide) (fun c3 => ?_) (fun c3 => ?_)
    · have hF := (if_pos c3).symm.trans hF
      refine lv_ldc2 (v := (-9223372036854775808 : Int64)) hx hb hown (ht _ q434) dX5_odds_30 ?_
      have hF := Option.some.inj hF
      exact hE _ _ _ _ _ hP hD hS dX5_odds_33 hF
    · have hF := (if_neg c3).symm.trans hF
      refine lv_iload_n hx hb dX5_odds_15 rfl (lv_at hl 2 rfl) ?_
      refine lv_bipush (v := (99 : Int32)) hx hb dX5_odds_16 (by decide) ?_
      refine lv_icmp_gt (tgt := 30) hx hb dX5_odds_18 (by decide) (fun c4 => ?_) (fun c4 => ?_)
      · have hF := (if_pos c4).symm.trans hF
        refine lv_ldc2 (v := (-9223372036854775808 : Int64)) hx hb hown (ht _ q434) dX5_odds_30 ?_
        have hF := Option.some.inj hF
        exact hE _ _ _ _ _ hP hD hS dX5_odds_33 hF
      · have hF := (if_neg c4).symm.trans hF
        refine lv_iload_n hx hb dX5_odds_21 rfl (lv_at hl 3 rfl) ?_
        refine lv_if_lt (tgt := 30) hx hb dX5_odds_22 (by decide) (fun c5 => ?_) (fun c5 => ?_)
        · have hF := (if_pos c5).symm.trans hF
          refine lv_ldc2 (v := (-9223372036854775808 : Int64)) hx hb hown (ht _ q434) dX5_odds_30 ?_
          have hF := Option.some.inj hF
          exact hE _ _ _ _ _ hP hD hS dX5_odds_33 hF
        · have hF := (if_neg c5).symm.trans hF
          refine lv_iload_n hx hb dX5_odds_25 rfl (lv_at hl 3 rfl) ?_
          refine lv_iconst (v := (1 : Int32)) hx hb dX5_odds_26 (by decide) ?_
          refine lv_icmp_le (tgt := 34) hx hb dX5_odds_27 (by decide) (fun c6 => ?_) (fun c6 => ?_)
          · have hF := (if_pos c6).symm.trans hF
            refine lv_aload_n hx hb dX5_odds_34 rfl (lv_at hl 0 rfl) ?_
            refine gX0_1 C0 hP q146 dX5_odds_35 ?_
            refine lv_iload_n hx hb dX5_odds_38 rfl (lv_at hl 1 rfl) ?_
            obtain ⟨r7, hr7, hF⟩ := bd_some hF
            refine kcV (As := [.int a1]) (rest := []) C0 hA hP hD hS (c_X0_lettersAlike l D cA ad si sa a1 r7 hr7) lk_X0_lettersAlike q436 q437 q435 2 0 rfl rfl hl.1 rfl rfl (Nat.le_of_ble_eq_true rfl) ⟨Nat.le_of_ble_eq_true rfl, Nat.le_of_ble_eq_true rfl⟩ ⟨Nat.le_refl _, Nat.le_refl _⟩ dX5_odds_39 (fun H locs hP hD hS => ?_)
            refine W.eq (g2 := F0 m 42 ls [.int r7]) rfl ?_
            refine lv_istore (lv' := [(4, .int r7), (0, .ref (ad 0)), (1, .int a1), (2, .int a2), (3, .int a3)]) hx hb dX5_odds_42 hl (by decide) rfl (fun ls hl => ?_)
            refine lv_iload hx hb dX5_odds_44 (lv_at hl 0 rfl) ?_
            refine lv_iload_n hx hb dX5_odds_46 rfl (lv_at hl 3 rfl) ?_
            obtain ⟨r8, hr8, hF⟩ := bd_some hF
            refine kcS (As := [.int r7, .int a2]) (rest := []) C0 hA hP hD hS (c_X5_waysOfAtLeast l D cA ad si sa r7 a2 r8 hr8) lk_X5_waysOfAtLeast q440 q439 hl.1 rfl rfl (Nat.le_of_ble_eq_true rfl) ⟨Nat.le_of_ble_eq_true rfl, Nat.le_of_ble_eq_true rfl⟩ ⟨Nat.le_refl _, Nat.le_refl _⟩ dX5_odds_47 (fun H locs hP hD hS => ?_)
            refine W.eq (g2 := F0 m 50 ls [.long r8]) rfl ?_
            refine lv_lstore (lv' := [(5, .long r8), (4, .int r7), (0, .ref (ad 0)), (1, .int a1), (2, .int a2), (3, .int a3)]) hx hb dX5_odds_50 hl (by decide) rfl (fun ls hl => ?_)
            refine lv_lconst (v := (1 : Int64)) hx hb dX5_odds_52 (by decide) ?_
            refine lv_iload hx hb dX5_odds_53 (lv_at hl 1 rfl) ?_
            refine lv_lshl hx hb dX5_odds_55 rfl ?_
            refine lv_lstore (lv' := [(7, .long ((1 : Int64) <<< (Int32.toInt64 r7 &&& 63))), (5, .long r8), (4, .int r7), (0, .ref (ad 0)), (1, .int a1), (2, .int a2), (3, .int a3)]) hx hb dX5_odds_56 hl (by decide) rfl (fun ls hl => ?_)
            refine lv_iconst (v := (0 : Int32)) hx hb dX5_odds_58 (by decide) ?_
            refine lv_istore (lv' := [(9, .int (0 : Int32)), (7, .long ((1 : Int64) <<< (Int32.toInt64 r7 &&& 63))), (5, .long r8), (4, .int r7), (0, .ref (ad 0)), (1, .int a1), (2, .int a2), (3, .int a3)]) hx hb dX5_odds_59 hl (by decide) rfl (fun ls hl => ?_)
            obtain ⟨ox9, hL9, hX9⟩ := bd_all hF
            have JE9 : ∀ (e10 : (Int64 × Int64)), ox9 = e10 → ∀ (H : Heap) (locs : List Loc) (ls : Array Slot), va_P D vwCl (WX cA ad si sa) H → va_D A (WX cA ad si sa) → va_S A H0 H locs → lv_has ls 10 [(7, .long e10.1), (5, .long e10.2), (3, .int a3)] → W p l ee (rmx 1 26) s m args below meth c H locs 0 0 Q (F0 m 95 ls []) := by
              intro e10 he H locs ls hP hD hS hl
              have hF := hX9 _ he
              refine lv_iload_n hx hb dX5_odds_95 rfl (lv_at hl 2 rfl) ?_
              refine lv_if_ne (tgt := 104) hx hb dX5_odds_96 (by decide) (fun c11 => ?_) (fun c11 => ?_)
              · have hF := (if_neg c11).symm.trans hF
                refine lv_lload hx hb dX5_odds_104 (lv_at hl 0 rfl) ?_
                have hF := Option.some.inj hF
                exact hE _ _ _ _ _ hP hD hS dX5_odds_106 hF
              · have hF := (if_pos c11).symm.trans hF
                refine lv_lload hx hb dX5_odds_99 (lv_at hl 1 rfl) ?_
                refine lv_goto (tgt := 106) hx hb dX5_odds_101 (by decide) ?_
                have hF := Option.some.inj hF
                exact hE _ _ _ _ _ hP hD hS dX5_odds_106 hF
            have LP9 : ∀ (k9 : Nat) (t9 : (Int32 × Int64 × Int64)), lp (S_X5_odds_61 r7) k9 t9 = some ox9 → ∀ (H : Heap) (locs : List Loc) (ls : Array Slot), va_P D vwCl (WX cA ad si sa) H → va_D A (WX cA ad si sa) → va_S A H0 H locs → lv_has ls 10 [(9, .int t9.1), (7, .long t9.2.1), (5, .long t9.2.2), (4, .int r7), (3, .int a3)] → W p l ee (rmx 1 26) s m args below meth c H locs 0 0 Q (F0 m 61 ls []) := by
              intro k9
              induction k9 with
              | zero => intro t9 hF; exact (lp_no hF).elim
              | succ k9 ih9 =>
                intro t9 hF H locs ls hP hD hS hl
                change (S_X5_odds_61 r7) (lp (S_X5_odds_61 r7) k9) t9 = some ox9 at hF
                unfold S_X5_odds_61 at hF
                refine lv_iload hx hb dX5_odds_61 (lv_at hl 0 rfl) ?_
                refine lv_iload hx hb dX5_odds_63 (lv_at hl 3 rfl) ?_
                refine lv_icmp_ge (tgt := 95) hx hb dX5_odds_65 (by decide) (fun c12 => ?_) (fun c12 => ?_)
                · have hF := (if_pos c12).symm.trans hF
                  exact JE9 _ (Option.some.inj hF).symm _ _ _ hP hD hS (lv_sub hl [1, 2, 4] rfl)
                · have hF := (if_neg c12).symm.trans hF
                  refine lv_lload hx hb dX5_odds_68 (lv_at hl 2 rfl) ?_
                  refine lv_lconst (v := (1 : Int64)) hx hb dX5_odds_70 (by decide) ?_
                  refine lv_land hx hb dX5_odds_71 ?_
                  refine lv_lconst (v := (0 : Int64)) hx hb dX5_odds_72 (by decide) ?_
                  refine W.lcmp hx hb dX5_odds_73 ?_
                  refine lv_if_ne (tgt := 95) hx hb dX5_odds_74 (by decide) (fun c13 => ?_) (fun c13 => ?_)
                  · have hF := (if_neg c13).symm.trans hF
                    exact JE9 _ (Option.some.inj hF).symm _ _ _ hP hD hS (lv_sub hl [1, 2, 4] rfl)
                  · have hF := (if_pos c13).symm.trans hF
                    refine lv_lload hx hb dX5_odds_77 (lv_at hl 2 rfl) ?_
                    refine lv_iconst (v := (1 : Int32)) hx hb dX5_odds_79 (by decide) ?_
                    refine lv_lshr hx hb dX5_odds_80 rfl ?_
                    refine lv_lstore (lv' := [(5, .long (t9.2.2 >>> (Int32.toInt64 (1 : Int32) &&& 63))), (9, .int t9.1), (7, .long t9.2.1), (4, .int r7), (3, .int a3)]) hx hb dX5_odds_81 hl (by decide) rfl (fun ls hl => ?_)
                    refine lv_lload hx hb dX5_odds_83 (lv_at hl 2 rfl) ?_
                    refine lv_iconst (v := (1 : Int32)) hx hb dX5_odds_85 (by decide) ?_
                    refine lv_lshr hx hb dX5_odds_86 rfl ?_
                    refine lv_lstore (lv' := [(7, .long (t9.2.1 >>> (Int32.toInt64 (1 : Int32) &&& 63))), (5, .long (t9.2.2 >>> (Int32.toInt64 (1 : Int32) &&& 63))), (9, .int t9.1), (4, .int r7), (3, .int a3)]) hx hb dX5_odds_87 hl (by decide) rfl (fun ls hl => ?_)
                    refine lv_iinc (v := (t9.1 + 1)) (lv' := [(9, .int (t9.1 + 1)), (7, .long (t9.2.1 >>> (Int32.toInt64 (1 : Int32) &&& 63))), (5, .long (t9.2.2 >>> (Int32.toInt64 (1 : Int32) &&& 63))), (4, .int r7), (3, .int a3)]) hx hb dX5_odds_89 hl (k := 2) rfl rfl (by decide) rfl (fun ls hl => ?_)
                    refine lv_goto (tgt := 61) hx hb dX5_odds_92 (by decide) ?_
                    exact ih9 _ hF _ _ _ hP hD hS (lv_sub hl [0, 1, 2, 3, 4] rfl)
            exact LP9 _ _ hL9 _ _ _ hP hD hS (lv_sub hl [0, 1, 2, 3, 7] rfl)
          · have hF := (if_neg c6).symm.trans hF
            refine lv_ldc2 (v := (-9223372036854775808 : Int64)) hx hb hown (ht _ q434) dX5_odds_30 ?_
            have hF := Option.some.inj hF
            exact hE _ _ _ _ _ hP hD hS dX5_odds_33 hF
theorem lk_X0_note : LK yX0_note cX0_note 3 (some .int) 2 := ⟨q449, q3, by decide +kernel⟩
def F_X0_note (a1 : Int32) (a2 : Int32) (si : tSI) (sa : tSA) : Option (Int32 × tSI × tSA) :=
  ld (si 4) 8 (ld (si 4) 8 (some ((((si 4) + (1 : Int32)) - (1 : Int32)), (upd si 4 ((si 4) + (1 : Int32))), (va_up (va_up sa 9 (upd (sa 9) (Int32.toNatClampNeg (si 4)) a1)) 10 (upd (sa 10) (Int32.toNatClampNeg (si 4)) a2)))))
set_option maxHeartbeats 4000000 in
set_option maxRecDepth 100000 in
theorem c_X0_note (l : Launch) (D : va_G) (cA : ClassId) (ad : Nat → Nat) (si : tSI) (sa : tSA) (a1 : Int32) (a2 : Int32) (o : (Int32 × tSI × tSA)) (hF : F_X0_note a1 a2 si sa = some o) : CG l yX0_note cX0_note 3 (some .int) 0 0 D cA [.ref (ad 2), .int a1, .int a2] (WX cA ad si sa) (WX cA ad o.2.1 o.2.2) (some (.int o.1)) := by
  refine CG.ofi (by decide) (Nat.le_of_ble_eq_true rfl) ?_
  intro p ee s m args below meth c A Q H0 ls C0 hA hP hD hS hl hE
  have hl : lv_has ls 3 [(0, .ref (ad 2)), (1, .int a1), (2, .int a2)] := hl
  obtain ⟨hx, hb, hml, hown, ht, hK⟩ := id C0
  unfold F_X0_note at hF
  refine lv_aload_n hx hb dX0_note_0 rfl (lv_at hl 0 rfl) ?_
  refine gX2_8 C0 hP q60 dX0_note_1 ?_
  refine lv_aload_n hx hb dX0_note_4 rfl (lv_at hl 0 rfl) ?_
  refine gX2_2 (v := (si 4)) C0 hP rfl q47 dX0_note_5 ?_
  refine lv_iload_n hx hb dX0_note_8 rfl (lv_at hl 1 rfl) ?_
  obtain ⟨hin, hF⟩ := ld_some hF
  refine aXs9 (f := (sa 9)) C0 hP hD hS rfl hin dX0_note_9 (fun H locs hP hD hS => ?_)
  refine lv_aload_n hx hb dX0_note_10 rfl (lv_at hl 0 rfl) ?_
  refine gX2_9 C0 hP q61 dX0_note_11 ?_
  refine lv_aload_n hx hb dX0_note_14 rfl (lv_at hl 0 rfl) ?_
  refine gX2_2 (v := (si 4)) C0 hP rfl q47 dX0_note_15 ?_
  refine lv_iload_n hx hb dX0_note_18 rfl (lv_at hl 2 rfl) ?_
  obtain ⟨hin, hF⟩ := ld_some hF
  refine aXs10 (f := (sa 10)) C0 hP hD hS rfl hin dX0_note_19 (fun H locs hP hD hS => ?_)
  refine lv_aload_n hx hb dX0_note_20 rfl (lv_at hl 0 rfl) ?_
  refine lv_dup hx hb dX0_note_21 rfl ?_
  refine gX2_2 (v := (si 4)) C0 hP rfl q47 dX0_note_22 ?_
  refine lv_iconst (v := (1 : Int32)) hx hb dX0_note_25 (by decide) ?_
  refine lv_iadd hx hb dX0_note_26 ?_
  refine pX2_2 C0 hP hD hS q47 dX0_note_27 (fun H locs hP hD hS => ?_)
  refine lv_aload_n hx hb dX0_note_30 rfl (lv_at hl 0 rfl) ?_
  refine gX2_2 (v := ((si 4) + (1 : Int32))) C0 hP rfl q47 dX0_note_31 ?_
  refine lv_iconst (v := (1 : Int32)) hx hb dX0_note_34 (by decide) ?_
  refine lv_isub hx hb dX0_note_35 ?_
  have hF := Option.some.inj hF
  subst hF
  exact hE _ _ _ _ _ hP hD hS dX0_note_36 rfl rfl
theorem lk_X5_reading : LK yX5_reading cX5_reading 3 (some .int) 2 := ⟨q445, q1, by decide +kernel⟩
def F_X5_reading (a1 : Int32) (a2 : Int32) (si : tSI) (sa : tSA) : Option (Int32 × tSI × tSA) :=
  (F_X0_isThere si sa).bind fun r1 => (if r1 = 0 then some ((-3 : Int32), si, sa) else (F_X0_isSet a1 si sa).bind fun r3 => (if r3 = 0 then some ((-2 : Int32), si, sa) else (if a2 < 0 then some ((-2 : Int32), si, sa) else (if a2 ≤ (9999 : Int32) then (if (8 : Int32) ≤ (si 4) then some ((-4 : Int32), si, sa) else (F_X0_note a1 a2 si sa).bind fun r8 => some (r8.1, r8.2.1, r8.2.2)) else some ((-2 : Int32), si, sa)))))
set_option maxHeartbeats 4000000 in
set_option maxRecDepth 100000 in
theorem c_X5_reading (l : Launch) (D : va_G) (cA : ClassId) (ad : Nat → Nat) (si : tSI) (sa : tSA) (a1 : Int32) (a2 : Int32) (o : (Int32 × tSI × tSA)) (hF : F_X5_reading a1 a2 si sa = some o) : CG l yX5_reading cX5_reading 3 (some .int) 2 41 D cA [.ref (ad 0), .int a1, .int a2] (WX cA ad si sa) (WX cA ad o.2.1 o.2.2) (some (.int o.1)) := by
  refine CG.ofi (by decide) (Nat.le_of_ble_eq_true rfl) ?_
  intro p ee s m args below meth c A Q H0 ls C0 hA hP hD hS hl hE
  have hl : lv_has ls 3 [(0, .ref (ad 0)), (1, .int a1), (2, .int a2)] := hl
  obtain ⟨hx, hb, hml, hown, ht, hK⟩ := id C0
  unfold F_X5_reading at hF
  refine lv_aload_n hx hb dX5_reading_0 rfl (lv_at hl 0 rfl) ?_
  refine gX0_1 C0 hP q146 dX5_reading_1 ?_
  obtain ⟨r1, hr1, hF⟩ := bd_some hF
  refine kcV (As := []) (rest := []) C0 hA hP hD hS (c_X0_isThere l D cA ad si sa r1 hr1) lk_X0_isThere q287 q288 q286 2 0 rfl rfl hl.1 rfl rfl (Nat.le_of_ble_eq_true rfl) ⟨Nat.le_of_ble_eq_true rfl, Nat.le_of_ble_eq_true rfl⟩ ⟨Nat.le_refl _, Nat.le_refl _⟩ dX5_reading_4 (fun H locs hP hD hS => ?_)
  refine W.eq (g2 := F0 m 7 ls [.int r1]) rfl ?_
  refine lv_if_ne (tgt := 13) hx hb dX5_reading_7 (by decide) (fun c2 => ?_) (fun c2 => ?_)
  · have hF := (if_neg c2).symm.trans hF
    refine lv_aload_n hx hb dX5_reading_13 rfl (lv_at hl 0 rfl) ?_
    refine gX0_1 C0 hP q146 dX5_reading_14 ?_
    refine lv_iload_n hx hb dX5_reading_17 rfl (lv_at hl 1 rfl) ?_
    obtain ⟨r3, hr3, hF⟩ := bd_some hF
    refine kcV (As := [.int a1]) (rest := []) C0 hA hP hD hS (c_X0_isSet l D cA ad si sa a1 r3 hr3) lk_X0_isSet q356 q357 q355 2 0 rfl rfl hl.1 rfl rfl (Nat.le_of_ble_eq_true rfl) ⟨Nat.le_of_ble_eq_true rfl, Nat.le_of_ble_eq_true rfl⟩ ⟨Nat.le_refl _, Nat.le_refl _⟩ dX5_reading_18 (fun H locs hP hD hS => ?_)
    refine W.eq (g2 := F0 m 21 ls [.int r3]) rfl ?_
    refine lv_if_eq (tgt := 35) hx hb dX5_reading_21 (by decide) (fun c4 => ?_) (fun c4 => ?_)
    · have hF := (if_pos c4).symm.trans hF
      refine lv_bipush (v := (-2 : Int32)) hx hb dX5_reading_35 (by decide) ?_
      have hF := Option.some.inj hF
      subst hF
      exact hE _ _ _ _ _ hP hD hS dX5_reading_37 rfl rfl
    · have hF := (if_neg c4).symm.trans hF
      refine lv_iload_n hx hb dX5_reading_24 rfl (lv_at hl 2 rfl) ?_
      refine lv_if_lt (tgt := 35) hx hb dX5_reading_25 (by decide) (fun c5 => ?_) (fun c5 => ?_)
      · have hF := (if_pos c5).symm.trans hF
        refine lv_bipush (v := (-2 : Int32)) hx hb dX5_reading_35 (by decide) ?_
        have hF := Option.some.inj hF
        subst hF
        exact hE _ _ _ _ _ hP hD hS dX5_reading_37 rfl rfl
      · have hF := (if_neg c5).symm.trans hF
        refine lv_iload_n hx hb dX5_reading_28 rfl (lv_at hl 2 rfl) ?_
        refine lv_sipush (v := (9999 : Int32)) hx hb dX5_reading_29 (by decide) ?_
        refine lv_icmp_le (tgt := 38) hx hb dX5_reading_32 (by decide) (fun c6 => ?_) (fun c6 => ?_)
        · have hF := (if_pos c6).symm.trans hF
          refine lv_aload_n hx hb dX5_reading_38 rfl (lv_at hl 0 rfl) ?_
          refine gX0_1 C0 hP q146 dX5_reading_39 ?_
          refine gX2_2 (v := (si 4)) C0 hP rfl q48 dX5_reading_42 ?_
          refine lv_bipush (v := (8 : Int32)) hx hb dX5_reading_45 (by decide) ?_
          refine lv_icmp_ge (tgt := 62) hx hb dX5_reading_47 (by decide) (fun c7 => ?_) (fun c7 => ?_)
          · have hF := (if_pos c7).symm.trans hF
            refine lv_bipush (v := (-4 : Int32)) hx hb dX5_reading_62 (by decide) ?_
            have hF := Option.some.inj hF
            subst hF
            exact hE _ _ _ _ _ hP hD hS dX5_reading_64 rfl rfl
          · have hF := (if_neg c7).symm.trans hF
            refine lv_aload_n hx hb dX5_reading_50 rfl (lv_at hl 0 rfl) ?_
            refine gX0_1 C0 hP q146 dX5_reading_51 ?_
            refine lv_iload_n hx hb dX5_reading_54 rfl (lv_at hl 1 rfl) ?_
            refine lv_iload_n hx hb dX5_reading_55 rfl (lv_at hl 2 rfl) ?_
            obtain ⟨r8, hr8, hF⟩ := bd_some hF
            refine kcV (As := [.int a1, .int a2]) (rest := []) C0 hA hP hD hS (c_X0_note l D cA ad si sa a1 a2 r8 hr8) lk_X0_note q447 q448 q446 2 0 rfl rfl hl.1 rfl rfl (Nat.le_of_ble_eq_true rfl) ⟨Nat.le_of_ble_eq_true rfl, Nat.le_of_ble_eq_true rfl⟩ ⟨Nat.le_refl _, Nat.le_refl _⟩ dX5_reading_56 (fun H locs hP hD hS => ?_)
            refine W.eq (g2 := F0 m 59 ls [.int r8.1]) rfl ?_
            refine lv_goto (tgt := 64) hx hb dX5_reading_59 (by decide) ?_
            have hF := Option.some.inj hF
            subst hF
            exact hE _ _ _ _ _ hP hD hS dX5_reading_64 rfl rfl
        · have hF := (if_neg c6).symm.trans hF
          refine lv_bipush (v := (-2 : Int32)) hx hb dX5_reading_35 (by decide) ?_
          have hF := Option.some.inj hF
          subst hF
          exact hE _ _ _ _ _ hP hD hS dX5_reading_37 rfl rfl
  · have hF := (if_pos c2).symm.trans hF
    refine lv_bipush (v := (-3 : Int32)) hx hb dX5_reading_10 (by decide) ?_
    have hF := Option.some.inj hF
    subst hF
    exact hE _ _ _ _ _ hP hD hS dX5_reading_12 rfl rfl
theorem lk_X5_back : LK yX5_back cX5_back 2 (some .int) 1 := ⟨q453, q1, by decide +kernel⟩
def F_X5_back (a1 : Int32) (si : tSI) (sa : tSA) : Option (Int32 × tSI × tSA) :=
  (if a1 < 0 then some ((-2 : Int32), si, sa) else (if a1 ≤ (si 4) then some (((si 4) - a1), (upd si 4 ((si 4) - a1)), sa) else some ((-2 : Int32), si, sa)))
set_option maxHeartbeats 4000000 in
set_option maxRecDepth 100000 in
theorem c_X5_back (l : Launch) (D : va_G) (cA : ClassId) (ad : Nat → Nat) (si : tSI) (sa : tSA) (a1 : Int32) (o : (Int32 × tSI × tSA)) (hF : F_X5_back a1 si sa = some o) : CG l yX5_back cX5_back 2 (some .int) 0 0 D cA [.ref (ad 0), .int a1] (WX cA ad si sa) (WX cA ad o.2.1 o.2.2) (some (.int o.1)) := by
  refine CG.ofi (by decide) (Nat.le_of_ble_eq_true rfl) ?_
  intro p ee s m args below meth c A Q H0 ls C0 hA hP hD hS hl hE
  have hl : lv_has ls 2 [(0, .ref (ad 0)), (1, .int a1)] := hl
  obtain ⟨hx, hb, hml, hown, ht, hK⟩ := id C0
  unfold F_X5_back at hF
  refine lv_iload_n hx hb dX5_back_0 rfl (lv_at hl 1 rfl) ?_
  refine lv_if_lt (tgt := 15) hx hb dX5_back_1 (by decide) (fun c1 => ?_) (fun c1 => ?_)
  · have hF := (if_pos c1).symm.trans hF
    refine lv_bipush (v := (-2 : Int32)) hx hb dX5_back_15 (by decide) ?_
    have hF := Option.some.inj hF
    subst hF
    exact hE _ _ _ _ _ hP hD hS dX5_back_17 rfl rfl
  · have hF := (if_neg c1).symm.trans hF
    refine lv_iload_n hx hb dX5_back_4 rfl (lv_at hl 1 rfl) ?_
    refine lv_aload_n hx hb dX5_back_5 rfl (lv_at hl 0 rfl) ?_
    refine gX0_1 C0 hP q146 dX5_back_6 ?_
    refine gX2_2 (v := (si 4)) C0 hP rfl q48 dX5_back_9 ?_
    refine lv_icmp_le (tgt := 18) hx hb dX5_back_12 (by decide) (fun c2 => ?_) (fun c2 => ?_)
    · have hF := (if_pos c2).symm.trans hF
      refine lv_aload_n hx hb dX5_back_18 rfl (lv_at hl 0 rfl) ?_
      refine gX0_1 C0 hP q146 dX5_back_19 ?_
      refine lv_dup hx hb dX5_back_22 rfl ?_
      refine gX2_2 (v := (si 4)) C0 hP rfl q48 dX5_back_23 ?_
      refine lv_iload_n hx hb dX5_back_26 rfl (lv_at hl 1 rfl) ?_
      refine lv_isub hx hb dX5_back_27 ?_
      refine pX2_2 C0 hP hD hS q48 dX5_back_28 (fun H locs hP hD hS => ?_)
      refine lv_aload_n hx hb dX5_back_31 rfl (lv_at hl 0 rfl) ?_
      refine gX0_1 C0 hP q146 dX5_back_32 ?_
      refine gX2_2 (v := ((si 4) - a1)) C0 hP rfl q48 dX5_back_35 ?_
      have hF := Option.some.inj hF
      subst hF
      exact hE _ _ _ _ _ hP hD hS dX5_back_38 rfl rfl
    · have hF := (if_neg c2).symm.trans hF
      refine lv_bipush (v := (-2 : Int32)) hx hb dX5_back_15 (by decide) ?_
      have hF := Option.some.inj hF
      subst hF
      exact hE _ _ _ _ _ hP hD hS dX5_back_17 rfl rfl
theorem lk_X0_readingsHold : LK yX0_readingsHold cX0_readingsHold 5 (some .boolean) 2 := ⟨q461, q3, by decide +kernel⟩
def S_X0_readingsHold_2 (si : tSI) (sa : tSA) (a1 : Int32) (a2 : Int32) (rec1 : (Int32 → Option (Int32 ⊕ Unit))) (t1 : Int32) : Option (Int32 ⊕ Unit) :=
  (if (si 4) ≤ t1 then some (.inr ()) else ld t1 8 ((F_X0_secondsFor (((sa 9) (Int32.toNatClampNeg t1)) &&& (((1 : Int32) <<< (a1 &&& 31)) ^^^ (-1 : Int32))) si sa).bind fun r4 => ld t1 8 ((F_X5_holds ((sa 9) (Int32.toNatClampNeg t1)) a1).bind fun r5 => ((if r5 = 0 then some r4 else some (r4 + a2))).bind fun (x6 : Int32) => ld t1 8 ((if x6 = ((sa 10) (Int32.toNatClampNeg t1)) then rec1 (t1 + 1) else some (.inl (0 : Int32)))))))
def F_X0_readingsHold (a1 : Int32) (a2 : Int32) (si : tSI) (sa : tSA) : Option Int32 :=
  (lp (S_X0_readingsHold_2 si sa a1 a2) 100 (0 : Int32)).bind (Sum.elim some fun (e2 : Unit) => some (1 : Int32))
set_option maxHeartbeats 4000000 in
set_option maxRecDepth 100000 in
theorem c_X0_readingsHold (l : Launch) (D : va_G) (cA : ClassId) (ad : Nat → Nat) (si : tSI) (sa : tSA) (a1 : Int32) (a2 : Int32) (o : Int32) (hF : F_X0_readingsHold a1 a2 si sa = some o) : CG l yX0_readingsHold cX0_readingsHold 5 (some .boolean) 2 44 D cA [.ref (ad 2), .int a1, .int a2] (WX cA ad si sa) (WX cA ad si sa) (some (.int o)) := by
  refine CG.ofi (by decide) (Nat.le_of_ble_eq_true rfl) ?_
  intro p ee s m args below meth c A Q H0 ls C0 hA hP hD hS hl hE
  have hl : lv_has ls 5 [(0, .ref (ad 2)), (1, .int a1), (2, .int a2)] := hl
  obtain ⟨hx, hb, hml, hown, ht, hK⟩ := id C0
  unfold F_X0_readingsHold at hF
  refine lv_iconst (v := (0 : Int32)) hx hb dX0_readingsHold_0 (by decide) ?_
  refine lv_istore_n (lv' := [(3, .int (0 : Int32)), (0, .ref (ad 2)), (1, .int a1), (2, .int a2)]) hx hb dX0_readingsHold_1 rfl hl (by decide) rfl (fun ls hl => ?_)
  obtain ⟨ox1, hL1, hI1, hX1⟩ := bds_all hF
  have JE1 : ∀ (e2 : Unit), ox1 = .inr e2 → ∀ (H : Heap) (locs : List Loc) (ls : Array Slot), va_P D vwCl (WX cA ad si sa) H → va_D A (WX cA ad si sa) → va_S A H0 H locs → lv_has ls 5 [] → W p l ee (rmx 2 44) s m args below meth c H locs 0 0 Q (F0 m 66 ls []) := by
    intro e2 he H locs ls hP hD hS hl
    have hF := hX1 _ he
    refine lv_iconst (v := (1 : Int32)) hx hb dX0_readingsHold_66 (by decide) ?_
    have hF := Option.some.inj hF
    exact hE _ _ _ _ _ hP hD hS dX0_readingsHold_67 rfl hF
  have LP1 : ∀ (k1 : Nat) (t1 : Int32), lp (S_X0_readingsHold_2 si sa a1 a2) k1 t1 = some ox1 → ∀ (H : Heap) (locs : List Loc) (ls : Array Slot), va_P D vwCl (WX cA ad si sa) H → va_D A (WX cA ad si sa) → va_S A H0 H locs → lv_has ls 5 [(3, .int t1), (0, .ref (ad 2)), (1, .int a1), (2, .int a2)] → W p l ee (rmx 2 44) s m args below meth c H locs 0 0 Q (F0 m 2 ls []) := by
    intro k1
    induction k1 with
    | zero => intro t1 hF; exact (lp_no hF).elim
    | succ k1 ih1 =>
      intro t1 hF H locs ls hP hD hS hl
      change (S_X0_readingsHold_2 si sa a1 a2) (lp (S_X0_readingsHold_2 si sa a1 a2) k1) t1 = some ox1 at hF
      unfold S_X0_readingsHold_2 at hF
      refine lv_iload_n hx hb dX0_readingsHold_2 rfl (lv_at hl 0 rfl) ?_
      refine lv_aload_n hx hb dX0_readingsHold_3 rfl (lv_at hl 1 rfl) ?_
      refine gX2_2 (v := (si 4)) C0 hP rfl q47 dX0_readingsHold_4 ?_
      refine lv_icmp_ge (tgt := 66) hx hb dX0_readingsHold_7 (by decide) (fun c3 => ?_) (fun c3 => ?_)
      · have hF := (if_pos c3).symm.trans hF
        exact JE1 _ (Option.some.inj hF).symm _ _ _ hP hD hS (lv_sub hl [] rfl)
      · have hF := (if_neg c3).symm.trans hF
        refine lv_aload_n hx hb dX0_readingsHold_10 rfl (lv_at hl 1 rfl) ?_
        refine lv_aload_n hx hb dX0_readingsHold_11 rfl (lv_at hl 1 rfl) ?_
        refine gX2_8 C0 hP q60 dX0_readingsHold_12 ?_
        refine lv_iload_n hx hb dX0_readingsHold_15 rfl (lv_at hl 0 rfl) ?_
        obtain ⟨hin, hF⟩ := ld_some hF
        refine aXl9 (f := (sa 9)) C0 hP rfl hin dX0_readingsHold_16 ?_
        refine lv_iconst (v := (1 : Int32)) hx hb dX0_readingsHold_17 (by decide) ?_
        refine lv_iload_n hx hb dX0_readingsHold_18 rfl (lv_at hl 2 rfl) ?_
        refine lv_ishl hx hb dX0_readingsHold_19 ?_
        refine lv_iconst (v := (-1 : Int32)) hx hb dX0_readingsHold_20 (by decide) ?_
        refine lv_ixor hx hb dX0_readingsHold_21 ?_
        refine lv_iand hx hb dX0_readingsHold_22 ?_
        obtain ⟨r4, hr4, hF⟩ := bd_some hF
        refine kcV (As := [.int (((sa 9) (Int32.toNatClampNeg t1)) &&& (((1 : Int32) <<< (a1 &&& 31)) ^^^ (-1 : Int32)))]) (rest := []) C0 hA hP hD hS (c_X0_secondsFor l D cA ad si sa (((sa 9) (Int32.toNatClampNeg t1)) &&& (((1 : Int32) <<< (a1 &&& 31)) ^^^ (-1 : Int32))) r4 hr4) lk_X0_secondsFor q314 q315 q462 2 0 rfl rfl hl.1 rfl rfl (Nat.le_of_ble_eq_true rfl) ⟨Nat.le_of_ble_eq_true rfl, Nat.le_of_ble_eq_true rfl⟩ ⟨Nat.le_refl _, Nat.le_refl _⟩ dX0_readingsHold_23 (fun H locs hP hD hS => ?_)
        refine W.eq (g2 := F0 m 26 ls [.int r4]) rfl ?_
        refine lv_istore (lv' := [(4, .int r4), (3, .int t1), (0, .ref (ad 2)), (1, .int a1), (2, .int a2)]) hx hb dX0_readingsHold_26 hl (by decide) rfl (fun ls hl => ?_)
        refine lv_aload_n hx hb dX0_readingsHold_28 rfl (lv_at hl 2 rfl) ?_
        refine gX2_8 C0 hP q60 dX0_readingsHold_29 ?_
        refine lv_iload_n hx hb dX0_readingsHold_32 rfl (lv_at hl 1 rfl) ?_
        obtain ⟨hin, hF⟩ := ld_some hF
        refine aXl9 (f := (sa 9)) C0 hP rfl hin dX0_readingsHold_33 ?_
        refine lv_iload_n hx hb dX0_readingsHold_34 rfl (lv_at hl 3 rfl) ?_
        obtain ⟨r5, hr5, hF⟩ := bd_some hF
        refine kcSN (As := [.int ((sa 9) (Int32.toNatClampNeg t1)), .int a1]) (rest := []) C0 hA hP hD hS (c_X5_holds l D cA ad si sa ((sa 9) (Int32.toNatClampNeg t1)) a1 r5 hr5) lk_X5_holds q311 (List.mem_of_getElem? (i := 4) rfl) hl.1 rfl rfl (Nat.le_of_ble_eq_true rfl) ⟨Nat.le_of_ble_eq_true rfl, Nat.le_of_ble_eq_true rfl⟩ ⟨Nat.le_refl _, Nat.le_refl _⟩ dX0_readingsHold_35 (fun H locs hP hD hS => ?_)
        refine W.eq (g2 := F0 m 38 ls [.int r5]) rfl ?_
        obtain ⟨x6, hRx6, hF⟩ := bd_some hF
        have Jx6 : ∀ (H : Heap) (locs : List Loc) (ls : Array Slot), va_P D vwCl (WX cA ad si sa) H → va_D A (WX cA ad si sa) → va_S A H0 H locs → lv_has ls 5 [(4, .int x6), (3, .int t1), (0, .ref (ad 2)), (1, .int a1), (2, .int a2)] → W p l ee (rmx 2 44) s m args below meth c H locs 0 0 Q (F0 m 47 ls []) := by
          intro H locs ls hP hD hS hl
          refine lv_iload hx hb dX0_readingsHold_47 (lv_at hl 0 rfl) ?_
          refine lv_aload_n hx hb dX0_readingsHold_49 rfl (lv_at hl 2 rfl) ?_
          refine gX2_9 C0 hP q61 dX0_readingsHold_50 ?_
          refine lv_iload_n hx hb dX0_readingsHold_53 rfl (lv_at hl 1 rfl) ?_
          obtain ⟨hin, hF⟩ := ld_some hF
          refine aXl10 (f := (sa 10)) C0 hP rfl hin dX0_readingsHold_54 ?_
          refine lv_icmp_eq (tgt := 60) hx hb dX0_readingsHold_55 (by decide) (fun c7 => ?_) (fun c7 => ?_)
          · have hF := (if_pos c7).symm.trans hF
            refine lv_iinc (v := (t1 + 1)) (lv' := [(3, .int (t1 + 1)), (4, .int x6), (0, .ref (ad 2)), (1, .int a1), (2, .int a2)]) hx hb dX0_readingsHold_60 hl (k := 1) rfl rfl (by decide) rfl (fun ls hl => ?_)
            refine lv_goto (tgt := 2) hx hb dX0_readingsHold_63 (by decide) ?_
            exact ih1 _ hF _ _ _ hP hD hS (lv_sub hl [0, 2, 3, 4] rfl)
          · have hF := (if_neg c7).symm.trans hF
            refine lv_iconst (v := (0 : Int32)) hx hb dX0_readingsHold_58 (by decide) ?_
            have hF := Option.some.inj hF
            subst hF
            have hF := hI1 _ rfl
            exact hE _ _ _ _ _ hP hD hS dX0_readingsHold_59 rfl hF
        have hF := hRx6
        refine lv_if_eq (tgt := 47) hx hb dX0_readingsHold_38 (by decide) (fun c8 => ?_) (fun c8 => ?_)
        · have hF := (if_pos c8).symm.trans hF
          have hF := Option.some.inj hF
          subst hF
          exact Jx6 _ _ _ hP hD hS (lv_sub hl [0, 1, 2, 3, 4] rfl)
        · have hF := (if_neg c8).symm.trans hF
          refine lv_iload hx hb dX0_readingsHold_41 (lv_at hl 0 rfl) ?_
          refine lv_iload_n hx hb dX0_readingsHold_43 rfl (lv_at hl 4 rfl) ?_
          refine lv_iadd hx hb dX0_readingsHold_44 ?_
          refine lv_istore (lv' := [(4, .int (r4 + a2)), (3, .int t1), (0, .ref (ad 2)), (1, .int a1), (2, .int a2)]) hx hb dX0_readingsHold_45 hl (by decide) rfl (fun ls hl => ?_)
          have hF := Option.some.inj hF
          subst hF
          exact Jx6 _ _ _ hP hD hS (lv_sub hl [0, 1, 2, 3, 4] rfl)
  exact LP1 _ _ hL1 _ _ _ hP hD hS (lv_sub hl [0, 1, 2, 3] rfl)
theorem lk_X5_counts : LK yX5_counts cX5_counts 4 (some .int) 1 := ⟨q457, q1, by decide +kernel⟩
def S_X5_counts_17 (a1 : Int32) (sa : tSA) (si : tSI) (rec3 : ((Int32 × Int32) → Option Int32)) (t3 : (Int32 × Int32)) : Option Int32 :=
  (if (9 : Int32) < t3.1 then some t3.2 else ld a1 6 (ld a1 6 ((F_X5_look ((sa 4) (Int32.toNatClampNeg a1)) ((sa 6) (Int32.toNatClampNeg a1))).bind fun r6 => (F_X0_readingsHold a1 (t3.1 * r6) si sa).bind fun r7 => (if r7 = 0 then rec3 ((t3.1 + 1), t3.2) else rec3 ((t3.1 + 1), (t3.2 ||| ((1 : Int32) <<< (t3.1 &&& 31))))))))
def F_X5_counts (a1 : Int32) (si : tSI) (sa : tSA) : Option Int32 :=
  (F_X0_isSort a1 si sa).bind fun r1 => (if r1 = 0 then some (-1 : Int32) else (lp (S_X5_counts_17 a1 sa si) 100 ((0 : Int32), (0 : Int32))).bind fun (e4 : Int32) => some e4)
set_option maxHeartbeats 4000000 in
set_option maxRecDepth 100000 in
theorem c_X5_counts (l : Launch) (D : va_G) (cA : ClassId) (ad : Nat → Nat) (si : tSI) (sa : tSA) (a1 : Int32) (o : Int32) (hF : F_X5_counts a1 si sa = some o) : CG l yX5_counts cX5_counts 4 (some .int) 3 68 D cA [.ref (ad 0), .int a1] (WX cA ad si sa) (WX cA ad si sa) (some (.int o)) := by
  refine CG.ofi (by decide) (Nat.le_of_ble_eq_true rfl) ?_
  intro p ee s m args below meth c A Q H0 ls C0 hA hP hD hS hl hE
  have hl : lv_has ls 4 [(0, .ref (ad 0)), (1, .int a1)] := hl
  obtain ⟨hx, hb, hml, hown, ht, hK⟩ := id C0
  unfold F_X5_counts at hF
  refine lv_aload_n hx hb dX5_counts_0 rfl (lv_at hl 0 rfl) ?_
  refine gX0_1 C0 hP q146 dX5_counts_1 ?_
  refine lv_iload_n hx hb dX5_counts_4 rfl (lv_at hl 1 rfl) ?_
  obtain ⟨r1, hr1, hF⟩ := bd_some hF
  refine kcV (As := [.int a1]) (rest := []) C0 hA hP hD hS (c_X0_isSort l D cA ad si sa a1 r1 hr1) lk_X0_isSort q252 q253 q251 2 0 rfl rfl hl.1 rfl rfl (Nat.le_of_ble_eq_true rfl) ⟨Nat.le_of_ble_eq_true rfl, Nat.le_of_ble_eq_true rfl⟩ ⟨Nat.le_refl _, Nat.le_refl _⟩ dX5_counts_5 (fun H locs hP hD hS => ?_)
  refine W.eq (g2 := F0 m 8 ls [.int r1]) rfl ?_
  refine lv_if_ne (tgt := 13) hx hb dX5_counts_8 (by decide) (fun c2 => ?_) (fun c2 => ?_)
  · have hF := (if_neg c2).symm.trans hF
    refine lv_iconst (v := (0 : Int32)) hx hb dX5_counts_13 (by decide) ?_
    refine lv_istore_n (lv' := [(2, .int (0 : Int32)), (0, .ref (ad 0)), (1, .int a1)]) hx hb dX5_counts_14 rfl hl (by decide) rfl (fun ls hl => ?_)
    refine lv_iconst (v := (0 : Int32)) hx hb dX5_counts_15 (by decide) ?_
    refine lv_istore_n (lv' := [(3, .int (0 : Int32)), (2, .int (0 : Int32)), (0, .ref (ad 0)), (1, .int a1)]) hx hb dX5_counts_16 rfl hl (by decide) rfl (fun ls hl => ?_)
    obtain ⟨ox3, hL3, hX3⟩ := bd_all hF
    have JE3 : ∀ (e4 : Int32), ox3 = e4 → ∀ (H : Heap) (locs : List Loc) (ls : Array Slot), va_P D vwCl (WX cA ad si sa) H → va_D A (WX cA ad si sa) → va_S A H0 H locs → lv_has ls 4 [(2, .int e4)] → W p l ee (rmx 3 68) s m args below meth c H locs 0 0 Q (F0 m 69 ls []) := by
      intro e4 he H locs ls hP hD hS hl
      have hF := hX3 _ he
      refine lv_iload_n hx hb dX5_counts_69 rfl (lv_at hl 0 rfl) ?_
      have hF := Option.some.inj hF
      exact hE _ _ _ _ _ hP hD hS dX5_counts_70 rfl hF
    have LP3 : ∀ (k3 : Nat) (t3 : (Int32 × Int32)), lp (S_X5_counts_17 a1 sa si) k3 t3 = some ox3 → ∀ (H : Heap) (locs : List Loc) (ls : Array Slot), va_P D vwCl (WX cA ad si sa) H → va_D A (WX cA ad si sa) → va_S A H0 H locs → lv_has ls 4 [(3, .int t3.1), (2, .int t3.2), (0, .ref (ad 0)), (1, .int a1)] → W p l ee (rmx 3 68) s m args below meth c H locs 0 0 Q (F0 m 17 ls []) := by
      intro k3
      induction k3 with
      | zero => intro t3 hF; exact (lp_no hF).elim
      | succ k3 ih3 =>
        intro t3 hF H locs ls hP hD hS hl
        change (S_X5_counts_17 a1 sa si) (lp (S_X5_counts_17 a1 sa si) k3) t3 = some ox3 at hF
        unfold S_X5_counts_17 at hF
        refine lv_iload_n hx hb dX5_counts_17 rfl (lv_at hl 0 rfl) ?_
        refine lv_bipush (v := (9 : Int32)) hx hb dX5_counts_18 (by decide) ?_
        refine lv_icmp_gt (tgt := 69) hx hb dX5_counts_20 (by decide) (fun c5 => ?_) (fun c5 => ?_)
        · have hF := (if_pos c5).symm.trans hF
          exact JE3 _ (Option.some.inj hF).symm _ _ _ hP hD hS (lv_sub hl [1] rfl)
        · have hF := (if_neg c5).symm.trans hF
          refine lv_aload_n hx hb dX5_counts_23 rfl (lv_at hl 2 rfl) ?_
          refine gX0_1 C0 hP q146 dX5_counts_24 ?_
          refine lv_iload_n hx hb dX5_counts_27 rfl (lv_at hl 3 rfl) ?_
          refine lv_iload_n hx hb dX5_counts_28 rfl (lv_at hl 0 rfl) ?_
          refine lv_aload_n hx hb dX5_counts_29 rfl (lv_at hl 2 rfl) ?_
          refine gX0_1 C0 hP q146 dX5_counts_30 ?_
          refine gX2_3 C0 hP q50 dX5_counts_33 ?_
          refine lv_iload_n hx hb dX5_counts_36 rfl (lv_at hl 3 rfl) ?_
          obtain ⟨hin, hF⟩ := ld_some hF
          refine aXl4 (f := (sa 4)) C0 hP rfl hin dX5_counts_37 ?_
          refine lv_aload_n hx hb dX5_counts_38 rfl (lv_at hl 2 rfl) ?_
          refine gX0_1 C0 hP q146 dX5_counts_39 ?_
          refine gX2_5 C0 hP q54 dX5_counts_42 ?_
          refine lv_iload_n hx hb dX5_counts_45 rfl (lv_at hl 3 rfl) ?_
          obtain ⟨hin, hF⟩ := ld_some hF
          refine aXl6 (f := (sa 6)) C0 hP rfl hin dX5_counts_46 ?_
          obtain ⟨r6, hr6, hF⟩ := bd_some hF
          refine kcS (As := [.int ((sa 4) (Int32.toNatClampNeg a1)), .int ((sa 6) (Int32.toNatClampNeg a1))]) (rest := [.int t3.1, .int a1, .ref (ad 2)]) C0 hA hP hD hS (c_X5_look l D cA ad si sa ((sa 4) (Int32.toNatClampNeg a1)) ((sa 6) (Int32.toNatClampNeg a1)) r6 hr6) lk_X5_look q256 q255 hl.1 rfl rfl (Nat.le_of_ble_eq_true rfl) ⟨Nat.le_of_ble_eq_true rfl, Nat.le_of_ble_eq_true rfl⟩ ⟨Nat.le_refl _, Nat.le_refl _⟩ dX5_counts_47 (fun H locs hP hD hS => ?_)
          refine W.eq (g2 := F0 m 50 ls [.int r6, .int t3.1, .int a1, .ref (ad 2)]) rfl ?_
          refine lv_imul hx hb dX5_counts_50 ?_
          obtain ⟨r7, hr7, hF⟩ := bd_some hF
          refine kcV (As := [.int a1, .int (t3.1 * r6)]) (rest := []) C0 hA hP hD hS (c_X0_readingsHold l D cA ad si sa a1 (t3.1 * r6) r7 hr7) lk_X0_readingsHold q459 q460 q458 2 0 rfl rfl hl.1 rfl rfl (Nat.le_of_ble_eq_true rfl) ⟨Nat.le_of_ble_eq_true rfl, Nat.le_of_ble_eq_true rfl⟩ ⟨Nat.le_refl _, Nat.le_refl _⟩ dX5_counts_51 (fun H locs hP hD hS => ?_)
          refine W.eq (g2 := F0 m 54 ls [.int r7]) rfl ?_
          refine lv_if_eq (tgt := 63) hx hb dX5_counts_54 (by decide) (fun c8 => ?_) (fun c8 => ?_)
          · have hF := (if_pos c8).symm.trans hF
            refine lv_iinc (v := (t3.1 + 1)) (lv' := [(3, .int (t3.1 + 1)), (2, .int t3.2), (0, .ref (ad 0)), (1, .int a1)]) hx hb dX5_counts_63 hl (k := 0) rfl rfl (by decide) rfl (fun ls hl => ?_)
            refine lv_goto (tgt := 17) hx hb dX5_counts_66 (by decide) ?_
            exact ih3 _ hF _ _ _ hP hD hS (lv_sub hl [0, 1, 2, 3] rfl)
          · have hF := (if_neg c8).symm.trans hF
            refine lv_iload_n hx hb dX5_counts_57 rfl (lv_at hl 1 rfl) ?_
            refine lv_iconst (v := (1 : Int32)) hx hb dX5_counts_58 (by decide) ?_
            refine lv_iload_n hx hb dX5_counts_59 rfl (lv_at hl 0 rfl) ?_
            refine lv_ishl hx hb dX5_counts_60 ?_
            refine lv_ior hx hb dX5_counts_61 ?_
            refine lv_istore_n (lv' := [(2, .int (t3.2 ||| ((1 : Int32) <<< (t3.1 &&& 31)))), (3, .int t3.1), (0, .ref (ad 0)), (1, .int a1)]) hx hb dX5_counts_62 rfl hl (by decide) rfl (fun ls hl => ?_)
            refine lv_iinc (v := (t3.1 + 1)) (lv' := [(3, .int (t3.1 + 1)), (2, .int (t3.2 ||| ((1 : Int32) <<< (t3.1 &&& 31)))), (0, .ref (ad 0)), (1, .int a1)]) hx hb dX5_counts_63 hl (k := 1) rfl rfl (by decide) rfl (fun ls hl => ?_)
            refine lv_goto (tgt := 17) hx hb dX5_counts_66 (by decide) ?_
            exact ih3 _ hF _ _ _ hP hD hS (lv_sub hl [0, 1, 2, 3] rfl)
    exact LP3 _ _ hL3 _ _ _ hP hD hS (lv_sub hl [0, 1, 2, 3] rfl)
  · have hF := (if_pos c2).symm.trans hF
    refine lv_iconst (v := (-1 : Int32)) hx hb dX5_counts_11 (by decide) ?_
    have hF := Option.some.inj hF
    exact hE _ _ _ _ _ hP hD hS dX5_counts_12 rfl hF
theorem lk_X5_kinds : LK yX5_kinds cX5_kinds 4 (some .int) 1 := ⟨q466, q1, by decide +kernel⟩
def S_X5_kinds_17 (a1 : Int32) (sa : tSA) (si : tSI) (rec3 : ((Int32 × Int32) → Option Int32)) (t3 : (Int32 × Int32)) : Option Int32 :=
  (if (2 : Int32) < t3.1 then some t3.2 else ld a1 6 (ld a1 6 ((F_X5_look t3.1 ((sa 6) (Int32.toNatClampNeg a1))).bind fun r6 => (F_X0_readingsHold a1 (((sa 5) (Int32.toNatClampNeg a1)) * r6) si sa).bind fun r7 => (if r7 = 0 then rec3 ((t3.1 + 1), t3.2) else rec3 ((t3.1 + 1), (t3.2 ||| ((1 : Int32) <<< (t3.1 &&& 31))))))))
def F_X5_kinds (a1 : Int32) (si : tSI) (sa : tSA) : Option Int32 :=
  (F_X0_isSort a1 si sa).bind fun r1 => (if r1 = 0 then some (-1 : Int32) else (lp (S_X5_kinds_17 a1 sa si) 100 ((0 : Int32), (0 : Int32))).bind fun (e4 : Int32) => some e4)
set_option maxHeartbeats 4000000 in
set_option maxRecDepth 100000 in
theorem c_X5_kinds (l : Launch) (D : va_G) (cA : ClassId) (ad : Nat → Nat) (si : tSI) (sa : tSA) (a1 : Int32) (o : Int32) (hF : F_X5_kinds a1 si sa = some o) : CG l yX5_kinds cX5_kinds 4 (some .int) 3 68 D cA [.ref (ad 0), .int a1] (WX cA ad si sa) (WX cA ad si sa) (some (.int o)) := by
  refine CG.ofi (by decide) (Nat.le_of_ble_eq_true rfl) ?_
  intro p ee s m args below meth c A Q H0 ls C0 hA hP hD hS hl hE
  have hl : lv_has ls 4 [(0, .ref (ad 0)), (1, .int a1)] := hl
  obtain ⟨hx, hb, hml, hown, ht, hK⟩ := id C0
  unfold F_X5_kinds at hF
  refine lv_aload_n hx hb dX5_kinds_0 rfl (lv_at hl 0 rfl) ?_
  refine gX0_1 C0 hP q146 dX5_kinds_1 ?_
  refine lv_iload_n hx hb dX5_kinds_4 rfl (lv_at hl 1 rfl) ?_
  obtain ⟨r1, hr1, hF⟩ := bd_some hF
  refine kcV (As := [.int a1]) (rest := []) C0 hA hP hD hS (c_X0_isSort l D cA ad si sa a1 r1 hr1) lk_X0_isSort q252 q253 q251 2 0 rfl rfl hl.1 rfl rfl (Nat.le_of_ble_eq_true rfl) ⟨Nat.le_of_ble_eq_true rfl, Nat.le_of_ble_eq_true rfl⟩ ⟨Nat.le_refl _, Nat.le_refl _⟩ dX5_kinds_5 (fun H locs hP hD hS => ?_)
  refine W.eq (g2 := F0 m 8 ls [.int r1]) rfl ?_
  refine lv_if_ne (tgt := 13) hx hb dX5_kinds_8 (by decide) (fun c2 => ?_) (fun c2 => ?_)
  · have hF := (if_neg c2).symm.trans hF
    refine lv_iconst (v := (0 : Int32)) hx hb dX5_kinds_13 (by decide) ?_
    refine lv_istore_n (lv' := [(2, .int (0 : Int32)), (0, .ref (ad 0)), (1, .int a1)]) hx hb dX5_kinds_14 rfl hl (by decide) rfl (fun ls hl => ?_)
    refine lv_iconst (v := (0 : Int32)) hx hb dX5_kinds_15 (by decide) ?_
    refine lv_istore_n (lv' := [(3, .int (0 : Int32)), (2, .int (0 : Int32)), (0, .ref (ad 0)), (1, .int a1)]) hx hb dX5_kinds_16 rfl hl (by decide) rfl (fun ls hl => ?_)
    obtain ⟨ox3, hL3, hX3⟩ := bd_all hF
    have JE3 : ∀ (e4 : Int32), ox3 = e4 → ∀ (H : Heap) (locs : List Loc) (ls : Array Slot), va_P D vwCl (WX cA ad si sa) H → va_D A (WX cA ad si sa) → va_S A H0 H locs → lv_has ls 4 [(2, .int e4)] → W p l ee (rmx 3 68) s m args below meth c H locs 0 0 Q (F0 m 68 ls []) := by
      intro e4 he H locs ls hP hD hS hl
      have hF := hX3 _ he
      refine lv_iload_n hx hb dX5_kinds_68 rfl (lv_at hl 0 rfl) ?_
      have hF := Option.some.inj hF
      exact hE _ _ _ _ _ hP hD hS dX5_kinds_69 rfl hF
    have LP3 : ∀ (k3 : Nat) (t3 : (Int32 × Int32)), lp (S_X5_kinds_17 a1 sa si) k3 t3 = some ox3 → ∀ (H : Heap) (locs : List Loc) (ls : Array Slot), va_P D vwCl (WX cA ad si sa) H → va_D A (WX cA ad si sa) → va_S A H0 H locs → lv_has ls 4 [(3, .int t3.1), (2, .int t3.2), (0, .ref (ad 0)), (1, .int a1)] → W p l ee (rmx 3 68) s m args below meth c H locs 0 0 Q (F0 m 17 ls []) := by
      intro k3
      induction k3 with
      | zero => intro t3 hF; exact (lp_no hF).elim
      | succ k3 ih3 =>
        intro t3 hF H locs ls hP hD hS hl
        change (S_X5_kinds_17 a1 sa si) (lp (S_X5_kinds_17 a1 sa si) k3) t3 = some ox3 at hF
        unfold S_X5_kinds_17 at hF
        refine lv_iload_n hx hb dX5_kinds_17 rfl (lv_at hl 0 rfl) ?_
        refine lv_iconst (v := (2 : Int32)) hx hb dX5_kinds_18 (by decide) ?_
        refine lv_icmp_gt (tgt := 68) hx hb dX5_kinds_19 (by decide) (fun c5 => ?_) (fun c5 => ?_)
        · have hF := (if_pos c5).symm.trans hF
          exact JE3 _ (Option.some.inj hF).symm _ _ _ hP hD hS (lv_sub hl [1] rfl)
        · have hF := (if_neg c5).symm.trans hF
          refine lv_aload_n hx hb dX5_kinds_22 rfl (lv_at hl 2 rfl) ?_
          refine gX0_1 C0 hP q146 dX5_kinds_23 ?_
          refine lv_iload_n hx hb dX5_kinds_26 rfl (lv_at hl 3 rfl) ?_
          refine lv_aload_n hx hb dX5_kinds_27 rfl (lv_at hl 2 rfl) ?_
          refine gX0_1 C0 hP q146 dX5_kinds_28 ?_
          refine gX2_4 C0 hP q52 dX5_kinds_31 ?_
          refine lv_iload_n hx hb dX5_kinds_34 rfl (lv_at hl 3 rfl) ?_
          obtain ⟨hin, hF⟩ := ld_some hF
          refine aXl5 (f := (sa 5)) C0 hP rfl hin dX5_kinds_35 ?_
          refine lv_iload_n hx hb dX5_kinds_36 rfl (lv_at hl 0 rfl) ?_
          refine lv_aload_n hx hb dX5_kinds_37 rfl (lv_at hl 2 rfl) ?_
          refine gX0_1 C0 hP q146 dX5_kinds_38 ?_
          refine gX2_5 C0 hP q54 dX5_kinds_41 ?_
          refine lv_iload_n hx hb dX5_kinds_44 rfl (lv_at hl 3 rfl) ?_
          obtain ⟨hin, hF⟩ := ld_some hF
          refine aXl6 (f := (sa 6)) C0 hP rfl hin dX5_kinds_45 ?_
          obtain ⟨r6, hr6, hF⟩ := bd_some hF
          refine kcS (As := [.int t3.1, .int ((sa 6) (Int32.toNatClampNeg a1))]) (rest := [.int ((sa 5) (Int32.toNatClampNeg a1)), .int a1, .ref (ad 2)]) C0 hA hP hD hS (c_X5_look l D cA ad si sa t3.1 ((sa 6) (Int32.toNatClampNeg a1)) r6 hr6) lk_X5_look q256 q255 hl.1 rfl rfl (Nat.le_of_ble_eq_true rfl) ⟨Nat.le_of_ble_eq_true rfl, Nat.le_of_ble_eq_true rfl⟩ ⟨Nat.le_refl _, Nat.le_refl _⟩ dX5_kinds_46 (fun H locs hP hD hS => ?_)
          refine W.eq (g2 := F0 m 49 ls [.int r6, .int ((sa 5) (Int32.toNatClampNeg a1)), .int a1, .ref (ad 2)]) rfl ?_
          refine lv_imul hx hb dX5_kinds_49 ?_
          obtain ⟨r7, hr7, hF⟩ := bd_some hF
          refine kcV (As := [.int a1, .int (((sa 5) (Int32.toNatClampNeg a1)) * r6)]) (rest := []) C0 hA hP hD hS (c_X0_readingsHold l D cA ad si sa a1 (((sa 5) (Int32.toNatClampNeg a1)) * r6) r7 hr7) lk_X0_readingsHold q459 q460 q458 2 0 rfl rfl hl.1 rfl rfl (Nat.le_of_ble_eq_true rfl) ⟨Nat.le_of_ble_eq_true rfl, Nat.le_of_ble_eq_true rfl⟩ ⟨Nat.le_refl _, Nat.le_refl _⟩ dX5_kinds_50 (fun H locs hP hD hS => ?_)
          refine W.eq (g2 := F0 m 53 ls [.int r7]) rfl ?_
          refine lv_if_eq (tgt := 62) hx hb dX5_kinds_53 (by decide) (fun c8 => ?_) (fun c8 => ?_)
          · have hF := (if_pos c8).symm.trans hF
            refine lv_iinc (v := (t3.1 + 1)) (lv' := [(3, .int (t3.1 + 1)), (2, .int t3.2), (0, .ref (ad 0)), (1, .int a1)]) hx hb dX5_kinds_62 hl (k := 0) rfl rfl (by decide) rfl (fun ls hl => ?_)
            refine lv_goto (tgt := 17) hx hb dX5_kinds_65 (by decide) ?_
            exact ih3 _ hF _ _ _ hP hD hS (lv_sub hl [0, 1, 2, 3] rfl)
          · have hF := (if_neg c8).symm.trans hF
            refine lv_iload_n hx hb dX5_kinds_56 rfl (lv_at hl 1 rfl) ?_
            refine lv_iconst (v := (1 : Int32)) hx hb dX5_kinds_57 (by decide) ?_
            refine lv_iload_n hx hb dX5_kinds_58 rfl (lv_at hl 0 rfl) ?_
            refine lv_ishl hx hb dX5_kinds_59 ?_
            refine lv_ior hx hb dX5_kinds_60 ?_
            refine lv_istore_n (lv' := [(2, .int (t3.2 ||| ((1 : Int32) <<< (t3.1 &&& 31)))), (3, .int t3.1), (0, .ref (ad 0)), (1, .int a1)]) hx hb dX5_kinds_61 rfl hl (by decide) rfl (fun ls hl => ?_)
            refine lv_iinc (v := (t3.1 + 1)) (lv' := [(3, .int (t3.1 + 1)), (2, .int (t3.2 ||| ((1 : Int32) <<< (t3.1 &&& 31)))), (0, .ref (ad 0)), (1, .int a1)]) hx hb dX5_kinds_62 hl (k := 1) rfl rfl (by decide) rfl (fun ls hl => ?_)
            refine lv_goto (tgt := 17) hx hb dX5_kinds_65 (by decide) ?_
            exact ih3 _ hF _ _ _ hP hD hS (lv_sub hl [0, 1, 2, 3] rfl)
    exact LP3 _ _ hL3 _ _ _ hP hD hS (lv_sub hl [0, 1, 2, 3] rfl)
  · have hF := (if_pos c2).symm.trans hF
    refine lv_iconst (v := (-1 : Int32)) hx hb dX5_kinds_11 (by decide) ?_
    have hF := Option.some.inj hF
    exact hE _ _ _ _ _ hP hD hS dX5_kinds_12 rfl hF
theorem lk_X5_speeds : LK yX5_speeds cX5_speeds 4 (some .int) 1 := ⟨q470, q1, by decide +kernel⟩
def S_X5_speeds_17 (a1 : Int32) (sa : tSA) (si : tSI) (rec3 : ((Int32 × Int32) → Option Int32)) (t3 : (Int32 × Int32)) : Option Int32 :=
  (if (9 : Int32) < t3.1 then some t3.2 else ld a1 6 (ld a1 6 ((F_X5_look ((sa 4) (Int32.toNatClampNeg a1)) t3.1).bind fun r6 => (F_X0_readingsHold a1 (((sa 5) (Int32.toNatClampNeg a1)) * r6) si sa).bind fun r7 => (if r7 = 0 then rec3 ((t3.1 + 1), t3.2) else rec3 ((t3.1 + 1), (t3.2 ||| ((1 : Int32) <<< (t3.1 &&& 31))))))))
def F_X5_speeds (a1 : Int32) (si : tSI) (sa : tSA) : Option Int32 :=
  (F_X0_isSort a1 si sa).bind fun r1 => (if r1 = 0 then some (-1 : Int32) else (lp (S_X5_speeds_17 a1 sa si) 100 ((1 : Int32), (0 : Int32))).bind fun (e4 : Int32) => some e4)
set_option maxHeartbeats 4000000 in
set_option maxRecDepth 100000 in
theorem c_X5_speeds (l : Launch) (D : va_G) (cA : ClassId) (ad : Nat → Nat) (si : tSI) (sa : tSA) (a1 : Int32) (o : Int32) (hF : F_X5_speeds a1 si sa = some o) : CG l yX5_speeds cX5_speeds 4 (some .int) 3 68 D cA [.ref (ad 0), .int a1] (WX cA ad si sa) (WX cA ad si sa) (some (.int o)) := by
  refine CG.ofi (by decide) (Nat.le_of_ble_eq_true rfl) ?_
  intro p ee s m args below meth c A Q H0 ls C0 hA hP hD hS hl hE
  have hl : lv_has ls 4 [(0, .ref (ad 0)), (1, .int a1)] := hl
  obtain ⟨hx, hb, hml, hown, ht, hK⟩ := id C0
  unfold F_X5_speeds at hF
  refine lv_aload_n hx hb dX5_speeds_0 rfl (lv_at hl 0 rfl) ?_
  refine gX0_1 C0 hP q146 dX5_speeds_1 ?_
  refine lv_iload_n hx hb dX5_speeds_4 rfl (lv_at hl 1 rfl) ?_
  obtain ⟨r1, hr1, hF⟩ := bd_some hF
  refine kcV (As := [.int a1]) (rest := []) C0 hA hP hD hS (c_X0_isSort l D cA ad si sa a1 r1 hr1) lk_X0_isSort q252 q253 q251 2 0 rfl rfl hl.1 rfl rfl (Nat.le_of_ble_eq_true rfl) ⟨Nat.le_of_ble_eq_true rfl, Nat.le_of_ble_eq_true rfl⟩ ⟨Nat.le_refl _, Nat.le_refl _⟩ dX5_speeds_5 (fun H locs hP hD hS => ?_)
  refine W.eq (g2 := F0 m 8 ls [.int r1]) rfl ?_
  refine lv_if_ne (tgt := 13) hx hb dX5_speeds_8 (by decide) (fun c2 => ?_) (fun c2 => ?_)
  · have hF := (if_neg c2).symm.trans hF
    refine lv_iconst (v := (0 : Int32)) hx hb dX5_speeds_13 (by decide) ?_
    refine lv_istore_n (lv' := [(2, .int (0 : Int32)), (0, .ref (ad 0)), (1, .int a1)]) hx hb dX5_speeds_14 rfl hl (by decide) rfl (fun ls hl => ?_)
    refine lv_iconst (v := (1 : Int32)) hx hb dX5_speeds_15 (by decide) ?_
    refine lv_istore_n (lv' := [(3, .int (1 : Int32)), (2, .int (0 : Int32)), (0, .ref (ad 0)), (1, .int a1)]) hx hb dX5_speeds_16 rfl hl (by decide) rfl (fun ls hl => ?_)
    obtain ⟨ox3, hL3, hX3⟩ := bd_all hF
    have JE3 : ∀ (e4 : Int32), ox3 = e4 → ∀ (H : Heap) (locs : List Loc) (ls : Array Slot), va_P D vwCl (WX cA ad si sa) H → va_D A (WX cA ad si sa) → va_S A H0 H locs → lv_has ls 4 [(2, .int e4)] → W p l ee (rmx 3 68) s m args below meth c H locs 0 0 Q (F0 m 69 ls []) := by
      intro e4 he H locs ls hP hD hS hl
      have hF := hX3 _ he
      refine lv_iload_n hx hb dX5_speeds_69 rfl (lv_at hl 0 rfl) ?_
      have hF := Option.some.inj hF
      exact hE _ _ _ _ _ hP hD hS dX5_speeds_70 rfl hF
    have LP3 : ∀ (k3 : Nat) (t3 : (Int32 × Int32)), lp (S_X5_speeds_17 a1 sa si) k3 t3 = some ox3 → ∀ (H : Heap) (locs : List Loc) (ls : Array Slot), va_P D vwCl (WX cA ad si sa) H → va_D A (WX cA ad si sa) → va_S A H0 H locs → lv_has ls 4 [(3, .int t3.1), (2, .int t3.2), (0, .ref (ad 0)), (1, .int a1)] → W p l ee (rmx 3 68) s m args below meth c H locs 0 0 Q (F0 m 17 ls []) := by
      intro k3
      induction k3 with
      | zero => intro t3 hF; exact (lp_no hF).elim
      | succ k3 ih3 =>
        intro t3 hF H locs ls hP hD hS hl
        change (S_X5_speeds_17 a1 sa si) (lp (S_X5_speeds_17 a1 sa si) k3) t3 = some ox3 at hF
        unfold S_X5_speeds_17 at hF
        refine lv_iload_n hx hb dX5_speeds_17 rfl (lv_at hl 0 rfl) ?_
        refine lv_bipush (v := (9 : Int32)) hx hb dX5_speeds_18 (by decide) ?_
        refine lv_icmp_gt (tgt := 69) hx hb dX5_speeds_20 (by decide) (fun c5 => ?_) (fun c5 => ?_)
        · have hF := (if_pos c5).symm.trans hF
          exact JE3 _ (Option.some.inj hF).symm _ _ _ hP hD hS (lv_sub hl [1] rfl)
        · have hF := (if_neg c5).symm.trans hF
          refine lv_aload_n hx hb dX5_speeds_23 rfl (lv_at hl 2 rfl) ?_
          refine gX0_1 C0 hP q146 dX5_speeds_24 ?_
          refine lv_iload_n hx hb dX5_speeds_27 rfl (lv_at hl 3 rfl) ?_
          refine lv_aload_n hx hb dX5_speeds_28 rfl (lv_at hl 2 rfl) ?_
          refine gX0_1 C0 hP q146 dX5_speeds_29 ?_
          refine gX2_4 C0 hP q52 dX5_speeds_32 ?_
          refine lv_iload_n hx hb dX5_speeds_35 rfl (lv_at hl 3 rfl) ?_
          obtain ⟨hin, hF⟩ := ld_some hF
          refine aXl5 (f := (sa 5)) C0 hP rfl hin dX5_speeds_36 ?_
          refine lv_aload_n hx hb dX5_speeds_37 rfl (lv_at hl 2 rfl) ?_
          refine gX0_1 C0 hP q146 dX5_speeds_38 ?_
          refine gX2_3 C0 hP q50 dX5_speeds_41 ?_
          refine lv_iload_n hx hb dX5_speeds_44 rfl (lv_at hl 3 rfl) ?_
          obtain ⟨hin, hF⟩ := ld_some hF
          refine aXl4 (f := (sa 4)) C0 hP rfl hin dX5_speeds_45 ?_
          refine lv_iload_n hx hb dX5_speeds_46 rfl (lv_at hl 0 rfl) ?_
          obtain ⟨r6, hr6, hF⟩ := bd_some hF
          refine kcS (As := [.int ((sa 4) (Int32.toNatClampNeg a1)), .int t3.1]) (rest := [.int ((sa 5) (Int32.toNatClampNeg a1)), .int a1, .ref (ad 2)]) C0 hA hP hD hS (c_X5_look l D cA ad si sa ((sa 4) (Int32.toNatClampNeg a1)) t3.1 r6 hr6) lk_X5_look q256 q255 hl.1 rfl rfl (Nat.le_of_ble_eq_true rfl) ⟨Nat.le_of_ble_eq_true rfl, Nat.le_of_ble_eq_true rfl⟩ ⟨Nat.le_refl _, Nat.le_refl _⟩ dX5_speeds_47 (fun H locs hP hD hS => ?_)
          refine W.eq (g2 := F0 m 50 ls [.int r6, .int ((sa 5) (Int32.toNatClampNeg a1)), .int a1, .ref (ad 2)]) rfl ?_
          refine lv_imul hx hb dX5_speeds_50 ?_
          obtain ⟨r7, hr7, hF⟩ := bd_some hF
          refine kcV (As := [.int a1, .int (((sa 5) (Int32.toNatClampNeg a1)) * r6)]) (rest := []) C0 hA hP hD hS (c_X0_readingsHold l D cA ad si sa a1 (((sa 5) (Int32.toNatClampNeg a1)) * r6) r7 hr7) lk_X0_readingsHold q459 q460 q458 2 0 rfl rfl hl.1 rfl rfl (Nat.le_of_ble_eq_true rfl) ⟨Nat.le_of_ble_eq_true rfl, Nat.le_of_ble_eq_true rfl⟩ ⟨Nat.le_refl _, Nat.le_refl _⟩ dX5_speeds_51 (fun H locs hP hD hS => ?_)
          refine W.eq (g2 := F0 m 54 ls [.int r7]) rfl ?_
          refine lv_if_eq (tgt := 63) hx hb dX5_speeds_54 (by decide) (fun c8 => ?_) (fun c8 => ?_)
          · have hF := (if_pos c8).symm.trans hF
            refine lv_iinc (v := (t3.1 + 1)) (lv' := [(3, .int (t3.1 + 1)), (2, .int t3.2), (0, .ref (ad 0)), (1, .int a1)]) hx hb dX5_speeds_63 hl (k := 0) rfl rfl (by decide) rfl (fun ls hl => ?_)
            refine lv_goto (tgt := 17) hx hb dX5_speeds_66 (by decide) ?_
            exact ih3 _ hF _ _ _ hP hD hS (lv_sub hl [0, 1, 2, 3] rfl)
          · have hF := (if_neg c8).symm.trans hF
            refine lv_iload_n hx hb dX5_speeds_57 rfl (lv_at hl 1 rfl) ?_
            refine lv_iconst (v := (1 : Int32)) hx hb dX5_speeds_58 (by decide) ?_
            refine lv_iload_n hx hb dX5_speeds_59 rfl (lv_at hl 0 rfl) ?_
            refine lv_ishl hx hb dX5_speeds_60 ?_
            refine lv_ior hx hb dX5_speeds_61 ?_
            refine lv_istore_n (lv' := [(2, .int (t3.2 ||| ((1 : Int32) <<< (t3.1 &&& 31)))), (3, .int t3.1), (0, .ref (ad 0)), (1, .int a1)]) hx hb dX5_speeds_62 rfl hl (by decide) rfl (fun ls hl => ?_)
            refine lv_iinc (v := (t3.1 + 1)) (lv' := [(3, .int (t3.1 + 1)), (2, .int (t3.2 ||| ((1 : Int32) <<< (t3.1 &&& 31)))), (0, .ref (ad 0)), (1, .int a1)]) hx hb dX5_speeds_63 hl (k := 1) rfl rfl (by decide) rfl (fun ls hl => ?_)
            refine lv_goto (tgt := 17) hx hb dX5_speeds_66 (by decide) ?_
            exact ih3 _ hF _ _ _ hP hD hS (lv_sub hl [0, 1, 2, 3] rfl)
    exact LP3 _ _ hL3 _ _ _ hP hD hS (lv_sub hl [0, 1, 2, 3] rfl)
  · have hF := (if_pos c2).symm.trans hF
    refine lv_iconst (v := (-1 : Int32)) hx hb dX5_speeds_11 (by decide) ?_
    have hF := Option.some.inj hF
    exact hE _ _ _ _ _ hP hD hS dX5_speeds_12 rfl hF
theorem lk_X2_renew : LK yX2_renew cX2_renew 5 none 3 := ⟨q478, q2, by decide +kernel⟩
def S_X2_renew_17 (a3 : Int32) (a1 : Int32) (rec1 : ((Int32 × tSI × tSA) → Option (tSI × tSA))) (t1 : (Int32 × tSI × tSA)) : Option (tSI × tSA) :=
  (if a3 ≤ t1.1 then some (t1.2.1, t1.2.2) else ld ((a1 * (60 : Int32)) + t1.1) 240 (rec1 ((t1.1 + 1), t1.2.1, (va_up t1.2.2 1 (upd (t1.2.2 1) (Int32.toNatClampNeg ((a1 * (60 : Int32)) + t1.1)) (0 : Int32))))))
def F_X2_renew (a1 : Int32) (a2 : Int32) (a3 : Int32) (si : tSI) (sa : tSA) : Option (tSI × tSA) :=
  ld a1 4 (ld a1 4 ((lp (S_X2_renew_17 a3 a1) 100 ((0 : Int32), si, (va_up (va_up sa 2 (upd (sa 2) (Int32.toNatClampNeg a1) a2)) 3 (upd (sa 3) (Int32.toNatClampNeg a1) a3)))).bind fun (e2 : (tSI × tSA)) => some (e2.1, e2.2)))
set_option maxHeartbeats 4000000 in
set_option maxRecDepth 100000 in
theorem c_X2_renew (l : Launch) (D : va_G) (cA : ClassId) (ad : Nat → Nat) (si : tSI) (sa : tSA) (a1 : Int32) (a2 : Int32) (a3 : Int32) (o : (tSI × tSA)) (hF : F_X2_renew a1 a2 a3 si sa = some o) : CG l yX2_renew cX2_renew 5 none 0 0 D cA [.ref (ad 1), .int a1, .int a2, .int a3] (WX cA ad si sa) (WX cA ad o.1 o.2) none := by
  refine CG.ofv (by decide) (Nat.le_of_ble_eq_true rfl) ?_
  intro p ee s m args below meth c A Q H0 ls C0 hA hP hD hS hl hE
  have hl : lv_has ls 5 [(0, .ref (ad 1)), (1, .int a1), (2, .int a2), (3, .int a3)] := hl
  obtain ⟨hx, hb, hml, hown, ht, hK⟩ := id C0
  unfold F_X2_renew at hF
  refine lv_aload_n hx hb dX2_renew_0 rfl (lv_at hl 0 rfl) ?_
  refine gX1_1 C0 hP q26 dX2_renew_1 ?_
  refine lv_iload_n hx hb dX2_renew_4 rfl (lv_at hl 1 rfl) ?_
  refine lv_iload_n hx hb dX2_renew_5 rfl (lv_at hl 2 rfl) ?_
  obtain ⟨hin, hF⟩ := ld_some hF
  refine aXs2 (f := (sa 2)) C0 hP hD hS rfl hin dX2_renew_6 (fun H locs hP hD hS => ?_)
  refine lv_aload_n hx hb dX2_renew_7 rfl (lv_at hl 0 rfl) ?_
  refine gX1_2 C0 hP q27 dX2_renew_8 ?_
  refine lv_iload_n hx hb dX2_renew_11 rfl (lv_at hl 1 rfl) ?_
  refine lv_iload_n hx hb dX2_renew_12 rfl (lv_at hl 3 rfl) ?_
  obtain ⟨hin, hF⟩ := ld_some hF
  refine aXs3 (f := (sa 3)) C0 hP hD hS rfl hin dX2_renew_13 (fun H locs hP hD hS => ?_)
  refine lv_iconst (v := (0 : Int32)) hx hb dX2_renew_14 (by decide) ?_
  refine lv_istore (lv' := [(4, .int (0 : Int32)), (0, .ref (ad 1)), (1, .int a1), (2, .int a2), (3, .int a3)]) hx hb dX2_renew_15 hl (by decide) rfl (fun ls hl => ?_)
  obtain ⟨ox1, hL1, hX1⟩ := bd_all hF
  have JE1 : ∀ (e2 : (tSI × tSA)), ox1 = e2 → ∀ (H : Heap) (locs : List Loc) (ls : Array Slot), va_P D vwCl (WX cA ad e2.1 e2.2) H → va_D A (WX cA ad e2.1 e2.2) → va_S A H0 H locs → lv_has ls 5 [] → W p l ee (rmx 0 0) s m args below meth c H locs 0 0 Q (F0 m 42 ls []) := by
    intro e2 he H locs ls hP hD hS hl
    have hF := hX1 _ he
    have hF := Option.some.inj hF
    subst hF
    exact hE _ _ _ _ hP hD hS dX2_renew_42
  have LP1 : ∀ (k1 : Nat) (t1 : (Int32 × tSI × tSA)), lp (S_X2_renew_17 a3 a1) k1 t1 = some ox1 → ∀ (H : Heap) (locs : List Loc) (ls : Array Slot), va_P D vwCl (WX cA ad t1.2.1 t1.2.2) H → va_D A (WX cA ad t1.2.1 t1.2.2) → va_S A H0 H locs → lv_has ls 5 [(4, .int t1.1), (0, .ref (ad 1)), (1, .int a1), (3, .int a3)] → W p l ee (rmx 0 0) s m args below meth c H locs 0 0 Q (F0 m 17 ls []) := by
    intro k1
    induction k1 with
    | zero => intro t1 hF; exact (lp_no hF).elim
    | succ k1 ih1 =>
      intro t1 hF H locs ls hP hD hS hl
      change (S_X2_renew_17 a3 a1) (lp (S_X2_renew_17 a3 a1) k1) t1 = some ox1 at hF
      unfold S_X2_renew_17 at hF
      refine lv_iload hx hb dX2_renew_17 (lv_at hl 0 rfl) ?_
      refine lv_iload_n hx hb dX2_renew_19 rfl (lv_at hl 3 rfl) ?_
      refine lv_icmp_ge (tgt := 42) hx hb dX2_renew_20 (by decide) (fun c3 => ?_) (fun c3 => ?_)
      · have hF := (if_pos c3).symm.trans hF
        exact JE1 _ (Option.some.inj hF).symm _ _ _ hP hD hS (lv_sub hl [] rfl)
      · have hF := (if_neg c3).symm.trans hF
        refine lv_aload_n hx hb dX2_renew_23 rfl (lv_at hl 1 rfl) ?_
        refine gX1_0 C0 hP q25 dX2_renew_24 ?_
        refine lv_iload_n hx hb dX2_renew_27 rfl (lv_at hl 2 rfl) ?_
        refine lv_bipush (v := (60 : Int32)) hx hb dX2_renew_28 (by decide) ?_
        refine lv_imul hx hb dX2_renew_30 ?_
        refine lv_iload hx hb dX2_renew_31 (lv_at hl 0 rfl) ?_
        refine lv_iadd hx hb dX2_renew_33 ?_
        refine lv_iconst (v := (0 : Int32)) hx hb dX2_renew_34 (by decide) ?_
        obtain ⟨hin, hF⟩ := ld_some hF
        refine aXs1 (f := (t1.2.2 1)) C0 hP hD hS rfl hin dX2_renew_35 (fun H locs hP hD hS => ?_)
        refine lv_iinc (v := (t1.1 + 1)) (lv' := [(4, .int (t1.1 + 1)), (0, .ref (ad 1)), (1, .int a1), (3, .int a3)]) hx hb dX2_renew_36 hl (k := 0) rfl rfl (by decide) rfl (fun ls hl => ?_)
        refine lv_goto (tgt := 17) hx hb dX2_renew_39 (by decide) ?_
        exact ih1 _ hF _ _ _ hP hD hS (lv_sub hl [0, 1, 2, 3] rfl)
  exact LP1 _ _ hL1 _ _ _ hP hD hS (lv_sub hl [0, 1, 2, 4] rfl)
theorem lk_X5_sheet : LK yX5_sheet cX5_sheet 4 (some .int) 3 := ⟨q474, q1, by decide +kernel⟩
def F_X5_sheet (a1 : Int32) (a2 : Int32) (a3 : Int32) (si : tSI) (sa : tSA) : Option (Int32 × tSI × tSA) :=
  (F_X2_isSheet a1).bind fun r1 => (if r1 = 0 then some ((-1 : Int32), (upd si 1 (0 : Int32)), sa) else (F_X2_isLane a2).bind fun r3 => (if r3 = 0 then some ((-2 : Int32), (upd si 1 (0 : Int32)), sa) else (if a3 ≤ (60 : Int32) then (if 0 ≤ a3 then (F_X2_renew a1 a2 a3 (upd si 1 (0 : Int32)) sa).bind fun r7 => some ((1 : Int32), r7.1, r7.2) else (F_X5_failed (4 : Int32) (upd si 1 (0 : Int32)) sa).bind fun r8 => some (r8.1, r8.2.1, r8.2.2)) else some ((-2 : Int32), (upd si 1 (0 : Int32)), sa))))
set_option maxHeartbeats 4000000 in
set_option maxRecDepth 100000 in
theorem c_X5_sheet (l : Launch) (D : va_G) (cA : ClassId) (ad : Nat → Nat) (si : tSI) (sa : tSA) (a1 : Int32) (a2 : Int32) (a3 : Int32) (o : (Int32 × tSI × tSA)) (hF : F_X5_sheet a1 a2 a3 si sa = some o) : CG l yX5_sheet cX5_sheet 4 (some .int) 1 24 D cA [.ref (ad 0), .int a1, .int a2, .int a3] (WX cA ad si sa) (WX cA ad o.2.1 o.2.2) (some (.int o.1)) := by
  refine CG.ofi (by decide) (Nat.le_of_ble_eq_true rfl) ?_
  intro p ee s m args below meth c A Q H0 ls C0 hA hP hD hS hl hE
  have hl : lv_has ls 4 [(0, .ref (ad 0)), (1, .int a1), (2, .int a2), (3, .int a3)] := hl
  obtain ⟨hx, hb, hml, hown, ht, hK⟩ := id C0
  unfold F_X5_sheet at hF
  refine lv_aload_n hx hb dX5_sheet_0 rfl (lv_at hl 0 rfl) ?_
  refine lv_iconst (v := (0 : Int32)) hx hb dX5_sheet_1 (by decide) ?_
  refine pX0_7 C0 hP hD hS q152 dX5_sheet_2 (fun H locs hP hD hS => ?_)
  refine lv_iload_n hx hb dX5_sheet_5 rfl (lv_at hl 1 rfl) ?_
  obtain ⟨r1, hr1, hF⟩ := bd_some hF
  refine kcS (As := [.int a1]) (rest := []) C0 hA hP hD hS (c_X2_isSheet l D cA ad (upd si 1 (0 : Int32)) sa a1 r1 hr1) lk_X2_isSheet q175 q174 hl.1 rfl rfl (Nat.le_of_ble_eq_true rfl) ⟨Nat.le_of_ble_eq_true rfl, Nat.le_of_ble_eq_true rfl⟩ ⟨Nat.le_refl _, Nat.le_refl _⟩ dX5_sheet_6 (fun H locs hP hD hS => ?_)
  refine W.eq (g2 := F0 m 9 ls [.int r1]) rfl ?_
  refine lv_if_ne (tgt := 14) hx hb dX5_sheet_9 (by decide) (fun c2 => ?_) (fun c2 => ?_)
  · have hF := (if_neg c2).symm.trans hF
    refine lv_iload_n hx hb dX5_sheet_14 rfl (lv_at hl 2 rfl) ?_
    obtain ⟨r3, hr3, hF⟩ := bd_some hF
    refine kcS (As := [.int a2]) (rest := []) C0 hA hP hD hS (c_X2_isLane l D cA ad (upd si 1 (0 : Int32)) sa a2 r3 hr3) lk_X2_isLane q178 q177 hl.1 rfl rfl (Nat.le_of_ble_eq_true rfl) ⟨Nat.le_of_ble_eq_true rfl, Nat.le_of_ble_eq_true rfl⟩ ⟨Nat.le_refl _, Nat.le_refl _⟩ dX5_sheet_15 (fun H locs hP hD hS => ?_)
    refine W.eq (g2 := F0 m 18 ls [.int r3]) rfl ?_
    refine lv_if_eq (tgt := 27) hx hb dX5_sheet_18 (by decide) (fun c4 => ?_) (fun c4 => ?_)
    · have hF := (if_pos c4).symm.trans hF
      refine lv_bipush (v := (-2 : Int32)) hx hb dX5_sheet_27 (by decide) ?_
      have hF := Option.some.inj hF
      subst hF
      exact hE _ _ _ _ _ hP hD hS dX5_sheet_29 rfl rfl
    · have hF := (if_neg c4).symm.trans hF
      refine lv_iload_n hx hb dX5_sheet_21 rfl (lv_at hl 3 rfl) ?_
      refine lv_bipush (v := (60 : Int32)) hx hb dX5_sheet_22 (by decide) ?_
      refine lv_icmp_le (tgt := 30) hx hb dX5_sheet_24 (by decide) (fun c5 => ?_) (fun c5 => ?_)
      · have hF := (if_pos c5).symm.trans hF
        refine lv_iload_n hx hb dX5_sheet_30 rfl (lv_at hl 3 rfl) ?_
        refine lv_if_ge (tgt := 40) hx hb dX5_sheet_31 (by decide) (fun c6 => ?_) (fun c6 => ?_)
        · have hF := (if_pos c6).symm.trans hF
          refine lv_aload_n hx hb dX5_sheet_40 rfl (lv_at hl 0 rfl) ?_
          refine gX0_0 C0 hP q145 dX5_sheet_41 ?_
          refine lv_iload_n hx hb dX5_sheet_44 rfl (lv_at hl 1 rfl) ?_
          refine lv_iload_n hx hb dX5_sheet_45 rfl (lv_at hl 2 rfl) ?_
          refine lv_iload_n hx hb dX5_sheet_46 rfl (lv_at hl 3 rfl) ?_
          obtain ⟨r7, hr7, hF⟩ := bd_some hF
          refine kcV (As := [.int a1, .int a2, .int a3]) (rest := []) C0 hA hP hD hS (c_X2_renew l D cA ad (upd si 1 (0 : Int32)) sa a1 a2 a3 r7 hr7) lk_X2_renew q476 q477 q475 1 2 rfl rfl hl.1 rfl rfl (Nat.le_of_ble_eq_true rfl) ⟨Nat.le_of_ble_eq_true rfl, Nat.le_of_ble_eq_true rfl⟩ ⟨Nat.le_refl _, Nat.le_refl _⟩ dX5_sheet_47 (fun H locs hP hD hS => ?_)
          refine W.eq (g2 := F0 m 50 ls []) rfl ?_
          refine lv_iconst (v := (1 : Int32)) hx hb dX5_sheet_50 (by decide) ?_
          have hF := Option.some.inj hF
          subst hF
          exact hE _ _ _ _ _ hP hD hS dX5_sheet_51 rfl rfl
        · have hF := (if_neg c6).symm.trans hF
          refine lv_aload_n hx hb dX5_sheet_34 rfl (lv_at hl 0 rfl) ?_
          refine lv_iconst (v := (4 : Int32)) hx hb dX5_sheet_35 (by decide) ?_
          obtain ⟨r8, hr8, hF⟩ := bd_some hF
          refine kcV (As := [.int (4 : Int32)]) (rest := []) C0 hA hP hD hS (c_X5_failed l D cA ad (upd si 1 (0 : Int32)) sa (4 : Int32) r8 hr8) lk_X5_failed q194 s0 q192 0 5 rfl rfl hl.1 rfl rfl (Nat.le_of_ble_eq_true rfl) ⟨Nat.le_of_ble_eq_true rfl, Nat.le_of_ble_eq_true rfl⟩ ⟨Nat.le_refl _, Nat.le_refl _⟩ dX5_sheet_36 (fun H locs hP hD hS => ?_)
          refine W.eq (g2 := F0 m 39 ls [.int r8.1]) rfl ?_
          have hF := Option.some.inj hF
          subst hF
          exact hE _ _ _ _ _ hP hD hS dX5_sheet_39 rfl rfl
      · have hF := (if_neg c5).symm.trans hF
        refine lv_bipush (v := (-2 : Int32)) hx hb dX5_sheet_27 (by decide) ?_
        have hF := Option.some.inj hF
        subst hF
        exact hE _ _ _ _ _ hP hD hS dX5_sheet_29 rfl rfl
  · have hF := (if_pos c2).symm.trans hF
    refine lv_iconst (v := (-1 : Int32)) hx hb dX5_sheet_12 (by decide) ?_
    have hF := Option.some.inj hF
    subst hF
    exact hE _ _ _ _ _ hP hD hS dX5_sheet_13 rfl rfl
theorem lk_X2_clear : LK yX2_clear cX2_clear 3 (some .boolean) 1 := ⟨q486, q2, by decide +kernel⟩
def F_X2_clear (a1 : Int32) (si : tSI) (sa : tSA) : Option (Int32 × tSI × tSA) :=
  (F_X2_isEmpty a1 si sa).bind fun r1 => ((if r1 = 0 then some (1 : Int32) else some (0 : Int32))).bind fun (x2 : Int32) => ld a1 4 (zb x2 (some (x2, si, (va_up sa 3 (upd (sa 3) (Int32.toNatClampNeg a1) (-9 : Int32))))))
set_option maxHeartbeats 4000000 in
set_option maxRecDepth 100000 in
theorem c_X2_clear (l : Launch) (D : va_G) (cA : ClassId) (ad : Nat → Nat) (si : tSI) (sa : tSA) (a1 : Int32) (o : (Int32 × tSI × tSA)) (hF : F_X2_clear a1 si sa = some o) : CG l yX2_clear cX2_clear 3 (some .boolean) 1 21 D cA [.ref (ad 1), .int a1] (WX cA ad si sa) (WX cA ad o.2.1 o.2.2) (some (.int o.1)) := by
  refine CG.ofi (by decide) (Nat.le_of_ble_eq_true rfl) ?_
  intro p ee s m args below meth c A Q H0 ls C0 hA hP hD hS hl hE
  have hl : lv_has ls 3 [(0, .ref (ad 1)), (1, .int a1)] := hl
  obtain ⟨hx, hb, hml, hown, ht, hK⟩ := id C0
  unfold F_X2_clear at hF
  refine lv_aload_n hx hb dX2_clear_0 rfl (lv_at hl 0 rfl) ?_
  refine lv_iload_n hx hb dX2_clear_1 rfl (lv_at hl 1 rfl) ?_
  obtain ⟨r1, hr1, hF⟩ := bd_some hF
  refine kcV (As := [.int a1]) (rest := []) C0 hA hP hD hS (c_X2_isEmpty l D cA ad si sa a1 r1 hr1) lk_X2_isEmpty q185 q186 q184 1 2 rfl rfl hl.1 rfl rfl (Nat.le_of_ble_eq_true rfl) ⟨Nat.le_of_ble_eq_true rfl, Nat.le_of_ble_eq_true rfl⟩ ⟨Nat.le_refl _, Nat.le_refl _⟩ dX2_clear_2 (fun H locs hP hD hS => ?_)
  refine W.eq (g2 := F0 m 5 ls [.int r1]) rfl ?_
  obtain ⟨x2, hRx2, hF⟩ := bd_some hF
  have Jx2 : ∀ (H : Heap) (locs : List Loc) (ls : Array Slot), va_P D vwCl (WX cA ad si sa) H → va_D A (WX cA ad si sa) → va_S A H0 H locs → lv_has ls 3 [(0, .ref (ad 1)), (1, .int a1)] → W p l ee (rmx 1 21) s m args below meth c H locs 0 0 Q (F0 m 13 ls [.int x2]) := by
    intro H locs ls hP hD hS hl
    refine lv_istore_n (lv' := [(2, .int x2), (0, .ref (ad 1)), (1, .int a1)]) hx hb dX2_clear_13 rfl hl (by decide) rfl (fun ls hl => ?_)
    refine lv_aload_n hx hb dX2_clear_14 rfl (lv_at hl 1 rfl) ?_
    refine gX1_2 C0 hP q27 dX2_clear_15 ?_
    refine lv_iload_n hx hb dX2_clear_18 rfl (lv_at hl 2 rfl) ?_
    refine lv_bipush (v := (-9 : Int32)) hx hb dX2_clear_19 (by decide) ?_
    obtain ⟨hin, hF⟩ := ld_some hF
    refine aXs3 (f := (sa 3)) C0 hP hD hS rfl hin dX2_clear_21 (fun H locs hP hD hS => ?_)
    refine lv_iload_n hx hb dX2_clear_22 rfl (lv_at hl 0 rfl) ?_
    obtain ⟨hz, hF⟩ := zb_some hF
    have hF := Option.some.inj hF
    subst hF
    exact hE _ _ _ _ _ hP hD hS dX2_clear_23 hz rfl
  have hF := hRx2
  refine lv_if_ne (tgt := 12) hx hb dX2_clear_5 (by decide) (fun c3 => ?_) (fun c3 => ?_)
  · have hF := (if_neg c3).symm.trans hF
    refine lv_iconst (v := (0 : Int32)) hx hb dX2_clear_12 (by decide) ?_
    have hF := Option.some.inj hF
    subst hF
    exact Jx2 _ _ _ hP hD hS (lv_sub hl [0, 1] rfl)
  · have hF := (if_pos c3).symm.trans hF
    refine lv_iconst (v := (1 : Int32)) hx hb dX2_clear_8 (by decide) ?_
    refine lv_goto (tgt := 13) hx hb dX2_clear_9 (by decide) ?_
    have hF := Option.some.inj hF
    subst hF
    exact Jx2 _ _ _ hP hD hS (lv_sub hl [0, 1] rfl)
theorem lk_X5_lose : LK yX5_lose cX5_lose 2 (some .int) 1 := ⟨q482, q1, by decide +kernel⟩
def F_X5_lose (a1 : Int32) (si : tSI) (sa : tSA) : Option (Int32 × tSI × tSA) :=
  (F_X2_isSheet a1).bind fun r1 => (if r1 = 0 then some ((-1 : Int32), si, sa) else (F_X2_clear a1 si sa).bind fun r3 => (if r3.1 = 0 then some ((0 : Int32), r3.2.1, r3.2.2) else some ((1 : Int32), r3.2.1, r3.2.2)))
set_option maxHeartbeats 4000000 in
set_option maxRecDepth 100000 in
theorem c_X5_lose (l : Launch) (D : va_G) (cA : ClassId) (ad : Nat → Nat) (si : tSI) (sa : tSA) (a1 : Int32) (o : (Int32 × tSI × tSA)) (hF : F_X5_lose a1 si sa = some o) : CG l yX5_lose cX5_lose 2 (some .int) 2 43 D cA [.ref (ad 0), .int a1] (WX cA ad si sa) (WX cA ad o.2.1 o.2.2) (some (.int o.1)) := by
  refine CG.ofi (by decide) (Nat.le_of_ble_eq_true rfl) ?_
  intro p ee s m args below meth c A Q H0 ls C0 hA hP hD hS hl hE
  have hl : lv_has ls 2 [(0, .ref (ad 0)), (1, .int a1)] := hl
  obtain ⟨hx, hb, hml, hown, ht, hK⟩ := id C0
  unfold F_X5_lose at hF
  refine lv_iload_n hx hb dX5_lose_0 rfl (lv_at hl 1 rfl) ?_
  obtain ⟨r1, hr1, hF⟩ := bd_some hF
  refine kcS (As := [.int a1]) (rest := []) C0 hA hP hD hS (c_X2_isSheet l D cA ad si sa a1 r1 hr1) lk_X2_isSheet q175 q174 hl.1 rfl rfl (Nat.le_of_ble_eq_true rfl) ⟨Nat.le_of_ble_eq_true rfl, Nat.le_of_ble_eq_true rfl⟩ ⟨Nat.le_refl _, Nat.le_refl _⟩ dX5_lose_1 (fun H locs hP hD hS => ?_)
  refine W.eq (g2 := F0 m 4 ls [.int r1]) rfl ?_
  refine lv_if_ne (tgt := 9) hx hb dX5_lose_4 (by decide) (fun c2 => ?_) (fun c2 => ?_)
  · have hF := (if_neg c2).symm.trans hF
    refine lv_aload_n hx hb dX5_lose_9 rfl (lv_at hl 0 rfl) ?_
    refine gX0_0 C0 hP q145 dX5_lose_10 ?_
    refine lv_iload_n hx hb dX5_lose_13 rfl (lv_at hl 1 rfl) ?_
    obtain ⟨r3, hr3, hF⟩ := bd_some hF
    refine kcV (As := [.int a1]) (rest := []) C0 hA hP hD hS (c_X2_clear l D cA ad si sa a1 r3 hr3) lk_X2_clear q484 q485 q483 1 2 rfl rfl hl.1 rfl rfl (Nat.le_of_ble_eq_true rfl) ⟨Nat.le_of_ble_eq_true rfl, Nat.le_of_ble_eq_true rfl⟩ ⟨Nat.le_refl _, Nat.le_refl _⟩ dX5_lose_14 (fun H locs hP hD hS => ?_)
    refine W.eq (g2 := F0 m 17 ls [.int r3.1]) rfl ?_
    refine lv_if_eq (tgt := 24) hx hb dX5_lose_17 (by decide) (fun c4 => ?_) (fun c4 => ?_)
    · have hF := (if_pos c4).symm.trans hF
      refine lv_iconst (v := (0 : Int32)) hx hb dX5_lose_24 (by decide) ?_
      have hF := Option.some.inj hF
      subst hF
      exact hE _ _ _ _ _ hP hD hS dX5_lose_25 rfl rfl
    · have hF := (if_neg c4).symm.trans hF
      refine lv_iconst (v := (1 : Int32)) hx hb dX5_lose_20 (by decide) ?_
      refine lv_goto (tgt := 25) hx hb dX5_lose_21 (by decide) ?_
      have hF := Option.some.inj hF
      subst hF
      exact hE _ _ _ _ _ hP hD hS dX5_lose_25 rfl rfl
  · have hF := (if_pos c2).symm.trans hF
    refine lv_iconst (v := (-1 : Int32)) hx hb dX5_lose_7 (by decide) ?_
    have hF := Option.some.inj hF
    subst hF
    exact hE _ _ _ _ _ hP hD hS dX5_lose_8 rfl rfl
theorem lk_X2_faultOfCell : LK yX2_faultOfCell cX2_faultOfCell 3 (some .int) 2 := ⟨q494, q2, by decide +kernel⟩
def F_X2_faultOfCell (a1 : Int32) (a2 : Int32) (si : tSI) (sa : tSA) : Option Int32 :=
  (F_X2_isEmpty a1 si sa).bind fun r1 => (if r1 = 0 then (if a2 < 0 then some (3 : Int32) else ld a1 4 ((if ((sa 3) (Int32.toNatClampNeg a1)) ≤ a2 then some (3 : Int32) else some (0 : Int32)))) else some (1 : Int32))
set_option maxHeartbeats 4000000 in
set_option maxRecDepth 100000 in
theorem c_X2_faultOfCell (l : Launch) (D : va_G) (cA : ClassId) (ad : Nat → Nat) (si : tSI) (sa : tSA) (a1 : Int32) (a2 : Int32) (o : Int32) (hF : F_X2_faultOfCell a1 a2 si sa = some o) : CG l yX2_faultOfCell cX2_faultOfCell 3 (some .int) 1 21 D cA [.ref (ad 1), .int a1, .int a2] (WX cA ad si sa) (WX cA ad si sa) (some (.int o)) := by
  refine CG.ofi (by decide) (Nat.le_of_ble_eq_true rfl) ?_
  intro p ee s m args below meth c A Q H0 ls C0 hA hP hD hS hl hE
  have hl : lv_has ls 3 [(0, .ref (ad 1)), (1, .int a1), (2, .int a2)] := hl
  obtain ⟨hx, hb, hml, hown, ht, hK⟩ := id C0
  unfold F_X2_faultOfCell at hF
  refine lv_aload_n hx hb dX2_faultOfCell_0 rfl (lv_at hl 0 rfl) ?_
  refine lv_iload_n hx hb dX2_faultOfCell_1 rfl (lv_at hl 1 rfl) ?_
  obtain ⟨r1, hr1, hF⟩ := bd_some hF
  refine kcV (As := [.int a1]) (rest := []) C0 hA hP hD hS (c_X2_isEmpty l D cA ad si sa a1 r1 hr1) lk_X2_isEmpty q185 q186 q184 1 2 rfl rfl hl.1 rfl rfl (Nat.le_of_ble_eq_true rfl) ⟨Nat.le_of_ble_eq_true rfl, Nat.le_of_ble_eq_true rfl⟩ ⟨Nat.le_refl _, Nat.le_refl _⟩ dX2_faultOfCell_2 (fun H locs hP hD hS => ?_)
  refine W.eq (g2 := F0 m 5 ls [.int r1]) rfl ?_
  refine lv_if_eq (tgt := 10) hx hb dX2_faultOfCell_5 (by decide) (fun c2 => ?_) (fun c2 => ?_)
  · have hF := (if_pos c2).symm.trans hF
    refine lv_iload_n hx hb dX2_faultOfCell_10 rfl (lv_at hl 2 rfl) ?_
    refine lv_if_lt (tgt := 28) hx hb dX2_faultOfCell_11 (by decide) (fun c3 => ?_) (fun c3 => ?_)
    · have hF := (if_pos c3).symm.trans hF
      refine lv_iconst (v := (3 : Int32)) hx hb dX2_faultOfCell_28 (by decide) ?_
      have hF := Option.some.inj hF
      exact hE _ _ _ _ _ hP hD hS dX2_faultOfCell_29 rfl hF
    · have hF := (if_neg c3).symm.trans hF
      refine lv_iload_n hx hb dX2_faultOfCell_14 rfl (lv_at hl 2 rfl) ?_
      refine lv_aload_n hx hb dX2_faultOfCell_15 rfl (lv_at hl 0 rfl) ?_
      refine gX1_2 C0 hP q27 dX2_faultOfCell_16 ?_
      refine lv_iload_n hx hb dX2_faultOfCell_19 rfl (lv_at hl 1 rfl) ?_
      obtain ⟨hin, hF⟩ := ld_some hF
      refine aXl3 (f := (sa 3)) C0 hP rfl hin dX2_faultOfCell_20 ?_
      refine lv_icmp_ge (tgt := 28) hx hb dX2_faultOfCell_21 (by decide) (fun c4 => ?_) (fun c4 => ?_)
      · have hF := (if_pos c4).symm.trans hF
        refine lv_iconst (v := (3 : Int32)) hx hb dX2_faultOfCell_28 (by decide) ?_
        have hF := Option.some.inj hF
        exact hE _ _ _ _ _ hP hD hS dX2_faultOfCell_29 rfl hF
      · have hF := (if_neg c4).symm.trans hF
        refine lv_iconst (v := (0 : Int32)) hx hb dX2_faultOfCell_24 (by decide) ?_
        refine lv_goto (tgt := 29) hx hb dX2_faultOfCell_25 (by decide) ?_
        have hF := Option.some.inj hF
        exact hE _ _ _ _ _ hP hD hS dX2_faultOfCell_29 rfl hF
  · have hF := (if_neg c2).symm.trans hF
    refine lv_iconst (v := (1 : Int32)) hx hb dX2_faultOfCell_8 (by decide) ?_
    have hF := Option.some.inj hF
    exact hE _ _ _ _ _ hP hD hS dX2_faultOfCell_9 rfl hF
theorem lk_X2_cut : LK yX2_cut cX2_cut 2 (some .int) 2 := ⟨q501, q2, by decide +kernel⟩
def F_X2_cut (a1 : Int32) (a2 : Int32) : Option Int32 :=
  (if a2 = 0 then some (Int8.toInt32 (Int32.toInt8 a1)) else (if a2 = 1 then some (Int16.toInt32 (Int32.toInt16 a1)) else some a1))
set_option maxHeartbeats 4000000 in
set_option maxRecDepth 100000 in
theorem c_X2_cut (l : Launch) (D : va_G) (cA : ClassId) (ad : Nat → Nat) (si : tSI) (sa : tSA) (a1 : Int32) (a2 : Int32) (o : Int32) (hF : F_X2_cut a1 a2 = some o) : CG l yX2_cut cX2_cut 2 (some .int) 0 0 D cA [.int a1, .int a2] (WX cA ad si sa) (WX cA ad si sa) (some (.int o)) := by
  refine CG.ofi (by decide) (Nat.le_of_ble_eq_true rfl) ?_
  intro p ee s m args below meth c A Q H0 ls C0 hA hP hD hS hl hE
  have hl : lv_has ls 2 [(0, .int a1), (1, .int a2)] := hl
  obtain ⟨hx, hb, hml, hown, ht, hK⟩ := id C0
  unfold F_X2_cut at hF
  refine lv_iload_n hx hb dX2_cut_0 rfl (lv_at hl 1 rfl) ?_
  rcases Decidable.em (a2 = 0) with c1 | c1
  · have hF := (if_pos c1).symm.trans hF
    refine lv_lookup (off := 27) (tgt := 28) hx hb dX2_cut_1 (by decide) (by rw [c1]; decide) (by decide) ?_
    refine lv_iload_n hx hb dX2_cut_28 rfl (lv_at hl 0 rfl) ?_
    refine lv_i2b hx hb dX2_cut_29 rfl ?_
    have hF := Option.some.inj hF
    exact hE _ _ _ _ _ hP hD hS dX2_cut_30 rfl hF
  · have hF := (if_neg c1).symm.trans hF
    rcases Decidable.em (a2 = 1) with c2 | c2
    · have hF := (if_pos c2).symm.trans hF
      refine lv_lookup (off := 30) (tgt := 31) hx hb dX2_cut_1 (by decide) (by rw [c2]; decide) (by decide) ?_
      refine lv_iload_n hx hb dX2_cut_31 rfl (lv_at hl 0 rfl) ?_
      refine lv_i2s hx hb dX2_cut_32 rfl ?_
      have hF := Option.some.inj hF
      exact hE _ _ _ _ _ hP hD hS dX2_cut_33 rfl hF
    · have hF := (if_neg c2).symm.trans hF
      have hc1 := ne_toIntk (0) (0) (by decide) c1
      have hc2 := ne_toIntk (1) (1) (by decide) c2
      refine lv_lookup (off := 33) (tgt := 34) hx hb dX2_cut_1 (by decide) (by simp [Op.lookupswitch.offset, hc1, hc1.symm, hc2, hc2.symm]) (by decide) ?_
      refine lv_iload_n hx hb dX2_cut_34 rfl (lv_at hl 0 rfl) ?_
      have hF := Option.some.inj hF
      exact hE _ _ _ _ _ hP hD hS dX2_cut_35 rfl hF
theorem lk_X2_write : LK yX2_write cX2_write 4 none 3 := ⟨q498, q2, by decide +kernel⟩
def F_X2_write (a1 : Int32) (a2 : Int32) (a3 : Int32) (si : tSI) (sa : tSA) : Option (tSI × tSA) :=
  ld a1 4 ((F_X2_cut a3 ((sa 2) (Int32.toNatClampNeg a1))).bind fun r1 => ld ((a1 * (60 : Int32)) + a2) 240 (some (si, (va_up sa 1 (upd (sa 1) (Int32.toNatClampNeg ((a1 * (60 : Int32)) + a2)) r1)))))
set_option maxHeartbeats 4000000 in
set_option maxRecDepth 100000 in
theorem c_X2_write (l : Launch) (D : va_G) (cA : ClassId) (ad : Nat → Nat) (si : tSI) (sa : tSA) (a1 : Int32) (a2 : Int32) (a3 : Int32) (o : (tSI × tSA)) (hF : F_X2_write a1 a2 a3 si sa = some o) : CG l yX2_write cX2_write 4 none 1 21 D cA [.ref (ad 1), .int a1, .int a2, .int a3] (WX cA ad si sa) (WX cA ad o.1 o.2) none := by
  refine CG.ofv (by decide) (Nat.le_of_ble_eq_true rfl) ?_
  intro p ee s m args below meth c A Q H0 ls C0 hA hP hD hS hl hE
  have hl : lv_has ls 4 [(0, .ref (ad 1)), (1, .int a1), (2, .int a2), (3, .int a3)] := hl
  obtain ⟨hx, hb, hml, hown, ht, hK⟩ := id C0
  unfold F_X2_write at hF
  refine lv_aload_n hx hb dX2_write_0 rfl (lv_at hl 0 rfl) ?_
  refine gX1_0 C0 hP q25 dX2_write_1 ?_
  refine lv_iload_n hx hb dX2_write_4 rfl (lv_at hl 1 rfl) ?_
  refine lv_bipush (v := (60 : Int32)) hx hb dX2_write_5 (by decide) ?_
  refine lv_imul hx hb dX2_write_7 ?_
  refine lv_iload_n hx hb dX2_write_8 rfl (lv_at hl 2 rfl) ?_
  refine lv_iadd hx hb dX2_write_9 ?_
  refine lv_iload_n hx hb dX2_write_10 rfl (lv_at hl 3 rfl) ?_
  refine lv_aload_n hx hb dX2_write_11 rfl (lv_at hl 0 rfl) ?_
  refine gX1_1 C0 hP q26 dX2_write_12 ?_
  refine lv_iload_n hx hb dX2_write_15 rfl (lv_at hl 1 rfl) ?_
  obtain ⟨hin, hF⟩ := ld_some hF
  refine aXl2 (f := (sa 2)) C0 hP rfl hin dX2_write_16 ?_
  obtain ⟨r1, hr1, hF⟩ := bd_some hF
  refine kcS (As := [.int a3, .int ((sa 2) (Int32.toNatClampNeg a1))]) (rest := [.int ((a1 * (60 : Int32)) + a2), .ref (ad 7)]) C0 hA hP hD hS (c_X2_cut l D cA ad si sa a3 ((sa 2) (Int32.toNatClampNeg a1)) r1 hr1) lk_X2_cut q500 q499 hl.1 rfl rfl (Nat.le_of_ble_eq_true rfl) ⟨Nat.le_of_ble_eq_true rfl, Nat.le_of_ble_eq_true rfl⟩ ⟨Nat.le_refl _, Nat.le_refl _⟩ dX2_write_17 (fun H locs hP hD hS => ?_)
  refine W.eq (g2 := F0 m 20 ls [.int r1, .int ((a1 * (60 : Int32)) + a2), .ref (ad 7)]) rfl ?_
  obtain ⟨hin, hF⟩ := ld_some hF
  refine aXs1 (f := (sa 1)) C0 hP hD hS rfl hin dX2_write_20 (fun H locs hP hD hS => ?_)
  have hF := Option.some.inj hF
  subst hF
  exact hE _ _ _ _ hP hD hS dX2_write_21
theorem lk_X5_put : LK yX5_put cX5_put 5 (some .int) 3 := ⟨q490, q1, by decide +kernel⟩
def F_X5_put (a1 : Int32) (a2 : Int32) (a3 : Int32) (si : tSI) (sa : tSA) : Option (Int32 × tSI × tSA) :=
  (F_X2_isSheet a1).bind fun r1 => (if r1 = 0 then some ((-1 : Int32), (upd si 1 (0 : Int32)), sa) else (F_X2_faultOfCell a1 a2 (upd si 1 (0 : Int32)) sa).bind fun r3 => (if r3 = 0 then (F_X2_write a1 a2 a3 (upd si 1 (0 : Int32)) sa).bind fun r5 => some ((1 : Int32), r5.1, r5.2) else (F_X5_failed r3 (upd si 1 (0 : Int32)) sa).bind fun r6 => some (r6.1, r6.2.1, r6.2.2)))
set_option maxHeartbeats 4000000 in
set_option maxRecDepth 100000 in
theorem c_X5_put (l : Launch) (D : va_G) (cA : ClassId) (ad : Nat → Nat) (si : tSI) (sa : tSA) (a1 : Int32) (a2 : Int32) (a3 : Int32) (o : (Int32 × tSI × tSA)) (hF : F_X5_put a1 a2 a3 si sa = some o) : CG l yX5_put cX5_put 5 (some .int) 2 44 D cA [.ref (ad 0), .int a1, .int a2, .int a3] (WX cA ad si sa) (WX cA ad o.2.1 o.2.2) (some (.int o.1)) := by
  refine CG.ofi (by decide) (Nat.le_of_ble_eq_true rfl) ?_
  intro p ee s m args below meth c A Q H0 ls C0 hA hP hD hS hl hE
  have hl : lv_has ls 5 [(0, .ref (ad 0)), (1, .int a1), (2, .int a2), (3, .int a3)] := hl
  obtain ⟨hx, hb, hml, hown, ht, hK⟩ := id C0
  unfold F_X5_put at hF
  refine lv_aload_n hx hb dX5_put_0 rfl (lv_at hl 0 rfl) ?_
  refine lv_iconst (v := (0 : Int32)) hx hb dX5_put_1 (by decide) ?_
  refine pX0_7 C0 hP hD hS q152 dX5_put_2 (fun H locs hP hD hS => ?_)
  refine lv_iload_n hx hb dX5_put_5 rfl (lv_at hl 1 rfl) ?_
  obtain ⟨r1, hr1, hF⟩ := bd_some hF
  refine kcS (As := [.int a1]) (rest := []) C0 hA hP hD hS (c_X2_isSheet l D cA ad (upd si 1 (0 : Int32)) sa a1 r1 hr1) lk_X2_isSheet q175 q174 hl.1 rfl rfl (Nat.le_of_ble_eq_true rfl) ⟨Nat.le_of_ble_eq_true rfl, Nat.le_of_ble_eq_true rfl⟩ ⟨Nat.le_refl _, Nat.le_refl _⟩ dX5_put_6 (fun H locs hP hD hS => ?_)
  refine W.eq (g2 := F0 m 9 ls [.int r1]) rfl ?_
  refine lv_if_ne (tgt := 14) hx hb dX5_put_9 (by decide) (fun c2 => ?_) (fun c2 => ?_)
  · have hF := (if_neg c2).symm.trans hF
    refine lv_aload_n hx hb dX5_put_14 rfl (lv_at hl 0 rfl) ?_
    refine gX0_0 C0 hP q145 dX5_put_15 ?_
    refine lv_iload_n hx hb dX5_put_18 rfl (lv_at hl 1 rfl) ?_
    refine lv_iload_n hx hb dX5_put_19 rfl (lv_at hl 2 rfl) ?_
    obtain ⟨r3, hr3, hF⟩ := bd_some hF
    refine kcV (As := [.int a1, .int a2]) (rest := []) C0 hA hP hD hS (c_X2_faultOfCell l D cA ad (upd si 1 (0 : Int32)) sa a1 a2 r3 hr3) lk_X2_faultOfCell q492 q493 q491 1 2 rfl rfl hl.1 rfl rfl (Nat.le_of_ble_eq_true rfl) ⟨Nat.le_of_ble_eq_true rfl, Nat.le_of_ble_eq_true rfl⟩ ⟨Nat.le_refl _, Nat.le_refl _⟩ dX5_put_20 (fun H locs hP hD hS => ?_)
    refine W.eq (g2 := F0 m 23 ls [.int r3]) rfl ?_
    refine lv_istore (lv' := [(4, .int r3), (0, .ref (ad 0)), (1, .int a1), (2, .int a2), (3, .int a3)]) hx hb dX5_put_23 hl (by decide) rfl (fun ls hl => ?_)
    refine lv_iload hx hb dX5_put_25 (lv_at hl 0 rfl) ?_
    refine lv_if_eq (tgt := 37) hx hb dX5_put_27 (by decide) (fun c4 => ?_) (fun c4 => ?_)
    · have hF := (if_pos c4).symm.trans hF
      refine lv_aload_n hx hb dX5_put_37 rfl (lv_at hl 1 rfl) ?_
      refine gX0_0 C0 hP q145 dX5_put_38 ?_
      refine lv_iload_n hx hb dX5_put_41 rfl (lv_at hl 2 rfl) ?_
      refine lv_iload_n hx hb dX5_put_42 rfl (lv_at hl 3 rfl) ?_
      refine lv_iload_n hx hb dX5_put_43 rfl (lv_at hl 4 rfl) ?_
      obtain ⟨r5, hr5, hF⟩ := bd_some hF
      refine kcV (As := [.int a1, .int a2, .int a3]) (rest := []) C0 hA hP hD hS (c_X2_write l D cA ad (upd si 1 (0 : Int32)) sa a1 a2 a3 r5 hr5) lk_X2_write q496 q497 q495 1 2 rfl rfl hl.1 rfl rfl (Nat.le_of_ble_eq_true rfl) ⟨Nat.le_of_ble_eq_true rfl, Nat.le_of_ble_eq_true rfl⟩ ⟨Nat.le_refl _, Nat.le_refl _⟩ dX5_put_44 (fun H locs hP hD hS => ?_)
      refine W.eq (g2 := F0 m 47 ls []) rfl ?_
      refine lv_iconst (v := (1 : Int32)) hx hb dX5_put_47 (by decide) ?_
      have hF := Option.some.inj hF
      subst hF
      exact hE _ _ _ _ _ hP hD hS dX5_put_48 rfl rfl
    · have hF := (if_neg c4).symm.trans hF
      refine lv_aload_n hx hb dX5_put_30 rfl (lv_at hl 1 rfl) ?_
      refine lv_iload hx hb dX5_put_31 (lv_at hl 0 rfl) ?_
      obtain ⟨r6, hr6, hF⟩ := bd_some hF
      refine kcV (As := [.int r3]) (rest := []) C0 hA hP hD hS (c_X5_failed l D cA ad (upd si 1 (0 : Int32)) sa r3 r6 hr6) lk_X5_failed q194 s0 q192 0 5 rfl rfl hl.1 rfl rfl (Nat.le_of_ble_eq_true rfl) ⟨Nat.le_of_ble_eq_true rfl, Nat.le_of_ble_eq_true rfl⟩ ⟨Nat.le_refl _, Nat.le_refl _⟩ dX5_put_33 (fun H locs hP hD hS => ?_)
      refine W.eq (g2 := F0 m 36 ls [.int r6.1]) rfl ?_
      have hF := Option.some.inj hF
      subst hF
      exact hE _ _ _ _ _ hP hD hS dX5_put_36 rfl rfl
  · have hF := (if_pos c2).symm.trans hF
    refine lv_iconst (v := (-1 : Int32)) hx hb dX5_put_12 (by decide) ?_
    have hF := Option.some.inj hF
    subst hF
    exact hE _ _ _ _ _ hP hD hS dX5_put_13 rfl rfl
theorem lk_X2_read : LK yX2_read cX2_read 3 (some .int) 2 := ⟨q509, q2, by decide +kernel⟩
def F_X2_read (a1 : Int32) (a2 : Int32) (si : tSI) (sa : tSA) : Option Int32 :=
  ld ((a1 * (60 : Int32)) + a2) 240 (some ((sa 1) (Int32.toNatClampNeg ((a1 * (60 : Int32)) + a2))))
set_option maxHeartbeats 4000000 in
set_option maxRecDepth 100000 in
theorem c_X2_read (l : Launch) (D : va_G) (cA : ClassId) (ad : Nat → Nat) (si : tSI) (sa : tSA) (a1 : Int32) (a2 : Int32) (o : Int32) (hF : F_X2_read a1 a2 si sa = some o) : CG l yX2_read cX2_read 3 (some .int) 0 0 D cA [.ref (ad 1), .int a1, .int a2] (WX cA ad si sa) (WX cA ad si sa) (some (.int o)) := by
  refine CG.ofi (by decide) (Nat.le_of_ble_eq_true rfl) ?_
  intro p ee s m args below meth c A Q H0 ls C0 hA hP hD hS hl hE
  have hl : lv_has ls 3 [(0, .ref (ad 1)), (1, .int a1), (2, .int a2)] := hl
  obtain ⟨hx, hb, hml, hown, ht, hK⟩ := id C0
  unfold F_X2_read at hF
  refine lv_aload_n hx hb dX2_read_0 rfl (lv_at hl 0 rfl) ?_
  refine gX1_0 C0 hP q25 dX2_read_1 ?_
  refine lv_iload_n hx hb dX2_read_4 rfl (lv_at hl 1 rfl) ?_
  refine lv_bipush (v := (60 : Int32)) hx hb dX2_read_5 (by decide) ?_
  refine lv_imul hx hb dX2_read_7 ?_
  refine lv_iload_n hx hb dX2_read_8 rfl (lv_at hl 2 rfl) ?_
  refine lv_iadd hx hb dX2_read_9 ?_
  obtain ⟨hin, hF⟩ := ld_some hF
  refine aXl1 (f := (sa 1)) C0 hP rfl hin dX2_read_10 ?_
  have hF := Option.some.inj hF
  exact hE _ _ _ _ _ hP hD hS dX2_read_11 rfl hF
theorem lk_X5_cell : LK yX5_cell cX5_cell 4 (some .long) 3 := ⟨q505, q1, by decide +kernel⟩
def F_X5_cell (a1 : Int32) (a2 : Int32) (a3 : Int32) (si : tSI) (sa : tSA) : Option (Int64 × tSI × tSA) :=
  (F_X2_isSheet a1).bind fun r1 => (if r1 = 0 then some ((-9223372036854775808 : Int64), (upd si 1 (0 : Int32)), sa) else (F_X2_isLane a3).bind fun r3 => (if r3 = 0 then some ((-9223372036854775808 : Int64), (upd si 1 (0 : Int32)), sa) else (F_X2_faultAsRow a1 a3 (upd si 1 (0 : Int32)) sa).bind fun r5 => ((if r5 = 0 then (F_X2_faultOfCell a1 a2 (upd (upd si 1 (0 : Int32)) 1 r5) sa).bind fun r10 => some (upd (upd (upd si 1 (0 : Int32)) 1 r5) 1 r10) else some (upd (upd si 1 (0 : Int32)) 1 r5))).bind fun (x6 : tSI) => (if (x6 1) = 0 then (F_X2_read a1 a2 x6 sa).bind fun r8 => some ((Int32.toInt64 r8), x6, sa) else some ((-9223372036854775808 : Int64), x6, sa))))
set_option maxHeartbeats 4000000 in
set_option maxRecDepth 100000 in
theorem c_X5_cell (l : Launch) (D : va_G) (cA : ClassId) (ad : Nat → Nat) (si : tSI) (sa : tSA) (a1 : Int32) (a2 : Int32) (a3 : Int32) (o : (Int64 × tSI × tSA)) (hF : F_X5_cell a1 a2 a3 si sa = some o) : CG l yX5_cell cX5_cell 4 (some .long) 2 43 D cA [.ref (ad 0), .int a1, .int a2, .int a3] (WX cA ad si sa) (WX cA ad o.2.1 o.2.2) (some (.long o.1)) := by
  refine CG.ofl (by decide) (Nat.le_of_ble_eq_true rfl) ?_
  intro p ee s m args below meth c A Q H0 ls C0 hA hP hD hS hl hE
  have hl : lv_has ls 4 [(0, .ref (ad 0)), (1, .int a1), (2, .int a2), (3, .int a3)] := hl
  obtain ⟨hx, hb, hml, hown, ht, hK⟩ := id C0
  unfold F_X5_cell at hF
  refine lv_aload_n hx hb dX5_cell_0 rfl (lv_at hl 0 rfl) ?_
  refine lv_iconst (v := (0 : Int32)) hx hb dX5_cell_1 (by decide) ?_
  refine pX0_7 C0 hP hD hS q152 dX5_cell_2 (fun H locs hP hD hS => ?_)
  refine lv_iload_n hx hb dX5_cell_5 rfl (lv_at hl 1 rfl) ?_
  obtain ⟨r1, hr1, hF⟩ := bd_some hF
  refine kcS (As := [.int a1]) (rest := []) C0 hA hP hD hS (c_X2_isSheet l D cA ad (upd si 1 (0 : Int32)) sa a1 r1 hr1) lk_X2_isSheet q175 q174 hl.1 rfl rfl (Nat.le_of_ble_eq_true rfl) ⟨Nat.le_of_ble_eq_true rfl, Nat.le_of_ble_eq_true rfl⟩ ⟨Nat.le_refl _, Nat.le_refl _⟩ dX5_cell_6 (fun H locs hP hD hS => ?_)
  refine W.eq (g2 := F0 m 9 ls [.int r1]) rfl ?_
  refine lv_if_eq (tgt := 19) hx hb dX5_cell_9 (by decide) (fun c2 => ?_) (fun c2 => ?_)
  · have hF := (if_pos c2).symm.trans hF
    refine lv_ldc2 (v := (-9223372036854775808 : Int64)) hx hb hown (ht _ q434) dX5_cell_19 ?_
    have hF := Option.some.inj hF
    subst hF
    exact hE _ _ _ _ _ hP hD hS dX5_cell_22 rfl
  · have hF := (if_neg c2).symm.trans hF
    refine lv_iload_n hx hb dX5_cell_12 rfl (lv_at hl 3 rfl) ?_
    obtain ⟨r3, hr3, hF⟩ := bd_some hF
    refine kcS (As := [.int a3]) (rest := []) C0 hA hP hD hS (c_X2_isLane l D cA ad (upd si 1 (0 : Int32)) sa a3 r3 hr3) lk_X2_isLane q178 q177 hl.1 rfl rfl (Nat.le_of_ble_eq_true rfl) ⟨Nat.le_of_ble_eq_true rfl, Nat.le_of_ble_eq_true rfl⟩ ⟨Nat.le_refl _, Nat.le_refl _⟩ dX5_cell_13 (fun H locs hP hD hS => ?_)
    refine W.eq (g2 := F0 m 16 ls [.int r3]) rfl ?_
    refine lv_if_ne (tgt := 23) hx hb dX5_cell_16 (by decide) (fun c4 => ?_) (fun c4 => ?_)
    · have hF := (if_neg c4).symm.trans hF
      refine lv_aload_n hx hb dX5_cell_23 rfl (lv_at hl 0 rfl) ?_
      refine lv_aload_n hx hb dX5_cell_24 rfl (lv_at hl 0 rfl) ?_
      refine gX0_0 C0 hP q145 dX5_cell_25 ?_
      refine lv_iload_n hx hb dX5_cell_28 rfl (lv_at hl 1 rfl) ?_
      refine lv_iload_n hx hb dX5_cell_29 rfl (lv_at hl 3 rfl) ?_
      obtain ⟨r5, hr5, hF⟩ := bd_some hF
      refine kcV (As := [.int a1, .int a3]) (rest := [.ref (ad 0)]) C0 hA hP hD hS (c_X2_faultAsRow l D cA ad (upd si 1 (0 : Int32)) sa a1 a3 r5 hr5) lk_X2_faultAsRow q181 q182 q180 1 2 rfl rfl hl.1 rfl rfl (Nat.le_of_ble_eq_true rfl) ⟨Nat.le_of_ble_eq_true rfl, Nat.le_of_ble_eq_true rfl⟩ ⟨Nat.le_refl _, Nat.le_refl _⟩ dX5_cell_30 (fun H locs hP hD hS => ?_)
      refine W.eq (g2 := F0 m 33 ls [.int r5, .ref (ad 0)]) rfl ?_
      refine pX0_7 C0 hP hD hS q152 dX5_cell_33 (fun H locs hP hD hS => ?_)
      refine lv_aload_n hx hb dX5_cell_36 rfl (lv_at hl 0 rfl) ?_
      refine gX0_7 (v := r5) C0 hP rfl q152 dX5_cell_37 ?_
      obtain ⟨x6, hRx6, hF⟩ := bd_some hF
      have Jx6 : ∀ (H : Heap) (locs : List Loc) (ls : Array Slot), va_P D vwCl (WX cA ad x6 sa) H → va_D A (WX cA ad x6 sa) → va_S A H0 H locs → lv_has ls 4 [(0, .ref (ad 0)), (1, .int a1), (2, .int a2)] → W p l ee (rmx 2 43) s m args below meth c H locs 0 0 Q (F0 m 56 ls []) := by
        intro H locs ls hP hD hS hl
        refine lv_aload_n hx hb dX5_cell_56 rfl (lv_at hl 0 rfl) ?_
        refine gX0_7 (v := (x6 1)) C0 hP rfl q152 dX5_cell_57 ?_
        refine lv_if_ne (tgt := 76) hx hb dX5_cell_60 (by decide) (fun c7 => ?_) (fun c7 => ?_)
        · have hF := (if_neg c7).symm.trans hF
          refine lv_ldc2 (v := (-9223372036854775808 : Int64)) hx hb hown (ht _ q434) dX5_cell_76 ?_
          have hF := Option.some.inj hF
          subst hF
          exact hE _ _ _ _ _ hP hD hS dX5_cell_79 rfl
        · have hF := (if_pos c7).symm.trans hF
          refine lv_aload_n hx hb dX5_cell_63 rfl (lv_at hl 0 rfl) ?_
          refine gX0_0 C0 hP q145 dX5_cell_64 ?_
          refine lv_iload_n hx hb dX5_cell_67 rfl (lv_at hl 1 rfl) ?_
          refine lv_iload_n hx hb dX5_cell_68 rfl (lv_at hl 2 rfl) ?_
          obtain ⟨r8, hr8, hF⟩ := bd_some hF
          refine kcV (As := [.int a1, .int a2]) (rest := []) C0 hA hP hD hS (c_X2_read l D cA ad x6 sa a1 a2 r8 hr8) lk_X2_read q507 q508 q506 1 2 rfl rfl hl.1 rfl rfl (Nat.le_of_ble_eq_true rfl) ⟨Nat.le_of_ble_eq_true rfl, Nat.le_of_ble_eq_true rfl⟩ ⟨Nat.le_refl _, Nat.le_refl _⟩ dX5_cell_69 (fun H locs hP hD hS => ?_)
          refine W.eq (g2 := F0 m 72 ls [.int r8]) rfl ?_
          refine lv_i2l hx hb dX5_cell_72 rfl ?_
          refine lv_goto (tgt := 79) hx hb dX5_cell_73 (by decide) ?_
          have hF := Option.some.inj hF
          subst hF
          exact hE _ _ _ _ _ hP hD hS dX5_cell_79 rfl
      have hF := hRx6
      refine lv_if_ne (tgt := 56) hx hb dX5_cell_40 (by decide) (fun c9 => ?_) (fun c9 => ?_)
      · have hF := (if_neg c9).symm.trans hF
        have hF := Option.some.inj hF
        subst hF
        exact Jx6 _ _ _ hP hD hS (lv_sub hl [0, 1, 2] rfl)
      · have hF := (if_pos c9).symm.trans hF
        refine lv_aload_n hx hb dX5_cell_43 rfl (lv_at hl 0 rfl) ?_
        refine lv_aload_n hx hb dX5_cell_44 rfl (lv_at hl 0 rfl) ?_
        refine gX0_0 C0 hP q145 dX5_cell_45 ?_
        refine lv_iload_n hx hb dX5_cell_48 rfl (lv_at hl 1 rfl) ?_
        refine lv_iload_n hx hb dX5_cell_49 rfl (lv_at hl 2 rfl) ?_
        obtain ⟨r10, hr10, hF⟩ := bd_some hF
        refine kcV (As := [.int a1, .int a2]) (rest := [.ref (ad 0)]) C0 hA hP hD hS (c_X2_faultOfCell l D cA ad (upd (upd si 1 (0 : Int32)) 1 r5) sa a1 a2 r10 hr10) lk_X2_faultOfCell q492 q493 q491 1 2 rfl rfl hl.1 rfl rfl (Nat.le_of_ble_eq_true rfl) ⟨Nat.le_of_ble_eq_true rfl, Nat.le_of_ble_eq_true rfl⟩ ⟨Nat.le_refl _, Nat.le_refl _⟩ dX5_cell_50 (fun H locs hP hD hS => ?_)
        refine W.eq (g2 := F0 m 53 ls [.int r10, .ref (ad 0)]) rfl ?_
        refine pX0_7 C0 hP hD hS q152 dX5_cell_53 (fun H locs hP hD hS => ?_)
        have hF := Option.some.inj hF
        subst hF
        exact Jx6 _ _ _ hP hD hS (lv_sub hl [0, 1, 2] rfl)
    · have hF := (if_pos c4).symm.trans hF
      refine lv_ldc2 (v := (-9223372036854775808 : Int64)) hx hb hown (ht _ q434) dX5_cell_19 ?_
      have hF := Option.some.inj hF
      subst hF
      exact hE _ _ _ _ _ hP hD hS dX5_cell_22 rfl
theorem lk_X2_faultOfPair : LK yX2_faultOfPair cX2_faultOfPair 3 (some .int) 2 := ⟨q517, q2, by decide +kernel⟩
def F_X2_faultOfPair (a1 : Int32) (a2 : Int32) (si : tSI) (sa : tSA) : Option Int32 :=
  (F_X2_isEmpty a1 si sa).bind fun r1 => (if r1 = 0 then (F_X2_isEmpty a2 si sa).bind fun r3 => (if r3 = 0 then ld a1 4 (ld a2 4 ((if ((sa 2) (Int32.toNatClampNeg a1)) = ((sa 2) (Int32.toNatClampNeg a2)) then some (0 : Int32) else some (2 : Int32)))) else some (1 : Int32)) else some (1 : Int32))
set_option maxHeartbeats 4000000 in
set_option maxRecDepth 100000 in
theorem c_X2_faultOfPair (l : Launch) (D : va_G) (cA : ClassId) (ad : Nat → Nat) (si : tSI) (sa : tSA) (a1 : Int32) (a2 : Int32) (o : Int32) (hF : F_X2_faultOfPair a1 a2 si sa = some o) : CG l yX2_faultOfPair cX2_faultOfPair 3 (some .int) 1 21 D cA [.ref (ad 1), .int a1, .int a2] (WX cA ad si sa) (WX cA ad si sa) (some (.int o)) := by
  refine CG.ofi (by decide) (Nat.le_of_ble_eq_true rfl) ?_
  intro p ee s m args below meth c A Q H0 ls C0 hA hP hD hS hl hE
  have hl : lv_has ls 3 [(0, .ref (ad 1)), (1, .int a1), (2, .int a2)] := hl
  obtain ⟨hx, hb, hml, hown, ht, hK⟩ := id C0
  unfold F_X2_faultOfPair at hF
  refine lv_aload_n hx hb dX2_faultOfPair_0 rfl (lv_at hl 0 rfl) ?_
  refine lv_iload_n hx hb dX2_faultOfPair_1 rfl (lv_at hl 1 rfl) ?_
  obtain ⟨r1, hr1, hF⟩ := bd_some hF
  refine kcV (As := [.int a1]) (rest := []) C0 hA hP hD hS (c_X2_isEmpty l D cA ad si sa a1 r1 hr1) lk_X2_isEmpty q185 q186 q184 1 2 rfl rfl hl.1 rfl rfl (Nat.le_of_ble_eq_true rfl) ⟨Nat.le_of_ble_eq_true rfl, Nat.le_of_ble_eq_true rfl⟩ ⟨Nat.le_refl _, Nat.le_refl _⟩ dX2_faultOfPair_2 (fun H locs hP hD hS => ?_)
  refine W.eq (g2 := F0 m 5 ls [.int r1]) rfl ?_
  refine lv_if_ne (tgt := 16) hx hb dX2_faultOfPair_5 (by decide) (fun c2 => ?_) (fun c2 => ?_)
  · have hF := (if_neg c2).symm.trans hF
    refine lv_iconst (v := (1 : Int32)) hx hb dX2_faultOfPair_16 (by decide) ?_
    have hF := Option.some.inj hF
    exact hE _ _ _ _ _ hP hD hS dX2_faultOfPair_17 rfl hF
  · have hF := (if_pos c2).symm.trans hF
    refine lv_aload_n hx hb dX2_faultOfPair_8 rfl (lv_at hl 0 rfl) ?_
    refine lv_iload_n hx hb dX2_faultOfPair_9 rfl (lv_at hl 2 rfl) ?_
    obtain ⟨r3, hr3, hF⟩ := bd_some hF
    refine kcV (As := [.int a2]) (rest := []) C0 hA hP hD hS (c_X2_isEmpty l D cA ad si sa a2 r3 hr3) lk_X2_isEmpty q185 q186 q184 1 2 rfl rfl hl.1 rfl rfl (Nat.le_of_ble_eq_true rfl) ⟨Nat.le_of_ble_eq_true rfl, Nat.le_of_ble_eq_true rfl⟩ ⟨Nat.le_refl _, Nat.le_refl _⟩ dX2_faultOfPair_10 (fun H locs hP hD hS => ?_)
    refine W.eq (g2 := F0 m 13 ls [.int r3]) rfl ?_
    refine lv_if_eq (tgt := 18) hx hb dX2_faultOfPair_13 (by decide) (fun c4 => ?_) (fun c4 => ?_)
    · have hF := (if_pos c4).symm.trans hF
      refine lv_aload_n hx hb dX2_faultOfPair_18 rfl (lv_at hl 0 rfl) ?_
      refine gX1_1 C0 hP q26 dX2_faultOfPair_19 ?_
      refine lv_iload_n hx hb dX2_faultOfPair_22 rfl (lv_at hl 1 rfl) ?_
      obtain ⟨hin, hF⟩ := ld_some hF
      refine aXl2 (f := (sa 2)) C0 hP rfl hin dX2_faultOfPair_23 ?_
      refine lv_aload_n hx hb dX2_faultOfPair_24 rfl (lv_at hl 0 rfl) ?_
      refine gX1_1 C0 hP q26 dX2_faultOfPair_25 ?_
      refine lv_iload_n hx hb dX2_faultOfPair_28 rfl (lv_at hl 2 rfl) ?_
      obtain ⟨hin, hF⟩ := ld_some hF
      refine aXl2 (f := (sa 2)) C0 hP rfl hin dX2_faultOfPair_29 ?_
      refine lv_icmp_ne (tgt := 37) hx hb dX2_faultOfPair_30 (by decide) (fun c5 => ?_) (fun c5 => ?_)
      · have hF := (if_neg c5).symm.trans hF
        refine lv_iconst (v := (2 : Int32)) hx hb dX2_faultOfPair_37 (by decide) ?_
        have hF := Option.some.inj hF
        exact hE _ _ _ _ _ hP hD hS dX2_faultOfPair_38 rfl hF
      · have hF := (if_pos c5).symm.trans hF
        refine lv_iconst (v := (0 : Int32)) hx hb dX2_faultOfPair_33 (by decide) ?_
        refine lv_goto (tgt := 38) hx hb dX2_faultOfPair_34 (by decide) ?_
        have hF := Option.some.inj hF
        exact hE _ _ _ _ _ hP hD hS dX2_faultOfPair_38 rfl hF
    · have hF := (if_neg c4).symm.trans hF
      refine lv_iconst (v := (1 : Int32)) hx hb dX2_faultOfPair_16 (by decide) ?_
      have hF := Option.some.inj hF
      exact hE _ _ _ _ _ hP hD hS dX2_faultOfPair_17 rfl hF
theorem lk_X2_move : LK yX2_move cX2_move 6 none 5 := ⟨q521, q2, by decide +kernel⟩
def F_X2_move (a1 : Int32) (a2 : Int32) (a3 : Int32) (a4 : Int32) (a5 : Int32) (si : tSI) (sa : tSA) : Option (tSI × tSA) :=
  cpk ((a1 * (60 : Int32)) + a2) ((a3 * (60 : Int32)) + a4) a5 240 240 (some (si, (va_up sa 1 (va_cpy (sa 1) (sa 1) (Int32.toNatClampNeg ((a1 * (60 : Int32)) + a2)) (Int32.toNatClampNeg ((a3 * (60 : Int32)) + a4)) (Int32.toNatClampNeg a5)))))
set_option maxHeartbeats 4000000 in
set_option maxRecDepth 100000 in
theorem c_X2_move (l : Launch) (D : va_G) (cA : ClassId) (ad : Nat → Nat) (si : tSI) (sa : tSA) (a1 : Int32) (a2 : Int32) (a3 : Int32) (a4 : Int32) (a5 : Int32) (o : (tSI × tSA)) (hF : F_X2_move a1 a2 a3 a4 a5 si sa = some o) : CG l yX2_move cX2_move 6 none 1 60 D cA [.ref (ad 1), .int a1, .int a2, .int a3, .int a4, .int a5] (WX cA ad si sa) (WX cA ad o.1 o.2) none := by
  refine CG.ofv (by decide) (Nat.le_of_ble_eq_true rfl) ?_
  intro p ee s m args below meth c A Q H0 ls C0 hA hP hD hS hl hE
  have hl : lv_has ls 6 [(0, .ref (ad 1)), (1, .int a1), (2, .int a2), (3, .int a3), (4, .int a4), (5, .int a5)] := hl
  obtain ⟨hx, hb, hml, hown, ht, hK⟩ := id C0
  unfold F_X2_move at hF
  refine lv_aload_n hx hb dX2_move_0 rfl (lv_at hl 0 rfl) ?_
  refine gX1_0 C0 hP q25 dX2_move_1 ?_
  refine lv_iload_n hx hb dX2_move_4 rfl (lv_at hl 1 rfl) ?_
  refine lv_bipush (v := (60 : Int32)) hx hb dX2_move_5 (by decide) ?_
  refine lv_imul hx hb dX2_move_7 ?_
  refine lv_iload_n hx hb dX2_move_8 rfl (lv_at hl 2 rfl) ?_
  refine lv_iadd hx hb dX2_move_9 ?_
  refine lv_aload_n hx hb dX2_move_10 rfl (lv_at hl 0 rfl) ?_
  refine gX1_0 C0 hP q25 dX2_move_11 ?_
  refine lv_iload_n hx hb dX2_move_14 rfl (lv_at hl 3 rfl) ?_
  refine lv_bipush (v := (60 : Int32)) hx hb dX2_move_15 (by decide) ?_
  refine lv_imul hx hb dX2_move_17 ?_
  refine lv_iload hx hb dX2_move_18 (lv_at hl 4 rfl) ?_
  refine lv_iadd hx hb dX2_move_20 ?_
  refine lv_iload hx hb dX2_move_21 (lv_at hl 5 rfl) ?_
  obtain ⟨h1, h2, h3, h4, h5, hF⟩ := cpk_some hF
  refine va_copyi (D := D) (f := (sa 1)) (g := (sa 1)) hx hb (hml.trans hl.1.symm) hown (ht _ q200) (ht _ q202) (ht _ q201) (ht _ q8) hK.1 hP hD hS 7 7 0 0 rfl rfl rfl rfl rfl h1 h2 h3 h4 h5 (fun _ _ => rfl) (Nat.le_of_ble_eq_true rfl) (Nat.le_of_ble_eq_true rfl) dX2_move_23 (fun H locs hP hD hS => ?_)
  have hP : va_P D vwCl (WX cA ad si (va_up sa 1 (va_cpy (sa 1) (sa 1) (Int32.toNatClampNeg ((a1 * (60 : Int32)) + a2)) (Int32.toNatClampNeg ((a3 * (60 : Int32)) + a4)) (Int32.toNatClampNeg a5)))) H := hP
  have hD : va_D A (WX cA ad si (va_up sa 1 (va_cpy (sa 1) (sa 1) (Int32.toNatClampNeg ((a1 * (60 : Int32)) + a2)) (Int32.toNatClampNeg ((a3 * (60 : Int32)) + a4)) (Int32.toNatClampNeg a5)))) := hD
  have hF := Option.some.inj hF
  subst hF
  exact hE _ _ _ _ hP hD hS dX2_move_26
theorem lk_X5_copy : LK yX5_copy cX5_copy 7 (some .int) 5 := ⟨q513, q1, by decide +kernel⟩
def F_X5_copy (a1 : Int32) (a2 : Int32) (a3 : Int32) (a4 : Int32) (a5 : Int32) (si : tSI) (sa : tSA) : Option (Int32 × tSI × tSA) :=
  (F_X2_isSheet a1).bind fun r1 => (if r1 = 0 then some ((-1 : Int32), (upd si 1 (0 : Int32)), sa) else (F_X2_isSheet a3).bind fun r3 => (if r3 = 0 then some ((-1 : Int32), (upd si 1 (0 : Int32)), sa) else (F_X2_faultOfPair a1 a3 (upd si 1 (0 : Int32)) sa).bind fun r5 => ((if r5 = 0 then (F_X2_faultOfSpan a1 a2 a5 (upd si 1 (0 : Int32)) sa).bind fun r14 => some r14 else some r5)).bind fun (x6 : Int32) => ((if x6 = 0 then (F_X2_faultOfSpan a3 a4 a5 (upd si 1 (0 : Int32)) sa).bind fun r12 => some r12 else some x6)).bind fun (x7 : Int32) => (if x7 = 0 then (F_X2_move a1 a2 a3 a4 a5 (upd si 1 (0 : Int32)) sa).bind fun r9 => some (a5, r9.1, r9.2) else (F_X5_failed x7 (upd si 1 (0 : Int32)) sa).bind fun r10 => some (r10.1, r10.2.1, r10.2.2))))
set_option maxHeartbeats 4000000 in
set_option maxRecDepth 100000 in
theorem c_X5_copy (l : Launch) (D : va_G) (cA : ClassId) (ad : Nat → Nat) (si : tSI) (sa : tSA) (a1 : Int32) (a2 : Int32) (a3 : Int32) (a4 : Int32) (a5 : Int32) (o : (Int32 × tSI × tSA)) (hF : F_X5_copy a1 a2 a3 a4 a5 si sa = some o) : CG l yX5_copy cX5_copy 7 (some .int) 2 85 D cA [.ref (ad 0), .int a1, .int a2, .int a3, .int a4, .int a5] (WX cA ad si sa) (WX cA ad o.2.1 o.2.2) (some (.int o.1)) := by
  refine CG.ofi (by decide) (Nat.le_of_ble_eq_true rfl) ?_
  intro p ee s m args below meth c A Q H0 ls C0 hA hP hD hS hl hE
  have hl : lv_has ls 7 [(0, .ref (ad 0)), (1, .int a1), (2, .int a2), (3, .int a3), (4, .int a4), (5, .int a5)] := hl
  obtain ⟨hx, hb, hml, hown, ht, hK⟩ := id C0
  unfold F_X5_copy at hF
  refine lv_aload_n hx hb dX5_copy_0 rfl (lv_at hl 0 rfl) ?_
  refine lv_iconst (v := (0 : Int32)) hx hb dX5_copy_1 (by decide) ?_
  refine pX0_7 C0 hP hD hS q152 dX5_copy_2 (fun H locs hP hD hS => ?_)
  refine lv_iload_n hx hb dX5_copy_5 rfl (lv_at hl 1 rfl) ?_
  obtain ⟨r1, hr1, hF⟩ := bd_some hF
  refine kcS (As := [.int a1]) (rest := []) C0 hA hP hD hS (c_X2_isSheet l D cA ad (upd si 1 (0 : Int32)) sa a1 r1 hr1) lk_X2_isSheet q175 q174 hl.1 rfl rfl (Nat.le_of_ble_eq_true rfl) ⟨Nat.le_of_ble_eq_true rfl, Nat.le_of_ble_eq_true rfl⟩ ⟨Nat.le_refl _, Nat.le_refl _⟩ dX5_copy_6 (fun H locs hP hD hS => ?_)
  refine W.eq (g2 := F0 m 9 ls [.int r1]) rfl ?_
  refine lv_if_eq (tgt := 19) hx hb dX5_copy_9 (by decide) (fun c2 => ?_) (fun c2 => ?_)
  · have hF := (if_pos c2).symm.trans hF
    refine lv_iconst (v := (-1 : Int32)) hx hb dX5_copy_19 (by decide) ?_
    have hF := Option.some.inj hF
    subst hF
    exact hE _ _ _ _ _ hP hD hS dX5_copy_20 rfl rfl
  · have hF := (if_neg c2).symm.trans hF
    refine lv_iload_n hx hb dX5_copy_12 rfl (lv_at hl 3 rfl) ?_
    obtain ⟨r3, hr3, hF⟩ := bd_some hF
    refine kcS (As := [.int a3]) (rest := []) C0 hA hP hD hS (c_X2_isSheet l D cA ad (upd si 1 (0 : Int32)) sa a3 r3 hr3) lk_X2_isSheet q175 q174 hl.1 rfl rfl (Nat.le_of_ble_eq_true rfl) ⟨Nat.le_of_ble_eq_true rfl, Nat.le_of_ble_eq_true rfl⟩ ⟨Nat.le_refl _, Nat.le_refl _⟩ dX5_copy_13 (fun H locs hP hD hS => ?_)
    refine W.eq (g2 := F0 m 16 ls [.int r3]) rfl ?_
    refine lv_if_ne (tgt := 21) hx hb dX5_copy_16 (by decide) (fun c4 => ?_) (fun c4 => ?_)
    · have hF := (if_neg c4).symm.trans hF
      refine lv_aload_n hx hb dX5_copy_21 rfl (lv_at hl 0 rfl) ?_
      refine gX0_0 C0 hP q145 dX5_copy_22 ?_
      refine lv_iload_n hx hb dX5_copy_25 rfl (lv_at hl 1 rfl) ?_
      refine lv_iload_n hx hb dX5_copy_26 rfl (lv_at hl 3 rfl) ?_
      obtain ⟨r5, hr5, hF⟩ := bd_some hF
      refine kcV (As := [.int a1, .int a3]) (rest := []) C0 hA hP hD hS (c_X2_faultOfPair l D cA ad (upd si 1 (0 : Int32)) sa a1 a3 r5 hr5) lk_X2_faultOfPair q515 q516 q514 1 2 rfl rfl hl.1 rfl rfl (Nat.le_of_ble_eq_true rfl) ⟨Nat.le_of_ble_eq_true rfl, Nat.le_of_ble_eq_true rfl⟩ ⟨Nat.le_refl _, Nat.le_refl _⟩ dX5_copy_27 (fun H locs hP hD hS => ?_)
      refine W.eq (g2 := F0 m 30 ls [.int r5]) rfl ?_
      refine lv_istore (lv' := [(6, .int r5), (0, .ref (ad 0)), (1, .int a1), (2, .int a2), (3, .int a3), (4, .int a4), (5, .int a5)]) hx hb dX5_copy_30 hl (by decide) rfl (fun ls hl => ?_)
      refine lv_iload hx hb dX5_copy_32 (lv_at hl 0 rfl) ?_
      obtain ⟨x6, hRx6, hF⟩ := bd_some hF
      have Jx6 : ∀ (H : Heap) (locs : List Loc) (ls : Array Slot), va_P D vwCl (WX cA ad (upd si 1 (0 : Int32)) sa) H → va_D A (WX cA ad (upd si 1 (0 : Int32)) sa) → va_S A H0 H locs → lv_has ls 7 [(6, .int x6), (0, .ref (ad 0)), (1, .int a1), (2, .int a2), (3, .int a3), (4, .int a4), (5, .int a5)] → W p l ee (rmx 2 85) s m args below meth c H locs 0 0 Q (F0 m 50 ls []) := by
        intro H locs ls hP hD hS hl
        refine lv_iload hx hb dX5_copy_50 (lv_at hl 0 rfl) ?_
        obtain ⟨x7, hRx7, hF⟩ := bd_some hF
        have Jx7 : ∀ (H : Heap) (locs : List Loc) (ls : Array Slot), va_P D vwCl (WX cA ad (upd si 1 (0 : Int32)) sa) H → va_D A (WX cA ad (upd si 1 (0 : Int32)) sa) → va_S A H0 H locs → lv_has ls 7 [(6, .int x7), (0, .ref (ad 0)), (1, .int a1), (2, .int a2), (3, .int a3), (4, .int a4), (5, .int a5)] → W p l ee (rmx 2 85) s m args below meth c H locs 0 0 Q (F0 m 69 ls []) := by
          intro H locs ls hP hD hS hl
          refine lv_iload hx hb dX5_copy_69 (lv_at hl 0 rfl) ?_
          refine lv_if_eq (tgt := 81) hx hb dX5_copy_71 (by decide) (fun c8 => ?_) (fun c8 => ?_)
          · have hF := (if_pos c8).symm.trans hF
            refine lv_aload_n hx hb dX5_copy_81 rfl (lv_at hl 1 rfl) ?_
            refine gX0_0 C0 hP q145 dX5_copy_82 ?_
            refine lv_iload_n hx hb dX5_copy_85 rfl (lv_at hl 2 rfl) ?_
            refine lv_iload_n hx hb dX5_copy_86 rfl (lv_at hl 3 rfl) ?_
            refine lv_iload_n hx hb dX5_copy_87 rfl (lv_at hl 4 rfl) ?_
            refine lv_iload hx hb dX5_copy_88 (lv_at hl 5 rfl) ?_
            refine lv_iload hx hb dX5_copy_90 (lv_at hl 6 rfl) ?_
            obtain ⟨r9, hr9, hF⟩ := bd_some hF
            refine kcV (As := [.int a1, .int a2, .int a3, .int a4, .int a5]) (rest := []) C0 hA hP hD hS (c_X2_move l D cA ad (upd si 1 (0 : Int32)) sa a1 a2 a3 a4 a5 r9 hr9) lk_X2_move q519 q520 q518 1 2 rfl rfl hl.1 rfl rfl (Nat.le_of_ble_eq_true rfl) ⟨Nat.le_of_ble_eq_true rfl, Nat.le_of_ble_eq_true rfl⟩ ⟨Nat.le_refl _, Nat.le_refl _⟩ dX5_copy_92 (fun H locs hP hD hS => ?_)
            refine W.eq (g2 := F0 m 95 ls []) rfl ?_
            refine lv_iload hx hb dX5_copy_95 (lv_at hl 6 rfl) ?_
            have hF := Option.some.inj hF
            subst hF
            exact hE _ _ _ _ _ hP hD hS dX5_copy_97 rfl rfl
          · have hF := (if_neg c8).symm.trans hF
            refine lv_aload_n hx hb dX5_copy_74 rfl (lv_at hl 1 rfl) ?_
            refine lv_iload hx hb dX5_copy_75 (lv_at hl 0 rfl) ?_
            obtain ⟨r10, hr10, hF⟩ := bd_some hF
            refine kcV (As := [.int x7]) (rest := []) C0 hA hP hD hS (c_X5_failed l D cA ad (upd si 1 (0 : Int32)) sa x7 r10 hr10) lk_X5_failed q194 s0 q192 0 5 rfl rfl hl.1 rfl rfl (Nat.le_of_ble_eq_true rfl) ⟨Nat.le_of_ble_eq_true rfl, Nat.le_of_ble_eq_true rfl⟩ ⟨Nat.le_refl _, Nat.le_refl _⟩ dX5_copy_77 (fun H locs hP hD hS => ?_)
            refine W.eq (g2 := F0 m 80 ls [.int r10.1]) rfl ?_
            have hF := Option.some.inj hF
            subst hF
            exact hE _ _ _ _ _ hP hD hS dX5_copy_80 rfl rfl
        have hF := hRx7
        refine lv_if_ne (tgt := 69) hx hb dX5_copy_52 (by decide) (fun c11 => ?_) (fun c11 => ?_)
        · have hF := (if_neg c11).symm.trans hF
          have hF := Option.some.inj hF
          subst hF
          exact Jx7 _ _ _ hP hD hS (lv_sub hl [0, 1, 2, 3, 4, 5, 6] rfl)
        · have hF := (if_pos c11).symm.trans hF
          refine lv_aload_n hx hb dX5_copy_55 rfl (lv_at hl 1 rfl) ?_
          refine gX0_0 C0 hP q145 dX5_copy_56 ?_
          refine lv_iload_n hx hb dX5_copy_59 rfl (lv_at hl 4 rfl) ?_
          refine lv_iload hx hb dX5_copy_60 (lv_at hl 5 rfl) ?_
          refine lv_iload hx hb dX5_copy_62 (lv_at hl 6 rfl) ?_
          obtain ⟨r12, hr12, hF⟩ := bd_some hF
          refine kcV (As := [.int a3, .int a4, .int a5]) (rest := []) C0 hA hP hD hS (c_X2_faultOfSpan l D cA ad (upd si 1 (0 : Int32)) sa a3 a4 a5 r12 hr12) lk_X2_faultOfSpan q189 q190 q188 1 2 rfl rfl hl.1 rfl rfl (Nat.le_of_ble_eq_true rfl) ⟨Nat.le_of_ble_eq_true rfl, Nat.le_of_ble_eq_true rfl⟩ ⟨Nat.le_refl _, Nat.le_refl _⟩ dX5_copy_64 (fun H locs hP hD hS => ?_)
          refine W.eq (g2 := F0 m 67 ls [.int r12]) rfl ?_
          refine lv_istore (lv' := [(6, .int r12), (0, .ref (ad 0)), (1, .int a1), (2, .int a2), (3, .int a3), (4, .int a4), (5, .int a5)]) hx hb dX5_copy_67 hl (by decide) rfl (fun ls hl => ?_)
          have hF := Option.some.inj hF
          subst hF
          exact Jx7 _ _ _ hP hD hS (lv_sub hl [0, 1, 2, 3, 4, 5, 6] rfl)
      have hF := hRx6
      refine lv_if_ne (tgt := 50) hx hb dX5_copy_34 (by decide) (fun c13 => ?_) (fun c13 => ?_)
      · have hF := (if_neg c13).symm.trans hF
        have hF := Option.some.inj hF
        subst hF
        exact Jx6 _ _ _ hP hD hS (lv_sub hl [0, 1, 2, 3, 4, 5, 6] rfl)
      · have hF := (if_pos c13).symm.trans hF
        refine lv_aload_n hx hb dX5_copy_37 rfl (lv_at hl 1 rfl) ?_
        refine gX0_0 C0 hP q145 dX5_copy_38 ?_
        refine lv_iload_n hx hb dX5_copy_41 rfl (lv_at hl 2 rfl) ?_
        refine lv_iload_n hx hb dX5_copy_42 rfl (lv_at hl 3 rfl) ?_
        refine lv_iload hx hb dX5_copy_43 (lv_at hl 6 rfl) ?_
        obtain ⟨r14, hr14, hF⟩ := bd_some hF
        refine kcV (As := [.int a1, .int a2, .int a5]) (rest := []) C0 hA hP hD hS (c_X2_faultOfSpan l D cA ad (upd si 1 (0 : Int32)) sa a1 a2 a5 r14 hr14) lk_X2_faultOfSpan q189 q190 q188 1 2 rfl rfl hl.1 rfl rfl (Nat.le_of_ble_eq_true rfl) ⟨Nat.le_of_ble_eq_true rfl, Nat.le_of_ble_eq_true rfl⟩ ⟨Nat.le_refl _, Nat.le_refl _⟩ dX5_copy_45 (fun H locs hP hD hS => ?_)
        refine W.eq (g2 := F0 m 48 ls [.int r14]) rfl ?_
        refine lv_istore (lv' := [(6, .int r14), (0, .ref (ad 0)), (1, .int a1), (2, .int a2), (3, .int a3), (4, .int a4), (5, .int a5)]) hx hb dX5_copy_48 hl (by decide) rfl (fun ls hl => ?_)
        have hF := Option.some.inj hF
        subst hF
        exact Jx6 _ _ _ hP hD hS (lv_sub hl [0, 1, 2, 3, 4, 5, 6] rfl)
    · have hF := (if_pos c4).symm.trans hF
      refine lv_iconst (v := (-1 : Int32)) hx hb dX5_copy_19 (by decide) ?_
      have hF := Option.some.inj hF
      subst hF
      exact hE _ _ _ _ _ hP hD hS dX5_copy_20 rfl rfl
theorem lk_X5_leave : LK yX5_leave cX5_leave 2 none 1 := ⟨q533, q1, by decide +kernel⟩
def F_X5_leave (a1 : Int32) (si : tSI) (sa : tSA) : Option (tSI × tSA) :=
  some ((upd si 0 (((31 : Int32) * (si 0)) + a1)), sa)
set_option maxHeartbeats 4000000 in
set_option maxRecDepth 100000 in
theorem c_X5_leave (l : Launch) (D : va_G) (cA : ClassId) (ad : Nat → Nat) (si : tSI) (sa : tSA) (a1 : Int32) (o : (tSI × tSA)) (hF : F_X5_leave a1 si sa = some o) : CG l yX5_leave cX5_leave 2 none 0 0 D cA [.ref (ad 0), .int a1] (WX cA ad si sa) (WX cA ad o.1 o.2) none := by
  refine CG.ofv (by decide) (Nat.le_of_ble_eq_true rfl) ?_
  intro p ee s m args below meth c A Q H0 ls C0 hA hP hD hS hl hE
  have hl : lv_has ls 2 [(0, .ref (ad 0)), (1, .int a1)] := hl
  obtain ⟨hx, hb, hml, hown, ht, hK⟩ := id C0
  unfold F_X5_leave at hF
  refine lv_aload_n hx hb dX5_leave_0 rfl (lv_at hl 0 rfl) ?_
  refine lv_bipush (v := (31 : Int32)) hx hb dX5_leave_1 (by decide) ?_
  refine lv_aload_n hx hb dX5_leave_3 rfl (lv_at hl 0 rfl) ?_
  refine gX0_6 (v := (si 0)) C0 hP rfl q151 dX5_leave_4 ?_
  refine lv_imul hx hb dX5_leave_7 ?_
  refine lv_iload_n hx hb dX5_leave_8 rfl (lv_at hl 1 rfl) ?_
  refine lv_iadd hx hb dX5_leave_9 ?_
  refine pX0_6 C0 hP hD hS q151 dX5_leave_10 (fun H locs hP hD hS => ?_)
  have hF := Option.some.inj hF
  subst hF
  exact hE _ _ _ _ hP hD hS dX5_leave_13
theorem lk_X5_tellPicking : LK yX5_tellPicking cX5_tellPicking 2 (some .int) 1 := ⟨q541, q1, by decide +kernel⟩
def F_X5_tellPicking (a1 : Int32) (si : tSI) (sa : tSA) : Option (Int32 × tSI × tSA) :=
  (F_X5_leave (1 : Int32) si sa).bind fun r1 => ld a1 6 (some (((r1.2 6) (Int32.toNatClampNeg a1)), r1.1, r1.2))
set_option maxHeartbeats 4000000 in
set_option maxRecDepth 100000 in
theorem c_X5_tellPicking (l : Launch) (D : va_G) (cA : ClassId) (ad : Nat → Nat) (si : tSI) (sa : tSA) (a1 : Int32) (o : (Int32 × tSI × tSA)) (hF : F_X5_tellPicking a1 si sa = some o) : CG l yX5_tellPicking cX5_tellPicking 2 (some .int) 1 21 D cA [.ref (ad 0), .int a1] (WX cA ad si sa) (WX cA ad o.2.1 o.2.2) (some (.int o.1)) := by
  refine CG.ofi (by decide) (Nat.le_of_ble_eq_true rfl) ?_
  intro p ee s m args below meth c A Q H0 ls C0 hA hP hD hS hl hE
  have hl : lv_has ls 2 [(0, .ref (ad 0)), (1, .int a1)] := hl
  obtain ⟨hx, hb, hml, hown, ht, hK⟩ := id C0
  unfold F_X5_tellPicking at hF
  refine lv_aload_n hx hb dX5_tellPicking_0 rfl (lv_at hl 0 rfl) ?_
  refine lv_iconst (v := (1 : Int32)) hx hb dX5_tellPicking_1 (by decide) ?_
  obtain ⟨r1, hr1, hF⟩ := bd_some hF
  refine kcV (As := [.int (1 : Int32)]) (rest := []) C0 hA hP hD hS (c_X5_leave l D cA ad si sa (1 : Int32) r1 hr1) lk_X5_leave q532 s20 q530 0 5 rfl rfl hl.1 rfl rfl (Nat.le_of_ble_eq_true rfl) ⟨Nat.le_of_ble_eq_true rfl, Nat.le_of_ble_eq_true rfl⟩ ⟨Nat.le_refl _, Nat.le_refl _⟩ dX5_tellPicking_2 (fun H locs hP hD hS => ?_)
  refine W.eq (g2 := F0 m 5 ls []) rfl ?_
  refine lv_aload_n hx hb dX5_tellPicking_5 rfl (lv_at hl 0 rfl) ?_
  refine gX0_1 C0 hP q146 dX5_tellPicking_6 ?_
  refine gX2_5 C0 hP q54 dX5_tellPicking_9 ?_
  refine lv_iload_n hx hb dX5_tellPicking_12 rfl (lv_at hl 1 rfl) ?_
  obtain ⟨hin, hF⟩ := ld_some hF
  refine aXl6 (f := (r1.2 6)) C0 hP rfl hin dX5_tellPicking_13 ?_
  have hF := Option.some.inj hF
  subst hF
  exact hE _ _ _ _ _ hP hD hS dX5_tellPicking_14 rfl rfl
theorem lk_X5_tellSure : LK yX5_tellSure cX5_tellSure 2 (some .int) 1 := ⟨q537, q1, by decide +kernel⟩
def F_X5_tellSure (a1 : Int32) (si : tSI) (sa : tSA) : Option (Int32 × tSI × tSA) :=
  (F_X5_leave (2 : Int32) si sa).bind fun r1 => (F_X5_tellPicking a1 r1.1 r1.2).bind fun r2 => some ((r2.1 + (100 : Int32)), r2.2.1, r2.2.2)
set_option maxHeartbeats 4000000 in
set_option maxRecDepth 100000 in
theorem c_X5_tellSure (l : Launch) (D : va_G) (cA : ClassId) (ad : Nat → Nat) (si : tSI) (sa : tSA) (a1 : Int32) (o : (Int32 × tSI × tSA)) (hF : F_X5_tellSure a1 si sa = some o) : CG l yX5_tellSure cX5_tellSure 2 (some .int) 2 42 D cA [.ref (ad 0), .int a1] (WX cA ad si sa) (WX cA ad o.2.1 o.2.2) (some (.int o.1)) := by
  refine CG.ofi (by decide) (Nat.le_of_ble_eq_true rfl) ?_
  intro p ee s m args below meth c A Q H0 ls C0 hA hP hD hS hl hE
  have hl : lv_has ls 2 [(0, .ref (ad 0)), (1, .int a1)] := hl
  obtain ⟨hx, hb, hml, hown, ht, hK⟩ := id C0
  unfold F_X5_tellSure at hF
  refine lv_aload_n hx hb dX5_tellSure_0 rfl (lv_at hl 0 rfl) ?_
  refine lv_iconst (v := (2 : Int32)) hx hb dX5_tellSure_1 (by decide) ?_
  obtain ⟨r1, hr1, hF⟩ := bd_some hF
  refine kcV (As := [.int (2 : Int32)]) (rest := []) C0 hA hP hD hS (c_X5_leave l D cA ad si sa (2 : Int32) r1 hr1) lk_X5_leave q532 s20 q530 0 5 rfl rfl hl.1 rfl rfl (Nat.le_of_ble_eq_true rfl) ⟨Nat.le_of_ble_eq_true rfl, Nat.le_of_ble_eq_true rfl⟩ ⟨Nat.le_refl _, Nat.le_refl _⟩ dX5_tellSure_2 (fun H locs hP hD hS => ?_)
  refine W.eq (g2 := F0 m 5 ls []) rfl ?_
  refine lv_aload_n hx hb dX5_tellSure_5 rfl (lv_at hl 0 rfl) ?_
  refine lv_iload_n hx hb dX5_tellSure_6 rfl (lv_at hl 1 rfl) ?_
  obtain ⟨r2, hr2, hF⟩ := bd_some hF
  refine kcV (As := [.int a1]) (rest := []) C0 hA hP hD hS (c_X5_tellPicking l D cA ad r1.1 r1.2 a1 r2 hr2) lk_X5_tellPicking q540 s22 q538 0 5 rfl rfl hl.1 rfl rfl (Nat.le_of_ble_eq_true rfl) ⟨Nat.le_of_ble_eq_true rfl, Nat.le_of_ble_eq_true rfl⟩ ⟨Nat.le_refl _, Nat.le_refl _⟩ dX5_tellSure_7 (fun H locs hP hD hS => ?_)
  refine W.eq (g2 := F0 m 10 ls [.int r2.1]) rfl ?_
  refine lv_bipush (v := (100 : Int32)) hx hb dX5_tellSure_10 (by decide) ?_
  refine lv_iadd hx hb dX5_tellSure_12 ?_
  have hF := Option.some.inj hF
  subst hF
  exact hE _ _ _ _ _ hP hD hS dX5_tellSure_13 rfl rfl
theorem lk_X5_tellDoubtful : LK yX5_tellDoubtful cX5_tellDoubtful 2 (some .int) 1 := ⟨q529, q1, by decide +kernel⟩
def F_X5_tellDoubtful (a1 : Int32) (si : tSI) (sa : tSA) : Option (Int32 × tSI × tSA) :=
  (F_X5_leave (3 : Int32) si sa).bind fun r1 => (F_X5_tellSure a1 r1.1 r1.2).bind fun r2 => (F_X5_tellPicking a1 r2.2.1 r2.2.2).bind fun r3 => some ((r2.1 + r3.1), r3.2.1, r3.2.2)
set_option maxHeartbeats 4000000 in
set_option maxRecDepth 100000 in
theorem c_X5_tellDoubtful (l : Launch) (D : va_G) (cA : ClassId) (ad : Nat → Nat) (si : tSI) (sa : tSA) (a1 : Int32) (o : (Int32 × tSI × tSA)) (hF : F_X5_tellDoubtful a1 si sa = some o) : CG l yX5_tellDoubtful cX5_tellDoubtful 2 (some .int) 3 63 D cA [.ref (ad 0), .int a1] (WX cA ad si sa) (WX cA ad o.2.1 o.2.2) (some (.int o.1)) := by
  refine CG.ofi (by decide) (Nat.le_of_ble_eq_true rfl) ?_
  intro p ee s m args below meth c A Q H0 ls C0 hA hP hD hS hl hE
  have hl : lv_has ls 2 [(0, .ref (ad 0)), (1, .int a1)] := hl
  obtain ⟨hx, hb, hml, hown, ht, hK⟩ := id C0
  unfold F_X5_tellDoubtful at hF
  refine lv_aload_n hx hb dX5_tellDoubtful_0 rfl (lv_at hl 0 rfl) ?_
  refine lv_iconst (v := (3 : Int32)) hx hb dX5_tellDoubtful_1 (by decide) ?_
  obtain ⟨r1, hr1, hF⟩ := bd_some hF
  refine kcV (As := [.int (3 : Int32)]) (rest := []) C0 hA hP hD hS (c_X5_leave l D cA ad si sa (3 : Int32) r1 hr1) lk_X5_leave q532 s20 q530 0 5 rfl rfl hl.1 rfl rfl (Nat.le_of_ble_eq_true rfl) ⟨Nat.le_of_ble_eq_true rfl, Nat.le_of_ble_eq_true rfl⟩ ⟨Nat.le_refl _, Nat.le_refl _⟩ dX5_tellDoubtful_2 (fun H locs hP hD hS => ?_)
  refine W.eq (g2 := F0 m 5 ls []) rfl ?_
  refine lv_aload_n hx hb dX5_tellDoubtful_5 rfl (lv_at hl 0 rfl) ?_
  refine lv_iload_n hx hb dX5_tellDoubtful_6 rfl (lv_at hl 1 rfl) ?_
  obtain ⟨r2, hr2, hF⟩ := bd_some hF
  refine kcV (As := [.int a1]) (rest := []) C0 hA hP hD hS (c_X5_tellSure l D cA ad r1.1 r1.2 a1 r2 hr2) lk_X5_tellSure q536 s21 q534 0 5 rfl rfl hl.1 rfl rfl (Nat.le_of_ble_eq_true rfl) ⟨Nat.le_of_ble_eq_true rfl, Nat.le_of_ble_eq_true rfl⟩ ⟨Nat.le_refl _, Nat.le_refl _⟩ dX5_tellDoubtful_7 (fun H locs hP hD hS => ?_)
  refine W.eq (g2 := F0 m 10 ls [.int r2.1]) rfl ?_
  refine lv_aload_n hx hb dX5_tellDoubtful_10 rfl (lv_at hl 0 rfl) ?_
  refine lv_iload_n hx hb dX5_tellDoubtful_11 rfl (lv_at hl 1 rfl) ?_
  obtain ⟨r3, hr3, hF⟩ := bd_some hF
  refine kcV (As := [.int a1]) (rest := [.int r2.1]) C0 hA hP hD hS (c_X5_tellPicking l D cA ad r2.2.1 r2.2.2 a1 r3 hr3) lk_X5_tellPicking q540 s22 q538 0 5 rfl rfl hl.1 rfl rfl (Nat.le_of_ble_eq_true rfl) ⟨Nat.le_of_ble_eq_true rfl, Nat.le_of_ble_eq_true rfl⟩ ⟨Nat.le_refl _, Nat.le_refl _⟩ dX5_tellDoubtful_12 (fun H locs hP hD hS => ?_)
  refine W.eq (g2 := F0 m 15 ls [.int r3.1, .int r2.1]) rfl ?_
  refine lv_iadd hx hb dX5_tellDoubtful_15 ?_
  have hF := Option.some.inj hF
  subst hF
  exact hE _ _ _ _ _ hP hD hS dX5_tellDoubtful_16 rfl rfl
theorem lk_X5_tell : LK yX5_tell cX5_tell 2 (some .int) 1 := ⟨q525, q1, by decide +kernel⟩
def F_X5_tell (a1 : Int32) (si : tSI) (sa : tSA) : Option (Int32 × tSI × tSA) :=
  (F_X0_isSort a1 si sa).bind fun r1 => (if r1 = 0 then some ((-1 : Int32), si, sa) else ld a1 6 ((if ((sa 4) (Int32.toNatClampNeg a1)) = 1 then (F_X5_tellSure a1 si sa).bind fun r4 => some (r4.1, r4.2.1, r4.2.2) else (if ((sa 4) (Int32.toNatClampNeg a1)) = 2 then (F_X5_tellDoubtful a1 si sa).bind fun r6 => some (r6.1, r6.2.1, r6.2.2) else (F_X5_tellPicking a1 si sa).bind fun r7 => some (r7.1, r7.2.1, r7.2.2)))))
set_option maxHeartbeats 4000000 in
set_option maxRecDepth 100000 in
theorem c_X5_tell (l : Launch) (D : va_G) (cA : ClassId) (ad : Nat → Nat) (si : tSI) (sa : tSA) (a1 : Int32) (o : (Int32 × tSI × tSA)) (hF : F_X5_tell a1 si sa = some o) : CG l yX5_tell cX5_tell 2 (some .int) 4 84 D cA [.ref (ad 0), .int a1] (WX cA ad si sa) (WX cA ad o.2.1 o.2.2) (some (.int o.1)) := by
  refine CG.ofi (by decide) (Nat.le_of_ble_eq_true rfl) ?_
  intro p ee s m args below meth c A Q H0 ls C0 hA hP hD hS hl hE
  have hl : lv_has ls 2 [(0, .ref (ad 0)), (1, .int a1)] := hl
  obtain ⟨hx, hb, hml, hown, ht, hK⟩ := id C0
  unfold F_X5_tell at hF
  refine lv_aload_n hx hb dX5_tell_0 rfl (lv_at hl 0 rfl) ?_
  refine gX0_1 C0 hP q146 dX5_tell_1 ?_
  refine lv_iload_n hx hb dX5_tell_4 rfl (lv_at hl 1 rfl) ?_
  obtain ⟨r1, hr1, hF⟩ := bd_some hF
  refine kcV (As := [.int a1]) (rest := []) C0 hA hP hD hS (c_X0_isSort l D cA ad si sa a1 r1 hr1) lk_X0_isSort q252 q253 q251 2 0 rfl rfl hl.1 rfl rfl (Nat.le_of_ble_eq_true rfl) ⟨Nat.le_of_ble_eq_true rfl, Nat.le_of_ble_eq_true rfl⟩ ⟨Nat.le_refl _, Nat.le_refl _⟩ dX5_tell_5 (fun H locs hP hD hS => ?_)
  refine W.eq (g2 := F0 m 8 ls [.int r1]) rfl ?_
  refine lv_if_ne (tgt := 13) hx hb dX5_tell_8 (by decide) (fun c2 => ?_) (fun c2 => ?_)
  · have hF := (if_neg c2).symm.trans hF
    refine lv_aload_n hx hb dX5_tell_13 rfl (lv_at hl 0 rfl) ?_
    refine gX0_1 C0 hP q146 dX5_tell_14 ?_
    refine gX2_3 C0 hP q50 dX5_tell_17 ?_
    refine lv_iload_n hx hb dX5_tell_20 rfl (lv_at hl 1 rfl) ?_
    obtain ⟨hin, hF⟩ := ld_some hF
    refine aXl4 (f := (sa 4)) C0 hP rfl hin dX5_tell_21 ?_
    rcases Decidable.em (((sa 4) (Int32.toNatClampNeg a1)) = 1) with c3 | c3
    · have hF := (if_pos c3).symm.trans hF
      refine lv_lookup (off := 32) (tgt := 54) hx hb dX5_tell_22 (by decide) (by rw [c3]; decide) (by decide) ?_
      refine lv_aload_n hx hb dX5_tell_54 rfl (lv_at hl 0 rfl) ?_
      refine lv_iload_n hx hb dX5_tell_55 rfl (lv_at hl 1 rfl) ?_
      obtain ⟨r4, hr4, hF⟩ := bd_some hF
      refine kcV (As := [.int a1]) (rest := []) C0 hA hP hD hS (c_X5_tellSure l D cA ad si sa a1 r4 hr4) lk_X5_tellSure q536 s21 q534 0 5 rfl rfl hl.1 rfl rfl (Nat.le_of_ble_eq_true rfl) ⟨Nat.le_of_ble_eq_true rfl, Nat.le_of_ble_eq_true rfl⟩ ⟨Nat.le_refl _, Nat.le_refl _⟩ dX5_tell_56 (fun H locs hP hD hS => ?_)
      refine W.eq (g2 := F0 m 59 ls [.int r4.1]) rfl ?_
      have hF := Option.some.inj hF
      subst hF
      exact hE _ _ _ _ _ hP hD hS dX5_tell_59 rfl rfl
    · have hF := (if_neg c3).symm.trans hF
      rcases Decidable.em (((sa 4) (Int32.toNatClampNeg a1)) = 2) with c5 | c5
      · have hF := (if_pos c5).symm.trans hF
        refine lv_lookup (off := 26) (tgt := 48) hx hb dX5_tell_22 (by decide) (by rw [c5]; decide) (by decide) ?_
        refine lv_aload_n hx hb dX5_tell_48 rfl (lv_at hl 0 rfl) ?_
        refine lv_iload_n hx hb dX5_tell_49 rfl (lv_at hl 1 rfl) ?_
        obtain ⟨r6, hr6, hF⟩ := bd_some hF
        refine kcV (As := [.int a1]) (rest := []) C0 hA hP hD hS (c_X5_tellDoubtful l D cA ad si sa a1 r6 hr6) lk_X5_tellDoubtful q528 s19 q526 0 5 rfl rfl hl.1 rfl rfl (Nat.le_of_ble_eq_true rfl) ⟨Nat.le_of_ble_eq_true rfl, Nat.le_of_ble_eq_true rfl⟩ ⟨Nat.le_refl _, Nat.le_refl _⟩ dX5_tell_50 (fun H locs hP hD hS => ?_)
        refine W.eq (g2 := F0 m 53 ls [.int r6.1]) rfl ?_
        have hF := Option.some.inj hF
        subst hF
        exact hE _ _ _ _ _ hP hD hS dX5_tell_53 rfl rfl
      · have hF := (if_neg c5).symm.trans hF
        have hc3 := ne_toIntk (1) (1) (by decide) c3
        have hc5 := ne_toIntk (2) (2) (by decide) c5
        refine lv_lookup (off := 38) (tgt := 60) hx hb dX5_tell_22 (by decide) (by simp [Op.lookupswitch.offset, hc3, hc3.symm, hc5, hc5.symm]) (by decide) ?_
        refine lv_aload_n hx hb dX5_tell_60 rfl (lv_at hl 0 rfl) ?_
        refine lv_iload_n hx hb dX5_tell_61 rfl (lv_at hl 1 rfl) ?_
        obtain ⟨r7, hr7, hF⟩ := bd_some hF
        refine kcV (As := [.int a1]) (rest := []) C0 hA hP hD hS (c_X5_tellPicking l D cA ad si sa a1 r7 hr7) lk_X5_tellPicking q540 s22 q538 0 5 rfl rfl hl.1 rfl rfl (Nat.le_of_ble_eq_true rfl) ⟨Nat.le_of_ble_eq_true rfl, Nat.le_of_ble_eq_true rfl⟩ ⟨Nat.le_refl _, Nat.le_refl _⟩ dX5_tell_62 (fun H locs hP hD hS => ?_)
        refine W.eq (g2 := F0 m 65 ls [.int r7.1]) rfl ?_
        have hF := Option.some.inj hF
        subst hF
        exact hE _ _ _ _ _ hP hD hS dX5_tell_65 rfl rfl
  · have hF := (if_pos c2).symm.trans hF
    refine lv_iconst (v := (-1 : Int32)) hx hb dX5_tell_11 (by decide) ?_
    have hF := Option.some.inj hF
    subst hF
    exact hE _ _ _ _ _ hP hD hS dX5_tell_12 rfl rfl
theorem lk_X5_dropByLent : LK yX5_dropByLent cX5_dropByLent 2 (some .int) 1 := ⟨q553, q1, by decide +kernel⟩
def F_X5_dropByLent (a1 : Int32) (si : tSI) (sa : tSA) : Option (Int32 × tSI × tSA) :=
  (F_X5_leave (4 : Int32) si sa).bind fun r1 => some (a1, r1.1, r1.2)
set_option maxHeartbeats 4000000 in
set_option maxRecDepth 100000 in
theorem c_X5_dropByLent (l : Launch) (D : va_G) (cA : ClassId) (ad : Nat → Nat) (si : tSI) (sa : tSA) (a1 : Int32) (o : (Int32 × tSI × tSA)) (hF : F_X5_dropByLent a1 si sa = some o) : CG l yX5_dropByLent cX5_dropByLent 2 (some .int) 1 21 D cA [.ref (ad 0), .int a1] (WX cA ad si sa) (WX cA ad o.2.1 o.2.2) (some (.int o.1)) := by
  refine CG.ofi (by decide) (Nat.le_of_ble_eq_true rfl) ?_
  intro p ee s m args below meth c A Q H0 ls C0 hA hP hD hS hl hE
  have hl : lv_has ls 2 [(0, .ref (ad 0)), (1, .int a1)] := hl
  obtain ⟨hx, hb, hml, hown, ht, hK⟩ := id C0
  unfold F_X5_dropByLent at hF
  refine lv_aload_n hx hb dX5_dropByLent_0 rfl (lv_at hl 0 rfl) ?_
  refine lv_iconst (v := (4 : Int32)) hx hb dX5_dropByLent_1 (by decide) ?_
  obtain ⟨r1, hr1, hF⟩ := bd_some hF
  refine kcV (As := [.int (4 : Int32)]) (rest := []) C0 hA hP hD hS (c_X5_leave l D cA ad si sa (4 : Int32) r1 hr1) lk_X5_leave q532 s20 q530 0 5 rfl rfl hl.1 rfl rfl (Nat.le_of_ble_eq_true rfl) ⟨Nat.le_of_ble_eq_true rfl, Nat.le_of_ble_eq_true rfl⟩ ⟨Nat.le_refl _, Nat.le_refl _⟩ dX5_dropByLent_2 (fun H locs hP hD hS => ?_)
  refine W.eq (g2 := F0 m 5 ls []) rfl ?_
  refine lv_iload_n hx hb dX5_dropByLent_5 rfl (lv_at hl 1 rfl) ?_
  have hF := Option.some.inj hF
  subst hF
  exact hE _ _ _ _ _ hP hD hS dX5_dropByLent_6 rfl rfl
theorem lk_X5_dropByOwn : LK yX5_dropByOwn cX5_dropByOwn 1 (some .int) 0 := ⟨q549, q1, by decide +kernel⟩
def F_X5_dropByOwn (si : tSI) (sa : tSA) : Option (Int32 × tSI × tSA) :=
  (F_X5_leave (5 : Int32) si sa).bind fun r1 => some ((70 : Int32), r1.1, r1.2)
set_option maxHeartbeats 4000000 in
set_option maxRecDepth 100000 in
theorem c_X5_dropByOwn (l : Launch) (D : va_G) (cA : ClassId) (ad : Nat → Nat) (si : tSI) (sa : tSA) (o : (Int32 × tSI × tSA)) (hF : F_X5_dropByOwn si sa = some o) : CG l yX5_dropByOwn cX5_dropByOwn 1 (some .int) 1 21 D cA [.ref (ad 0)] (WX cA ad si sa) (WX cA ad o.2.1 o.2.2) (some (.int o.1)) := by
  refine CG.ofi (by decide) (Nat.le_of_ble_eq_true rfl) ?_
  intro p ee s m args below meth c A Q H0 ls C0 hA hP hD hS hl hE
  have hl : lv_has ls 1 [(0, .ref (ad 0))] := hl
  obtain ⟨hx, hb, hml, hown, ht, hK⟩ := id C0
  unfold F_X5_dropByOwn at hF
  refine lv_aload_n hx hb dX5_dropByOwn_0 rfl (lv_at hl 0 rfl) ?_
  refine lv_iconst (v := (5 : Int32)) hx hb dX5_dropByOwn_1 (by decide) ?_
  obtain ⟨r1, hr1, hF⟩ := bd_some hF
  refine kcV (As := [.int (5 : Int32)]) (rest := []) C0 hA hP hD hS (c_X5_leave l D cA ad si sa (5 : Int32) r1 hr1) lk_X5_leave q532 s20 q530 0 5 rfl rfl hl.1 rfl rfl (Nat.le_of_ble_eq_true rfl) ⟨Nat.le_of_ble_eq_true rfl, Nat.le_of_ble_eq_true rfl⟩ ⟨Nat.le_refl _, Nat.le_refl _⟩ dX5_dropByOwn_2 (fun H locs hP hD hS => ?_)
  refine W.eq (g2 := F0 m 5 ls []) rfl ?_
  refine lv_bipush (v := (70 : Int32)) hx hb dX5_dropByOwn_5 (by decide) ?_
  have hF := Option.some.inj hF
  subst hF
  exact hE _ _ _ _ _ hP hD hS dX5_dropByOwn_7 rfl rfl
theorem lk_X5_drop : LK yX5_drop cX5_drop 2 (some .int) 1 := ⟨q545, q1, by decide +kernel⟩
def F_X5_drop (a1 : Int32) (si : tSI) (sa : tSA) : Option (Int32 × tSI × tSA) :=
  (F_X0_isSort a1 si sa).bind fun r1 => (if r1 = 0 then some ((-1 : Int32), si, sa) else ld a1 6 ((if ((sa 4) (Int32.toNatClampNeg a1)) = (2 : Int32) then (F_X5_dropByOwn si sa).bind fun r5 => some (r5.1, r5.2.1, r5.2.2) else (F_X5_dropByLent a1 si sa).bind fun r4 => some (r4.1, r4.2.1, r4.2.2))))
set_option maxHeartbeats 4000000 in
set_option maxRecDepth 100000 in
theorem c_X5_drop (l : Launch) (D : va_G) (cA : ClassId) (ad : Nat → Nat) (si : tSI) (sa : tSA) (a1 : Int32) (o : (Int32 × tSI × tSA)) (hF : F_X5_drop a1 si sa = some o) : CG l yX5_drop cX5_drop 2 (some .int) 2 42 D cA [.ref (ad 0), .int a1] (WX cA ad si sa) (WX cA ad o.2.1 o.2.2) (some (.int o.1)) := by
  refine CG.ofi (by decide) (Nat.le_of_ble_eq_true rfl) ?_
  intro p ee s m args below meth c A Q H0 ls C0 hA hP hD hS hl hE
  have hl : lv_has ls 2 [(0, .ref (ad 0)), (1, .int a1)] := hl
  obtain ⟨hx, hb, hml, hown, ht, hK⟩ := id C0
  unfold F_X5_drop at hF
  refine lv_aload_n hx hb dX5_drop_0 rfl (lv_at hl 0 rfl) ?_
  refine gX0_1 C0 hP q146 dX5_drop_1 ?_
  refine lv_iload_n hx hb dX5_drop_4 rfl (lv_at hl 1 rfl) ?_
  obtain ⟨r1, hr1, hF⟩ := bd_some hF
  refine kcV (As := [.int a1]) (rest := []) C0 hA hP hD hS (c_X0_isSort l D cA ad si sa a1 r1 hr1) lk_X0_isSort q252 q253 q251 2 0 rfl rfl hl.1 rfl rfl (Nat.le_of_ble_eq_true rfl) ⟨Nat.le_of_ble_eq_true rfl, Nat.le_of_ble_eq_true rfl⟩ ⟨Nat.le_refl _, Nat.le_refl _⟩ dX5_drop_5 (fun H locs hP hD hS => ?_)
  refine W.eq (g2 := F0 m 8 ls [.int r1]) rfl ?_
  refine lv_if_ne (tgt := 13) hx hb dX5_drop_8 (by decide) (fun c2 => ?_) (fun c2 => ?_)
  · have hF := (if_neg c2).symm.trans hF
    refine lv_aload_n hx hb dX5_drop_13 rfl (lv_at hl 0 rfl) ?_
    refine gX0_1 C0 hP q146 dX5_drop_14 ?_
    refine gX2_3 C0 hP q50 dX5_drop_17 ?_
    refine lv_iload_n hx hb dX5_drop_20 rfl (lv_at hl 1 rfl) ?_
    obtain ⟨hin, hF⟩ := ld_some hF
    refine aXl4 (f := (sa 4)) C0 hP rfl hin dX5_drop_21 ?_
    refine lv_iconst (v := (2 : Int32)) hx hb dX5_drop_22 (by decide) ?_
    refine lv_icmp_ne (tgt := 33) hx hb dX5_drop_23 (by decide) (fun c3 => ?_) (fun c3 => ?_)
    · have hF := (if_neg c3).symm.trans hF
      refine lv_aload_n hx hb dX5_drop_33 rfl (lv_at hl 0 rfl) ?_
      refine lv_iload_n hx hb dX5_drop_34 rfl (lv_at hl 1 rfl) ?_
      obtain ⟨r4, hr4, hF⟩ := bd_some hF
      refine kcV (As := [.int a1]) (rest := []) C0 hA hP hD hS (c_X5_dropByLent l D cA ad si sa a1 r4 hr4) lk_X5_dropByLent q552 s24 q550 0 5 rfl rfl hl.1 rfl rfl (Nat.le_of_ble_eq_true rfl) ⟨Nat.le_of_ble_eq_true rfl, Nat.le_of_ble_eq_true rfl⟩ ⟨Nat.le_refl _, Nat.le_refl _⟩ dX5_drop_35 (fun H locs hP hD hS => ?_)
      refine W.eq (g2 := F0 m 38 ls [.int r4.1]) rfl ?_
      have hF := Option.some.inj hF
      subst hF
      exact hE _ _ _ _ _ hP hD hS dX5_drop_38 rfl rfl
    · have hF := (if_pos c3).symm.trans hF
      refine lv_aload_n hx hb dX5_drop_26 rfl (lv_at hl 0 rfl) ?_
      obtain ⟨r5, hr5, hF⟩ := bd_some hF
      refine kcV (As := []) (rest := []) C0 hA hP hD hS (c_X5_dropByOwn l D cA ad si sa r5 hr5) lk_X5_dropByOwn q548 s23 q546 0 5 rfl rfl hl.1 rfl rfl (Nat.le_of_ble_eq_true rfl) ⟨Nat.le_of_ble_eq_true rfl, Nat.le_of_ble_eq_true rfl⟩ ⟨Nat.le_refl _, Nat.le_refl _⟩ dX5_drop_27 (fun H locs hP hD hS => ?_)
      refine W.eq (g2 := F0 m 30 ls [.int r5.1]) rfl ?_
      refine lv_goto (tgt := 38) hx hb dX5_drop_30 (by decide) ?_
      have hF := Option.some.inj hF
      subst hF
      exact hE _ _ _ _ _ hP hD hS dX5_drop_38 rfl rfl
  · have hF := (if_pos c2).symm.trans hF
    refine lv_iconst (v := (-1 : Int32)) hx hb dX5_drop_11 (by decide) ?_
    have hF := Option.some.inj hF
    subst hF
    exact hE _ _ _ _ _ hP hD hS dX5_drop_12 rfl rfl
theorem lk_X5_as : LK yX5_as cX5_as 3 (some .int) 2 := ⟨q557, q1, by decide +kernel⟩
def F_X5_as (a1 : Int32) (a2 : Int32) (si : tSI) (sa : tSA) : Option (Int32 × tSI × tSA) :=
  (F_X0_isSort a1 (upd si 1 (0 : Int32)) sa).bind fun r1 => (if r1 = 0 then some ((-1 : Int32), (upd si 1 (0 : Int32)), sa) else (if a2 < 0 then some ((-2 : Int32), (upd si 1 (0 : Int32)), sa) else (if a2 ≤ (2 : Int32) then ld a1 6 ((if ((sa 4) (Int32.toNatClampNeg a1)) < a2 then (F_X5_failed (2 : Int32) (upd si 1 (0 : Int32)) sa).bind fun r6 => some (r6.1, r6.2.1, r6.2.2) else some ((1 : Int32), (upd si 1 (0 : Int32)), sa))) else some ((-2 : Int32), (upd si 1 (0 : Int32)), sa))))
set_option maxHeartbeats 4000000 in
set_option maxRecDepth 100000 in
theorem c_X5_as (l : Launch) (D : va_G) (cA : ClassId) (ad : Nat → Nat) (si : tSI) (sa : tSA) (a1 : Int32) (a2 : Int32) (o : (Int32 × tSI × tSA)) (hF : F_X5_as a1 a2 si sa = some o) : CG l yX5_as cX5_as 3 (some .int) 1 21 D cA [.ref (ad 0), .int a1, .int a2] (WX cA ad si sa) (WX cA ad o.2.1 o.2.2) (some (.int o.1)) := by
  refine CG.ofi (by decide) (Nat.le_of_ble_eq_true rfl) ?_
  intro p ee s m args below meth c A Q H0 ls C0 hA hP hD hS hl hE
  have hl : lv_has ls 3 [(0, .ref (ad 0)), (1, .int a1), (2, .int a2)] := hl
  obtain ⟨hx, hb, hml, hown, ht, hK⟩ := id C0
  unfold F_X5_as at hF
  refine lv_aload_n hx hb dX5_as_0 rfl (lv_at hl 0 rfl) ?_
  refine lv_iconst (v := (0 : Int32)) hx hb dX5_as_1 (by decide) ?_
  refine pX0_7 C0 hP hD hS q152 dX5_as_2 (fun H locs hP hD hS => ?_)
  refine lv_aload_n hx hb dX5_as_5 rfl (lv_at hl 0 rfl) ?_
  refine gX0_1 C0 hP q146 dX5_as_6 ?_
  refine lv_iload_n hx hb dX5_as_9 rfl (lv_at hl 1 rfl) ?_
  obtain ⟨r1, hr1, hF⟩ := bd_some hF
  refine kcV (As := [.int a1]) (rest := []) C0 hA hP hD hS (c_X0_isSort l D cA ad (upd si 1 (0 : Int32)) sa a1 r1 hr1) lk_X0_isSort q252 q253 q251 2 0 rfl rfl hl.1 rfl rfl (Nat.le_of_ble_eq_true rfl) ⟨Nat.le_of_ble_eq_true rfl, Nat.le_of_ble_eq_true rfl⟩ ⟨Nat.le_refl _, Nat.le_refl _⟩ dX5_as_10 (fun H locs hP hD hS => ?_)
  refine W.eq (g2 := F0 m 13 ls [.int r1]) rfl ?_
  refine lv_if_ne (tgt := 18) hx hb dX5_as_13 (by decide) (fun c2 => ?_) (fun c2 => ?_)
  · have hF := (if_neg c2).symm.trans hF
    refine lv_iload_n hx hb dX5_as_18 rfl (lv_at hl 2 rfl) ?_
    refine lv_if_lt (tgt := 27) hx hb dX5_as_19 (by decide) (fun c3 => ?_) (fun c3 => ?_)
    · have hF := (if_pos c3).symm.trans hF
      refine lv_bipush (v := (-2 : Int32)) hx hb dX5_as_27 (by decide) ?_
      have hF := Option.some.inj hF
      subst hF
      exact hE _ _ _ _ _ hP hD hS dX5_as_29 rfl rfl
    · have hF := (if_neg c3).symm.trans hF
      refine lv_iload_n hx hb dX5_as_22 rfl (lv_at hl 2 rfl) ?_
      refine lv_iconst (v := (2 : Int32)) hx hb dX5_as_23 (by decide) ?_
      refine lv_icmp_le (tgt := 30) hx hb dX5_as_24 (by decide) (fun c4 => ?_) (fun c4 => ?_)
      · have hF := (if_pos c4).symm.trans hF
        refine lv_aload_n hx hb dX5_as_30 rfl (lv_at hl 0 rfl) ?_
        refine gX0_1 C0 hP q146 dX5_as_31 ?_
        refine gX2_3 C0 hP q50 dX5_as_34 ?_
        refine lv_iload_n hx hb dX5_as_37 rfl (lv_at hl 1 rfl) ?_
        obtain ⟨hin, hF⟩ := ld_some hF
        refine aXl4 (f := (sa 4)) C0 hP rfl hin dX5_as_38 ?_
        refine lv_iload_n hx hb dX5_as_39 rfl (lv_at hl 2 rfl) ?_
        refine lv_icmp_lt (tgt := 47) hx hb dX5_as_40 (by decide) (fun c5 => ?_) (fun c5 => ?_)
        · have hF := (if_pos c5).symm.trans hF
          refine lv_aload_n hx hb dX5_as_47 rfl (lv_at hl 0 rfl) ?_
          refine lv_iconst (v := (2 : Int32)) hx hb dX5_as_48 (by decide) ?_
          obtain ⟨r6, hr6, hF⟩ := bd_some hF
          refine kcV (As := [.int (2 : Int32)]) (rest := []) C0 hA hP hD hS (c_X5_failed l D cA ad (upd si 1 (0 : Int32)) sa (2 : Int32) r6 hr6) lk_X5_failed q194 s0 q192 0 5 rfl rfl hl.1 rfl rfl (Nat.le_of_ble_eq_true rfl) ⟨Nat.le_of_ble_eq_true rfl, Nat.le_of_ble_eq_true rfl⟩ ⟨Nat.le_refl _, Nat.le_refl _⟩ dX5_as_49 (fun H locs hP hD hS => ?_)
          refine W.eq (g2 := F0 m 52 ls [.int r6.1]) rfl ?_
          have hF := Option.some.inj hF
          subst hF
          exact hE _ _ _ _ _ hP hD hS dX5_as_52 rfl rfl
        · have hF := (if_neg c5).symm.trans hF
          refine lv_iconst (v := (1 : Int32)) hx hb dX5_as_43 (by decide) ?_
          refine lv_goto (tgt := 52) hx hb dX5_as_44 (by decide) ?_
          have hF := Option.some.inj hF
          subst hF
          exact hE _ _ _ _ _ hP hD hS dX5_as_52 rfl rfl
      · have hF := (if_neg c4).symm.trans hF
        refine lv_bipush (v := (-2 : Int32)) hx hb dX5_as_27 (by decide) ?_
        have hF := Option.some.inj hF
        subst hF
        exact hE _ _ _ _ _ hP hD hS dX5_as_29 rfl rfl
  · have hF := (if_pos c2).symm.trans hF
    refine lv_iconst (v := (-1 : Int32)) hx hb dX5_as_16 (by decide) ?_
    have hF := Option.some.inj hF
    subst hF
    exact hE _ _ _ _ _ hP hD hS dX5_as_17 rfl rfl
theorem lk_X5_trace : LK yX5_trace cX5_trace 1 (some .int) 0 := ⟨q561, q1, by decide +kernel⟩
def F_X5_trace (si : tSI) (sa : tSA) : Option Int32 :=
  some (si 0)
set_option maxHeartbeats 4000000 in
set_option maxRecDepth 100000 in
theorem c_X5_trace (l : Launch) (D : va_G) (cA : ClassId) (ad : Nat → Nat) (si : tSI) (sa : tSA) (o : Int32) (hF : F_X5_trace si sa = some o) : CG l yX5_trace cX5_trace 1 (some .int) 0 0 D cA [.ref (ad 0)] (WX cA ad si sa) (WX cA ad si sa) (some (.int o)) := by
  refine CG.ofi (by decide) (Nat.le_of_ble_eq_true rfl) ?_
  intro p ee s m args below meth c A Q H0 ls C0 hA hP hD hS hl hE
  have hl : lv_has ls 1 [(0, .ref (ad 0))] := hl
  obtain ⟨hx, hb, hml, hown, ht, hK⟩ := id C0
  unfold F_X5_trace at hF
  refine lv_aload_n hx hb dX5_trace_0 rfl (lv_at hl 0 rfl) ?_
  refine gX0_6 (v := (si 0)) C0 hP rfl q151 dX5_trace_1 ?_
  have hF := Option.some.inj hF
  exact hE _ _ _ _ _ hP hD hS dX5_trace_4 rfl hF
theorem lk_X5_fault : LK yX5_fault cX5_fault 1 (some .int) 0 := ⟨q565, q1, by decide +kernel⟩
def F_X5_fault (si : tSI) (sa : tSA) : Option Int32 :=
  some (si 1)
set_option maxHeartbeats 4000000 in
set_option maxRecDepth 100000 in
theorem c_X5_fault (l : Launch) (D : va_G) (cA : ClassId) (ad : Nat → Nat) (si : tSI) (sa : tSA) (o : Int32) (hF : F_X5_fault si sa = some o) : CG l yX5_fault cX5_fault 1 (some .int) 0 0 D cA [.ref (ad 0)] (WX cA ad si sa) (WX cA ad si sa) (some (.int o)) := by
  refine CG.ofi (by decide) (Nat.le_of_ble_eq_true rfl) ?_
  intro p ee s m args below meth c A Q H0 ls C0 hA hP hD hS hl hE
  have hl : lv_has ls 1 [(0, .ref (ad 0))] := hl
  obtain ⟨hx, hb, hml, hown, ht, hK⟩ := id C0
  unfold F_X5_fault at hF
  refine lv_aload_n hx hb dX5_fault_0 rfl (lv_at hl 0 rfl) ?_
  refine gX0_7 (v := (si 1)) C0 hP rfl q152 dX5_fault_1 ?_
  have hF := Option.some.inj hF
  exact hE _ _ _ _ _ hP hD hS dX5_fault_4 rfl hF
theorem lk_X0_letters : LK yX0_letters cX0_letters 3 (some .int) 0 := ⟨q573, q3, by decide +kernel⟩
def S_X0_letters_4 (si : tSI) (sa : tSA) (rec1 : ((Int32 × Int32) → Option Int32)) (t1 : (Int32 × Int32)) : Option Int32 :=
  (if (si 2) ≤ t1.1 then some t1.2 else ld t1.1 6 (rec1 ((t1.1 + 1), (t1.2 + ((sa 5) (Int32.toNatClampNeg t1.1))))))
def F_X0_letters (si : tSI) (sa : tSA) : Option Int32 :=
  (lp (S_X0_letters_4 si sa) 100 ((0 : Int32), (0 : Int32))).bind fun (e2 : Int32) => some e2
set_option maxHeartbeats 4000000 in
set_option maxRecDepth 100000 in
theorem c_X0_letters (l : Launch) (D : va_G) (cA : ClassId) (ad : Nat → Nat) (si : tSI) (sa : tSA) (o : Int32) (hF : F_X0_letters si sa = some o) : CG l yX0_letters cX0_letters 3 (some .int) 0 0 D cA [.ref (ad 2)] (WX cA ad si sa) (WX cA ad si sa) (some (.int o)) := by
  refine CG.ofi (by decide) (Nat.le_of_ble_eq_true rfl) ?_
  intro p ee s m args below meth c A Q H0 ls C0 hA hP hD hS hl hE
  have hl : lv_has ls 3 [(0, .ref (ad 2))] := hl
  obtain ⟨hx, hb, hml, hown, ht, hK⟩ := id C0
  unfold F_X0_letters at hF
  refine lv_iconst (v := (0 : Int32)) hx hb dX0_letters_0 (by decide) ?_
  refine lv_istore_n (lv' := [(1, .int (0 : Int32)), (0, .ref (ad 2))]) hx hb dX0_letters_1 rfl hl (by decide) rfl (fun ls hl => ?_)
  refine lv_iconst (v := (0 : Int32)) hx hb dX0_letters_2 (by decide) ?_
  refine lv_istore_n (lv' := [(2, .int (0 : Int32)), (1, .int (0 : Int32)), (0, .ref (ad 2))]) hx hb dX0_letters_3 rfl hl (by decide) rfl (fun ls hl => ?_)
  obtain ⟨ox1, hL1, hX1⟩ := bd_all hF
  have JE1 : ∀ (e2 : Int32), ox1 = e2 → ∀ (H : Heap) (locs : List Loc) (ls : Array Slot), va_P D vwCl (WX cA ad si sa) H → va_D A (WX cA ad si sa) → va_S A H0 H locs → lv_has ls 3 [(1, .int e2)] → W p l ee (rmx 0 0) s m args below meth c H locs 0 0 Q (F0 m 27 ls []) := by
    intro e2 he H locs ls hP hD hS hl
    have hF := hX1 _ he
    refine lv_iload_n hx hb dX0_letters_27 rfl (lv_at hl 0 rfl) ?_
    have hF := Option.some.inj hF
    exact hE _ _ _ _ _ hP hD hS dX0_letters_28 rfl hF
  have LP1 : ∀ (k1 : Nat) (t1 : (Int32 × Int32)), lp (S_X0_letters_4 si sa) k1 t1 = some ox1 → ∀ (H : Heap) (locs : List Loc) (ls : Array Slot), va_P D vwCl (WX cA ad si sa) H → va_D A (WX cA ad si sa) → va_S A H0 H locs → lv_has ls 3 [(2, .int t1.1), (1, .int t1.2), (0, .ref (ad 2))] → W p l ee (rmx 0 0) s m args below meth c H locs 0 0 Q (F0 m 4 ls []) := by
    intro k1
    induction k1 with
    | zero => intro t1 hF; exact (lp_no hF).elim
    | succ k1 ih1 =>
      intro t1 hF H locs ls hP hD hS hl
      change (S_X0_letters_4 si sa) (lp (S_X0_letters_4 si sa) k1) t1 = some ox1 at hF
      unfold S_X0_letters_4 at hF
      refine lv_iload_n hx hb dX0_letters_4 rfl (lv_at hl 0 rfl) ?_
      refine lv_aload_n hx hb dX0_letters_5 rfl (lv_at hl 2 rfl) ?_
      refine gX2_0 (v := (si 2)) C0 hP rfl q42 dX0_letters_6 ?_
      refine lv_icmp_ge (tgt := 27) hx hb dX0_letters_9 (by decide) (fun c3 => ?_) (fun c3 => ?_)
      · have hF := (if_pos c3).symm.trans hF
        exact JE1 _ (Option.some.inj hF).symm _ _ _ hP hD hS (lv_sub hl [1] rfl)
      · have hF := (if_neg c3).symm.trans hF
        refine lv_iload_n hx hb dX0_letters_12 rfl (lv_at hl 1 rfl) ?_
        refine lv_aload_n hx hb dX0_letters_13 rfl (lv_at hl 2 rfl) ?_
        refine gX2_4 C0 hP q51 dX0_letters_14 ?_
        refine lv_iload_n hx hb dX0_letters_17 rfl (lv_at hl 0 rfl) ?_
        obtain ⟨hin, hF⟩ := ld_some hF
        refine aXl5 (f := (sa 5)) C0 hP rfl hin dX0_letters_18 ?_
        refine lv_iadd hx hb dX0_letters_19 ?_
        refine lv_istore_n (lv' := [(1, .int (t1.2 + ((sa 5) (Int32.toNatClampNeg t1.1)))), (2, .int t1.1), (0, .ref (ad 2))]) hx hb dX0_letters_20 rfl hl (by decide) rfl (fun ls hl => ?_)
        refine lv_iinc (v := (t1.1 + 1)) (lv' := [(2, .int (t1.1 + 1)), (1, .int (t1.2 + ((sa 5) (Int32.toNatClampNeg t1.1)))), (0, .ref (ad 2))]) hx hb dX0_letters_21 hl (k := 1) rfl rfl (by decide) rfl (fun ls hl => ?_)
        refine lv_goto (tgt := 4) hx hb dX0_letters_24 (by decide) ?_
        exact ih1 _ hF _ _ _ hP hD hS (lv_sub hl [0, 1, 2] rfl)
  exact LP1 _ _ hL1 _ _ _ hP hD hS (lv_sub hl [0, 1, 2] rfl)
theorem lk_X5_many : LK yX5_many cX5_many 2 (some .int) 1 := ⟨q569, q1, by decide +kernel⟩
def F_X5_many (a1 : Int32) (si : tSI) (sa : tSA) : Option Int32 :=
  (if a1 = 0 then some (si 2) else (if a1 = 1 then some (si 3) else (if a1 = 2 then (F_X0_letters si sa).bind fun r4 => some r4 else (if a1 = 3 then some (si 4) else some (-2 : Int32)))))
set_option maxHeartbeats 4000000 in
set_option maxRecDepth 100000 in
theorem c_X5_many (l : Launch) (D : va_G) (cA : ClassId) (ad : Nat → Nat) (si : tSI) (sa : tSA) (a1 : Int32) (o : Int32) (hF : F_X5_many a1 si sa = some o) : CG l yX5_many cX5_many 2 (some .int) 1 22 D cA [.ref (ad 0), .int a1] (WX cA ad si sa) (WX cA ad si sa) (some (.int o)) := by
  refine CG.ofi (by decide) (Nat.le_of_ble_eq_true rfl) ?_
  intro p ee s m args below meth c A Q H0 ls C0 hA hP hD hS hl hE
  have hl : lv_has ls 2 [(0, .ref (ad 0)), (1, .int a1)] := hl
  obtain ⟨hx, hb, hml, hown, ht, hK⟩ := id C0
  unfold F_X5_many at hF
  refine lv_iload_n hx hb dX5_many_0 rfl (lv_at hl 1 rfl) ?_
  rcases Decidable.em (a1 = 0) with c1 | c1
  · have hF := (if_pos c1).symm.trans hF
    refine lv_tableIn (off := 31) (tgt := 32) hx hb dX5_many_1 (by rw [c1]; decide) (by rw [c1]; decide) (by rw [c1]; rfl) (by decide) ?_
    refine lv_aload_n hx hb dX5_many_32 rfl (lv_at hl 0 rfl) ?_
    refine gX0_1 C0 hP q146 dX5_many_33 ?_
    refine gX2_0 (v := (si 2)) C0 hP rfl q43 dX5_many_36 ?_
    have hF := Option.some.inj hF
    exact hE _ _ _ _ _ hP hD hS dX5_many_39 rfl hF
  · have hF := (if_neg c1).symm.trans hF
    rcases Decidable.em (a1 = 1) with c2 | c2
    · have hF := (if_pos c2).symm.trans hF
      refine lv_tableIn (off := 39) (tgt := 40) hx hb dX5_many_1 (by rw [c2]; decide) (by rw [c2]; decide) (by rw [c2]; rfl) (by decide) ?_
      refine lv_aload_n hx hb dX5_many_40 rfl (lv_at hl 0 rfl) ?_
      refine gX0_1 C0 hP q146 dX5_many_41 ?_
      refine gX2_1 (v := (si 3)) C0 hP rfl q46 dX5_many_44 ?_
      have hF := Option.some.inj hF
      exact hE _ _ _ _ _ hP hD hS dX5_many_47 rfl hF
    · have hF := (if_neg c2).symm.trans hF
      rcases Decidable.em (a1 = 2) with c3 | c3
      · have hF := (if_pos c3).symm.trans hF
        refine lv_tableIn (off := 47) (tgt := 48) hx hb dX5_many_1 (by rw [c3]; decide) (by rw [c3]; decide) (by rw [c3]; rfl) (by decide) ?_
        refine lv_aload_n hx hb dX5_many_48 rfl (lv_at hl 0 rfl) ?_
        refine gX0_1 C0 hP q146 dX5_many_49 ?_
        obtain ⟨r4, hr4, hF⟩ := bd_some hF
        refine kcV (As := []) (rest := []) C0 hA hP hD hS (c_X0_letters l D cA ad si sa r4 hr4) lk_X0_letters q571 q572 q570 2 0 rfl rfl hl.1 rfl rfl (Nat.le_of_ble_eq_true rfl) ⟨Nat.le_of_ble_eq_true rfl, Nat.le_of_ble_eq_true rfl⟩ ⟨Nat.le_refl _, Nat.le_refl _⟩ dX5_many_52 (fun H locs hP hD hS => ?_)
        refine W.eq (g2 := F0 m 55 ls [.int r4]) rfl ?_
        have hF := Option.some.inj hF
        exact hE _ _ _ _ _ hP hD hS dX5_many_55 rfl hF
      · have hF := (if_neg c3).symm.trans hF
        rcases Decidable.em (a1 = 3) with c5 | c5
        · have hF := (if_pos c5).symm.trans hF
          refine lv_tableIn (off := 55) (tgt := 56) hx hb dX5_many_1 (by rw [c5]; decide) (by rw [c5]; decide) (by rw [c5]; rfl) (by decide) ?_
          refine lv_aload_n hx hb dX5_many_56 rfl (lv_at hl 0 rfl) ?_
          refine gX0_1 C0 hP q146 dX5_many_57 ?_
          refine gX2_2 (v := (si 4)) C0 hP rfl q48 dX5_many_60 ?_
          have hF := Option.some.inj hF
          exact hE _ _ _ _ _ hP hD hS dX5_many_63 rfl hF
        · have hF := (if_neg c5).symm.trans hF
          have hout : (Int32.toInt a1) < 0 ∨ 3 < (Int32.toInt a1) := by
            have hc1 := ne_toIntk (0) (0) (by decide) c1
            have hc2 := ne_toIntk (1) (1) (by decide) c2
            have hc3 := ne_toIntk (2) (2) (by decide) c3
            have hc5 := ne_toIntk (3) (3) (by decide) c5
            omega
          refine lv_tableOut (tgt := 64) hx hb dX5_many_1 hout (by decide) ?_
          refine lv_bipush (v := (-2 : Int32)) hx hb dX5_many_64 (by decide) ?_
          have hF := Option.some.inj hF
          exact hE _ _ _ _ _ hP hD hS dX5_many_66 rfl hF
