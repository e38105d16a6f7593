theorem lk_X6_plan : LK yX6_plan cX6_plan 9 (some .int) 5 := ⟨q761, q7, by decide +kernel⟩
def F_X6_plan (a1 : Int32) (a2 : Int32) (a3 : Int32) (a4 : Int32) (a5 : Int32) (si : tSI) (sa : tSA) : Option (Int32 × tSI × tSA) :=
  (F_X6_noSheet a1).bind fun r1 => (if r1 = 0 then (F_X6_in (Int32.toInt64 a5) (0 : Int64) (3 : Int64)).bind fun r3 => ((if r3 = 0 then (F_X6_in (Int32.toInt64 a5) (10 : Int64) (15 : Int64)).bind fun r29 => (if r29 = 0 then (F_X6_in (Int32.toInt64 a5) (20 : Int64) (25 : Int64)).bind fun r31 => (if r31 = 0 then some (0 : Int32) else some (1 : Int32)) else some (1 : Int32)) else some (1 : Int32))).bind fun (x4 : Int32) => (F_X6_in (Int32.toInt64 a2) (0 : Int64) (2 : Int64)).bind fun r5 => (if r5 = 0 then (F_X6_refused (-2 : Int32) si sa).bind fun r7 => some (r7.1, r7.2.1, r7.2.2) else (F_X6_in (Int32.toInt64 a4) (0 : Int64) (20 : Int64)).bind fun r8 => (if r8 = 0 then (F_X6_refused (-2 : Int32) si sa).bind fun r10 => some (r10.1, r10.2.1, r10.2.2) else (if x4 = 0 then (F_X6_refused (-2 : Int32) si sa).bind fun r27 => some (r27.1, r27.2.1, r27.2.2) else (if (si 1) = 0 then (F_X6_refused (-3 : Int32) si sa).bind fun r26 => some (r26.1, r26.2.1, r26.2.2) else (F_X6_rowBarred a1 a2 a3 a4 (1 : Int32) si sa).bind fun r13 => (if 0 ≤ r13.1 then (F_X6_goPlan (((60 : Int32) * a1) + a3) a4 r13.2.1 r13.2.2).bind fun r15 => (if a5 ≤ (9 : Int32) then (if a5 = 0 then some ((r15.1 6), r15.1, r15.2) else (if a5 = (1 : Int32) then some ((r15.1 7), r15.1, r15.2) else (if a5 = (2 : Int32) then (F_X6_heapsNow r15.1 r15.2).bind fun r21 => some (r21, r15.1, r15.2) else (F_X6_readyNow r15.1 r15.2).bind fun r20 => some (r20, r15.1, r15.2)))) else dz (10 : Int32) ((F_X6_noSort (a5 - a5 / (10 : Int32) * (10 : Int32)) r15.1 r15.2).bind fun r22 => (if r22 = 0 then (if (20 : Int32) ≤ a5 then (F_X6_leastOf (a5 - a5 / (10 : Int32) * (10 : Int32)) r15.1 r15.2).bind fun r25 => some (r25, r15.1, r15.2) else ld (a5 - a5 / (10 : Int32) * (10 : Int32)) 6 (some (((r15.2 11) (Int32.toNatClampNeg (a5 - a5 / (10 : Int32) * (10 : Int32)))), r15.1, r15.2))) else some ((-9 : Int32), r15.1, r15.2)))) else some (r13.1, r13.2.1, r13.2.2)))))) else (F_X6_refused (-1 : Int32) si sa).bind fun r33 => some (r33.1, r33.2.1, r33.2.2))
set_option maxHeartbeats 4000000 in
set_option maxRecDepth 100000 in
theorem c_X6_plan (l : Launch) (D : va_G) (cA : ClassId) (ad : Nat → Nat) (si : tSI) (sa : tSA) (a1 : Int32) (a2 : Int32) (a3 : Int32) (a4 : Int32) (a5 : Int32) (o : (Int32 × tSI × tSA)) (hF : F_X6_plan a1 a2 a3 a4 a5 si sa = some o) : CG l yX6_plan cX6_plan 9 (some .int) 4 94 D cA [.ref (ad 0), .int a1, .int a2, .int a3, .int a4, .int a5] (WM cA ad si sa) (WM cA ad o.2.1 o.2.2) (some (.int o.1)) := by
  refine CG.ofi (by decide) (Nat.le_of_ble_eq_true rfl) ?_
  intro p ee s m args below meth c A Q H0 ls C0 hA hP hD hS hl hE
  have hl : lv_has ls 9 [(0, .ref (ad 0)), (1, .int a1), (2, .int a2), (3, .int a3), (4, .int a4), (5, .int a5)] := hl
  obtain ⟨hx, hb, hml, hown, ht, hK⟩ := id C0
  unfold F_X6_plan at hF
  refine lv_iload_n hx hb dX6_plan_0 rfl (lv_at hl 1 rfl) ?_
  obtain ⟨r1, hr1, hF⟩ := bd_some hF
  refine kcS (As := [.int a1]) (rest := []) C0 hA hP hD hS (c_X6_noSheet l D cA ad si sa a1 r1 hr1) lk_X6_noSheet q682 q681 hl.1 rfl rfl (Nat.le_of_ble_eq_true rfl) ⟨Nat.le_of_ble_eq_true rfl, Nat.le_of_ble_eq_true rfl⟩ ⟨Nat.le_refl _, Nat.le_refl _⟩ dX6_plan_1 (fun H locs hP hD hS => ?_)
  refine W.eq (g2 := F0 m 4 ls [.int r1]) rfl ?_
  refine lv_if_eq (tgt := 13) hx hb dX6_plan_4 (by decide) (fun c2 => ?_) (fun c2 => ?_)
  · have hF := (if_pos c2).symm.trans hF
    refine lv_iload hx hb dX6_plan_13 (lv_at hl 5 rfl) ?_
    refine lv_i2l hx hb dX6_plan_15 rfl ?_
    refine lv_lconst (v := (0 : Int64)) hx hb dX6_plan_16 (by decide) ?_
    refine lv_ldc2 (v := (3 : Int64)) hx hb hown (ht _ q684) dX6_plan_17 ?_
    obtain ⟨r3, hr3, hF⟩ := bd_some hF
    refine kcS (As := [.long (Int32.toInt64 a5), .long (0 : Int64), .long (3 : Int64)]) (rest := []) C0 hA hP hD hS (c_X6_in l D cA ad si sa (Int32.toInt64 a5) (0 : Int64) (3 : Int64) r3 hr3) lk_X6_in q686 q685 hl.1 rfl rfl (Nat.le_of_ble_eq_true rfl) ⟨Nat.le_of_ble_eq_true rfl, Nat.le_of_ble_eq_true rfl⟩ ⟨Nat.le_refl _, Nat.le_refl _⟩ dX6_plan_20 (fun H locs hP hD hS => ?_)
    refine W.eq (g2 := F0 m 23 ls [.int r3]) rfl ?_
    obtain ⟨x4, hRx4, hF⟩ := bd_some hF
    have Jx4 : ∀ (H : Heap) (locs : List Loc) (ls : Array Slot), va_P D vwCl (WM cA ad si sa) H → va_D A (WM cA ad si sa) → va_S A H0 H locs → lv_has ls 9 [(0, .ref (ad 0)), (1, .int a1), (2, .int a2), (3, .int a3), (4, .int a4), (5, .int a5)] → W p l ee (rmx 4 94) s m args below meth c H locs 0 0 Q (F0 m 61 ls [.int x4]) := by
      intro H locs ls hP hD hS hl
      refine lv_istore (lv' := [(6, .int x4), (0, .ref (ad 0)), (1, .int a1), (2, .int a2), (3, .int a3), (4, .int a4), (5, .int a5)]) hx hb dX6_plan_61 hl (by decide) rfl (fun ls hl => ?_)
      refine lv_iload_n hx hb dX6_plan_63 rfl (lv_at hl 3 rfl) ?_
      refine lv_i2l hx hb dX6_plan_64 rfl ?_
      refine lv_lconst (v := (0 : Int64)) hx hb dX6_plan_65 (by decide) ?_
      refine lv_ldc2 (v := (2 : Int64)) hx hb hown (ht _ q692) dX6_plan_66 ?_
      obtain ⟨r5, hr5, hF⟩ := bd_some hF
      refine kcS (As := [.long (Int32.toInt64 a2), .long (0 : Int64), .long (2 : Int64)]) (rest := []) C0 hA hP hD hS (c_X6_in l D cA ad si sa (Int32.toInt64 a2) (0 : Int64) (2 : Int64) r5 hr5) lk_X6_in q686 q685 hl.1 rfl rfl (Nat.le_of_ble_eq_true rfl) ⟨Nat.le_of_ble_eq_true rfl, Nat.le_of_ble_eq_true rfl⟩ ⟨Nat.le_refl _, Nat.le_refl _⟩ dX6_plan_69 (fun H locs hP hD hS => ?_)
      refine W.eq (g2 := F0 m 72 ls [.int r5]) rfl ?_
      refine lv_if_eq (tgt := 93) hx hb dX6_plan_72 (by decide) (fun c6 => ?_) (fun c6 => ?_)
      · have hF := (if_pos c6).symm.trans hF
        refine lv_aload_n hx hb dX6_plan_93 rfl (lv_at hl 1 rfl) ?_
        refine lv_bipush (v := (-2 : Int32)) hx hb dX6_plan_94 (by decide) ?_
        obtain ⟨r7, hr7, hF⟩ := bd_some hF
        refine kcV (As := [.int (-2 : Int32)]) (rest := []) C0 hA hP hD hS (c_X6_refused l D cA ad si sa (-2 : Int32) r7 hr7) lk_X6_refused q690 s25 q688 0 6 rfl rfl hl.1 rfl rfl (Nat.le_of_ble_eq_true rfl) ⟨Nat.le_of_ble_eq_true rfl, Nat.le_of_ble_eq_true rfl⟩ ⟨Nat.le_refl _, Nat.le_refl _⟩ dX6_plan_96 (fun H locs hP hD hS => ?_)
        refine W.eq (g2 := F0 m 99 ls [.int r7.1]) rfl ?_
        have hF := Option.some.inj hF
        subst hF
        exact hE _ _ _ _ _ hP hD hS dX6_plan_99 rfl rfl
      · have hF := (if_neg c6).symm.trans hF
        refine lv_iload hx hb dX6_plan_75 (lv_at hl 5 rfl) ?_
        refine lv_i2l hx hb dX6_plan_77 rfl ?_
        refine lv_lconst (v := (0 : Int64)) hx hb dX6_plan_78 (by decide) ?_
        refine lv_ldc2 (v := (20 : Int64)) hx hb hown (ht _ q764) dX6_plan_79 ?_
        obtain ⟨r8, hr8, hF⟩ := bd_some hF
        refine kcS (As := [.long (Int32.toInt64 a4), .long (0 : Int64), .long (20 : Int64)]) (rest := []) C0 hA hP hD hS (c_X6_in l D cA ad si sa (Int32.toInt64 a4) (0 : Int64) (20 : Int64) r8 hr8) lk_X6_in q686 q685 hl.1 rfl rfl (Nat.le_of_ble_eq_true rfl) ⟨Nat.le_of_ble_eq_true rfl, Nat.le_of_ble_eq_true rfl⟩ ⟨Nat.le_refl _, Nat.le_refl _⟩ dX6_plan_82 (fun H locs hP hD hS => ?_)
        refine W.eq (g2 := F0 m 85 ls [.int r8]) rfl ?_
        refine lv_if_eq (tgt := 93) hx hb dX6_plan_85 (by decide) (fun c9 => ?_) (fun c9 => ?_)
        · have hF := (if_pos c9).symm.trans hF
          refine lv_aload_n hx hb dX6_plan_93 rfl (lv_at hl 1 rfl) ?_
          refine lv_bipush (v := (-2 : Int32)) hx hb dX6_plan_94 (by decide) ?_
          obtain ⟨r10, hr10, hF⟩ := bd_some hF
          refine kcV (As := [.int (-2 : Int32)]) (rest := []) C0 hA hP hD hS (c_X6_refused l D cA ad si sa (-2 : Int32) r10 hr10) lk_X6_refused q690 s25 q688 0 6 rfl rfl hl.1 rfl rfl (Nat.le_of_ble_eq_true rfl) ⟨Nat.le_of_ble_eq_true rfl, Nat.le_of_ble_eq_true rfl⟩ ⟨Nat.le_refl _, Nat.le_refl _⟩ dX6_plan_96 (fun H locs hP hD hS => ?_)
          refine W.eq (g2 := F0 m 99 ls [.int r10.1]) rfl ?_
          have hF := Option.some.inj hF
          subst hF
          exact hE _ _ _ _ _ hP hD hS dX6_plan_99 rfl rfl
        · have hF := (if_neg c9).symm.trans hF
          refine lv_iload hx hb dX6_plan_88 (lv_at hl 0 rfl) ?_
          refine lv_if_ne (tgt := 100) hx hb dX6_plan_90 (by decide) (fun c11 => ?_) (fun c11 => ?_)
          · have hF := (if_neg c11).symm.trans hF
            refine lv_aload_n hx hb dX6_plan_100 rfl (lv_at hl 1 rfl) ?_
            refine gM0_1 (v := (si 1)) C0 hP rfl q581 dX6_plan_101 ?_
            refine lv_if_ne (tgt := 114) hx hb dX6_plan_104 (by decide) (fun c12 => ?_) (fun c12 => ?_)
            · have hF := (if_neg c12).symm.trans hF
              refine lv_aload_n hx hb dX6_plan_114 rfl (lv_at hl 1 rfl) ?_
              refine lv_iload_n hx hb dX6_plan_115 rfl (lv_at hl 2 rfl) ?_
              refine lv_iload_n hx hb dX6_plan_116 rfl (lv_at hl 3 rfl) ?_
              refine lv_iload_n hx hb dX6_plan_117 rfl (lv_at hl 4 rfl) ?_
              refine lv_iload hx hb dX6_plan_118 (lv_at hl 5 rfl) ?_
              refine lv_iconst (v := (1 : Int32)) hx hb dX6_plan_120 (by decide) ?_
              obtain ⟨r13, hr13, hF⟩ := bd_some hF
              refine kcV (As := [.int a1, .int a2, .int a3, .int a4, .int (1 : Int32)]) (rest := []) C0 hA hP hD hS (c_X6_rowBarred l D cA ad si sa a1 a2 a3 a4 (1 : Int32) r13 hr13) lk_X6_rowBarred q768 s37 q766 0 6 rfl rfl hl.1 rfl rfl (Nat.le_of_ble_eq_true rfl) ⟨Nat.le_of_ble_eq_true rfl, Nat.le_of_ble_eq_true rfl⟩ ⟨Nat.le_refl _, Nat.le_refl _⟩ dX6_plan_121 (fun H locs hP hD hS => ?_)
              refine W.eq (g2 := F0 m 124 ls [.int r13.1]) rfl ?_
              refine lv_istore (lv' := [(7, .int r13.1), (6, .int x4), (0, .ref (ad 0)), (1, .int a1), (2, .int a2), (3, .int a3), (4, .int a4), (5, .int a5)]) hx hb dX6_plan_124 hl (by decide) rfl (fun ls hl => ?_)
              refine lv_iload hx hb dX6_plan_126 (lv_at hl 0 rfl) ?_
              refine lv_if_ge (tgt := 134) hx hb dX6_plan_128 (by decide) (fun c14 => ?_) (fun c14 => ?_)
              · have hF := (if_pos c14).symm.trans hF
                refine lv_aload_n hx hb dX6_plan_134 rfl (lv_at hl 2 rfl) ?_
                refine lv_bipush (v := (60 : Int32)) hx hb dX6_plan_135 (by decide) ?_
                refine lv_iload_n hx hb dX6_plan_137 rfl (lv_at hl 3 rfl) ?_
                refine lv_imul hx hb dX6_plan_138 ?_
                refine lv_iload_n hx hb dX6_plan_139 rfl (lv_at hl 5 rfl) ?_
                refine lv_iadd hx hb dX6_plan_140 ?_
                refine lv_iload hx hb dX6_plan_141 (lv_at hl 6 rfl) ?_
                obtain ⟨r15, hr15, hF⟩ := bd_some hF
                refine kcV (As := [.int (((60 : Int32) * a1) + a3), .int a4]) (rest := []) C0 hA hP hD hS (c_X6_goPlan l D cA ad r13.2.1 r13.2.2 (((60 : Int32) * a1) + a3) a4 r15 hr15) lk_X6_goPlan q772 s38 q770 0 6 rfl rfl hl.1 rfl rfl (Nat.le_of_ble_eq_true rfl) ⟨Nat.le_of_ble_eq_true rfl, Nat.le_of_ble_eq_true rfl⟩ ⟨Nat.le_refl _, Nat.le_refl _⟩ dX6_plan_143 (fun H locs hP hD hS => ?_)
                refine W.eq (g2 := F0 m 146 ls []) rfl ?_
                refine lv_iload hx hb dX6_plan_146 (lv_at hl 7 rfl) ?_
                refine lv_bipush (v := (9 : Int32)) hx hb dX6_plan_148 (by decide) ?_
                refine lv_icmp_le (tgt := 198) hx hb dX6_plan_150 (by decide) (fun c16 => ?_) (fun c16 => ?_)
                · have hF := (if_pos c16).symm.trans hF
                  refine lv_iload hx hb dX6_plan_198 (lv_at hl 7 rfl) ?_
                  refine lv_if_ne (tgt := 210) hx hb dX6_plan_200 (by decide) (fun c17 => ?_) (fun c17 => ?_)
                  · have hF := (if_neg c17).symm.trans hF
                    refine lv_iload hx hb dX6_plan_210 (lv_at hl 7 rfl) ?_
                    refine lv_iconst (v := (1 : Int32)) hx hb dX6_plan_212 (by decide) ?_
                    refine lv_icmp_ne (tgt := 223) hx hb dX6_plan_213 (by decide) (fun c18 => ?_) (fun c18 => ?_)
                    · have hF := (if_neg c18).symm.trans hF
                      refine lv_iload hx hb dX6_plan_223 (lv_at hl 7 rfl) ?_
                      refine lv_iconst (v := (2 : Int32)) hx hb dX6_plan_225 (by decide) ?_
                      refine lv_icmp_ne (tgt := 236) hx hb dX6_plan_226 (by decide) (fun c19 => ?_) (fun c19 => ?_)
                      · have hF := (if_neg c19).symm.trans hF
                        refine lv_aload_n hx hb dX6_plan_236 rfl (lv_at hl 2 rfl) ?_
                        obtain ⟨r20, hr20, hF⟩ := bd_some hF
                        refine kcV (As := []) (rest := []) C0 hA hP hD hS (c_X6_readyNow l D cA ad r15.1 r15.2 r20 hr20) lk_X6_readyNow q803 s45 q801 0 6 rfl rfl hl.1 rfl rfl (Nat.le_of_ble_eq_true rfl) ⟨Nat.le_of_ble_eq_true rfl, Nat.le_of_ble_eq_true rfl⟩ ⟨Nat.le_refl _, Nat.le_refl _⟩ dX6_plan_237 (fun H locs hP hD hS => ?_)
                        refine W.eq (g2 := F0 m 240 ls [.int r20]) rfl ?_
                        have hF := Option.some.inj hF
                        subst hF
                        exact hE _ _ _ _ _ hP hD hS dX6_plan_240 rfl rfl
                      · have hF := (if_pos c19).symm.trans hF
                        refine lv_aload_n hx hb dX6_plan_229 rfl (lv_at hl 2 rfl) ?_
                        obtain ⟨r21, hr21, hF⟩ := bd_some hF
                        refine kcV (As := []) (rest := []) C0 hA hP hD hS (c_X6_heapsNow l D cA ad r15.1 r15.2 r21 hr21) lk_X6_heapsNow q799 s44 q797 0 6 rfl rfl hl.1 rfl rfl (Nat.le_of_ble_eq_true rfl) ⟨Nat.le_of_ble_eq_true rfl, Nat.le_of_ble_eq_true rfl⟩ ⟨Nat.le_refl _, Nat.le_refl _⟩ dX6_plan_230 (fun H locs hP hD hS => ?_)
                        refine W.eq (g2 := F0 m 233 ls [.int r21]) rfl ?_
                        refine lv_goto (tgt := 240) hx hb dX6_plan_233 (by decide) ?_
                        have hF := Option.some.inj hF
                        subst hF
                        exact hE _ _ _ _ _ hP hD hS dX6_plan_240 rfl rfl
                    · have hF := (if_pos c18).symm.trans hF
                      refine lv_aload_n hx hb dX6_plan_216 rfl (lv_at hl 2 rfl) ?_
                      refine gM0_19 (v := (r15.1 7)) C0 hP rfl q599 dX6_plan_217 ?_
                      refine lv_goto (tgt := 240) hx hb dX6_plan_220 (by decide) ?_
                      have hF := Option.some.inj hF
                      subst hF
                      exact hE _ _ _ _ _ hP hD hS dX6_plan_240 rfl rfl
                  · have hF := (if_pos c17).symm.trans hF
                    refine lv_aload_n hx hb dX6_plan_203 rfl (lv_at hl 2 rfl) ?_
                    refine gM0_18 (v := (r15.1 6)) C0 hP rfl q598 dX6_plan_204 ?_
                    refine lv_goto (tgt := 240) hx hb dX6_plan_207 (by decide) ?_
                    have hF := Option.some.inj hF
                    subst hF
                    exact hE _ _ _ _ _ hP hD hS dX6_plan_240 rfl rfl
                · have hF := (if_neg c16).symm.trans hF
                  refine lv_iload hx hb dX6_plan_153 (lv_at hl 7 rfl) ?_
                  refine lv_bipush (v := (10 : Int32)) hx hb dX6_plan_155 (by decide) ?_
                  obtain ⟨hdz, hF⟩ := dz_some hF
                  refine lv_irem hx hb dX6_plan_157 hdz ?_
                  refine lv_istore (lv' := [(8, .int (a5 - a5 / (10 : Int32) * (10 : Int32))), (7, .int r13.1), (6, .int x4), (0, .ref (ad 0)), (1, .int a1), (2, .int a2), (3, .int a3), (4, .int a4), (5, .int a5)]) hx hb dX6_plan_158 hl (by decide) rfl (fun ls hl => ?_)
                  refine lv_aload_n hx hb dX6_plan_160 rfl (lv_at hl 3 rfl) ?_
                  refine lv_iload hx hb dX6_plan_161 (lv_at hl 0 rfl) ?_
                  obtain ⟨r22, hr22, hF⟩ := bd_some hF
                  refine kcV (As := [.int (a5 - a5 / (10 : Int32) * (10 : Int32))]) (rest := []) C0 hA hP hD hS (c_X6_noSort l D cA ad r15.1 r15.2 (a5 - a5 / (10 : Int32) * (10 : Int32)) r22 hr22) lk_X6_noSort q730 s33 q728 0 6 rfl rfl hl.1 rfl rfl (Nat.le_of_ble_eq_true rfl) ⟨Nat.le_of_ble_eq_true rfl, Nat.le_of_ble_eq_true rfl⟩ ⟨Nat.le_refl _, Nat.le_refl _⟩ dX6_plan_163 (fun H locs hP hD hS => ?_)
                  refine W.eq (g2 := F0 m 166 ls [.int r22]) rfl ?_
                  refine lv_if_eq (tgt := 174) hx hb dX6_plan_166 (by decide) (fun c23 => ?_) (fun c23 => ?_)
                  · have hF := (if_pos c23).symm.trans hF
                    refine lv_iload hx hb dX6_plan_174 (lv_at hl 8 rfl) ?_
                    refine lv_bipush (v := (20 : Int32)) hx hb dX6_plan_176 (by decide) ?_
                    refine lv_icmp_ge (tgt := 191) hx hb dX6_plan_178 (by decide) (fun c24 => ?_) (fun c24 => ?_)
                    · have hF := (if_pos c24).symm.trans hF
                      refine lv_aload_n hx hb dX6_plan_191 rfl (lv_at hl 3 rfl) ?_
                      refine lv_iload hx hb dX6_plan_192 (lv_at hl 0 rfl) ?_
                      obtain ⟨r25, hr25, hF⟩ := bd_some hF
                      refine kcV (As := [.int (a5 - a5 / (10 : Int32) * (10 : Int32))]) (rest := []) C0 hA hP hD hS (c_X6_leastOf l D cA ad r15.1 r15.2 (a5 - a5 / (10 : Int32) * (10 : Int32)) r25 hr25) lk_X6_leastOf q795 s43 q793 0 6 rfl rfl hl.1 rfl rfl (Nat.le_of_ble_eq_true rfl) ⟨Nat.le_of_ble_eq_true rfl, Nat.le_of_ble_eq_true rfl⟩ ⟨Nat.le_refl _, Nat.le_refl _⟩ dX6_plan_194 (fun H locs hP hD hS => ?_)
                      refine W.eq (g2 := F0 m 197 ls [.int r25]) rfl ?_
                      have hF := Option.some.inj hF
                      subst hF
                      exact hE _ _ _ _ _ hP hD hS dX6_plan_197 rfl rfl
                    · have hF := (if_neg c24).symm.trans hF
                      refine lv_aload_n hx hb dX6_plan_181 rfl (lv_at hl 3 rfl) ?_
                      refine gM0_17 C0 hP q597 dX6_plan_182 ?_
                      refine lv_iload hx hb dX6_plan_185 (lv_at hl 0 rfl) ?_
                      obtain ⟨hin, hF⟩ := ld_some hF
                      refine aMl11 (f := (r15.2 11)) C0 hP rfl hin dX6_plan_187 ?_
                      refine lv_goto (tgt := 197) hx hb dX6_plan_188 (by decide) ?_
                      have hF := Option.some.inj hF
                      subst hF
                      exact hE _ _ _ _ _ hP hD hS dX6_plan_197 rfl rfl
                  · have hF := (if_neg c23).symm.trans hF
                    refine lv_bipush (v := (-9 : Int32)) hx hb dX6_plan_169 (by decide) ?_
                    refine lv_goto (tgt := 197) hx hb dX6_plan_171 (by decide) ?_
                    have hF := Option.some.inj hF
                    subst hF
                    exact hE _ _ _ _ _ hP hD hS dX6_plan_197 rfl rfl
              · have hF := (if_neg c14).symm.trans hF
                refine lv_iload hx hb dX6_plan_131 (lv_at hl 0 rfl) ?_
                have hF := Option.some.inj hF
                subst hF
                exact hE _ _ _ _ _ hP hD hS dX6_plan_133 rfl rfl
            · have hF := (if_pos c12).symm.trans hF
              refine lv_aload_n hx hb dX6_plan_107 rfl (lv_at hl 1 rfl) ?_
              refine lv_bipush (v := (-3 : Int32)) hx hb dX6_plan_108 (by decide) ?_
              obtain ⟨r26, hr26, hF⟩ := bd_some hF
              refine kcV (As := [.int (-3 : Int32)]) (rest := []) C0 hA hP hD hS (c_X6_refused l D cA ad si sa (-3 : Int32) r26 hr26) lk_X6_refused q690 s25 q688 0 6 rfl rfl hl.1 rfl rfl (Nat.le_of_ble_eq_true rfl) ⟨Nat.le_of_ble_eq_true rfl, Nat.le_of_ble_eq_true rfl⟩ ⟨Nat.le_refl _, Nat.le_refl _⟩ dX6_plan_110 (fun H locs hP hD hS => ?_)
              refine W.eq (g2 := F0 m 113 ls [.int r26.1]) rfl ?_
              have hF := Option.some.inj hF
              subst hF
              exact hE _ _ _ _ _ hP hD hS dX6_plan_113 rfl rfl
          · have hF := (if_pos c11).symm.trans hF
            refine lv_aload_n hx hb dX6_plan_93 rfl (lv_at hl 1 rfl) ?_
            refine lv_bipush (v := (-2 : Int32)) hx hb dX6_plan_94 (by decide) ?_
            obtain ⟨r27, hr27, hF⟩ := bd_some hF
            refine kcV (As := [.int (-2 : Int32)]) (rest := []) C0 hA hP hD hS (c_X6_refused l D cA ad si sa (-2 : Int32) r27 hr27) lk_X6_refused q690 s25 q688 0 6 rfl rfl hl.1 rfl rfl (Nat.le_of_ble_eq_true rfl) ⟨Nat.le_of_ble_eq_true rfl, Nat.le_of_ble_eq_true rfl⟩ ⟨Nat.le_refl _, Nat.le_refl _⟩ dX6_plan_96 (fun H locs hP hD hS => ?_)
            refine W.eq (g2 := F0 m 99 ls [.int r27.1]) rfl ?_
            have hF := Option.some.inj hF
            subst hF
            exact hE _ _ _ _ _ hP hD hS dX6_plan_99 rfl rfl
    have hF := hRx4
    refine lv_if_ne (tgt := 56) hx hb dX6_plan_23 (by decide) (fun c28 => ?_) (fun c28 => ?_)
    · have hF := (if_neg c28).symm.trans hF
      refine lv_iconst (v := (1 : Int32)) hx hb dX6_plan_56 (by decide) ?_
      refine lv_goto (tgt := 61) hx hb dX6_plan_57 (by decide) ?_
      have hF := Option.some.inj hF
      subst hF
      exact Jx4 _ _ _ hP hD hS (lv_sub hl [0, 1, 2, 3, 4, 5] rfl)
    · have hF := (if_pos c28).symm.trans hF
      refine lv_iload hx hb dX6_plan_26 (lv_at hl 5 rfl) ?_
      refine lv_i2l hx hb dX6_plan_28 rfl ?_
      refine lv_ldc2 (v := (10 : Int64)) hx hb hown (ht _ q762) dX6_plan_29 ?_
      refine lv_ldc2 (v := (15 : Int64)) hx hb hown (ht _ q763) dX6_plan_32 ?_
      obtain ⟨r29, hr29, hF⟩ := bd_some hF
      refine kcS (As := [.long (Int32.toInt64 a5), .long (10 : Int64), .long (15 : Int64)]) (rest := []) C0 hA hP hD hS (c_X6_in l D cA ad si sa (Int32.toInt64 a5) (10 : Int64) (15 : Int64) r29 hr29) lk_X6_in q686 q685 hl.1 rfl rfl (Nat.le_of_ble_eq_true rfl) ⟨Nat.le_of_ble_eq_true rfl, Nat.le_of_ble_eq_true rfl⟩ ⟨Nat.le_refl _, Nat.le_refl _⟩ dX6_plan_35 (fun H locs hP hD hS => ?_)
      refine W.eq (g2 := F0 m 38 ls [.int r29]) rfl ?_
      refine lv_if_ne (tgt := 56) hx hb dX6_plan_38 (by decide) (fun c30 => ?_) (fun c30 => ?_)
      · have hF := (if_neg c30).symm.trans hF
        refine lv_iconst (v := (1 : Int32)) hx hb dX6_plan_56 (by decide) ?_
        refine lv_goto (tgt := 61) hx hb dX6_plan_57 (by decide) ?_
        have hF := Option.some.inj hF
        subst hF
        exact Jx4 _ _ _ hP hD hS (lv_sub hl [0, 1, 2, 3, 4, 5] rfl)
      · have hF := (if_pos c30).symm.trans hF
        refine lv_iload hx hb dX6_plan_41 (lv_at hl 5 rfl) ?_
        refine lv_i2l hx hb dX6_plan_43 rfl ?_
        refine lv_ldc2 (v := (20 : Int64)) hx hb hown (ht _ q764) dX6_plan_44 ?_
        refine lv_ldc2 (v := (25 : Int64)) hx hb hown (ht _ q765) dX6_plan_47 ?_
        obtain ⟨r31, hr31, hF⟩ := bd_some hF
        refine kcS (As := [.long (Int32.toInt64 a5), .long (20 : Int64), .long (25 : Int64)]) (rest := []) C0 hA hP hD hS (c_X6_in l D cA ad si sa (Int32.toInt64 a5) (20 : Int64) (25 : Int64) r31 hr31) lk_X6_in q686 q685 hl.1 rfl rfl (Nat.le_of_ble_eq_true rfl) ⟨Nat.le_of_ble_eq_true rfl, Nat.le_of_ble_eq_true rfl⟩ ⟨Nat.le_refl _, Nat.le_refl _⟩ dX6_plan_50 (fun H locs hP hD hS => ?_)
        refine W.eq (g2 := F0 m 53 ls [.int r31]) rfl ?_
        refine lv_if_eq (tgt := 60) hx hb dX6_plan_53 (by decide) (fun c32 => ?_) (fun c32 => ?_)
        · have hF := (if_pos c32).symm.trans hF
          refine lv_iconst (v := (0 : Int32)) hx hb dX6_plan_60 (by decide) ?_
          have hF := Option.some.inj hF
          subst hF
          exact Jx4 _ _ _ hP hD hS (lv_sub hl [0, 1, 2, 3, 4, 5] rfl)
        · have hF := (if_neg c32).symm.trans hF
          refine lv_iconst (v := (1 : Int32)) hx hb dX6_plan_56 (by decide) ?_
          refine lv_goto (tgt := 61) hx hb dX6_plan_57 (by decide) ?_
          have hF := Option.some.inj hF
          subst hF
          exact Jx4 _ _ _ hP hD hS (lv_sub hl [0, 1, 2, 3, 4, 5] rfl)
  · have hF := (if_neg c2).symm.trans hF
    refine lv_aload_n hx hb dX6_plan_7 rfl (lv_at hl 0 rfl) ?_
    refine lv_iconst (v := (-1 : Int32)) hx hb dX6_plan_8 (by decide) ?_
    obtain ⟨r33, hr33, hF⟩ := bd_some hF
    refine kcV (As := [.int (-1 : Int32)]) (rest := []) C0 hA hP hD hS (c_X6_refused l D cA ad si sa (-1 : Int32) r33 hr33) lk_X6_refused q690 s25 q688 0 6 rfl rfl hl.1 rfl rfl (Nat.le_of_ble_eq_true rfl) ⟨Nat.le_of_ble_eq_true rfl, Nat.le_of_ble_eq_true rfl⟩ ⟨Nat.le_refl _, Nat.le_refl _⟩ dX6_plan_9 (fun H locs hP hD hS => ?_)
    refine W.eq (g2 := F0 m 12 ls [.int r33.1]) rfl ?_
    have hF := Option.some.inj hF
    subst hF
    exact hE _ _ _ _ _ hP hD hS dX6_plan_12 rfl rfl
theorem lk_X6_line : LK yX6_line cX6_line 8 (some .int) 4 := ⟨q808, q7, by decide +kernel⟩
def S_X6_line_108 (a4 : Int32) (a1 : Int32) (a3 : Int32) (rec13 : ((Int32 × tSI × tSA) → Option ((Int32 × tSI × tSA) ⊕ (tSI × tSA)))) (t13 : (Int32 × tSI × tSA)) : Option ((Int32 × tSI × tSA) ⊕ (tSI × tSA)) :=
  (if a4 ≤ t13.1 then some (.inr (t13.2.1, t13.2.2)) else ld ((((60 : Int32) * a1) + a3) + t13.1) 240 (ld ((t13.2.2 20) (Int32.toNatClampNeg ((((60 : Int32) * a1) + a3) + t13.1))) 6 (ld ((t13.2.2 20) (Int32.toNatClampNeg ((((60 : Int32) * a1) + a3) + t13.1))) 6 ((if ((t13.2.2 12) (Int32.toNatClampNeg ((t13.2.2 20) (Int32.toNatClampNeg ((((60 : Int32) * a1) + a3) + t13.1))))) = ((t13.2.2 1) (Int32.toNatClampNeg ((t13.2.2 20) (Int32.toNatClampNeg ((((60 : Int32) * a1) + a3) + t13.1))))) then some (.inl (t13.1, t13.2.1, t13.2.2)) else ld ((t13.2.2 20) (Int32.toNatClampNeg ((((60 : Int32) * a1) + a3) + t13.1))) 6 (ld ((t13.2.2 20) (Int32.toNatClampNeg ((((60 : Int32) * a1) + a3) + t13.1))) 6 (rec13 ((t13.1 + 1), t13.2.1, (va_up t13.2.2 12 (upd (t13.2.2 12) (Int32.toNatClampNeg ((t13.2.2 20) (Int32.toNatClampNeg ((((60 : Int32) * a1) + a3) + t13.1)))) (((t13.2.2 12) (Int32.toNatClampNeg ((t13.2.2 20) (Int32.toNatClampNeg ((((60 : Int32) * a1) + a3) + t13.1))))) + (1 : Int32))))))))))))
def S_X6_line_82 (rec11 : ((Int32 × tSI × tSA) → Option (tSI × tSA))) (t11 : (Int32 × tSI × tSA)) : Option (tSI × tSA) :=
  (if (t11.2.1 1) ≤ t11.1 then some (t11.2.1, t11.2.2) else ld t11.1 6 (rec11 ((t11.1 + 1), t11.2.1, (va_up t11.2.2 12 (upd (t11.2.2 12) (Int32.toNatClampNeg t11.1) (0 : Int32))))))
def F_X6_line (a1 : Int32) (a2 : Int32) (a3 : Int32) (a4 : Int32) (si : tSI) (sa : tSA) : Option (Int32 × tSI × tSA) :=
  (F_X6_noSheet a1).bind fun r1 => (if r1 = 0 then (F_X6_in (Int32.toInt64 a2) (0 : Int64) (2 : Int64)).bind fun r3 => (if r3 = 0 then (F_X6_refused (-2 : Int32) si sa).bind fun r5 => some (r5.1, r5.2.1, r5.2.2) else (F_X6_in (Int32.toInt64 a4) (0 : Int64) (60 : Int64)).bind fun r6 => (if r6 = 0 then (F_X6_refused (-2 : Int32) si sa).bind fun r19 => some (r19.1, r19.2.1, r19.2.2) else (if (si 1) = 0 then (F_X6_refused (-3 : Int32) si sa).bind fun r18 => some (r18.1, r18.2.1, r18.2.2) else (F_X6_rowBarred a1 a2 a3 a4 (0 : Int32) si sa).bind fun r9 => (if 0 ≤ r9.1 then (lp S_X6_line_82 100 ((0 : Int32), r9.2.1, r9.2.2)).bind fun (e12 : (tSI × tSA)) => (lp (S_X6_line_108 a4 a1 a3) 100 ((0 : Int32), e12.1, e12.2)).bind (Sum.elim some fun (e14 : (tSI × tSA)) => some ((-9 : Int32), e14.1, e14.2)) else some (r9.1, r9.2.1, r9.2.2))))) else (F_X6_refused (-1 : Int32) si sa).bind fun r20 => some (r20.1, r20.2.1, r20.2.2))
set_option maxHeartbeats 4000000 in
set_option maxRecDepth 100000 in
theorem c_X6_line (l : Launch) (D : va_G) (cA : ClassId) (ad : Nat → Nat) (si : tSI) (sa : tSA) (a1 : Int32) (a2 : Int32) (a3 : Int32) (a4 : Int32) (o : (Int32 × tSI × tSA)) (hF : F_X6_line a1 a2 a3 a4 si sa = some o) : CG l yX6_line cX6_line 8 (some .int) 3 76 D cA [.ref (ad 0), .int a1, .int a2, .int a3, .int a4] (WM cA ad si sa) (WM cA ad o.2.1 o.2.2) (some (.int o.1)) := by
  refine CG.ofi (by decide) (Nat.le_of_ble_eq_true rfl) ?_
  intro p ee s m args below meth c A Q H0 ls C0 hA hP hD hS hl hE
  have hl : lv_has ls 8 [(0, .ref (ad 0)), (1, .int a1), (2, .int a2), (3, .int a3), (4, .int a4)] := hl
  obtain ⟨hx, hb, hml, hown, ht, hK⟩ := id C0
  unfold F_X6_line at hF
  refine lv_iload_n hx hb dX6_line_0 rfl (lv_at hl 1 rfl) ?_
  obtain ⟨r1, hr1, hF⟩ := bd_some hF
  refine kcS (As := [.int a1]) (rest := []) C0 hA hP hD hS (c_X6_noSheet l D cA ad si sa a1 r1 hr1) lk_X6_noSheet q682 q681 hl.1 rfl rfl (Nat.le_of_ble_eq_true rfl) ⟨Nat.le_of_ble_eq_true rfl, Nat.le_of_ble_eq_true rfl⟩ ⟨Nat.le_refl _, Nat.le_refl _⟩ dX6_line_1 (fun H locs hP hD hS => ?_)
  refine W.eq (g2 := F0 m 4 ls [.int r1]) rfl ?_
  refine lv_if_eq (tgt := 13) hx hb dX6_line_4 (by decide) (fun c2 => ?_) (fun c2 => ?_)
  · have hF := (if_pos c2).symm.trans hF
    refine lv_iload_n hx hb dX6_line_13 rfl (lv_at hl 2 rfl) ?_
    refine lv_i2l hx hb dX6_line_14 rfl ?_
    refine lv_lconst (v := (0 : Int64)) hx hb dX6_line_15 (by decide) ?_
    refine lv_ldc2 (v := (2 : Int64)) hx hb hown (ht _ q692) dX6_line_16 ?_
    obtain ⟨r3, hr3, hF⟩ := bd_some hF
    refine kcS (As := [.long (Int32.toInt64 a2), .long (0 : Int64), .long (2 : Int64)]) (rest := []) C0 hA hP hD hS (c_X6_in l D cA ad si sa (Int32.toInt64 a2) (0 : Int64) (2 : Int64) r3 hr3) lk_X6_in q686 q685 hl.1 rfl rfl (Nat.le_of_ble_eq_true rfl) ⟨Nat.le_of_ble_eq_true rfl, Nat.le_of_ble_eq_true rfl⟩ ⟨Nat.le_refl _, Nat.le_refl _⟩ dX6_line_19 (fun H locs hP hD hS => ?_)
    refine W.eq (g2 := F0 m 22 ls [.int r3]) rfl ?_
    refine lv_if_eq (tgt := 38) hx hb dX6_line_22 (by decide) (fun c4 => ?_) (fun c4 => ?_)
    · have hF := (if_pos c4).symm.trans hF
      refine lv_aload_n hx hb dX6_line_38 rfl (lv_at hl 0 rfl) ?_
      refine lv_bipush (v := (-2 : Int32)) hx hb dX6_line_39 (by decide) ?_
      obtain ⟨r5, hr5, hF⟩ := bd_some hF
      refine kcV (As := [.int (-2 : Int32)]) (rest := []) C0 hA hP hD hS (c_X6_refused l D cA ad si sa (-2 : Int32) r5 hr5) lk_X6_refused q690 s25 q688 0 6 rfl rfl hl.1 rfl rfl (Nat.le_of_ble_eq_true rfl) ⟨Nat.le_of_ble_eq_true rfl, Nat.le_of_ble_eq_true rfl⟩ ⟨Nat.le_refl _, Nat.le_refl _⟩ dX6_line_41 (fun H locs hP hD hS => ?_)
      refine W.eq (g2 := F0 m 44 ls [.int r5.1]) rfl ?_
      have hF := Option.some.inj hF
      subst hF
      exact hE _ _ _ _ _ hP hD hS dX6_line_44 rfl rfl
    · have hF := (if_neg c4).symm.trans hF
      refine lv_iload hx hb dX6_line_25 (lv_at hl 4 rfl) ?_
      refine lv_i2l hx hb dX6_line_27 rfl ?_
      refine lv_lconst (v := (0 : Int64)) hx hb dX6_line_28 (by decide) ?_
      refine lv_ldc2 (v := (60 : Int64)) hx hb hown (ht _ q809) dX6_line_29 ?_
      obtain ⟨r6, hr6, hF⟩ := bd_some hF
      refine kcS (As := [.long (Int32.toInt64 a4), .long (0 : Int64), .long (60 : Int64)]) (rest := []) C0 hA hP hD hS (c_X6_in l D cA ad si sa (Int32.toInt64 a4) (0 : Int64) (60 : Int64) r6 hr6) lk_X6_in q686 q685 hl.1 rfl rfl (Nat.le_of_ble_eq_true rfl) ⟨Nat.le_of_ble_eq_true rfl, Nat.le_of_ble_eq_true rfl⟩ ⟨Nat.le_refl _, Nat.le_refl _⟩ dX6_line_32 (fun H locs hP hD hS => ?_)
      refine W.eq (g2 := F0 m 35 ls [.int r6]) rfl ?_
      refine lv_if_ne (tgt := 45) hx hb dX6_line_35 (by decide) (fun c7 => ?_) (fun c7 => ?_)
      · have hF := (if_neg c7).symm.trans hF
        refine lv_aload_n hx hb dX6_line_45 rfl (lv_at hl 0 rfl) ?_
        refine gM0_1 (v := (si 1)) C0 hP rfl q581 dX6_line_46 ?_
        refine lv_if_ne (tgt := 59) hx hb dX6_line_49 (by decide) (fun c8 => ?_) (fun c8 => ?_)
        · have hF := (if_neg c8).symm.trans hF
          refine lv_aload_n hx hb dX6_line_59 rfl (lv_at hl 0 rfl) ?_
          refine lv_iload_n hx hb dX6_line_60 rfl (lv_at hl 1 rfl) ?_
          refine lv_iload_n hx hb dX6_line_61 rfl (lv_at hl 2 rfl) ?_
          refine lv_iload_n hx hb dX6_line_62 rfl (lv_at hl 3 rfl) ?_
          refine lv_iload hx hb dX6_line_63 (lv_at hl 4 rfl) ?_
          refine lv_iconst (v := (0 : Int32)) hx hb dX6_line_65 (by decide) ?_
          obtain ⟨r9, hr9, hF⟩ := bd_some hF
          refine kcV (As := [.int a1, .int a2, .int a3, .int a4, .int (0 : Int32)]) (rest := []) C0 hA hP hD hS (c_X6_rowBarred l D cA ad si sa a1 a2 a3 a4 (0 : Int32) r9 hr9) lk_X6_rowBarred q768 s37 q766 0 6 rfl rfl hl.1 rfl rfl (Nat.le_of_ble_eq_true rfl) ⟨Nat.le_of_ble_eq_true rfl, Nat.le_of_ble_eq_true rfl⟩ ⟨Nat.le_refl _, Nat.le_refl _⟩ dX6_line_66 (fun H locs hP hD hS => ?_)
          refine W.eq (g2 := F0 m 69 ls [.int r9.1]) rfl ?_
          refine lv_istore (lv' := [(5, .int r9.1), (0, .ref (ad 0)), (1, .int a1), (2, .int a2), (3, .int a3), (4, .int a4)]) hx hb dX6_line_69 hl (by decide) rfl (fun ls hl => ?_)
          refine lv_iload hx hb dX6_line_71 (lv_at hl 0 rfl) ?_
          refine lv_if_ge (tgt := 79) hx hb dX6_line_73 (by decide) (fun c10 => ?_) (fun c10 => ?_)
          · have hF := (if_pos c10).symm.trans hF
            refine lv_iconst (v := (0 : Int32)) hx hb dX6_line_79 (by decide) ?_
            refine lv_istore (lv' := [(6, .int (0 : Int32)), (5, .int r9.1), (0, .ref (ad 0)), (1, .int a1), (2, .int a2), (3, .int a3), (4, .int a4)]) hx hb dX6_line_80 hl (by decide) rfl (fun ls hl => ?_)
            obtain ⟨ox11, hL11, hX11⟩ := bd_all hF
            have JE11 : ∀ (e12 : (tSI × tSA)), ox11 = e12 → ∀ (H : Heap) (locs : List Loc) (ls : Array Slot), va_P D vwCl (WM cA ad e12.1 e12.2) H → va_D A (WM cA ad e12.1 e12.2) → va_S A H0 H locs → lv_has ls 8 [(0, .ref (ad 0)), (1, .int a1), (3, .int a3), (4, .int a4)] → W p l ee (rmx 3 76) s m args below meth c H locs 0 0 Q (F0 m 105 ls []) := by
              intro e12 he H locs ls hP hD hS hl
              have hF := hX11 _ he
              refine lv_iconst (v := (0 : Int32)) hx hb dX6_line_105 (by decide) ?_
              refine lv_istore (lv' := [(6, .int (0 : Int32)), (0, .ref (ad 0)), (1, .int a1), (3, .int a3), (4, .int a4)]) hx hb dX6_line_106 hl (by decide) rfl (fun ls hl => ?_)
              obtain ⟨ox13, hL13, hI13, hX13⟩ := bds_all hF
              have JE13 : ∀ (e14 : (tSI × tSA)), ox13 = .inr e14 → ∀ (H : Heap) (locs : List Loc) (ls : Array Slot), va_P D vwCl (WM cA ad e14.1 e14.2) H → va_D A (WM cA ad e14.1 e14.2) → va_S A H0 H locs → lv_has ls 8 [] → W p l ee (rmx 3 76) s m args below meth c H locs 0 0 Q (F0 m 168 ls []) := by
                intro e14 he H locs ls hP hD hS hl
                have hF := hX13 _ he
                refine lv_bipush (v := (-9 : Int32)) hx hb dX6_line_168 (by decide) ?_
                have hF := Option.some.inj hF
                subst hF
                exact hE _ _ _ _ _ hP hD hS dX6_line_170 rfl rfl
              have LP13 : ∀ (k13 : Nat) (t13 : (Int32 × tSI × tSA)), lp (S_X6_line_108 a4 a1 a3) k13 t13 = some ox13 → ∀ (H : Heap) (locs : List Loc) (ls : Array Slot), va_P D vwCl (WM cA ad t13.2.1 t13.2.2) H → va_D A (WM cA ad t13.2.1 t13.2.2) → va_S A H0 H locs → lv_has ls 8 [(6, .int t13.1), (0, .ref (ad 0)), (1, .int a1), (3, .int a3), (4, .int a4)] → W p l ee (rmx 3 76) s m args below meth c H locs 0 0 Q (F0 m 108 ls []) := by
                intro k13
                induction k13 with
                | zero => intro t13 hF; exact (lp_no hF).elim
                | succ k13 ih13 =>
                  intro t13 hF H locs ls hP hD hS hl
                  change (S_X6_line_108 a4 a1 a3) (lp (S_X6_line_108 a4 a1 a3) k13) t13 = some ox13 at hF
                  unfold S_X6_line_108 at hF
                  refine lv_iload hx hb dX6_line_108 (lv_at hl 0 rfl) ?_
                  refine lv_iload hx hb dX6_line_110 (lv_at hl 4 rfl) ?_
                  refine lv_icmp_ge (tgt := 168) hx hb dX6_line_112 (by decide) (fun c15 => ?_) (fun c15 => ?_)
                  · have hF := (if_pos c15).symm.trans hF
                    exact JE13 _ (Option.some.inj hF).symm _ _ _ hP hD hS (lv_sub hl [] rfl)
                  · have hF := (if_neg c15).symm.trans hF
                    refine lv_aload_n hx hb dX6_line_115 rfl (lv_at hl 1 rfl) ?_
                    refine gM0_29 C0 hP q609 dX6_line_116 ?_
                    refine lv_bipush (v := (60 : Int32)) hx hb dX6_line_119 (by decide) ?_
                    refine lv_iload_n hx hb dX6_line_121 rfl (lv_at hl 2 rfl) ?_
                    refine lv_imul hx hb dX6_line_122 ?_
                    refine lv_iload_n hx hb dX6_line_123 rfl (lv_at hl 3 rfl) ?_
                    refine lv_iadd hx hb dX6_line_124 ?_
                    refine lv_iload hx hb dX6_line_125 (lv_at hl 0 rfl) ?_
                    refine lv_iadd hx hb dX6_line_127 ?_
                    obtain ⟨hin, hF⟩ := ld_some hF
                    refine aMl20 (f := (t13.2.2 20)) C0 hP rfl hin dX6_line_128 ?_
                    refine lv_istore (lv' := [(7, .int ((t13.2.2 20) (Int32.toNatClampNeg ((((60 : Int32) * a1) + a3) + t13.1)))), (6, .int t13.1), (0, .ref (ad 0)), (1, .int a1), (3, .int a3), (4, .int a4)]) hx hb dX6_line_129 hl (by decide) rfl (fun ls hl => ?_)
                    refine lv_aload_n hx hb dX6_line_131 rfl (lv_at hl 2 rfl) ?_
                    refine gM0_20 C0 hP q600 dX6_line_132 ?_
                    refine lv_iload hx hb dX6_line_135 (lv_at hl 0 rfl) ?_
                    obtain ⟨hin, hF⟩ := ld_some hF
                    refine aMl12 (f := (t13.2.2 12)) C0 hP rfl hin dX6_line_137 ?_
                    refine lv_aload_n hx hb dX6_line_138 rfl (lv_at hl 2 rfl) ?_
                    refine gM0_3 C0 hP q583 dX6_line_139 ?_
                    refine lv_iload hx hb dX6_line_142 (lv_at hl 0 rfl) ?_
                    obtain ⟨hin, hF⟩ := ld_some hF
                    refine aMl1 (f := (t13.2.2 1)) C0 hP rfl hin dX6_line_144 ?_
                    refine lv_icmp_ne (tgt := 151) hx hb dX6_line_145 (by decide) (fun c16 => ?_) (fun c16 => ?_)
                    · have hF := (if_neg c16).symm.trans hF
                      refine lv_aload_n hx hb dX6_line_151 rfl (lv_at hl 2 rfl) ?_
                      refine gM0_20 C0 hP q600 dX6_line_152 ?_
                      refine lv_iload hx hb dX6_line_155 (lv_at hl 0 rfl) ?_
                      refine lv_dup2_11 hx hb dX6_line_157 rfl rfl ?_
                      obtain ⟨hin, hF⟩ := ld_some hF
                      refine aMl12 (f := (t13.2.2 12)) C0 hP rfl hin dX6_line_158 ?_
                      refine lv_iconst (v := (1 : Int32)) hx hb dX6_line_159 (by decide) ?_
                      refine lv_iadd hx hb dX6_line_160 ?_
                      obtain ⟨hin, hF⟩ := ld_some hF
                      refine aMs12 (f := (t13.2.2 12)) C0 hP hD hS rfl hin dX6_line_161 (fun H locs hP hD hS => ?_)
                      refine lv_iinc (v := (t13.1 + 1)) (lv' := [(6, .int (t13.1 + 1)), (7, .int ((t13.2.2 20) (Int32.toNatClampNeg ((((60 : Int32) * a1) + a3) + t13.1)))), (0, .ref (ad 0)), (1, .int a1), (3, .int a3), (4, .int a4)]) hx hb dX6_line_162 hl (k := 1) rfl rfl (by decide) rfl (fun ls hl => ?_)
                      refine lv_goto (tgt := 108) hx hb dX6_line_165 (by decide) ?_
                      exact ih13 _ hF _ _ _ hP hD hS (lv_sub hl [0, 2, 3, 4, 5] rfl)
                    · have hF := (if_pos c16).symm.trans hF
                      refine lv_iload hx hb dX6_line_148 (lv_at hl 1 rfl) ?_
                      have hF := Option.some.inj hF
                      subst hF
                      have hF := hI13 _ rfl
                      subst hF
                      exact hE _ _ _ _ _ hP hD hS dX6_line_150 rfl rfl
              exact LP13 _ _ hL13 _ _ _ hP hD hS (lv_sub hl [0, 1, 2, 3, 4] rfl)
            have LP11 : ∀ (k11 : Nat) (t11 : (Int32 × tSI × tSA)), lp S_X6_line_82 k11 t11 = some ox11 → ∀ (H : Heap) (locs : List Loc) (ls : Array Slot), va_P D vwCl (WM cA ad t11.2.1 t11.2.2) H → va_D A (WM cA ad t11.2.1 t11.2.2) → va_S A H0 H locs → lv_has ls 8 [(6, .int t11.1), (0, .ref (ad 0)), (1, .int a1), (3, .int a3), (4, .int a4)] → W p l ee (rmx 3 76) s m args below meth c H locs 0 0 Q (F0 m 82 ls []) := by
              intro k11
              induction k11 with
              | zero => intro t11 hF; exact (lp_no hF).elim
              | succ k11 ih11 =>
                intro t11 hF H locs ls hP hD hS hl
                change S_X6_line_82 (lp S_X6_line_82 k11) t11 = some ox11 at hF
                unfold S_X6_line_82 at hF
                refine lv_iload hx hb dX6_line_82 (lv_at hl 0 rfl) ?_
                refine lv_aload_n hx hb dX6_line_84 rfl (lv_at hl 1 rfl) ?_
                refine gM0_1 (v := (t11.2.1 1)) C0 hP rfl q581 dX6_line_85 ?_
                refine lv_icmp_ge (tgt := 105) hx hb dX6_line_88 (by decide) (fun c17 => ?_) (fun c17 => ?_)
                · have hF := (if_pos c17).symm.trans hF
                  exact JE11 _ (Option.some.inj hF).symm _ _ _ hP hD hS (lv_sub hl [1, 2, 3, 4] rfl)
                · have hF := (if_neg c17).symm.trans hF
                  refine lv_aload_n hx hb dX6_line_91 rfl (lv_at hl 1 rfl) ?_
                  refine gM0_20 C0 hP q600 dX6_line_92 ?_
                  refine lv_iload hx hb dX6_line_95 (lv_at hl 0 rfl) ?_
                  refine lv_iconst (v := (0 : Int32)) hx hb dX6_line_97 (by decide) ?_
                  obtain ⟨hin, hF⟩ := ld_some hF
                  refine aMs12 (f := (t11.2.2 12)) C0 hP hD hS rfl hin dX6_line_98 (fun H locs hP hD hS => ?_)
                  refine lv_iinc (v := (t11.1 + 1)) (lv' := [(6, .int (t11.1 + 1)), (0, .ref (ad 0)), (1, .int a1), (3, .int a3), (4, .int a4)]) hx hb dX6_line_99 hl (k := 0) rfl rfl (by decide) rfl (fun ls hl => ?_)
                  refine lv_goto (tgt := 82) hx hb dX6_line_102 (by decide) ?_
                  exact ih11 _ hF _ _ _ hP hD hS (lv_sub hl [0, 1, 2, 3, 4] rfl)
            exact LP11 _ _ hL11 _ _ _ hP hD hS (lv_sub hl [0, 2, 3, 5, 6] rfl)
          · have hF := (if_neg c10).symm.trans hF
            refine lv_iload hx hb dX6_line_76 (lv_at hl 0 rfl) ?_
            have hF := Option.some.inj hF
            subst hF
            exact hE _ _ _ _ _ hP hD hS dX6_line_78 rfl rfl
        · have hF := (if_pos c8).symm.trans hF
          refine lv_aload_n hx hb dX6_line_52 rfl (lv_at hl 0 rfl) ?_
          refine lv_bipush (v := (-3 : Int32)) hx hb dX6_line_53 (by decide) ?_
          obtain ⟨r18, hr18, hF⟩ := bd_some hF
          refine kcV (As := [.int (-3 : Int32)]) (rest := []) C0 hA hP hD hS (c_X6_refused l D cA ad si sa (-3 : Int32) r18 hr18) lk_X6_refused q690 s25 q688 0 6 rfl rfl hl.1 rfl rfl (Nat.le_of_ble_eq_true rfl) ⟨Nat.le_of_ble_eq_true rfl, Nat.le_of_ble_eq_true rfl⟩ ⟨Nat.le_refl _, Nat.le_refl _⟩ dX6_line_55 (fun H locs hP hD hS => ?_)
          refine W.eq (g2 := F0 m 58 ls [.int r18.1]) rfl ?_
          have hF := Option.some.inj hF
          subst hF
          exact hE _ _ _ _ _ hP hD hS dX6_line_58 rfl rfl
      · have hF := (if_pos c7).symm.trans hF
        refine lv_aload_n hx hb dX6_line_38 rfl (lv_at hl 0 rfl) ?_
        refine lv_bipush (v := (-2 : Int32)) hx hb dX6_line_39 (by decide) ?_
        obtain ⟨r19, hr19, hF⟩ := bd_some hF
        refine kcV (As := [.int (-2 : Int32)]) (rest := []) C0 hA hP hD hS (c_X6_refused l D cA ad si sa (-2 : Int32) r19 hr19) lk_X6_refused q690 s25 q688 0 6 rfl rfl hl.1 rfl rfl (Nat.le_of_ble_eq_true rfl) ⟨Nat.le_of_ble_eq_true rfl, Nat.le_of_ble_eq_true rfl⟩ ⟨Nat.le_refl _, Nat.le_refl _⟩ dX6_line_41 (fun H locs hP hD hS => ?_)
        refine W.eq (g2 := F0 m 44 ls [.int r19.1]) rfl ?_
        have hF := Option.some.inj hF
        subst hF
        exact hE _ _ _ _ _ hP hD hS dX6_line_44 rfl rfl
  · have hF := (if_neg c2).symm.trans hF
    refine lv_aload_n hx hb dX6_line_7 rfl (lv_at hl 0 rfl) ?_
    refine lv_iconst (v := (-1 : Int32)) hx hb dX6_line_8 (by decide) ?_
    obtain ⟨r20, hr20, hF⟩ := bd_some hF
    refine kcV (As := [.int (-1 : Int32)]) (rest := []) C0 hA hP hD hS (c_X6_refused l D cA ad si sa (-1 : Int32) r20 hr20) lk_X6_refused q690 s25 q688 0 6 rfl rfl hl.1 rfl rfl (Nat.le_of_ble_eq_true rfl) ⟨Nat.le_of_ble_eq_true rfl, Nat.le_of_ble_eq_true rfl⟩ ⟨Nat.le_refl _, Nat.le_refl _⟩ dX6_line_9 (fun H locs hP hD hS => ?_)
    refine W.eq (g2 := F0 m 12 ls [.int r20.1]) rfl ?_
    have hF := Option.some.inj hF
    subst hF
    exact hE _ _ _ _ _ hP hD hS dX6_line_12 rfl rfl
theorem lk_X6_soon : LK yX6_soon cX6_soon 10 (some .int) 5 := ⟨q813, q7, by decide +kernel⟩
def S_X6_soon_120 (r14 : (tSI × tSA)) (a1 : Int32) (rec15 : ((Int32 × Int32) → Option Int32)) (t15 : (Int32 × Int32)) : Option Int32 :=
  (if (r14.1 1) ≤ t15.1 then some t15.2 else (F_X6_isIn a1 t15.1).bind fun r18 => ((if r18 = 0 then some (0 : Int32) else (if t15.2 < 0 then some (0 : Int32) else ld t15.1 6 ((if ((r14.2 11) (Int32.toNatClampNeg t15.1)) < 0 then some (1 : Int32) else ld t15.1 6 ((if ((r14.2 11) (Int32.toNatClampNeg t15.1)) ≤ t15.2 then some (0 : Int32) else some (1 : Int32)))))))).bind fun (x19 : Int32) => (if x19 = 0 then rec15 ((t15.1 + 1), t15.2) else ld t15.1 6 (rec15 ((t15.1 + 1), ((r14.2 11) (Int32.toNatClampNeg t15.1))))))
def F_X6_soon (a1 : Int32) (a2 : Int32) (a3 : Int32) (a4 : Int32) (a5 : Int32) (si : tSI) (sa : tSA) : Option (Int32 × tSI × tSA) :=
  (F_X6_noSheet a2).bind fun r1 => (if r1 = 0 then (F_X6_in (Int32.toInt64 a3) (0 : Int64) (2 : Int64)).bind fun r3 => (if r3 = 0 then (F_X6_refused (-2 : Int32) si sa).bind fun r5 => some (r5.1, r5.2.1, r5.2.2) else (F_X6_in (Int32.toInt64 a5) (0 : Int64) (20 : Int64)).bind fun r6 => (if r6 = 0 then (F_X6_refused (-2 : Int32) si sa).bind fun r27 => some (r27.1, r27.2.1, r27.2.2) else (if (si 1) = 0 then (F_X6_refused (-3 : Int32) si sa).bind fun r26 => some (r26.1, r26.2.1, r26.2.2) else (F_X6_all si sa).bind fun r9 => (F_X6_in (Int32.toInt64 a1) (0 : Int64) (Int32.toInt64 r9)).bind fun r10 => (if r10 = 0 then (F_X6_refused (-2 : Int32) si sa).bind fun r25 => some (r25.1, r25.2.1, r25.2.2) else (F_X6_rowBarred a2 a3 a4 a5 (1 : Int32) si sa).bind fun r12 => (if 0 ≤ r12.1 then (F_X6_goPlan (((60 : Int32) * a2) + a4) a5 r12.2.1 r12.2.2).bind fun r14 => (lp (S_X6_soon_120 r14 a1) 100 ((0 : Int32), (0 : Int32))).bind fun (e16 : Int32) => some (e16, r14.1, r14.2) else some (r12.1, r12.2.1, r12.2.2)))))) else (F_X6_refused (-1 : Int32) si sa).bind fun r28 => some (r28.1, r28.2.1, r28.2.2))
set_option maxHeartbeats 4000000 in
set_option maxRecDepth 100000 in
theorem c_X6_soon (l : Launch) (D : va_G) (cA : ClassId) (ad : Nat → Nat) (si : tSI) (sa : tSA) (a1 : Int32) (a2 : Int32) (a3 : Int32) (a4 : Int32) (a5 : Int32) (o : (Int32 × tSI × tSA)) (hF : F_X6_soon a1 a2 a3 a4 a5 si sa = some o) : CG l yX6_soon cX6_soon 10 (some .int) 4 94 D cA [.ref (ad 0), .int a1, .int a2, .int a3, .int a4, .int a5] (WM cA ad si sa) (WM cA ad o.2.1 o.2.2) (some (.int o.1)) := by
  refine CG.ofi (by decide) (Nat.le_of_ble_eq_true rfl) ?_
  intro p ee s m args below meth c A Q H0 ls C0 hA hP hD hS hl hE
  have hl : lv_has ls 10 [(0, .ref (ad 0)), (1, .int a1), (2, .int a2), (3, .int a3), (4, .int a4), (5, .int a5)] := hl
  obtain ⟨hx, hb, hml, hown, ht, hK⟩ := id C0
  unfold F_X6_soon at hF
  refine lv_iload_n hx hb dX6_soon_0 rfl (lv_at hl 2 rfl) ?_
  obtain ⟨r1, hr1, hF⟩ := bd_some hF
  refine kcS (As := [.int a2]) (rest := []) C0 hA hP hD hS (c_X6_noSheet l D cA ad si sa a2 r1 hr1) lk_X6_noSheet q682 q681 hl.1 rfl rfl (Nat.le_of_ble_eq_true rfl) ⟨Nat.le_of_ble_eq_true rfl, Nat.le_of_ble_eq_true rfl⟩ ⟨Nat.le_refl _, Nat.le_refl _⟩ dX6_soon_1 (fun H locs hP hD hS => ?_)
  refine W.eq (g2 := F0 m 4 ls [.int r1]) rfl ?_
  refine lv_if_eq (tgt := 13) hx hb dX6_soon_4 (by decide) (fun c2 => ?_) (fun c2 => ?_)
  · have hF := (if_pos c2).symm.trans hF
    refine lv_iload_n hx hb dX6_soon_13 rfl (lv_at hl 3 rfl) ?_
    refine lv_i2l hx hb dX6_soon_14 rfl ?_
    refine lv_lconst (v := (0 : Int64)) hx hb dX6_soon_15 (by decide) ?_
    refine lv_ldc2 (v := (2 : Int64)) hx hb hown (ht _ q692) dX6_soon_16 ?_
    obtain ⟨r3, hr3, hF⟩ := bd_some hF
    refine kcS (As := [.long (Int32.toInt64 a3), .long (0 : Int64), .long (2 : Int64)]) (rest := []) C0 hA hP hD hS (c_X6_in l D cA ad si sa (Int32.toInt64 a3) (0 : Int64) (2 : Int64) r3 hr3) lk_X6_in q686 q685 hl.1 rfl rfl (Nat.le_of_ble_eq_true rfl) ⟨Nat.le_of_ble_eq_true rfl, Nat.le_of_ble_eq_true rfl⟩ ⟨Nat.le_refl _, Nat.le_refl _⟩ dX6_soon_19 (fun H locs hP hD hS => ?_)
    refine W.eq (g2 := F0 m 22 ls [.int r3]) rfl ?_
    refine lv_if_eq (tgt := 38) hx hb dX6_soon_22 (by decide) (fun c4 => ?_) (fun c4 => ?_)
    · have hF := (if_pos c4).symm.trans hF
      refine lv_aload_n hx hb dX6_soon_38 rfl (lv_at hl 0 rfl) ?_
      refine lv_bipush (v := (-2 : Int32)) hx hb dX6_soon_39 (by decide) ?_
      obtain ⟨r5, hr5, hF⟩ := bd_some hF
      refine kcV (As := [.int (-2 : Int32)]) (rest := []) C0 hA hP hD hS (c_X6_refused l D cA ad si sa (-2 : Int32) r5 hr5) lk_X6_refused q690 s25 q688 0 6 rfl rfl hl.1 rfl rfl (Nat.le_of_ble_eq_true rfl) ⟨Nat.le_of_ble_eq_true rfl, Nat.le_of_ble_eq_true rfl⟩ ⟨Nat.le_refl _, Nat.le_refl _⟩ dX6_soon_41 (fun H locs hP hD hS => ?_)
      refine W.eq (g2 := F0 m 44 ls [.int r5.1]) rfl ?_
      have hF := Option.some.inj hF
      subst hF
      exact hE _ _ _ _ _ hP hD hS dX6_soon_44 rfl rfl
    · have hF := (if_neg c4).symm.trans hF
      refine lv_iload hx hb dX6_soon_25 (lv_at hl 5 rfl) ?_
      refine lv_i2l hx hb dX6_soon_27 rfl ?_
      refine lv_lconst (v := (0 : Int64)) hx hb dX6_soon_28 (by decide) ?_
      refine lv_ldc2 (v := (20 : Int64)) hx hb hown (ht _ q764) dX6_soon_29 ?_
      obtain ⟨r6, hr6, hF⟩ := bd_some hF
      refine kcS (As := [.long (Int32.toInt64 a5), .long (0 : Int64), .long (20 : Int64)]) (rest := []) C0 hA hP hD hS (c_X6_in l D cA ad si sa (Int32.toInt64 a5) (0 : Int64) (20 : Int64) r6 hr6) lk_X6_in q686 q685 hl.1 rfl rfl (Nat.le_of_ble_eq_true rfl) ⟨Nat.le_of_ble_eq_true rfl, Nat.le_of_ble_eq_true rfl⟩ ⟨Nat.le_refl _, Nat.le_refl _⟩ dX6_soon_32 (fun H locs hP hD hS => ?_)
      refine W.eq (g2 := F0 m 35 ls [.int r6]) rfl ?_
      refine lv_if_ne (tgt := 45) hx hb dX6_soon_35 (by decide) (fun c7 => ?_) (fun c7 => ?_)
      · have hF := (if_neg c7).symm.trans hF
        refine lv_aload_n hx hb dX6_soon_45 rfl (lv_at hl 0 rfl) ?_
        refine gM0_1 (v := (si 1)) C0 hP rfl q581 dX6_soon_46 ?_
        refine lv_if_ne (tgt := 59) hx hb dX6_soon_49 (by decide) (fun c8 => ?_) (fun c8 => ?_)
        · have hF := (if_neg c8).symm.trans hF
          refine lv_iload_n hx hb dX6_soon_59 rfl (lv_at hl 1 rfl) ?_
          refine lv_i2l hx hb dX6_soon_60 rfl ?_
          refine lv_lconst (v := (0 : Int64)) hx hb dX6_soon_61 (by decide) ?_
          refine lv_aload_n hx hb dX6_soon_62 rfl (lv_at hl 0 rfl) ?_
          obtain ⟨r9, hr9, hF⟩ := bd_some hF
          refine kcV (As := []) (rest := [.long (0 : Int64), .long (Int32.toInt64 a1)]) C0 hA hP hD hS (c_X6_all l D cA ad si sa r9 hr9) lk_X6_all q746 s36 q744 0 6 rfl rfl hl.1 rfl rfl (Nat.le_of_ble_eq_true rfl) ⟨Nat.le_of_ble_eq_true rfl, Nat.le_of_ble_eq_true rfl⟩ ⟨Nat.le_refl _, Nat.le_refl _⟩ dX6_soon_63 (fun H locs hP hD hS => ?_)
          refine W.eq (g2 := F0 m 66 ls [.int r9, .long (0 : Int64), .long (Int32.toInt64 a1)]) rfl ?_
          refine lv_i2l hx hb dX6_soon_66 rfl ?_
          obtain ⟨r10, hr10, hF⟩ := bd_some hF
          refine kcS (As := [.long (Int32.toInt64 a1), .long (0 : Int64), .long (Int32.toInt64 r9)]) (rest := []) C0 hA hP hD hS (c_X6_in l D cA ad si sa (Int32.toInt64 a1) (0 : Int64) (Int32.toInt64 r9) r10 hr10) lk_X6_in q686 q685 hl.1 rfl rfl (Nat.le_of_ble_eq_true rfl) ⟨Nat.le_of_ble_eq_true rfl, Nat.le_of_ble_eq_true rfl⟩ ⟨Nat.le_refl _, Nat.le_refl _⟩ dX6_soon_67 (fun H locs hP hD hS => ?_)
          refine W.eq (g2 := F0 m 70 ls [.int r10]) rfl ?_
          refine lv_if_ne (tgt := 80) hx hb dX6_soon_70 (by decide) (fun c11 => ?_) (fun c11 => ?_)
          · have hF := (if_neg c11).symm.trans hF
            refine lv_aload_n hx hb dX6_soon_80 rfl (lv_at hl 0 rfl) ?_
            refine lv_iload_n hx hb dX6_soon_81 rfl (lv_at hl 2 rfl) ?_
            refine lv_iload_n hx hb dX6_soon_82 rfl (lv_at hl 3 rfl) ?_
            refine lv_iload hx hb dX6_soon_83 (lv_at hl 4 rfl) ?_
            refine lv_iload hx hb dX6_soon_85 (lv_at hl 5 rfl) ?_
            refine lv_iconst (v := (1 : Int32)) hx hb dX6_soon_87 (by decide) ?_
            obtain ⟨r12, hr12, hF⟩ := bd_some hF
            refine kcV (As := [.int a2, .int a3, .int a4, .int a5, .int (1 : Int32)]) (rest := []) C0 hA hP hD hS (c_X6_rowBarred l D cA ad si sa a2 a3 a4 a5 (1 : Int32) r12 hr12) lk_X6_rowBarred q768 s37 q766 0 6 rfl rfl hl.1 rfl rfl (Nat.le_of_ble_eq_true rfl) ⟨Nat.le_of_ble_eq_true rfl, Nat.le_of_ble_eq_true rfl⟩ ⟨Nat.le_refl _, Nat.le_refl _⟩ dX6_soon_88 (fun H locs hP hD hS => ?_)
            refine W.eq (g2 := F0 m 91 ls [.int r12.1]) rfl ?_
            refine lv_istore (lv' := [(6, .int r12.1), (0, .ref (ad 0)), (1, .int a1), (2, .int a2), (3, .int a3), (4, .int a4), (5, .int a5)]) hx hb dX6_soon_91 hl (by decide) rfl (fun ls hl => ?_)
            refine lv_iload hx hb dX6_soon_93 (lv_at hl 0 rfl) ?_
            refine lv_if_ge (tgt := 101) hx hb dX6_soon_95 (by decide) (fun c13 => ?_) (fun c13 => ?_)
            · have hF := (if_pos c13).symm.trans hF
              refine lv_aload_n hx hb dX6_soon_101 rfl (lv_at hl 1 rfl) ?_
              refine lv_bipush (v := (60 : Int32)) hx hb dX6_soon_102 (by decide) ?_
              refine lv_iload_n hx hb dX6_soon_104 rfl (lv_at hl 3 rfl) ?_
              refine lv_imul hx hb dX6_soon_105 ?_
              refine lv_iload hx hb dX6_soon_106 (lv_at hl 5 rfl) ?_
              refine lv_iadd hx hb dX6_soon_108 ?_
              refine lv_iload hx hb dX6_soon_109 (lv_at hl 6 rfl) ?_
              obtain ⟨r14, hr14, hF⟩ := bd_some hF
              refine kcV (As := [.int (((60 : Int32) * a2) + a4), .int a5]) (rest := []) C0 hA hP hD hS (c_X6_goPlan l D cA ad r12.2.1 r12.2.2 (((60 : Int32) * a2) + a4) a5 r14 hr14) lk_X6_goPlan q772 s38 q770 0 6 rfl rfl hl.1 rfl rfl (Nat.le_of_ble_eq_true rfl) ⟨Nat.le_of_ble_eq_true rfl, Nat.le_of_ble_eq_true rfl⟩ ⟨Nat.le_refl _, Nat.le_refl _⟩ dX6_soon_111 (fun H locs hP hD hS => ?_)
              refine W.eq (g2 := F0 m 114 ls []) rfl ?_
              refine lv_iconst (v := (0 : Int32)) hx hb dX6_soon_114 (by decide) ?_
              refine lv_istore (lv' := [(7, .int (0 : Int32)), (6, .int r12.1), (0, .ref (ad 0)), (1, .int a1), (2, .int a2), (3, .int a3), (4, .int a4), (5, .int a5)]) hx hb dX6_soon_115 hl (by decide) rfl (fun ls hl => ?_)
              refine lv_iconst (v := (0 : Int32)) hx hb dX6_soon_117 (by decide) ?_
              refine lv_istore (lv' := [(8, .int (0 : Int32)), (7, .int (0 : Int32)), (6, .int r12.1), (0, .ref (ad 0)), (1, .int a1), (2, .int a2), (3, .int a3), (4, .int a4), (5, .int a5)]) hx hb dX6_soon_118 hl (by decide) rfl (fun ls hl => ?_)
              obtain ⟨ox15, hL15, hX15⟩ := bd_all hF
              have JE15 : ∀ (e16 : Int32), ox15 = e16 → ∀ (H : Heap) (locs : List Loc) (ls : Array Slot), va_P D vwCl (WM cA ad r14.1 r14.2) H → va_D A (WM cA ad r14.1 r14.2) → va_S A H0 H locs → lv_has ls 10 [(7, .int e16)] → W p l ee (rmx 4 94) s m args below meth c H locs 0 0 Q (F0 m 197 ls []) := by
                intro e16 he H locs ls hP hD hS hl
                have hF := hX15 _ he
                refine lv_iload hx hb dX6_soon_197 (lv_at hl 0 rfl) ?_
                have hF := Option.some.inj hF
                subst hF
                exact hE _ _ _ _ _ hP hD hS dX6_soon_199 rfl rfl
              have LP15 : ∀ (k15 : Nat) (t15 : (Int32 × Int32)), lp (S_X6_soon_120 r14 a1) k15 t15 = some ox15 → ∀ (H : Heap) (locs : List Loc) (ls : Array Slot), va_P D vwCl (WM cA ad r14.1 r14.2) H → va_D A (WM cA ad r14.1 r14.2) → va_S A H0 H locs → lv_has ls 10 [(8, .int t15.1), (7, .int t15.2), (0, .ref (ad 0)), (1, .int a1)] → W p l ee (rmx 4 94) s m args below meth c H locs 0 0 Q (F0 m 120 ls []) := by
                intro k15
                induction k15 with
                | zero => intro t15 hF; exact (lp_no hF).elim
                | succ k15 ih15 =>
                  intro t15 hF H locs ls hP hD hS hl
                  change (S_X6_soon_120 r14 a1) (lp (S_X6_soon_120 r14 a1) k15) t15 = some ox15 at hF
                  unfold S_X6_soon_120 at hF
                  refine lv_iload hx hb dX6_soon_120 (lv_at hl 0 rfl) ?_
                  refine lv_aload_n hx hb dX6_soon_122 rfl (lv_at hl 2 rfl) ?_
                  refine gM0_1 (v := (r14.1 1)) C0 hP rfl q581 dX6_soon_123 ?_
                  refine lv_icmp_ge (tgt := 197) hx hb dX6_soon_126 (by decide) (fun c17 => ?_) (fun c17 => ?_)
                  · have hF := (if_pos c17).symm.trans hF
                    exact JE15 _ (Option.some.inj hF).symm _ _ _ hP hD hS (lv_sub hl [1] rfl)
                  · have hF := (if_neg c17).symm.trans hF
                    refine lv_iload_n hx hb dX6_soon_129 rfl (lv_at hl 3 rfl) ?_
                    refine lv_iload hx hb dX6_soon_130 (lv_at hl 0 rfl) ?_
                    obtain ⟨r18, hr18, hF⟩ := bd_some hF
                    refine kcS (As := [.int a1, .int t15.1]) (rest := []) C0 hA hP hD hS (c_X6_isIn l D cA ad r14.1 r14.2 a1 t15.1 r18 hr18) lk_X6_isIn q787 q786 hl.1 rfl rfl (Nat.le_of_ble_eq_true rfl) ⟨Nat.le_of_ble_eq_true rfl, Nat.le_of_ble_eq_true rfl⟩ ⟨Nat.le_refl _, Nat.le_refl _⟩ dX6_soon_132 (fun H locs hP hD hS => ?_)
                    refine W.eq (g2 := F0 m 135 ls [.int r18]) rfl ?_
                    obtain ⟨x19, hRx19, hF⟩ := bd_some hF
                    have Jx19 : ∀ (H : Heap) (locs : List Loc) (ls : Array Slot), va_P D vwCl (WM cA ad r14.1 r14.2) H → va_D A (WM cA ad r14.1 r14.2) → va_S A H0 H locs → lv_has ls 10 [(8, .int t15.1), (7, .int t15.2), (0, .ref (ad 0)), (1, .int a1)] → W p l ee (rmx 4 94) s m args below meth c H locs 0 0 Q (F0 m 170 ls [.int x19]) := by
                      intro H locs ls hP hD hS hl
                      refine lv_istore (lv' := [(9, .int x19), (8, .int t15.1), (7, .int t15.2), (0, .ref (ad 0)), (1, .int a1)]) hx hb dX6_soon_170 hl (by decide) rfl (fun ls hl => ?_)
                      refine lv_iload hx hb dX6_soon_172 (lv_at hl 0 rfl) ?_
                      refine lv_if_eq (tgt := 187) hx hb dX6_soon_174 (by decide) (fun c20 => ?_) (fun c20 => ?_)
                      · have hF := (if_pos c20).symm.trans hF
                        refine lv_iload hx hb dX6_soon_187 (lv_at hl 2 rfl) ?_
                        refine lv_istore (lv' := [(7, .int t15.2), (9, .int x19), (8, .int t15.1), (0, .ref (ad 0)), (1, .int a1)]) hx hb dX6_soon_189 hl (by decide) rfl (fun ls hl => ?_)
                        refine lv_iinc (v := (t15.1 + 1)) (lv' := [(8, .int (t15.1 + 1)), (7, .int t15.2), (9, .int x19), (0, .ref (ad 0)), (1, .int a1)]) hx hb dX6_soon_191 hl (k := 2) rfl rfl (by decide) rfl (fun ls hl => ?_)
                        refine lv_goto (tgt := 120) hx hb dX6_soon_194 (by decide) ?_
                        exact ih15 _ hF _ _ _ hP hD hS (lv_sub hl [0, 1, 3, 4] rfl)
                      · have hF := (if_neg c20).symm.trans hF
                        refine lv_aload_n hx hb dX6_soon_177 rfl (lv_at hl 3 rfl) ?_
                        refine gM0_17 C0 hP q597 dX6_soon_178 ?_
                        refine lv_iload hx hb dX6_soon_181 (lv_at hl 1 rfl) ?_
                        obtain ⟨hin, hF⟩ := ld_some hF
                        refine aMl11 (f := (r14.2 11)) C0 hP rfl hin dX6_soon_183 ?_
                        refine lv_goto (tgt := 189) hx hb dX6_soon_184 (by decide) ?_
                        refine lv_istore (lv' := [(7, .int ((r14.2 11) (Int32.toNatClampNeg t15.1))), (9, .int x19), (8, .int t15.1), (0, .ref (ad 0)), (1, .int a1)]) hx hb dX6_soon_189 hl (by decide) rfl (fun ls hl => ?_)
                        refine lv_iinc (v := (t15.1 + 1)) (lv' := [(8, .int (t15.1 + 1)), (7, .int ((r14.2 11) (Int32.toNatClampNeg t15.1))), (9, .int x19), (0, .ref (ad 0)), (1, .int a1)]) hx hb dX6_soon_191 hl (k := 2) rfl rfl (by decide) rfl (fun ls hl => ?_)
                        refine lv_goto (tgt := 120) hx hb dX6_soon_194 (by decide) ?_
                        exact ih15 _ hF _ _ _ hP hD hS (lv_sub hl [0, 1, 3, 4] rfl)
                    have hF := hRx19
                    refine lv_if_eq (tgt := 169) hx hb dX6_soon_135 (by decide) (fun c21 => ?_) (fun c21 => ?_)
                    · have hF := (if_pos c21).symm.trans hF
                      refine lv_iconst (v := (0 : Int32)) hx hb dX6_soon_169 (by decide) ?_
                      have hF := Option.some.inj hF
                      subst hF
                      exact Jx19 _ _ _ hP hD hS (lv_sub hl [0, 1, 2, 3] rfl)
                    · have hF := (if_neg c21).symm.trans hF
                      refine lv_iload hx hb dX6_soon_138 (lv_at hl 1 rfl) ?_
                      refine lv_if_lt (tgt := 169) hx hb dX6_soon_140 (by decide) (fun c22 => ?_) (fun c22 => ?_)
                      · have hF := (if_pos c22).symm.trans hF
                        refine lv_iconst (v := (0 : Int32)) hx hb dX6_soon_169 (by decide) ?_
                        have hF := Option.some.inj hF
                        subst hF
                        exact Jx19 _ _ _ hP hD hS (lv_sub hl [0, 1, 2, 3] rfl)
                      · have hF := (if_neg c22).symm.trans hF
                        refine lv_aload_n hx hb dX6_soon_143 rfl (lv_at hl 2 rfl) ?_
                        refine gM0_17 C0 hP q597 dX6_soon_144 ?_
                        refine lv_iload hx hb dX6_soon_147 (lv_at hl 0 rfl) ?_
                        obtain ⟨hin, hF⟩ := ld_some hF
                        refine aMl11 (f := (r14.2 11)) C0 hP rfl hin dX6_soon_149 ?_
                        refine lv_if_lt (tgt := 165) hx hb dX6_soon_150 (by decide) (fun c23 => ?_) (fun c23 => ?_)
                        · have hF := (if_pos c23).symm.trans hF
                          refine lv_iconst (v := (1 : Int32)) hx hb dX6_soon_165 (by decide) ?_
                          refine lv_goto (tgt := 170) hx hb dX6_soon_166 (by decide) ?_
                          have hF := Option.some.inj hF
                          subst hF
                          exact Jx19 _ _ _ hP hD hS (lv_sub hl [0, 1, 2, 3] rfl)
                        · have hF := (if_neg c23).symm.trans hF
                          refine lv_aload_n hx hb dX6_soon_153 rfl (lv_at hl 2 rfl) ?_
                          refine gM0_17 C0 hP q597 dX6_soon_154 ?_
                          refine lv_iload hx hb dX6_soon_157 (lv_at hl 0 rfl) ?_
                          obtain ⟨hin, hF⟩ := ld_some hF
                          refine aMl11 (f := (r14.2 11)) C0 hP rfl hin dX6_soon_159 ?_
                          refine lv_iload hx hb dX6_soon_160 (lv_at hl 1 rfl) ?_
                          refine lv_icmp_le (tgt := 169) hx hb dX6_soon_162 (by decide) (fun c24 => ?_) (fun c24 => ?_)
                          · have hF := (if_pos c24).symm.trans hF
                            refine lv_iconst (v := (0 : Int32)) hx hb dX6_soon_169 (by decide) ?_
                            have hF := Option.some.inj hF
                            subst hF
                            exact Jx19 _ _ _ hP hD hS (lv_sub hl [0, 1, 2, 3] rfl)
                          · have hF := (if_neg c24).symm.trans hF
                            refine lv_iconst (v := (1 : Int32)) hx hb dX6_soon_165 (by decide) ?_
                            refine lv_goto (tgt := 170) hx hb dX6_soon_166 (by decide) ?_
                            have hF := Option.some.inj hF
                            subst hF
                            exact Jx19 _ _ _ hP hD hS (lv_sub hl [0, 1, 2, 3] rfl)
              exact LP15 _ _ hL15 _ _ _ hP hD hS (lv_sub hl [0, 1, 3, 4] rfl)
            · have hF := (if_neg c13).symm.trans hF
              refine lv_iload hx hb dX6_soon_98 (lv_at hl 0 rfl) ?_
              have hF := Option.some.inj hF
              subst hF
              exact hE _ _ _ _ _ hP hD hS dX6_soon_100 rfl rfl
          · have hF := (if_pos c11).symm.trans hF
            refine lv_aload_n hx hb dX6_soon_73 rfl (lv_at hl 0 rfl) ?_
            refine lv_bipush (v := (-2 : Int32)) hx hb dX6_soon_74 (by decide) ?_
            obtain ⟨r25, hr25, hF⟩ := bd_some hF
            refine kcV (As := [.int (-2 : Int32)]) (rest := []) C0 hA hP hD hS (c_X6_refused l D cA ad si sa (-2 : Int32) r25 hr25) lk_X6_refused q690 s25 q688 0 6 rfl rfl hl.1 rfl rfl (Nat.le_of_ble_eq_true rfl) ⟨Nat.le_of_ble_eq_true rfl, Nat.le_of_ble_eq_true rfl⟩ ⟨Nat.le_refl _, Nat.le_refl _⟩ dX6_soon_76 (fun H locs hP hD hS => ?_)
            refine W.eq (g2 := F0 m 79 ls [.int r25.1]) rfl ?_
            have hF := Option.some.inj hF
            subst hF
            exact hE _ _ _ _ _ hP hD hS dX6_soon_79 rfl rfl
        · have hF := (if_pos c8).symm.trans hF
          refine lv_aload_n hx hb dX6_soon_52 rfl (lv_at hl 0 rfl) ?_
          refine lv_bipush (v := (-3 : Int32)) hx hb dX6_soon_53 (by decide) ?_
          obtain ⟨r26, hr26, hF⟩ := bd_some hF
          refine kcV (As := [.int (-3 : Int32)]) (rest := []) C0 hA hP hD hS (c_X6_refused l D cA ad si sa (-3 : Int32) r26 hr26) lk_X6_refused q690 s25 q688 0 6 rfl rfl hl.1 rfl rfl (Nat.le_of_ble_eq_true rfl) ⟨Nat.le_of_ble_eq_true rfl, Nat.le_of_ble_eq_true rfl⟩ ⟨Nat.le_refl _, Nat.le_refl _⟩ dX6_soon_55 (fun H locs hP hD hS => ?_)
          refine W.eq (g2 := F0 m 58 ls [.int r26.1]) rfl ?_
          have hF := Option.some.inj hF
          subst hF
          exact hE _ _ _ _ _ hP hD hS dX6_soon_58 rfl rfl
      · have hF := (if_pos c7).symm.trans hF
        refine lv_aload_n hx hb dX6_soon_38 rfl (lv_at hl 0 rfl) ?_
        refine lv_bipush (v := (-2 : Int32)) hx hb dX6_soon_39 (by decide) ?_
        obtain ⟨r27, hr27, hF⟩ := bd_some hF
        refine kcV (As := [.int (-2 : Int32)]) (rest := []) C0 hA hP hD hS (c_X6_refused l D cA ad si sa (-2 : Int32) r27 hr27) lk_X6_refused q690 s25 q688 0 6 rfl rfl hl.1 rfl rfl (Nat.le_of_ble_eq_true rfl) ⟨Nat.le_of_ble_eq_true rfl, Nat.le_of_ble_eq_true rfl⟩ ⟨Nat.le_refl _, Nat.le_refl _⟩ dX6_soon_41 (fun H locs hP hD hS => ?_)
        refine W.eq (g2 := F0 m 44 ls [.int r27.1]) rfl ?_
        have hF := Option.some.inj hF
        subst hF
        exact hE _ _ _ _ _ hP hD hS dX6_soon_44 rfl rfl
  · have hF := (if_neg c2).symm.trans hF
    refine lv_aload_n hx hb dX6_soon_7 rfl (lv_at hl 0 rfl) ?_
    refine lv_iconst (v := (-1 : Int32)) hx hb dX6_soon_8 (by decide) ?_
    obtain ⟨r28, hr28, hF⟩ := bd_some hF
    refine kcV (As := [.int (-1 : Int32)]) (rest := []) C0 hA hP hD hS (c_X6_refused l D cA ad si sa (-1 : Int32) r28 hr28) lk_X6_refused q690 s25 q688 0 6 rfl rfl hl.1 rfl rfl (Nat.le_of_ble_eq_true rfl) ⟨Nat.le_of_ble_eq_true rfl, Nat.le_of_ble_eq_true rfl⟩ ⟨Nat.le_refl _, Nat.le_refl _⟩ dX6_soon_9 (fun H locs hP hD hS => ?_)
    refine W.eq (g2 := F0 m 12 ls [.int r28.1]) rfl ?_
    have hF := Option.some.inj hF
    subst hF
    exact hE _ _ _ _ _ hP hD hS dX6_soon_12 rfl rfl
theorem lk_X6_lengthOf : LK yX6_lengthOf cX6_lengthOf 8 (some .int) 1 := ⟨q823, q7, by decide +kernel⟩
def S_X6_lengthOf_45 (e2 : (tSI × tSA)) (rec3 : ((Int32 × Int32 × Int32 × Int32) → Option (Int32 × Int32))) (t3 : (Int32 × Int32 × Int32 × Int32)) : Option (Int32 × Int32) :=
  (if (5 : Int32) ≤ t3.1 then some (t3.2.1, t3.2.2.2) else ld t3.1 5 (((if t3.2.1 = 0 then some (0 : Int32) else (if (e2.1 2) ≤ ((e2.2 13) (Int32.toNatClampNeg t3.1)) then some (0 : Int32) else (if ((e2.2 13) (Int32.toNatClampNeg t3.1)) < 0 then some (1 : Int32) else (if t3.2.2.2 = t3.1 then (F_X6_isIn t3.2.2.1 ((e2.2 13) (Int32.toNatClampNeg t3.1))).bind fun r15 => (if r15 = 0 then some (1 : Int32) else some (0 : Int32)) else some (0 : Int32)))))).bind fun (x7 : Int32) => ((if 0 ≤ ((e2.2 13) (Int32.toNatClampNeg t3.1)) then some (1 : Int32) else some (0 : Int32))).bind fun (x8 : Int32) => (if 0 ≤ ((e2.2 13) (Int32.toNatClampNeg t3.1)) then rec3 ((t3.1 + 1), x7, (t3.2.2.1 ||| ((1 : Int32) <<< (((e2.2 13) (Int32.toNatClampNeg t3.1)) &&& 31))), (t3.2.2.2 + x8)) else rec3 ((t3.1 + 1), x7, (t3.2.2.1 ||| (0 : Int32)), (t3.2.2.2 + x8)))))
def S_X6_lengthOf_13 (rec1 : ((Int32 × Int32 × tSI × tSA) → Option (tSI × tSA))) (t1 : (Int32 × Int32 × tSI × tSA)) : Option (tSI × tSA) :=
  (if t1.1 < 0 then some (t1.2.2.1, t1.2.2.2) else dz (6 : Int32) (ld t1.1 5 (dz (6 : Int32) (rec1 ((t1.1 + (-1)), (t1.2.1 / (6 : Int32)), t1.2.2.1, (va_up t1.2.2.2 13 (upd (t1.2.2.2 13) (Int32.toNatClampNeg t1.1) ((t1.2.1 - t1.2.1 / (6 : Int32) * (6 : Int32)) - (1 : Int32)))))))))
def F_X6_lengthOf (a1 : Int32) (si : tSI) (sa : tSA) : Option (Int32 × tSI × tSA) :=
  (lp S_X6_lengthOf_13 100 ((4 : Int32), a1, si, sa)).bind fun (e2 : (tSI × tSA)) => (lp (S_X6_lengthOf_45 e2) 100 ((0 : Int32), (1 : Int32), (0 : Int32), (0 : Int32))).bind fun (e4 : (Int32 × Int32)) => (if e4.1 = 0 then some ((-9 : Int32), e2.1, e2.2) else some (e4.2, e2.1, e2.2))
set_option maxHeartbeats 4000000 in
set_option maxRecDepth 100000 in
theorem c_X6_lengthOf (l : Launch) (D : va_G) (cA : ClassId) (ad : Nat → Nat) (si : tSI) (sa : tSA) (a1 : Int32) (o : (Int32 × tSI × tSA)) (hF : F_X6_lengthOf a1 si sa = some o) : CG l yX6_lengthOf cX6_lengthOf 8 (some .int) 1 21 D cA [.ref (ad 0), .int a1] (WM cA ad si sa) (WM cA ad o.2.1 o.2.2) (some (.int o.1)) := by
  refine CG.ofi (by decide) (Nat.le_of_ble_eq_true rfl) ?_
  intro p ee s m args below meth c A Q H0 ls C0 hA hP hD hS hl hE
  have hl : lv_has ls 8 [(0, .ref (ad 0)), (1, .int a1)] := hl
  obtain ⟨hx, hb, hml, hown, ht, hK⟩ := id C0
  unfold F_X6_lengthOf at hF
  refine lv_iload_n hx hb dX6_lengthOf_0 rfl (lv_at hl 1 rfl) ?_
  refine lv_istore_n (lv' := [(2, .int a1), (0, .ref (ad 0)), (1, .int a1)]) hx hb dX6_lengthOf_1 rfl hl (by decide) rfl (fun ls hl => ?_)
  refine lv_iconst (v := (0 : Int32)) hx hb dX6_lengthOf_2 (by decide) ?_
  refine lv_istore_n (lv' := [(3, .int (0 : Int32)), (2, .int a1), (0, .ref (ad 0)), (1, .int a1)]) hx hb dX6_lengthOf_3 rfl hl (by decide) rfl (fun ls hl => ?_)
  refine lv_iconst (v := (0 : Int32)) hx hb dX6_lengthOf_4 (by decide) ?_
  refine lv_istore (lv' := [(4, .int (0 : Int32)), (3, .int (0 : Int32)), (2, .int a1), (0, .ref (ad 0)), (1, .int a1)]) hx hb dX6_lengthOf_5 hl (by decide) rfl (fun ls hl => ?_)
  refine lv_iconst (v := (1 : Int32)) hx hb dX6_lengthOf_7 (by decide) ?_
  refine lv_istore (lv' := [(5, .int (1 : Int32)), (4, .int (0 : Int32)), (3, .int (0 : Int32)), (2, .int a1), (0, .ref (ad 0)), (1, .int a1)]) hx hb dX6_lengthOf_8 hl (by decide) rfl (fun ls hl => ?_)
  refine lv_iconst (v := (4 : Int32)) hx hb dX6_lengthOf_10 (by decide) ?_
  refine lv_istore (lv' := [(6, .int (4 : Int32)), (5, .int (1 : Int32)), (4, .int (0 : Int32)), (3, .int (0 : Int32)), (2, .int a1), (0, .ref (ad 0)), (1, .int a1)]) hx hb dX6_lengthOf_11 hl (by decide) rfl (fun ls hl => ?_)
  obtain ⟨ox1, hL1, hX1⟩ := bd_all hF
  have JE1 : ∀ (e2 : (tSI × tSA)), ox1 = e2 → ∀ (H : Heap) (locs : List Loc) (ls : Array Slot), va_P D vwCl (WM cA ad e2.1 e2.2) H → va_D A (WM cA ad e2.1 e2.2) → va_S A H0 H locs → lv_has ls 8 [(5, .int (1 : Int32)), (4, .int (0 : Int32)), (3, .int (0 : Int32)), (0, .ref (ad 0))] → W p l ee (rmx 1 21) s m args below meth c H locs 0 0 Q (F0 m 42 ls []) := by
    intro e2 he H locs ls hP hD hS hl
    have hF := hX1 _ he
    refine lv_iconst (v := (0 : Int32)) hx hb dX6_lengthOf_42 (by decide) ?_
    refine lv_istore (lv' := [(6, .int (0 : Int32)), (5, .int (1 : Int32)), (4, .int (0 : Int32)), (3, .int (0 : Int32)), (0, .ref (ad 0))]) hx hb dX6_lengthOf_43 hl (by decide) rfl (fun ls hl => ?_)
    obtain ⟨ox3, hL3, hX3⟩ := bd_all hF
    have JE3 : ∀ (e4 : (Int32 × Int32)), ox3 = e4 → ∀ (H : Heap) (locs : List Loc) (ls : Array Slot), va_P D vwCl (WM cA ad e2.1 e2.2) H → va_D A (WM cA ad e2.1 e2.2) → va_S A H0 H locs → lv_has ls 8 [(5, .int e4.1), (3, .int e4.2)] → W p l ee (rmx 1 21) s m args below meth c H locs 0 0 Q (F0 m 139 ls []) := by
      intro e4 he H locs ls hP hD hS hl
      have hF := hX3 _ he
      refine lv_iload hx hb dX6_lengthOf_139 (lv_at hl 0 rfl) ?_
      refine lv_if_eq (tgt := 148) hx hb dX6_lengthOf_141 (by decide) (fun c5 => ?_) (fun c5 => ?_)
      · have hF := (if_pos c5).symm.trans hF
        refine lv_bipush (v := (-9 : Int32)) hx hb dX6_lengthOf_148 (by decide) ?_
        have hF := Option.some.inj hF
        subst hF
        exact hE _ _ _ _ _ hP hD hS dX6_lengthOf_150 rfl rfl
      · have hF := (if_neg c5).symm.trans hF
        refine lv_iload_n hx hb dX6_lengthOf_144 rfl (lv_at hl 1 rfl) ?_
        refine lv_goto (tgt := 150) hx hb dX6_lengthOf_145 (by decide) ?_
        have hF := Option.some.inj hF
        subst hF
        exact hE _ _ _ _ _ hP hD hS dX6_lengthOf_150 rfl rfl
    have LP3 : ∀ (k3 : Nat) (t3 : (Int32 × Int32 × Int32 × Int32)), lp (S_X6_lengthOf_45 e2) k3 t3 = some ox3 → ∀ (H : Heap) (locs : List Loc) (ls : Array Slot), va_P D vwCl (WM cA ad e2.1 e2.2) H → va_D A (WM cA ad e2.1 e2.2) → va_S A H0 H locs → lv_has ls 8 [(6, .int t3.1), (5, .int t3.2.1), (4, .int t3.2.2.1), (3, .int t3.2.2.2), (0, .ref (ad 0))] → W p l ee (rmx 1 21) s m args below meth c H locs 0 0 Q (F0 m 45 ls []) := by
      intro k3
      induction k3 with
      | zero => intro t3 hF; exact (lp_no hF).elim
      | succ k3 ih3 =>
        intro t3 hF H locs ls hP hD hS hl
        change (S_X6_lengthOf_45 e2) (lp (S_X6_lengthOf_45 e2) k3) t3 = some ox3 at hF
        unfold S_X6_lengthOf_45 at hF
        refine lv_iload hx hb dX6_lengthOf_45 (lv_at hl 0 rfl) ?_
        refine lv_iconst (v := (5 : Int32)) hx hb dX6_lengthOf_47 (by decide) ?_
        refine lv_icmp_ge (tgt := 139) hx hb dX6_lengthOf_48 (by decide) (fun c6 => ?_) (fun c6 => ?_)
        · have hF := (if_pos c6).symm.trans hF
          exact JE3 _ (Option.some.inj hF).symm _ _ _ hP hD hS (lv_sub hl [1, 3] rfl)
        · have hF := (if_neg c6).symm.trans hF
          refine lv_aload_n hx hb dX6_lengthOf_51 rfl (lv_at hl 4 rfl) ?_
          refine gM0_21 C0 hP q601 dX6_lengthOf_52 ?_
          refine lv_iload hx hb dX6_lengthOf_55 (lv_at hl 0 rfl) ?_
          obtain ⟨hin, hF⟩ := ld_some hF
          refine aMl13 (f := (e2.2 13)) C0 hP rfl hin dX6_lengthOf_57 ?_
          refine lv_istore (lv' := [(7, .int ((e2.2 13) (Int32.toNatClampNeg t3.1))), (6, .int t3.1), (5, .int t3.2.1), (4, .int t3.2.2.1), (3, .int t3.2.2.2), (0, .ref (ad 0))]) hx hb dX6_lengthOf_58 hl (by decide) rfl (fun ls hl => ?_)
          refine lv_iload hx hb dX6_lengthOf_60 (lv_at hl 2 rfl) ?_
          obtain ⟨x7, hRx7, hF⟩ := bd_some hF
          have Jx7 : ∀ (H : Heap) (locs : List Loc) (ls : Array Slot), va_P D vwCl (WM cA ad e2.1 e2.2) H → va_D A (WM cA ad e2.1 e2.2) → va_S A H0 H locs → lv_has ls 8 [(7, .int ((e2.2 13) (Int32.toNatClampNeg t3.1))), (6, .int t3.1), (4, .int t3.2.2.1), (3, .int t3.2.2.2), (0, .ref (ad 0))] → W p l ee (rmx 1 21) s m args below meth c H locs 0 0 Q (F0 m 100 ls [.int x7]) := by
            intro H locs ls hP hD hS hl
            refine lv_istore (lv' := [(5, .int x7), (7, .int ((e2.2 13) (Int32.toNatClampNeg t3.1))), (6, .int t3.1), (4, .int t3.2.2.1), (3, .int t3.2.2.2), (0, .ref (ad 0))]) hx hb dX6_lengthOf_100 hl (by decide) rfl (fun ls hl => ?_)
            refine lv_iload_n hx hb dX6_lengthOf_102 rfl (lv_at hl 4 rfl) ?_
            refine lv_iload hx hb dX6_lengthOf_103 (lv_at hl 1 rfl) ?_
            obtain ⟨x8, hRx8, hF⟩ := bd_some hF
            have Jx8 : ∀ (H : Heap) (locs : List Loc) (ls : Array Slot), va_P D vwCl (WM cA ad e2.1 e2.2) H → va_D A (WM cA ad e2.1 e2.2) → va_S A H0 H locs → lv_has ls 8 [(5, .int x7), (7, .int ((e2.2 13) (Int32.toNatClampNeg t3.1))), (6, .int t3.1), (4, .int t3.2.2.1), (0, .ref (ad 0))] → W p l ee (rmx 1 21) s m args below meth c H locs 0 0 Q (F0 m 113 ls [.int x8, .int t3.2.2.2]) := by
              intro H locs ls hP hD hS hl
              refine lv_iadd hx hb dX6_lengthOf_113 ?_
              refine lv_istore_n (lv' := [(3, .int (t3.2.2.2 + x8)), (5, .int x7), (7, .int ((e2.2 13) (Int32.toNatClampNeg t3.1))), (6, .int t3.1), (4, .int t3.2.2.1), (0, .ref (ad 0))]) hx hb dX6_lengthOf_114 rfl hl (by decide) rfl (fun ls hl => ?_)
              refine lv_iload hx hb dX6_lengthOf_115 (lv_at hl 4 rfl) ?_
              refine lv_iload hx hb dX6_lengthOf_117 (lv_at hl 2 rfl) ?_
              refine lv_if_ge (tgt := 126) hx hb dX6_lengthOf_119 (by decide) (fun c9 => ?_) (fun c9 => ?_)
              · have hF := (if_pos c9).symm.trans hF
                refine lv_iconst (v := (1 : Int32)) hx hb dX6_lengthOf_126 (by decide) ?_
                refine lv_iload hx hb dX6_lengthOf_127 (lv_at hl 2 rfl) ?_
                refine lv_ishl hx hb dX6_lengthOf_129 ?_
                refine lv_ior hx hb dX6_lengthOf_130 ?_
                refine lv_istore (lv' := [(4, .int (t3.2.2.1 ||| ((1 : Int32) <<< (((e2.2 13) (Int32.toNatClampNeg t3.1)) &&& 31)))), (3, .int (t3.2.2.2 + x8)), (5, .int x7), (7, .int ((e2.2 13) (Int32.toNatClampNeg t3.1))), (6, .int t3.1), (0, .ref (ad 0))]) hx hb dX6_lengthOf_131 hl (by decide) rfl (fun ls hl => ?_)
                refine lv_iinc (v := (t3.1 + 1)) (lv' := [(6, .int (t3.1 + 1)), (4, .int (t3.2.2.1 ||| ((1 : Int32) <<< (((e2.2 13) (Int32.toNatClampNeg t3.1)) &&& 31)))), (3, .int (t3.2.2.2 + x8)), (5, .int x7), (7, .int ((e2.2 13) (Int32.toNatClampNeg t3.1))), (0, .ref (ad 0))]) hx hb dX6_lengthOf_133 hl (k := 4) rfl rfl (by decide) rfl (fun ls hl => ?_)
                refine lv_goto (tgt := 45) hx hb dX6_lengthOf_136 (by decide) ?_
                exact ih3 _ hF _ _ _ hP hD hS (lv_sub hl [0, 3, 1, 2, 5] rfl)
              · have hF := (if_neg c9).symm.trans hF
                refine lv_iconst (v := (0 : Int32)) hx hb dX6_lengthOf_122 (by decide) ?_
                refine lv_goto (tgt := 130) hx hb dX6_lengthOf_123 (by decide) ?_
                refine lv_ior hx hb dX6_lengthOf_130 ?_
                refine lv_istore (lv' := [(4, .int (t3.2.2.1 ||| (0 : Int32))), (3, .int (t3.2.2.2 + x8)), (5, .int x7), (7, .int ((e2.2 13) (Int32.toNatClampNeg t3.1))), (6, .int t3.1), (0, .ref (ad 0))]) hx hb dX6_lengthOf_131 hl (by decide) rfl (fun ls hl => ?_)
                refine lv_iinc (v := (t3.1 + 1)) (lv' := [(6, .int (t3.1 + 1)), (4, .int (t3.2.2.1 ||| (0 : Int32))), (3, .int (t3.2.2.2 + x8)), (5, .int x7), (7, .int ((e2.2 13) (Int32.toNatClampNeg t3.1))), (0, .ref (ad 0))]) hx hb dX6_lengthOf_133 hl (k := 4) rfl rfl (by decide) rfl (fun ls hl => ?_)
                refine lv_goto (tgt := 45) hx hb dX6_lengthOf_136 (by decide) ?_
                exact ih3 _ hF _ _ _ hP hD hS (lv_sub hl [0, 3, 1, 2, 5] rfl)
            have hF := hRx8
            refine lv_if_ge (tgt := 112) hx hb dX6_lengthOf_105 (by decide) (fun c10 => ?_) (fun c10 => ?_)
            · have hF := (if_pos c10).symm.trans hF
              refine lv_iconst (v := (1 : Int32)) hx hb dX6_lengthOf_112 (by decide) ?_
              have hF := Option.some.inj hF
              subst hF
              exact Jx8 _ _ _ hP hD hS (lv_sub hl [0, 1, 2, 3, 5] rfl)
            · have hF := (if_neg c10).symm.trans hF
              refine lv_iconst (v := (0 : Int32)) hx hb dX6_lengthOf_108 (by decide) ?_
              refine lv_goto (tgt := 113) hx hb dX6_lengthOf_109 (by decide) ?_
              have hF := Option.some.inj hF
              subst hF
              exact Jx8 _ _ _ hP hD hS (lv_sub hl [0, 1, 2, 3, 5] rfl)
          have hF := hRx7
          refine lv_if_eq (tgt := 99) hx hb dX6_lengthOf_62 (by decide) (fun c11 => ?_) (fun c11 => ?_)
          · have hF := (if_pos c11).symm.trans hF
            refine lv_iconst (v := (0 : Int32)) hx hb dX6_lengthOf_99 (by decide) ?_
            have hF := Option.some.inj hF
            subst hF
            exact Jx7 _ _ _ hP hD hS (lv_sub hl [0, 1, 3, 4, 5] rfl)
          · have hF := (if_neg c11).symm.trans hF
            refine lv_iload hx hb dX6_lengthOf_65 (lv_at hl 0 rfl) ?_
            refine lv_aload_n hx hb dX6_lengthOf_67 rfl (lv_at hl 5 rfl) ?_
            refine gM0_6 (v := (e2.1 2)) C0 hP rfl q586 dX6_lengthOf_68 ?_
            refine lv_icmp_ge (tgt := 99) hx hb dX6_lengthOf_71 (by decide) (fun c12 => ?_) (fun c12 => ?_)
            · have hF := (if_pos c12).symm.trans hF
              refine lv_iconst (v := (0 : Int32)) hx hb dX6_lengthOf_99 (by decide) ?_
              have hF := Option.some.inj hF
              subst hF
              exact Jx7 _ _ _ hP hD hS (lv_sub hl [0, 1, 3, 4, 5] rfl)
            · have hF := (if_neg c12).symm.trans hF
              refine lv_iload hx hb dX6_lengthOf_74 (lv_at hl 0 rfl) ?_
              refine lv_if_lt (tgt := 95) hx hb dX6_lengthOf_76 (by decide) (fun c13 => ?_) (fun c13 => ?_)
              · have hF := (if_pos c13).symm.trans hF
                refine lv_iconst (v := (1 : Int32)) hx hb dX6_lengthOf_95 (by decide) ?_
                refine lv_goto (tgt := 100) hx hb dX6_lengthOf_96 (by decide) ?_
                have hF := Option.some.inj hF
                subst hF
                exact Jx7 _ _ _ hP hD hS (lv_sub hl [0, 1, 3, 4, 5] rfl)
              · have hF := (if_neg c13).symm.trans hF
                refine lv_iload_n hx hb dX6_lengthOf_79 rfl (lv_at hl 4 rfl) ?_
                refine lv_iload hx hb dX6_lengthOf_80 (lv_at hl 1 rfl) ?_
                refine lv_icmp_ne (tgt := 99) hx hb dX6_lengthOf_82 (by decide) (fun c14 => ?_) (fun c14 => ?_)
                · have hF := (if_neg c14).symm.trans hF
                  refine lv_iconst (v := (0 : Int32)) hx hb dX6_lengthOf_99 (by decide) ?_
                  have hF := Option.some.inj hF
                  subst hF
                  exact Jx7 _ _ _ hP hD hS (lv_sub hl [0, 1, 3, 4, 5] rfl)
                · have hF := (if_pos c14).symm.trans hF
                  refine lv_iload hx hb dX6_lengthOf_85 (lv_at hl 3 rfl) ?_
                  refine lv_iload hx hb dX6_lengthOf_87 (lv_at hl 0 rfl) ?_
                  obtain ⟨r15, hr15, hF⟩ := bd_some hF
                  refine kcS (As := [.int t3.2.2.1, .int ((e2.2 13) (Int32.toNatClampNeg t3.1))]) (rest := []) C0 hA hP hD hS (c_X6_isIn l D cA ad e2.1 e2.2 t3.2.2.1 ((e2.2 13) (Int32.toNatClampNeg t3.1)) r15 hr15) lk_X6_isIn q787 q786 hl.1 rfl rfl (Nat.le_of_ble_eq_true rfl) ⟨Nat.le_of_ble_eq_true rfl, Nat.le_of_ble_eq_true rfl⟩ ⟨Nat.le_refl _, Nat.le_refl _⟩ dX6_lengthOf_89 (fun H locs hP hD hS => ?_)
                  refine W.eq (g2 := F0 m 92 ls [.int r15]) rfl ?_
                  refine lv_if_ne (tgt := 99) hx hb dX6_lengthOf_92 (by decide) (fun c16 => ?_) (fun c16 => ?_)
                  · have hF := (if_neg c16).symm.trans hF
                    refine lv_iconst (v := (0 : Int32)) hx hb dX6_lengthOf_99 (by decide) ?_
                    have hF := Option.some.inj hF
                    subst hF
                    exact Jx7 _ _ _ hP hD hS (lv_sub hl [0, 1, 3, 4, 5] rfl)
                  · have hF := (if_pos c16).symm.trans hF
                    refine lv_iconst (v := (1 : Int32)) hx hb dX6_lengthOf_95 (by decide) ?_
                    refine lv_goto (tgt := 100) hx hb dX6_lengthOf_96 (by decide) ?_
                    have hF := Option.some.inj hF
                    subst hF
                    exact Jx7 _ _ _ hP hD hS (lv_sub hl [0, 1, 3, 4, 5] rfl)
    exact LP3 _ _ hL3 _ _ _ hP hD hS (lv_sub hl [0, 1, 2, 3, 4] rfl)
  have LP1 : ∀ (k1 : Nat) (t1 : (Int32 × Int32 × tSI × tSA)), lp S_X6_lengthOf_13 k1 t1 = some ox1 → ∀ (H : Heap) (locs : List Loc) (ls : Array Slot), va_P D vwCl (WM cA ad t1.2.2.1 t1.2.2.2) H → va_D A (WM cA ad t1.2.2.1 t1.2.2.2) → va_S A H0 H locs → lv_has ls 8 [(6, .int t1.1), (5, .int (1 : Int32)), (4, .int (0 : Int32)), (3, .int (0 : Int32)), (2, .int t1.2.1), (0, .ref (ad 0))] → W p l ee (rmx 1 21) s m args below meth c H locs 0 0 Q (F0 m 13 ls []) := by
    intro k1
    induction k1 with
    | zero => intro t1 hF; exact (lp_no hF).elim
    | succ k1 ih1 =>
      intro t1 hF H locs ls hP hD hS hl
      change S_X6_lengthOf_13 (lp S_X6_lengthOf_13 k1) t1 = some ox1 at hF
      unfold S_X6_lengthOf_13 at hF
      refine lv_iload hx hb dX6_lengthOf_13 (lv_at hl 0 rfl) ?_
      refine lv_if_lt (tgt := 42) hx hb dX6_lengthOf_15 (by decide) (fun c17 => ?_) (fun c17 => ?_)
      · have hF := (if_pos c17).symm.trans hF
        exact JE1 _ (Option.some.inj hF).symm _ _ _ hP hD hS (lv_sub hl [1, 2, 3, 5] rfl)
      · have hF := (if_neg c17).symm.trans hF
        refine lv_aload_n hx hb dX6_lengthOf_18 rfl (lv_at hl 5 rfl) ?_
        refine gM0_21 C0 hP q601 dX6_lengthOf_19 ?_
        refine lv_iload hx hb dX6_lengthOf_22 (lv_at hl 0 rfl) ?_
        refine lv_iload_n hx hb dX6_lengthOf_24 rfl (lv_at hl 4 rfl) ?_
        refine lv_bipush (v := (6 : Int32)) hx hb dX6_lengthOf_25 (by decide) ?_
        obtain ⟨hdz, hF⟩ := dz_some hF
        refine lv_irem hx hb dX6_lengthOf_27 hdz ?_
        refine lv_iconst (v := (1 : Int32)) hx hb dX6_lengthOf_28 (by decide) ?_
        refine lv_isub hx hb dX6_lengthOf_29 ?_
        obtain ⟨hin, hF⟩ := ld_some hF
        refine aMs13 (f := (t1.2.2.2 13)) C0 hP hD hS rfl hin dX6_lengthOf_30 (fun H locs hP hD hS => ?_)
        refine lv_iload_n hx hb dX6_lengthOf_31 rfl (lv_at hl 4 rfl) ?_
        refine lv_bipush (v := (6 : Int32)) hx hb dX6_lengthOf_32 (by decide) ?_
        obtain ⟨hdz, hF⟩ := dz_some hF
        refine lv_idiv hx hb dX6_lengthOf_34 hdz ?_
        refine lv_istore_n (lv' := [(2, .int (t1.2.1 / (6 : Int32))), (6, .int t1.1), (5, .int (1 : Int32)), (4, .int (0 : Int32)), (3, .int (0 : Int32)), (0, .ref (ad 0))]) hx hb dX6_lengthOf_35 rfl hl (by decide) rfl (fun ls hl => ?_)
        refine lv_iinc (v := (t1.1 + (-1))) (lv' := [(6, .int (t1.1 + (-1))), (2, .int (t1.2.1 / (6 : Int32))), (5, .int (1 : Int32)), (4, .int (0 : Int32)), (3, .int (0 : Int32)), (0, .ref (ad 0))]) hx hb dX6_lengthOf_36 hl (k := 1) rfl rfl (by decide) rfl (fun ls hl => ?_)
        refine lv_goto (tgt := 13) hx hb dX6_lengthOf_39 (by decide) ?_
        exact ih1 _ hF _ _ _ hP hD hS (lv_sub hl [0, 2, 3, 4, 1, 5] rfl)
  exact LP1 _ _ hL1 _ _ _ hP hD hS (lv_sub hl [0, 1, 2, 3, 4, 5] rfl)
theorem lk_X6_order : LK yX6_order cX6_order 7 (some .int) 1 := ⟨q817, q7, by decide +kernel⟩
def S_X6_order_58 (r11 : (Int32 × tSI × tSA)) (rec13 : ((Int32 × tSI × tSA) → Option (tSI × tSA))) (t13 : (Int32 × tSI × tSA)) : Option (tSI × tSA) :=
  (if r11.1 ≤ t13.1 then some (t13.2.1, t13.2.2) else ld t13.1 5 ((F_X6_goPass ((t13.2.2 13) (Int32.toNatClampNeg t13.1)) t13.1 t13.2.1 t13.2.2).bind fun r22 => rec13 ((t13.1 + 1), r22.1, r22.2)))
def S_X6_order_35 (rec4 : ((Int32 × Int32 × Int32 × tSI × tSA) → Option (Int32 × Int32 × tSI × tSA))) (t4 : (Int32 × Int32 × Int32 × tSI × tSA)) : Option (Int32 × Int32 × tSI × tSA) :=
  (if (7776 : Int32) ≤ t4.1 then some (t4.2.1, t4.2.2.1, t4.2.2.2.1, t4.2.2.2.2) else (F_X6_lengthOf t4.1 t4.2.2.2.1 t4.2.2.2.2).bind fun r11 => (F_X6_begin r11.2.1 r11.2.2).bind fun r12 => (lp (S_X6_order_58 r11) 100 ((0 : Int32), r12.1, r12.2)).bind fun (e14 : (tSI × tSA)) => (if r11.1 < 0 then rec4 ((t4.1 + 1), t4.2.1, t4.2.2.1, e14.1, e14.2) else (F_X6_readyNow e14.1 e14.2).bind fun r16 => (F_X6_all e14.1 e14.2).bind fun r17 => (if r16 = r17 then (if t4.2.2.1 < 0 then rec4 ((t4.1 + 1), (e14.1 6), t4.1, e14.1, e14.2) else (if t4.2.1 ≤ (e14.1 6) then rec4 ((t4.1 + 1), t4.2.1, t4.2.2.1, e14.1, e14.2) else rec4 ((t4.1 + 1), (e14.1 6), t4.1, e14.1, e14.2))) else rec4 ((t4.1 + 1), t4.2.1, t4.2.2.1, e14.1, e14.2))))
def F_X6_order (a1 : Int32) (si : tSI) (sa : tSA) : Option (Int32 × tSI × tSA) :=
  (F_X6_in (Int32.toInt64 a1) (-1 : Int64) (4 : Int64)).bind fun r1 => (if r1 = 0 then some ((-2 : Int32), si, sa) else (if (si 1) = 0 then some ((-3 : Int32), si, sa) else (lp S_X6_order_35 8000 ((0 : Int32), (0 : Int32), (-9 : Int32), si, sa)).bind fun (e5 : (Int32 × Int32 × tSI × tSA)) => (if 0 ≤ e5.2.1 then (if 0 ≤ a1 then (F_X6_lengthOf e5.2.1 e5.2.2.1 e5.2.2.2).bind fun r8 => (if r8.1 ≤ a1 then some ((-9 : Int32), r8.2.1, r8.2.2) else ld a1 5 (some (((r8.2.2 13) (Int32.toNatClampNeg a1)), r8.2.1, r8.2.2))) else some (e5.1, e5.2.2.1, e5.2.2.2)) else some ((-9 : Int32), e5.2.2.1, e5.2.2.2))))
set_option maxHeartbeats 4000000 in
set_option maxRecDepth 100000 in
theorem c_X6_order (l : Launch) (D : va_G) (cA : ClassId) (ad : Nat → Nat) (si : tSI) (sa : tSA) (a1 : Int32) (o : (Int32 × tSI × tSA)) (hF : F_X6_order a1 si sa = some o) : CG l yX6_order cX6_order 7 (some .int) 3 71 D cA [.ref (ad 0), .int a1] (WM cA ad si sa) (WM cA ad o.2.1 o.2.2) (some (.int o.1)) := by
  refine CG.ofi (by decide) (Nat.le_of_ble_eq_true rfl) ?_
  intro p ee s m args below meth c A Q H0 ls C0 hA hP hD hS hl hE
  have hl : lv_has ls 7 [(0, .ref (ad 0)), (1, .int a1)] := hl
  obtain ⟨hx, hb, hml, hown, ht, hK⟩ := id C0
  unfold F_X6_order at hF
  refine lv_iload_n hx hb dX6_order_0 rfl (lv_at hl 1 rfl) ?_
  refine lv_i2l hx hb dX6_order_1 rfl ?_
  refine lv_ldc2 (v := (-1 : Int64)) hx hb hown (ht _ q818) dX6_order_2 ?_
  refine lv_ldc2 (v := (4 : Int64)) hx hb hown (ht _ q819) dX6_order_5 ?_
  obtain ⟨r1, hr1, hF⟩ := bd_some hF
  refine kcS (As := [.long (Int32.toInt64 a1), .long (-1 : Int64), .long (4 : Int64)]) (rest := []) C0 hA hP hD hS (c_X6_in l D cA ad si sa (Int32.toInt64 a1) (-1 : Int64) (4 : Int64) r1 hr1) lk_X6_in q686 q685 hl.1 rfl rfl (Nat.le_of_ble_eq_true rfl) ⟨Nat.le_of_ble_eq_true rfl, Nat.le_of_ble_eq_true rfl⟩ ⟨Nat.le_refl _, Nat.le_refl _⟩ dX6_order_8 (fun H locs hP hD hS => ?_)
  refine W.eq (g2 := F0 m 11 ls [.int r1]) rfl ?_
  refine lv_if_ne (tgt := 17) hx hb dX6_order_11 (by decide) (fun c2 => ?_) (fun c2 => ?_)
  · have hF := (if_neg c2).symm.trans hF
    refine lv_aload_n hx hb dX6_order_17 rfl (lv_at hl 0 rfl) ?_
    refine gM0_1 (v := (si 1)) C0 hP rfl q581 dX6_order_18 ?_
    refine lv_if_ne (tgt := 27) hx hb dX6_order_21 (by decide) (fun c3 => ?_) (fun c3 => ?_)
    · have hF := (if_neg c3).symm.trans hF
      refine lv_bipush (v := (-9 : Int32)) hx hb dX6_order_27 (by decide) ?_
      refine lv_istore_n (lv' := [(2, .int (-9 : Int32)), (0, .ref (ad 0)), (1, .int a1)]) hx hb dX6_order_29 rfl hl (by decide) rfl (fun ls hl => ?_)
      refine lv_iconst (v := (0 : Int32)) hx hb dX6_order_30 (by decide) ?_
      refine lv_istore_n (lv' := [(3, .int (0 : Int32)), (2, .int (-9 : Int32)), (0, .ref (ad 0)), (1, .int a1)]) hx hb dX6_order_31 rfl hl (by decide) rfl (fun ls hl => ?_)
      refine lv_iconst (v := (0 : Int32)) hx hb dX6_order_32 (by decide) ?_
      refine lv_istore (lv' := [(4, .int (0 : Int32)), (3, .int (0 : Int32)), (2, .int (-9 : Int32)), (0, .ref (ad 0)), (1, .int a1)]) hx hb dX6_order_33 hl (by decide) rfl (fun ls hl => ?_)
      obtain ⟨ox4, hL4, hX4⟩ := bd_all hF
      have JE4 : ∀ (e5 : (Int32 × Int32 × tSI × tSA)), ox4 = e5 → ∀ (H : Heap) (locs : List Loc) (ls : Array Slot), va_P D vwCl (WM cA ad e5.2.2.1 e5.2.2.2) H → va_D A (WM cA ad e5.2.2.1 e5.2.2.2) → va_S A H0 H locs → lv_has ls 7 [(3, .int e5.1), (2, .int e5.2.1), (0, .ref (ad 0)), (1, .int a1)] → W p l ee (rmx 3 71) s m args below meth c H locs 0 0 Q (F0 m 126 ls []) := by
        intro e5 he H locs ls hP hD hS hl
        have hF := hX4 _ he
        refine lv_iload_n hx hb dX6_order_126 rfl (lv_at hl 1 rfl) ?_
        refine lv_if_ge (tgt := 133) hx hb dX6_order_127 (by decide) (fun c6 => ?_) (fun c6 => ?_)
        · have hF := (if_pos c6).symm.trans hF
          refine lv_iload_n hx hb dX6_order_133 rfl (lv_at hl 3 rfl) ?_
          refine lv_if_ge (tgt := 141) hx hb dX6_order_134 (by decide) (fun c7 => ?_) (fun c7 => ?_)
          · have hF := (if_pos c7).symm.trans hF
            refine lv_iload_n hx hb dX6_order_141 rfl (lv_at hl 3 rfl) ?_
            refine lv_aload_n hx hb dX6_order_142 rfl (lv_at hl 2 rfl) ?_
            refine lv_iload_n hx hb dX6_order_143 rfl (lv_at hl 1 rfl) ?_
            obtain ⟨r8, hr8, hF⟩ := bd_some hF
            refine kcV (As := [.int e5.2.1]) (rest := [.int a1]) C0 hA hP hD hS (c_X6_lengthOf l D cA ad e5.2.2.1 e5.2.2.2 e5.2.1 r8 hr8) lk_X6_lengthOf q822 s46 q820 0 6 rfl rfl hl.1 rfl rfl (Nat.le_of_ble_eq_true rfl) ⟨Nat.le_of_ble_eq_true rfl, Nat.le_of_ble_eq_true rfl⟩ ⟨Nat.le_refl _, Nat.le_refl _⟩ dX6_order_144 (fun H locs hP hD hS => ?_)
            refine W.eq (g2 := F0 m 147 ls [.int r8.1, .int a1]) rfl ?_
            refine lv_icmp_ge (tgt := 159) hx hb dX6_order_147 (by decide) (fun c9 => ?_) (fun c9 => ?_)
            · have hF := (if_pos c9).symm.trans hF
              refine lv_bipush (v := (-9 : Int32)) hx hb dX6_order_159 (by decide) ?_
              have hF := Option.some.inj hF
              subst hF
              exact hE _ _ _ _ _ hP hD hS dX6_order_161 rfl rfl
            · have hF := (if_neg c9).symm.trans hF
              refine lv_aload_n hx hb dX6_order_150 rfl (lv_at hl 2 rfl) ?_
              refine gM0_21 C0 hP q601 dX6_order_151 ?_
              refine lv_iload_n hx hb dX6_order_154 rfl (lv_at hl 3 rfl) ?_
              obtain ⟨hin, hF⟩ := ld_some hF
              refine aMl13 (f := (r8.2.2 13)) C0 hP rfl hin dX6_order_155 ?_
              refine lv_goto (tgt := 161) hx hb dX6_order_156 (by decide) ?_
              have hF := Option.some.inj hF
              subst hF
              exact hE _ _ _ _ _ hP hD hS dX6_order_161 rfl rfl
          · have hF := (if_neg c7).symm.trans hF
            refine lv_iload_n hx hb dX6_order_137 rfl (lv_at hl 0 rfl) ?_
            refine lv_goto (tgt := 161) hx hb dX6_order_138 (by decide) ?_
            have hF := Option.some.inj hF
            subst hF
            exact hE _ _ _ _ _ hP hD hS dX6_order_161 rfl rfl
        · have hF := (if_neg c6).symm.trans hF
          refine lv_bipush (v := (-9 : Int32)) hx hb dX6_order_130 (by decide) ?_
          have hF := Option.some.inj hF
          subst hF
          exact hE _ _ _ _ _ hP hD hS dX6_order_132 rfl rfl
      have LP4 : ∀ (k4 : Nat) (t4 : (Int32 × Int32 × Int32 × tSI × tSA)), lp S_X6_order_35 k4 t4 = some ox4 → ∀ (H : Heap) (locs : List Loc) (ls : Array Slot), va_P D vwCl (WM cA ad t4.2.2.2.1 t4.2.2.2.2) H → va_D A (WM cA ad t4.2.2.2.1 t4.2.2.2.2) → va_S A H0 H locs → lv_has ls 7 [(4, .int t4.1), (3, .int t4.2.1), (2, .int t4.2.2.1), (0, .ref (ad 0)), (1, .int a1)] → W p l ee (rmx 3 71) s m args below meth c H locs 0 0 Q (F0 m 35 ls []) := by
        intro k4
        induction k4 with
        | zero => intro t4 hF; exact (lp_no hF).elim
        | succ k4 ih4 =>
          intro t4 hF H locs ls hP hD hS hl
          change S_X6_order_35 (lp S_X6_order_35 k4) t4 = some ox4 at hF
          unfold S_X6_order_35 at hF
          refine lv_iload hx hb dX6_order_35 (lv_at hl 0 rfl) ?_
          refine lv_sipush (v := (7776 : Int32)) hx hb dX6_order_37 (by decide) ?_
          refine lv_icmp_ge (tgt := 126) hx hb dX6_order_40 (by decide) (fun c10 => ?_) (fun c10 => ?_)
          · have hF := (if_pos c10).symm.trans hF
            exact JE4 _ (Option.some.inj hF).symm _ _ _ hP hD hS (lv_sub hl [1, 2, 3, 4] rfl)
          · have hF := (if_neg c10).symm.trans hF
            refine lv_aload_n hx hb dX6_order_43 rfl (lv_at hl 3 rfl) ?_
            refine lv_iload hx hb dX6_order_44 (lv_at hl 0 rfl) ?_
            obtain ⟨r11, hr11, hF⟩ := bd_some hF
            refine kcV (As := [.int t4.1]) (rest := []) C0 hA hP hD hS (c_X6_lengthOf l D cA ad t4.2.2.2.1 t4.2.2.2.2 t4.1 r11 hr11) lk_X6_lengthOf q822 s46 q820 0 6 rfl rfl hl.1 rfl rfl (Nat.le_of_ble_eq_true rfl) ⟨Nat.le_of_ble_eq_true rfl, Nat.le_of_ble_eq_true rfl⟩ ⟨Nat.le_refl _, Nat.le_refl _⟩ dX6_order_46 (fun H locs hP hD hS => ?_)
            refine W.eq (g2 := F0 m 49 ls [.int r11.1]) rfl ?_
            refine lv_istore (lv' := [(5, .int r11.1), (4, .int t4.1), (3, .int t4.2.1), (2, .int t4.2.2.1), (0, .ref (ad 0)), (1, .int a1)]) hx hb dX6_order_49 hl (by decide) rfl (fun ls hl => ?_)
            refine lv_aload_n hx hb dX6_order_51 rfl (lv_at hl 4 rfl) ?_
            obtain ⟨r12, hr12, hF⟩ := bd_some hF
            refine kcV (As := []) (rest := []) C0 hA hP hD hS (c_X6_begin l D cA ad r11.2.1 r11.2.2 r12 hr12) lk_X6_begin q776 s39 q774 0 6 rfl rfl hl.1 rfl rfl (Nat.le_of_ble_eq_true rfl) ⟨Nat.le_of_ble_eq_true rfl, Nat.le_of_ble_eq_true rfl⟩ ⟨Nat.le_refl _, Nat.le_refl _⟩ dX6_order_52 (fun H locs hP hD hS => ?_)
            refine W.eq (g2 := F0 m 55 ls []) rfl ?_
            refine lv_iconst (v := (0 : Int32)) hx hb dX6_order_55 (by decide) ?_
            refine lv_istore (lv' := [(6, .int (0 : Int32)), (5, .int r11.1), (4, .int t4.1), (3, .int t4.2.1), (2, .int t4.2.2.1), (0, .ref (ad 0)), (1, .int a1)]) hx hb dX6_order_56 hl (by decide) rfl (fun ls hl => ?_)
            obtain ⟨ox13, hL13, hX13⟩ := bd_all hF
            have JE13 : ∀ (e14 : (tSI × tSA)), ox13 = e14 → ∀ (H : Heap) (locs : List Loc) (ls : Array Slot), va_P D vwCl (WM cA ad e14.1 e14.2) H → va_D A (WM cA ad e14.1 e14.2) → va_S A H0 H locs → lv_has ls 7 [(5, .int r11.1), (4, .int t4.1), (3, .int t4.2.1), (2, .int t4.2.2.1), (0, .ref (ad 0)), (1, .int a1)] → W p l ee (rmx 3 71) s m args below meth c H locs 0 0 Q (F0 m 84 ls []) := by
              intro e14 he H locs ls hP hD hS hl
              have hF := hX13 _ he
              refine lv_iload hx hb dX6_order_84 (lv_at hl 0 rfl) ?_
              refine lv_if_lt (tgt := 120) hx hb dX6_order_86 (by decide) (fun c15 => ?_) (fun c15 => ?_)
              · have hF := (if_pos c15).symm.trans hF
                refine lv_iinc (v := (t4.1 + 1)) (lv' := [(4, .int (t4.1 + 1)), (5, .int r11.1), (3, .int t4.2.1), (2, .int t4.2.2.1), (0, .ref (ad 0)), (1, .int a1)]) hx hb dX6_order_120 hl (k := 1) rfl rfl (by decide) rfl (fun ls hl => ?_)
                refine lv_goto (tgt := 35) hx hb dX6_order_123 (by decide) ?_
                exact ih4 _ hF _ _ _ hP hD hS (lv_sub hl [0, 2, 3, 4, 5] rfl)
              · have hF := (if_neg c15).symm.trans hF
                refine lv_aload_n hx hb dX6_order_89 rfl (lv_at hl 4 rfl) ?_
                obtain ⟨r16, hr16, hF⟩ := bd_some hF
                refine kcV (As := []) (rest := []) C0 hA hP hD hS (c_X6_readyNow l D cA ad e14.1 e14.2 r16 hr16) lk_X6_readyNow q803 s45 q801 0 6 rfl rfl hl.1 rfl rfl (Nat.le_of_ble_eq_true rfl) ⟨Nat.le_of_ble_eq_true rfl, Nat.le_of_ble_eq_true rfl⟩ ⟨Nat.le_refl _, Nat.le_refl _⟩ dX6_order_90 (fun H locs hP hD hS => ?_)
                refine W.eq (g2 := F0 m 93 ls [.int r16]) rfl ?_
                refine lv_aload_n hx hb dX6_order_93 rfl (lv_at hl 4 rfl) ?_
                obtain ⟨r17, hr17, hF⟩ := bd_some hF
                refine kcV (As := []) (rest := [.int r16]) C0 hA hP hD hS (c_X6_all l D cA ad e14.1 e14.2 r17 hr17) lk_X6_all q746 s36 q744 0 6 rfl rfl hl.1 rfl rfl (Nat.le_of_ble_eq_true rfl) ⟨Nat.le_of_ble_eq_true rfl, Nat.le_of_ble_eq_true rfl⟩ ⟨Nat.le_refl _, Nat.le_refl _⟩ dX6_order_94 (fun H locs hP hD hS => ?_)
                refine W.eq (g2 := F0 m 97 ls [.int r17, .int r16]) rfl ?_
                refine lv_icmp_ne (tgt := 120) hx hb dX6_order_97 (by decide) (fun c18 => ?_) (fun c18 => ?_)
                · have hF := (if_neg c18).symm.trans hF
                  refine lv_iinc (v := (t4.1 + 1)) (lv' := [(4, .int (t4.1 + 1)), (5, .int r11.1), (3, .int t4.2.1), (2, .int t4.2.2.1), (0, .ref (ad 0)), (1, .int a1)]) hx hb dX6_order_120 hl (k := 1) rfl rfl (by decide) rfl (fun ls hl => ?_)
                  refine lv_goto (tgt := 35) hx hb dX6_order_123 (by decide) ?_
                  exact ih4 _ hF _ _ _ hP hD hS (lv_sub hl [0, 2, 3, 4, 5] rfl)
                · have hF := (if_pos c18).symm.trans hF
                  refine lv_iload_n hx hb dX6_order_100 rfl (lv_at hl 3 rfl) ?_
                  refine lv_if_lt (tgt := 112) hx hb dX6_order_101 (by decide) (fun c19 => ?_) (fun c19 => ?_)
                  · have hF := (if_pos c19).symm.trans hF
                    refine lv_iload hx hb dX6_order_112 (lv_at hl 1 rfl) ?_
                    refine lv_istore_n (lv' := [(2, .int t4.1), (5, .int r11.1), (4, .int t4.1), (3, .int t4.2.1), (0, .ref (ad 0)), (1, .int a1)]) hx hb dX6_order_114 rfl hl (by decide) rfl (fun ls hl => ?_)
                    refine lv_aload_n hx hb dX6_order_115 rfl (lv_at hl 4 rfl) ?_
                    refine gM0_18 (v := (e14.1 6)) C0 hP rfl q598 dX6_order_116 ?_
                    refine lv_istore_n (lv' := [(3, .int (e14.1 6)), (2, .int t4.1), (5, .int r11.1), (4, .int t4.1), (0, .ref (ad 0)), (1, .int a1)]) hx hb dX6_order_119 rfl hl (by decide) rfl (fun ls hl => ?_)
                    refine lv_iinc (v := (t4.1 + 1)) (lv' := [(4, .int (t4.1 + 1)), (3, .int (e14.1 6)), (2, .int t4.1), (5, .int r11.1), (0, .ref (ad 0)), (1, .int a1)]) hx hb dX6_order_120 hl (k := 3) rfl rfl (by decide) rfl (fun ls hl => ?_)
                    refine lv_goto (tgt := 35) hx hb dX6_order_123 (by decide) ?_
                    exact ih4 _ hF _ _ _ hP hD hS (lv_sub hl [0, 1, 2, 4, 5] rfl)
                  · have hF := (if_neg c19).symm.trans hF
                    refine lv_aload_n hx hb dX6_order_104 rfl (lv_at hl 4 rfl) ?_
                    refine gM0_18 (v := (e14.1 6)) C0 hP rfl q598 dX6_order_105 ?_
                    refine lv_iload_n hx hb dX6_order_108 rfl (lv_at hl 2 rfl) ?_
                    refine lv_icmp_ge (tgt := 120) hx hb dX6_order_109 (by decide) (fun c20 => ?_) (fun c20 => ?_)
                    · have hF := (if_pos c20).symm.trans hF
                      refine lv_iinc (v := (t4.1 + 1)) (lv' := [(4, .int (t4.1 + 1)), (5, .int r11.1), (3, .int t4.2.1), (2, .int t4.2.2.1), (0, .ref (ad 0)), (1, .int a1)]) hx hb dX6_order_120 hl (k := 1) rfl rfl (by decide) rfl (fun ls hl => ?_)
                      refine lv_goto (tgt := 35) hx hb dX6_order_123 (by decide) ?_
                      exact ih4 _ hF _ _ _ hP hD hS (lv_sub hl [0, 2, 3, 4, 5] rfl)
                    · have hF := (if_neg c20).symm.trans hF
                      refine lv_iload hx hb dX6_order_112 (lv_at hl 1 rfl) ?_
                      refine lv_istore_n (lv' := [(2, .int t4.1), (5, .int r11.1), (4, .int t4.1), (3, .int t4.2.1), (0, .ref (ad 0)), (1, .int a1)]) hx hb dX6_order_114 rfl hl (by decide) rfl (fun ls hl => ?_)
                      refine lv_aload_n hx hb dX6_order_115 rfl (lv_at hl 4 rfl) ?_
                      refine gM0_18 (v := (e14.1 6)) C0 hP rfl q598 dX6_order_116 ?_
                      refine lv_istore_n (lv' := [(3, .int (e14.1 6)), (2, .int t4.1), (5, .int r11.1), (4, .int t4.1), (0, .ref (ad 0)), (1, .int a1)]) hx hb dX6_order_119 rfl hl (by decide) rfl (fun ls hl => ?_)
                      refine lv_iinc (v := (t4.1 + 1)) (lv' := [(4, .int (t4.1 + 1)), (3, .int (e14.1 6)), (2, .int t4.1), (5, .int r11.1), (0, .ref (ad 0)), (1, .int a1)]) hx hb dX6_order_120 hl (k := 3) rfl rfl (by decide) rfl (fun ls hl => ?_)
                      refine lv_goto (tgt := 35) hx hb dX6_order_123 (by decide) ?_
                      exact ih4 _ hF _ _ _ hP hD hS (lv_sub hl [0, 1, 2, 4, 5] rfl)
            have LP13 : ∀ (k13 : Nat) (t13 : (Int32 × tSI × tSA)), lp (S_X6_order_58 r11) k13 t13 = some ox13 → ∀ (H : Heap) (locs : List Loc) (ls : Array Slot), va_P D vwCl (WM cA ad t13.2.1 t13.2.2) H → va_D A (WM cA ad t13.2.1 t13.2.2) → va_S A H0 H locs → lv_has ls 7 [(6, .int t13.1), (5, .int r11.1), (4, .int t4.1), (3, .int t4.2.1), (2, .int t4.2.2.1), (0, .ref (ad 0)), (1, .int a1)] → W p l ee (rmx 3 71) s m args below meth c H locs 0 0 Q (F0 m 58 ls []) := by
              intro k13
              induction k13 with
              | zero => intro t13 hF; exact (lp_no hF).elim
              | succ k13 ih13 =>
                intro t13 hF H locs ls hP hD hS hl
                change (S_X6_order_58 r11) (lp (S_X6_order_58 r11) k13) t13 = some ox13 at hF
                unfold S_X6_order_58 at hF
                refine lv_iload hx hb dX6_order_58 (lv_at hl 0 rfl) ?_
                refine lv_iload hx hb dX6_order_60 (lv_at hl 1 rfl) ?_
                refine lv_icmp_ge (tgt := 84) hx hb dX6_order_62 (by decide) (fun c21 => ?_) (fun c21 => ?_)
                · have hF := (if_pos c21).symm.trans hF
                  exact JE13 _ (Option.some.inj hF).symm _ _ _ hP hD hS (lv_sub hl [1, 2, 3, 4, 5, 6] rfl)
                · have hF := (if_neg c21).symm.trans hF
                  refine lv_aload_n hx hb dX6_order_65 rfl (lv_at hl 5 rfl) ?_
                  refine lv_aload_n hx hb dX6_order_66 rfl (lv_at hl 5 rfl) ?_
                  refine gM0_21 C0 hP q601 dX6_order_67 ?_
                  refine lv_iload hx hb dX6_order_70 (lv_at hl 0 rfl) ?_
                  obtain ⟨hin, hF⟩ := ld_some hF
                  refine aMl13 (f := (t13.2.2 13)) C0 hP rfl hin dX6_order_72 ?_
                  refine lv_iload hx hb dX6_order_73 (lv_at hl 0 rfl) ?_
                  obtain ⟨r22, hr22, hF⟩ := bd_some hF
                  refine kcV (As := [.int ((t13.2.2 13) (Int32.toNatClampNeg t13.1)), .int t13.1]) (rest := []) C0 hA hP hD hS (c_X6_goPass l D cA ad t13.2.1 t13.2.2 ((t13.2.2 13) (Int32.toNatClampNeg t13.1)) t13.1 r22 hr22) lk_X6_goPass q780 s40 q778 0 6 rfl rfl hl.1 rfl rfl (Nat.le_of_ble_eq_true rfl) ⟨Nat.le_of_ble_eq_true rfl, Nat.le_of_ble_eq_true rfl⟩ ⟨Nat.le_refl _, Nat.le_refl _⟩ dX6_order_75 (fun H locs hP hD hS => ?_)
                  refine W.eq (g2 := F0 m 78 ls []) rfl ?_
                  refine lv_iinc (v := (t13.1 + 1)) (lv' := [(6, .int (t13.1 + 1)), (5, .int r11.1), (4, .int t4.1), (3, .int t4.2.1), (2, .int t4.2.2.1), (0, .ref (ad 0)), (1, .int a1)]) hx hb dX6_order_78 hl (k := 0) rfl rfl (by decide) rfl (fun ls hl => ?_)
                  refine lv_goto (tgt := 58) hx hb dX6_order_81 (by decide) ?_
                  exact ih13 _ hF _ _ _ hP hD hS (lv_sub hl [0, 1, 2, 3, 4, 5, 6] rfl)
            exact LP13 _ _ hL13 _ _ _ hP hD hS (lv_sub hl [0, 1, 2, 3, 4, 5, 6] rfl)
      exact LP4 _ _ hL4 _ _ _ hP hD hS (lv_sub hl [0, 1, 2, 3, 4] rfl)
    · have hF := (if_pos c3).symm.trans hF
      refine lv_bipush (v := (-3 : Int32)) hx hb dX6_order_24 (by decide) ?_
      have hF := Option.some.inj hF
      subst hF
      exact hE _ _ _ _ _ hP hD hS dX6_order_26 rfl rfl
  · have hF := (if_pos c2).symm.trans hF
    refine lv_bipush (v := (-2 : Int32)) hx hb dX6_order_14 (by decide) ?_
    have hF := Option.some.inj hF
    subst hF
    exact hE _ _ _ _ _ hP hD hS dX6_order_16 rfl rfl
theorem lk_X6_growTree : LK yX6_growTree cX6_growTree 7 none 1 := ⟨q831, q7, by decide +kernel⟩
def S_X6_growTree_30 (a1 : Int32) (rec2 : ((Int32 × tSI × tSA) → Option (tSI × tSA))) (t2 : (Int32 × tSI × tSA)) : Option (tSI × tSA) :=
  (if (t2.2.1 2) ≤ t2.1 then some (t2.2.1, t2.2.2) else ld a1 64 ((if ((t2.2.2 14) (Int32.toNatClampNeg a1)) = 0 then some (t2.2.1, t2.2.2) else ld t2.1 5 (ld t2.1 5 (((if (a1 &&& ((t2.2.2 4) (Int32.toNatClampNeg t2.1))) = 0 then some (0 : Int32) else (if (a1 &&& (((t2.2.2 4) (Int32.toNatClampNeg t2.1)) ^^^ (-1 : Int32))) = 0 then some (0 : Int32) else ld (a1 &&& ((t2.2.2 4) (Int32.toNatClampNeg t2.1))) 64 ((if ((t2.2.2 14) (Int32.toNatClampNeg (a1 &&& ((t2.2.2 4) (Int32.toNatClampNeg t2.1))))) < 0 then some (0 : Int32) else ld (a1 &&& (((t2.2.2 4) (Int32.toNatClampNeg t2.1)) ^^^ (-1 : Int32))) 64 ((if ((t2.2.2 14) (Int32.toNatClampNeg (a1 &&& (((t2.2.2 4) (Int32.toNatClampNeg t2.1)) ^^^ (-1 : Int32))))) < 0 then some (0 : Int32) else some (1 : Int32)))))))).bind fun (x6 : Int32) => ((if x6 = 0 then some (-9 : Int32) else (F_X6_looksOf a1 t2.2.1 t2.2.2).bind fun r12 => ld (a1 &&& ((t2.2.2 4) (Int32.toNatClampNeg t2.1))) 64 (ld (a1 &&& (((t2.2.2 4) (Int32.toNatClampNeg t2.1)) ^^^ (-1 : Int32))) 64 (some ((r12 + ((t2.2.2 14) (Int32.toNatClampNeg (a1 &&& ((t2.2.2 4) (Int32.toNatClampNeg t2.1)))))) + ((t2.2.2 14) (Int32.toNatClampNeg (a1 &&& (((t2.2.2 4) (Int32.toNatClampNeg t2.1)) ^^^ (-1 : Int32)))))))))).bind fun (x7 : Int32) => (if x6 = 0 then rec2 ((t2.1 + 1), t2.2.1, t2.2.2) else ld a1 64 ((if ((t2.2.2 15) (Int32.toNatClampNeg a1)) < 0 then ld a1 64 (ld a1 64 (rec2 ((t2.1 + 1), t2.2.1, (va_up (va_up t2.2.2 14 (upd (t2.2.2 14) (Int32.toNatClampNeg a1) x7)) 15 (upd (t2.2.2 15) (Int32.toNatClampNeg a1) t2.1))))) else ld a1 64 ((if ((t2.2.2 14) (Int32.toNatClampNeg a1)) ≤ x7 then rec2 ((t2.1 + 1), t2.2.1, t2.2.2) else ld a1 64 (ld a1 64 (rec2 ((t2.1 + 1), t2.2.1, (va_up (va_up t2.2.2 14 (upd (t2.2.2 14) (Int32.toNatClampNeg a1) x7)) 15 (upd (t2.2.2 15) (Int32.toNatClampNeg a1) t2.1)))))))))))))))
def F_X6_growTree (a1 : Int32) (si : tSI) (sa : tSA) : Option (tSI × tSA) :=
  ((if (a1 &&& (a1 - (1 : Int32))) = 0 then some (0 : Int32) else some (-9 : Int32))).bind fun (x1 : Int32) => ld a1 64 (ld a1 64 ((lp (S_X6_growTree_30 a1) 100 ((0 : Int32), si, (va_up (va_up sa 14 (upd (sa 14) (Int32.toNatClampNeg a1) x1)) 15 (upd (sa 15) (Int32.toNatClampNeg a1) (-9 : Int32))))).bind fun (e3 : (tSI × tSA)) => some (e3.1, e3.2)))
set_option maxHeartbeats 4000000 in
set_option maxRecDepth 100000 in
theorem c_X6_growTree (l : Launch) (D : va_G) (cA : ClassId) (ad : Nat → Nat) (si : tSI) (sa : tSA) (a1 : Int32) (o : (tSI × tSA)) (hF : F_X6_growTree a1 si sa = some o) : CG l yX6_growTree cX6_growTree 7 none 2 45 D cA [.ref (ad 0), .int a1] (WM cA ad si sa) (WM cA ad o.1 o.2) none := by
  refine CG.ofv (by decide) (Nat.le_of_ble_eq_true rfl) ?_
  intro p ee s m args below meth c A Q H0 ls C0 hA hP hD hS hl hE
  have hl : lv_has ls 7 [(0, .ref (ad 0)), (1, .int a1)] := hl
  obtain ⟨hx, hb, hml, hown, ht, hK⟩ := id C0
  unfold F_X6_growTree at hF
  refine lv_aload_n hx hb dX6_growTree_0 rfl (lv_at hl 0 rfl) ?_
  refine gM0_22 C0 hP q602 dX6_growTree_1 ?_
  refine lv_iload_n hx hb dX6_growTree_4 rfl (lv_at hl 1 rfl) ?_
  refine lv_iload_n hx hb dX6_growTree_5 rfl (lv_at hl 1 rfl) ?_
  refine lv_iload_n hx hb dX6_growTree_6 rfl (lv_at hl 1 rfl) ?_
  refine lv_iconst (v := (1 : Int32)) hx hb dX6_growTree_7 (by decide) ?_
  refine lv_isub hx hb dX6_growTree_8 ?_
  refine lv_iand hx hb dX6_growTree_9 ?_
  obtain ⟨x1, hRx1, hF⟩ := bd_some hF
  have Jx1 : ∀ (H : Heap) (locs : List Loc) (ls : Array Slot), va_P D vwCl (WM cA ad si sa) H → va_D A (WM cA ad si sa) → va_S A H0 H locs → lv_has ls 7 [(0, .ref (ad 0)), (1, .int a1)] → W p l ee (rmx 2 45) s m args below meth c H locs 0 0 Q (F0 m 19 ls [.int x1, .int a1, .ref (ad 15)]) := by
    intro H locs ls hP hD hS hl
    obtain ⟨hin, hF⟩ := ld_some hF
    refine aMs14 (f := (sa 14)) C0 hP hD hS rfl hin dX6_growTree_19 (fun H locs hP hD hS => ?_)
    refine lv_aload_n hx hb dX6_growTree_20 rfl (lv_at hl 0 rfl) ?_
    refine gM0_23 C0 hP q603 dX6_growTree_21 ?_
    refine lv_iload_n hx hb dX6_growTree_24 rfl (lv_at hl 1 rfl) ?_
    refine lv_bipush (v := (-9 : Int32)) hx hb dX6_growTree_25 (by decide) ?_
    obtain ⟨hin, hF⟩ := ld_some hF
    refine aMs15 (f := (sa 15)) C0 hP hD hS rfl hin dX6_growTree_27 (fun H locs hP hD hS => ?_)
    refine lv_iconst (v := (0 : Int32)) hx hb dX6_growTree_28 (by decide) ?_
    refine lv_istore_n (lv' := [(2, .int (0 : Int32)), (0, .ref (ad 0)), (1, .int a1)]) hx hb dX6_growTree_29 rfl hl (by decide) rfl (fun ls hl => ?_)
    obtain ⟨ox2, hL2, hX2⟩ := bd_all hF
    have JE2 : ∀ (e3 : (tSI × tSA)), ox2 = e3 → ∀ (H : Heap) (locs : List Loc) (ls : Array Slot), va_P D vwCl (WM cA ad e3.1 e3.2) H → va_D A (WM cA ad e3.1 e3.2) → va_S A H0 H locs → lv_has ls 7 [] → W p l ee (rmx 2 45) s m args below meth c H locs 0 0 Q (F0 m 181 ls []) := by
      intro e3 he H locs ls hP hD hS hl
      have hF := hX2 _ he
      have hF := Option.some.inj hF
      subst hF
      exact hE _ _ _ _ hP hD hS dX6_growTree_181
    have LP2 : ∀ (k2 : Nat) (t2 : (Int32 × tSI × tSA)), lp (S_X6_growTree_30 a1) k2 t2 = some ox2 → ∀ (H : Heap) (locs : List Loc) (ls : Array Slot), va_P D vwCl (WM cA ad t2.2.1 t2.2.2) H → va_D A (WM cA ad t2.2.1 t2.2.2) → va_S A H0 H locs → lv_has ls 7 [(2, .int t2.1), (0, .ref (ad 0)), (1, .int a1)] → W p l ee (rmx 2 45) s m args below meth c H locs 0 0 Q (F0 m 30 ls []) := by
      intro k2
      induction k2 with
      | zero => intro t2 hF; exact (lp_no hF).elim
      | succ k2 ih2 =>
        intro t2 hF H locs ls hP hD hS hl
        change (S_X6_growTree_30 a1) (lp (S_X6_growTree_30 a1) k2) t2 = some ox2 at hF
        unfold S_X6_growTree_30 at hF
        refine lv_iload_n hx hb dX6_growTree_30 rfl (lv_at hl 0 rfl) ?_
        refine lv_aload_n hx hb dX6_growTree_31 rfl (lv_at hl 1 rfl) ?_
        refine gM0_6 (v := (t2.2.1 2)) C0 hP rfl q586 dX6_growTree_32 ?_
        refine lv_icmp_ge (tgt := 181) hx hb dX6_growTree_35 (by decide) (fun c4 => ?_) (fun c4 => ?_)
        · have hF := (if_pos c4).symm.trans hF
          exact JE2 _ (Option.some.inj hF).symm _ _ _ hP hD hS (lv_sub hl [] rfl)
        · have hF := (if_neg c4).symm.trans hF
          refine lv_aload_n hx hb dX6_growTree_38 rfl (lv_at hl 1 rfl) ?_
          refine gM0_22 C0 hP q602 dX6_growTree_39 ?_
          refine lv_iload_n hx hb dX6_growTree_42 rfl (lv_at hl 2 rfl) ?_
          obtain ⟨hin, hF⟩ := ld_some hF
          refine aMl14 (f := (t2.2.2 14)) C0 hP rfl hin dX6_growTree_43 ?_
          refine lv_if_eq (tgt := 181) hx hb dX6_growTree_44 (by decide) (fun c5 => ?_) (fun c5 => ?_)
          · have hF := (if_pos c5).symm.trans hF
            exact JE2 _ (Option.some.inj hF).symm _ _ _ hP hD hS (lv_sub hl [] rfl)
          · have hF := (if_neg c5).symm.trans hF
            refine lv_iload_n hx hb dX6_growTree_47 rfl (lv_at hl 2 rfl) ?_
            refine lv_aload_n hx hb dX6_growTree_48 rfl (lv_at hl 1 rfl) ?_
            refine gM0_7 C0 hP q587 dX6_growTree_49 ?_
            refine lv_iload_n hx hb dX6_growTree_52 rfl (lv_at hl 0 rfl) ?_
            obtain ⟨hin, hF⟩ := ld_some hF
            refine aMl4 (f := (t2.2.2 4)) C0 hP rfl hin dX6_growTree_53 ?_
            refine lv_iand hx hb dX6_growTree_54 ?_
            refine lv_istore_n (lv' := [(3, .int (a1 &&& ((t2.2.2 4) (Int32.toNatClampNeg t2.1)))), (2, .int t2.1), (0, .ref (ad 0)), (1, .int a1)]) hx hb dX6_growTree_55 rfl hl (by decide) rfl (fun ls hl => ?_)
            refine lv_iload_n hx hb dX6_growTree_56 rfl (lv_at hl 3 rfl) ?_
            refine lv_aload_n hx hb dX6_growTree_57 rfl (lv_at hl 2 rfl) ?_
            refine gM0_7 C0 hP q587 dX6_growTree_58 ?_
            refine lv_iload_n hx hb dX6_growTree_61 rfl (lv_at hl 1 rfl) ?_
            obtain ⟨hin, hF⟩ := ld_some hF
            refine aMl4 (f := (t2.2.2 4)) C0 hP rfl hin dX6_growTree_62 ?_
            refine lv_iconst (v := (-1 : Int32)) hx hb dX6_growTree_63 (by decide) ?_
            refine lv_ixor hx hb dX6_growTree_64 ?_
            refine lv_iand hx hb dX6_growTree_65 ?_
            refine lv_istore (lv' := [(4, .int (a1 &&& (((t2.2.2 4) (Int32.toNatClampNeg t2.1)) ^^^ (-1 : Int32)))), (3, .int (a1 &&& ((t2.2.2 4) (Int32.toNatClampNeg t2.1)))), (2, .int t2.1), (0, .ref (ad 0)), (1, .int a1)]) hx hb dX6_growTree_66 hl (by decide) rfl (fun ls hl => ?_)
            refine lv_iload_n hx hb dX6_growTree_68 rfl (lv_at hl 1 rfl) ?_
            obtain ⟨x6, hRx6, hF⟩ := bd_some hF
            have Jx6 : ∀ (H : Heap) (locs : List Loc) (ls : Array Slot), va_P D vwCl (WM cA ad t2.2.1 t2.2.2) H → va_D A (WM cA ad t2.2.1 t2.2.2) → va_S A H0 H locs → lv_has ls 7 [(4, .int (a1 &&& (((t2.2.2 4) (Int32.toNatClampNeg t2.1)) ^^^ (-1 : Int32)))), (3, .int (a1 &&& ((t2.2.2 4) (Int32.toNatClampNeg t2.1)))), (2, .int t2.1), (0, .ref (ad 0)), (1, .int a1)] → W p l ee (rmx 2 45) s m args below meth c H locs 0 0 Q (F0 m 101 ls [.int x6]) := by
              intro H locs ls hP hD hS hl
              refine lv_istore (lv' := [(5, .int x6), (4, .int (a1 &&& (((t2.2.2 4) (Int32.toNatClampNeg t2.1)) ^^^ (-1 : Int32)))), (3, .int (a1 &&& ((t2.2.2 4) (Int32.toNatClampNeg t2.1)))), (2, .int t2.1), (0, .ref (ad 0)), (1, .int a1)]) hx hb dX6_growTree_101 hl (by decide) rfl (fun ls hl => ?_)
              refine lv_iload hx hb dX6_growTree_103 (lv_at hl 0 rfl) ?_
              obtain ⟨x7, hRx7, hF⟩ := bd_some hF
              have Jx7 : ∀ (H : Heap) (locs : List Loc) (ls : Array Slot), va_P D vwCl (WM cA ad t2.2.1 t2.2.2) H → va_D A (WM cA ad t2.2.1 t2.2.2) → va_S A H0 H locs → lv_has ls 7 [(5, .int x6), (2, .int t2.1), (0, .ref (ad 0)), (1, .int a1)] → W p l ee (rmx 2 45) s m args below meth c H locs 0 0 Q (F0 m 133 ls [.int x7]) := by
                intro H locs ls hP hD hS hl
                refine lv_istore (lv' := [(6, .int x7), (5, .int x6), (2, .int t2.1), (0, .ref (ad 0)), (1, .int a1)]) hx hb dX6_growTree_133 hl (by decide) rfl (fun ls hl => ?_)
                refine lv_iload hx hb dX6_growTree_135 (lv_at hl 1 rfl) ?_
                refine lv_if_eq (tgt := 175) hx hb dX6_growTree_137 (by decide) (fun c8 => ?_) (fun c8 => ?_)
                · have hF := (if_pos c8).symm.trans hF
                  refine lv_iinc (v := (t2.1 + 1)) (lv' := [(2, .int (t2.1 + 1)), (6, .int x7), (5, .int x6), (0, .ref (ad 0)), (1, .int a1)]) hx hb dX6_growTree_175 hl (k := 2) rfl rfl (by decide) rfl (fun ls hl => ?_)
                  refine lv_goto (tgt := 30) hx hb dX6_growTree_178 (by decide) ?_
                  exact ih2 _ hF _ _ _ hP hD hS (lv_sub hl [0, 3, 4] rfl)
                · have hF := (if_neg c8).symm.trans hF
                  refine lv_aload_n hx hb dX6_growTree_140 rfl (lv_at hl 3 rfl) ?_
                  refine gM0_23 C0 hP q603 dX6_growTree_141 ?_
                  refine lv_iload_n hx hb dX6_growTree_144 rfl (lv_at hl 4 rfl) ?_
                  obtain ⟨hin, hF⟩ := ld_some hF
                  refine aMl15 (f := (t2.2.2 15)) C0 hP rfl hin dX6_growTree_145 ?_
                  refine lv_if_lt (tgt := 160) hx hb dX6_growTree_146 (by decide) (fun c9 => ?_) (fun c9 => ?_)
                  · have hF := (if_pos c9).symm.trans hF
                    refine lv_aload_n hx hb dX6_growTree_160 rfl (lv_at hl 3 rfl) ?_
                    refine gM0_22 C0 hP q602 dX6_growTree_161 ?_
                    refine lv_iload_n hx hb dX6_growTree_164 rfl (lv_at hl 4 rfl) ?_
                    refine lv_iload hx hb dX6_growTree_165 (lv_at hl 0 rfl) ?_
                    obtain ⟨hin, hF⟩ := ld_some hF
                    refine aMs14 (f := (t2.2.2 14)) C0 hP hD hS rfl hin dX6_growTree_167 (fun H locs hP hD hS => ?_)
                    refine lv_aload_n hx hb dX6_growTree_168 rfl (lv_at hl 3 rfl) ?_
                    refine gM0_23 C0 hP q603 dX6_growTree_169 ?_
                    refine lv_iload_n hx hb dX6_growTree_172 rfl (lv_at hl 4 rfl) ?_
                    refine lv_iload_n hx hb dX6_growTree_173 rfl (lv_at hl 2 rfl) ?_
                    obtain ⟨hin, hF⟩ := ld_some hF
                    refine aMs15 (f := (t2.2.2 15)) C0 hP hD hS rfl hin dX6_growTree_174 (fun H locs hP hD hS => ?_)
                    refine lv_iinc (v := (t2.1 + 1)) (lv' := [(2, .int (t2.1 + 1)), (6, .int x7), (5, .int x6), (0, .ref (ad 0)), (1, .int a1)]) hx hb dX6_growTree_175 hl (k := 2) rfl rfl (by decide) rfl (fun ls hl => ?_)
                    refine lv_goto (tgt := 30) hx hb dX6_growTree_178 (by decide) ?_
                    exact ih2 _ hF _ _ _ hP hD hS (lv_sub hl [0, 3, 4] rfl)
                  · have hF := (if_neg c9).symm.trans hF
                    refine lv_iload hx hb dX6_growTree_149 (lv_at hl 0 rfl) ?_
                    refine lv_aload_n hx hb dX6_growTree_151 rfl (lv_at hl 3 rfl) ?_
                    refine gM0_22 C0 hP q602 dX6_growTree_152 ?_
                    refine lv_iload_n hx hb dX6_growTree_155 rfl (lv_at hl 4 rfl) ?_
                    obtain ⟨hin, hF⟩ := ld_some hF
                    refine aMl14 (f := (t2.2.2 14)) C0 hP rfl hin dX6_growTree_156 ?_
                    refine lv_icmp_ge (tgt := 175) hx hb dX6_growTree_157 (by decide) (fun c10 => ?_) (fun c10 => ?_)
                    · have hF := (if_pos c10).symm.trans hF
                      refine lv_iinc (v := (t2.1 + 1)) (lv' := [(2, .int (t2.1 + 1)), (6, .int x7), (5, .int x6), (0, .ref (ad 0)), (1, .int a1)]) hx hb dX6_growTree_175 hl (k := 2) rfl rfl (by decide) rfl (fun ls hl => ?_)
                      refine lv_goto (tgt := 30) hx hb dX6_growTree_178 (by decide) ?_
                      exact ih2 _ hF _ _ _ hP hD hS (lv_sub hl [0, 3, 4] rfl)
                    · have hF := (if_neg c10).symm.trans hF
                      refine lv_aload_n hx hb dX6_growTree_160 rfl (lv_at hl 3 rfl) ?_
                      refine gM0_22 C0 hP q602 dX6_growTree_161 ?_
                      refine lv_iload_n hx hb dX6_growTree_164 rfl (lv_at hl 4 rfl) ?_
                      refine lv_iload hx hb dX6_growTree_165 (lv_at hl 0 rfl) ?_
                      obtain ⟨hin, hF⟩ := ld_some hF
                      refine aMs14 (f := (t2.2.2 14)) C0 hP hD hS rfl hin dX6_growTree_167 (fun H locs hP hD hS => ?_)
                      refine lv_aload_n hx hb dX6_growTree_168 rfl (lv_at hl 3 rfl) ?_
                      refine gM0_23 C0 hP q603 dX6_growTree_169 ?_
                      refine lv_iload_n hx hb dX6_growTree_172 rfl (lv_at hl 4 rfl) ?_
                      refine lv_iload_n hx hb dX6_growTree_173 rfl (lv_at hl 2 rfl) ?_
                      obtain ⟨hin, hF⟩ := ld_some hF
                      refine aMs15 (f := (t2.2.2 15)) C0 hP hD hS rfl hin dX6_growTree_174 (fun H locs hP hD hS => ?_)
                      refine lv_iinc (v := (t2.1 + 1)) (lv' := [(2, .int (t2.1 + 1)), (6, .int x7), (5, .int x6), (0, .ref (ad 0)), (1, .int a1)]) hx hb dX6_growTree_175 hl (k := 2) rfl rfl (by decide) rfl (fun ls hl => ?_)
                      refine lv_goto (tgt := 30) hx hb dX6_growTree_178 (by decide) ?_
                      exact ih2 _ hF _ _ _ hP hD hS (lv_sub hl [0, 3, 4] rfl)
              have hF := hRx7
              refine lv_if_eq (tgt := 131) hx hb dX6_growTree_105 (by decide) (fun c11 => ?_) (fun c11 => ?_)
              · have hF := (if_pos c11).symm.trans hF
                refine lv_bipush (v := (-9 : Int32)) hx hb dX6_growTree_131 (by decide) ?_
                have hF := Option.some.inj hF
                subst hF
                exact Jx7 _ _ _ hP hD hS (lv_sub hl [0, 3, 4, 5] rfl)
              · have hF := (if_neg c11).symm.trans hF
                refine lv_aload_n hx hb dX6_growTree_108 rfl (lv_at hl 4 rfl) ?_
                refine lv_iload_n hx hb dX6_growTree_109 rfl (lv_at hl 5 rfl) ?_
                obtain ⟨r12, hr12, hF⟩ := bd_some hF
                refine kcV (As := [.int a1]) (rest := []) C0 hA hP hD hS (c_X6_looksOf l D cA ad t2.2.1 t2.2.2 a1 r12 hr12) lk_X6_looksOf q791 s42 q789 0 6 rfl rfl hl.1 rfl rfl (Nat.le_of_ble_eq_true rfl) ⟨Nat.le_of_ble_eq_true rfl, Nat.le_of_ble_eq_true rfl⟩ ⟨Nat.le_refl _, Nat.le_refl _⟩ dX6_growTree_110 (fun H locs hP hD hS => ?_)
                refine W.eq (g2 := F0 m 113 ls [.int r12]) rfl ?_
                refine lv_aload_n hx hb dX6_growTree_113 rfl (lv_at hl 4 rfl) ?_
                refine gM0_22 C0 hP q602 dX6_growTree_114 ?_
                refine lv_iload_n hx hb dX6_growTree_117 rfl (lv_at hl 2 rfl) ?_
                obtain ⟨hin, hF⟩ := ld_some hF
                refine aMl14 (f := (t2.2.2 14)) C0 hP rfl hin dX6_growTree_118 ?_
                refine lv_iadd hx hb dX6_growTree_119 ?_
                refine lv_aload_n hx hb dX6_growTree_120 rfl (lv_at hl 4 rfl) ?_
                refine gM0_22 C0 hP q602 dX6_growTree_121 ?_
                refine lv_iload hx hb dX6_growTree_124 (lv_at hl 1 rfl) ?_
                obtain ⟨hin, hF⟩ := ld_some hF
                refine aMl14 (f := (t2.2.2 14)) C0 hP rfl hin dX6_growTree_126 ?_
                refine lv_iadd hx hb dX6_growTree_127 ?_
                refine lv_goto (tgt := 133) hx hb dX6_growTree_128 (by decide) ?_
                have hF := Option.some.inj hF
                subst hF
                exact Jx7 _ _ _ hP hD hS (lv_sub hl [0, 3, 4, 5] rfl)
            have hF := hRx6
            refine lv_if_eq (tgt := 100) hx hb dX6_growTree_69 (by decide) (fun c13 => ?_) (fun c13 => ?_)
            · have hF := (if_pos c13).symm.trans hF
              refine lv_iconst (v := (0 : Int32)) hx hb dX6_growTree_100 (by decide) ?_
              have hF := Option.some.inj hF
              subst hF
              exact Jx6 _ _ _ hP hD hS (lv_sub hl [0, 1, 2, 3, 4] rfl)
            · have hF := (if_neg c13).symm.trans hF
              refine lv_iload hx hb dX6_growTree_72 (lv_at hl 0 rfl) ?_
              refine lv_if_eq (tgt := 100) hx hb dX6_growTree_74 (by decide) (fun c14 => ?_) (fun c14 => ?_)
              · have hF := (if_pos c14).symm.trans hF
                refine lv_iconst (v := (0 : Int32)) hx hb dX6_growTree_100 (by decide) ?_
                have hF := Option.some.inj hF
                subst hF
                exact Jx6 _ _ _ hP hD hS (lv_sub hl [0, 1, 2, 3, 4] rfl)
              · have hF := (if_neg c14).symm.trans hF
                refine lv_aload_n hx hb dX6_growTree_77 rfl (lv_at hl 3 rfl) ?_
                refine gM0_22 C0 hP q602 dX6_growTree_78 ?_
                refine lv_iload_n hx hb dX6_growTree_81 rfl (lv_at hl 1 rfl) ?_
                obtain ⟨hin, hF⟩ := ld_some hF
                refine aMl14 (f := (t2.2.2 14)) C0 hP rfl hin dX6_growTree_82 ?_
                refine lv_if_lt (tgt := 100) hx hb dX6_growTree_83 (by decide) (fun c15 => ?_) (fun c15 => ?_)
                · have hF := (if_pos c15).symm.trans hF
                  refine lv_iconst (v := (0 : Int32)) hx hb dX6_growTree_100 (by decide) ?_
                  have hF := Option.some.inj hF
                  subst hF
                  exact Jx6 _ _ _ hP hD hS (lv_sub hl [0, 1, 2, 3, 4] rfl)
                · have hF := (if_neg c15).symm.trans hF
                  refine lv_aload_n hx hb dX6_growTree_86 rfl (lv_at hl 3 rfl) ?_
                  refine gM0_22 C0 hP q602 dX6_growTree_87 ?_
                  refine lv_iload hx hb dX6_growTree_90 (lv_at hl 0 rfl) ?_
                  obtain ⟨hin, hF⟩ := ld_some hF
                  refine aMl14 (f := (t2.2.2 14)) C0 hP rfl hin dX6_growTree_92 ?_
                  refine lv_if_lt (tgt := 100) hx hb dX6_growTree_93 (by decide) (fun c16 => ?_) (fun c16 => ?_)
                  · have hF := (if_pos c16).symm.trans hF
                    refine lv_iconst (v := (0 : Int32)) hx hb dX6_growTree_100 (by decide) ?_
                    have hF := Option.some.inj hF
                    subst hF
                    exact Jx6 _ _ _ hP hD hS (lv_sub hl [0, 1, 2, 3, 4] rfl)
                  · have hF := (if_neg c16).symm.trans hF
                    refine lv_iconst (v := (1 : Int32)) hx hb dX6_growTree_96 (by decide) ?_
                    refine lv_goto (tgt := 101) hx hb dX6_growTree_97 (by decide) ?_
                    have hF := Option.some.inj hF
                    subst hF
                    exact Jx6 _ _ _ hP hD hS (lv_sub hl [0, 1, 2, 3, 4] rfl)
    exact LP2 _ _ hL2 _ _ _ hP hD hS (lv_sub hl [0, 1, 2] rfl)
  have hF := hRx1
  refine lv_if_ne (tgt := 17) hx hb dX6_growTree_10 (by decide) (fun c17 => ?_) (fun c17 => ?_)
  · have hF := (if_neg c17).symm.trans hF
    refine lv_bipush (v := (-9 : Int32)) hx hb dX6_growTree_17 (by decide) ?_
    have hF := Option.some.inj hF
    subst hF
    exact Jx1 _ _ _ hP hD hS (lv_sub hl [0, 1] rfl)
  · have hF := (if_pos c17).symm.trans hF
    refine lv_iconst (v := (0 : Int32)) hx hb dX6_growTree_13 (by decide) ?_
    refine lv_goto (tgt := 19) hx hb dX6_growTree_14 (by decide) ?_
    have hF := Option.some.inj hF
    subst hF
    exact Jx1 _ _ _ hP hD hS (lv_sub hl [0, 1] rfl)
theorem lk_X6_tree : LK yX6_tree cX6_tree 3 (some .int) 1 := ⟨q827, q7, by decide +kernel⟩
def S_X6_tree_25 (rec4 : ((Int32 × tSI × tSA) → Option (tSI × tSA))) (t4 : (Int32 × tSI × tSA)) : Option (tSI × tSA) :=
  (F_X6_all t4.2.1 t4.2.2).bind fun r9 => (if r9 < t4.1 then some (t4.2.1, t4.2.2) else (F_X6_growTree t4.1 t4.2.1 t4.2.2).bind fun r11 => rec4 ((t4.1 + 1), r11.1, r11.2))
def F_X6_tree (a1 : Int32) (si : tSI) (sa : tSA) : Option (Int32 × tSI × tSA) :=
  (F_X6_in (Int32.toInt64 a1) (0 : Int64) (1 : Int64)).bind fun r1 => (if r1 = 0 then some ((-2 : Int32), si, sa) else (if (si 1) = 0 then some ((-3 : Int32), si, sa) else (lp S_X6_tree_25 100 ((0 : Int32), si, sa)).bind fun (e5 : (tSI × tSA)) => (if a1 = 0 then (F_X6_all e5.1 e5.2).bind fun r8 => ld r8 64 (some (((e5.2 14) (Int32.toNatClampNeg r8)), e5.1, e5.2)) else (F_X6_all e5.1 e5.2).bind fun r7 => ld r7 64 (some (((e5.2 15) (Int32.toNatClampNeg r7)), e5.1, e5.2)))))
set_option maxHeartbeats 4000000 in
set_option maxRecDepth 100000 in
theorem c_X6_tree (l : Launch) (D : va_G) (cA : ClassId) (ad : Nat → Nat) (si : tSI) (sa : tSA) (a1 : Int32) (o : (Int32 × tSI × tSA)) (hF : F_X6_tree a1 si sa = some o) : CG l yX6_tree cX6_tree 3 (some .int) 3 71 D cA [.ref (ad 0), .int a1] (WM cA ad si sa) (WM cA ad o.2.1 o.2.2) (some (.int o.1)) := by
  refine CG.ofi (by decide) (Nat.le_of_ble_eq_true rfl) ?_
  intro p ee s m args below meth c A Q H0 ls C0 hA hP hD hS hl hE
  have hl : lv_has ls 3 [(0, .ref (ad 0)), (1, .int a1)] := hl
  obtain ⟨hx, hb, hml, hown, ht, hK⟩ := id C0
  unfold F_X6_tree at hF
  refine lv_iload_n hx hb dX6_tree_0 rfl (lv_at hl 1 rfl) ?_
  refine lv_i2l hx hb dX6_tree_1 rfl ?_
  refine lv_lconst (v := (0 : Int64)) hx hb dX6_tree_2 (by decide) ?_
  refine lv_lconst (v := (1 : Int64)) hx hb dX6_tree_3 (by decide) ?_
  obtain ⟨r1, hr1, hF⟩ := bd_some hF
  refine kcS (As := [.long (Int32.toInt64 a1), .long (0 : Int64), .long (1 : Int64)]) (rest := []) C0 hA hP hD hS (c_X6_in l D cA ad si sa (Int32.toInt64 a1) (0 : Int64) (1 : Int64) r1 hr1) lk_X6_in q686 q685 hl.1 rfl rfl (Nat.le_of_ble_eq_true rfl) ⟨Nat.le_of_ble_eq_true rfl, Nat.le_of_ble_eq_true rfl⟩ ⟨Nat.le_refl _, Nat.le_refl _⟩ dX6_tree_4 (fun H locs hP hD hS => ?_)
  refine W.eq (g2 := F0 m 7 ls [.int r1]) rfl ?_
  refine lv_if_ne (tgt := 13) hx hb dX6_tree_7 (by decide) (fun c2 => ?_) (fun c2 => ?_)
  · have hF := (if_neg c2).symm.trans hF
    refine lv_aload_n hx hb dX6_tree_13 rfl (lv_at hl 0 rfl) ?_
    refine gM0_1 (v := (si 1)) C0 hP rfl q581 dX6_tree_14 ?_
    refine lv_if_ne (tgt := 23) hx hb dX6_tree_17 (by decide) (fun c3 => ?_) (fun c3 => ?_)
    · have hF := (if_neg c3).symm.trans hF
      refine lv_iconst (v := (0 : Int32)) hx hb dX6_tree_23 (by decide) ?_
      refine lv_istore_n (lv' := [(2, .int (0 : Int32)), (0, .ref (ad 0)), (1, .int a1)]) hx hb dX6_tree_24 rfl hl (by decide) rfl (fun ls hl => ?_)
      obtain ⟨ox4, hL4, hX4⟩ := bd_all hF
      have JE4 : ∀ (e5 : (tSI × tSA)), ox4 = e5 → ∀ (H : Heap) (locs : List Loc) (ls : Array Slot), va_P D vwCl (WM cA ad e5.1 e5.2) H → va_D A (WM cA ad e5.1 e5.2) → va_S A H0 H locs → lv_has ls 3 [(0, .ref (ad 0)), (1, .int a1)] → W p l ee (rmx 3 71) s m args below meth c H locs 0 0 Q (F0 m 44 ls []) := by
        intro e5 he H locs ls hP hD hS hl
        have hF := hX4 _ he
        refine lv_iload_n hx hb dX6_tree_44 rfl (lv_at hl 1 rfl) ?_
        refine lv_if_ne (tgt := 60) hx hb dX6_tree_45 (by decide) (fun c6 => ?_) (fun c6 => ?_)
        · have hF := (if_neg c6).symm.trans hF
          refine lv_aload_n hx hb dX6_tree_60 rfl (lv_at hl 0 rfl) ?_
          refine gM0_23 C0 hP q603 dX6_tree_61 ?_
          refine lv_aload_n hx hb dX6_tree_64 rfl (lv_at hl 0 rfl) ?_
          obtain ⟨r7, hr7, hF⟩ := bd_some hF
          refine kcV (As := []) (rest := [.ref (ad 16)]) C0 hA hP hD hS (c_X6_all l D cA ad e5.1 e5.2 r7 hr7) lk_X6_all q746 s36 q744 0 6 rfl rfl hl.1 rfl rfl (Nat.le_of_ble_eq_true rfl) ⟨Nat.le_of_ble_eq_true rfl, Nat.le_of_ble_eq_true rfl⟩ ⟨Nat.le_refl _, Nat.le_refl _⟩ dX6_tree_65 (fun H locs hP hD hS => ?_)
          refine W.eq (g2 := F0 m 68 ls [.int r7, .ref (ad 16)]) rfl ?_
          obtain ⟨hin, hF⟩ := ld_some hF
          refine aMl15 (f := (e5.2 15)) C0 hP rfl hin dX6_tree_68 ?_
          have hF := Option.some.inj hF
          subst hF
          exact hE _ _ _ _ _ hP hD hS dX6_tree_69 rfl rfl
        · have hF := (if_pos c6).symm.trans hF
          refine lv_aload_n hx hb dX6_tree_48 rfl (lv_at hl 0 rfl) ?_
          refine gM0_22 C0 hP q602 dX6_tree_49 ?_
          refine lv_aload_n hx hb dX6_tree_52 rfl (lv_at hl 0 rfl) ?_
          obtain ⟨r8, hr8, hF⟩ := bd_some hF
          refine kcV (As := []) (rest := [.ref (ad 15)]) C0 hA hP hD hS (c_X6_all l D cA ad e5.1 e5.2 r8 hr8) lk_X6_all q746 s36 q744 0 6 rfl rfl hl.1 rfl rfl (Nat.le_of_ble_eq_true rfl) ⟨Nat.le_of_ble_eq_true rfl, Nat.le_of_ble_eq_true rfl⟩ ⟨Nat.le_refl _, Nat.le_refl _⟩ dX6_tree_53 (fun H locs hP hD hS => ?_)
          refine W.eq (g2 := F0 m 56 ls [.int r8, .ref (ad 15)]) rfl ?_
          obtain ⟨hin, hF⟩ := ld_some hF
          refine aMl14 (f := (e5.2 14)) C0 hP rfl hin dX6_tree_56 ?_
          refine lv_goto (tgt := 69) hx hb dX6_tree_57 (by decide) ?_
          have hF := Option.some.inj hF
          subst hF
          exact hE _ _ _ _ _ hP hD hS dX6_tree_69 rfl rfl
      have LP4 : ∀ (k4 : Nat) (t4 : (Int32 × tSI × tSA)), lp S_X6_tree_25 k4 t4 = some ox4 → ∀ (H : Heap) (locs : List Loc) (ls : Array Slot), va_P D vwCl (WM cA ad t4.2.1 t4.2.2) H → va_D A (WM cA ad t4.2.1 t4.2.2) → va_S A H0 H locs → lv_has ls 3 [(2, .int t4.1), (0, .ref (ad 0)), (1, .int a1)] → W p l ee (rmx 3 71) s m args below meth c H locs 0 0 Q (F0 m 25 ls []) := by
        intro k4
        induction k4 with
        | zero => intro t4 hF; exact (lp_no hF).elim
        | succ k4 ih4 =>
          intro t4 hF H locs ls hP hD hS hl
          change S_X6_tree_25 (lp S_X6_tree_25 k4) t4 = some ox4 at hF
          unfold S_X6_tree_25 at hF
          refine lv_iload_n hx hb dX6_tree_25 rfl (lv_at hl 0 rfl) ?_
          refine lv_aload_n hx hb dX6_tree_26 rfl (lv_at hl 1 rfl) ?_
          obtain ⟨r9, hr9, hF⟩ := bd_some hF
          refine kcV (As := []) (rest := [.int t4.1]) C0 hA hP hD hS (c_X6_all l D cA ad t4.2.1 t4.2.2 r9 hr9) lk_X6_all q746 s36 q744 0 6 rfl rfl hl.1 rfl rfl (Nat.le_of_ble_eq_true rfl) ⟨Nat.le_of_ble_eq_true rfl, Nat.le_of_ble_eq_true rfl⟩ ⟨Nat.le_refl _, Nat.le_refl _⟩ dX6_tree_27 (fun H locs hP hD hS => ?_)
          refine W.eq (g2 := F0 m 30 ls [.int r9, .int t4.1]) rfl ?_
          refine lv_icmp_gt (tgt := 44) hx hb dX6_tree_30 (by decide) (fun c10 => ?_) (fun c10 => ?_)
          · have hF := (if_pos c10).symm.trans hF
            exact JE4 _ (Option.some.inj hF).symm _ _ _ hP hD hS (lv_sub hl [1, 2] rfl)
          · have hF := (if_neg c10).symm.trans hF
            refine lv_aload_n hx hb dX6_tree_33 rfl (lv_at hl 1 rfl) ?_
            refine lv_iload_n hx hb dX6_tree_34 rfl (lv_at hl 0 rfl) ?_
            obtain ⟨r11, hr11, hF⟩ := bd_some hF
            refine kcV (As := [.int t4.1]) (rest := []) C0 hA hP hD hS (c_X6_growTree l D cA ad t4.2.1 t4.2.2 t4.1 r11 hr11) lk_X6_growTree q830 s47 q828 0 6 rfl rfl hl.1 rfl rfl (Nat.le_of_ble_eq_true rfl) ⟨Nat.le_of_ble_eq_true rfl, Nat.le_of_ble_eq_true rfl⟩ ⟨Nat.le_refl _, Nat.le_refl _⟩ dX6_tree_35 (fun H locs hP hD hS => ?_)
            refine W.eq (g2 := F0 m 38 ls []) rfl ?_
            refine lv_iinc (v := (t4.1 + 1)) (lv' := [(2, .int (t4.1 + 1)), (0, .ref (ad 0)), (1, .int a1)]) hx hb dX6_tree_38 hl (k := 0) rfl rfl (by decide) rfl (fun ls hl => ?_)
            refine lv_goto (tgt := 25) hx hb dX6_tree_41 (by decide) ?_
            exact ih4 _ hF _ _ _ hP hD hS (lv_sub hl [0, 1, 2] rfl)
      exact LP4 _ _ hL4 _ _ _ hP hD hS (lv_sub hl [0, 1, 2] rfl)
    · have hF := (if_pos c3).symm.trans hF
      refine lv_bipush (v := (-3 : Int32)) hx hb dX6_tree_20 (by decide) ?_
      have hF := Option.some.inj hF
      subst hF
      exact hE _ _ _ _ _ hP hD hS dX6_tree_22 rfl rfl
  · have hF := (if_pos c2).symm.trans hF
    refine lv_bipush (v := (-2 : Int32)) hx hb dX6_tree_10 (by decide) ?_
    have hF := Option.some.inj hF
    subst hF
    exact hE _ _ _ _ _ hP hD hS dX6_tree_12 rfl rfl
theorem lk_X6_odds : LK yX6_odds cX6_odds 10 (some .long) 3 := ⟨q835, q7, by decide +kernel⟩
def S_X6_odds_107 (e10 : Int32) (a2 : Int32) (rec11 : ((Int32 × Int64 × Int64) → Option Int64)) (t11 : (Int32 × Int64 × Int64)) : Option Int64 :=
  (if e10 < t11.1 then some t11.2.1 else ((if t11.1 < a2 then some (0 : Int64) else some t11.2.2)).bind fun (x15 : Int64) => dzl (Int32.toInt64 (t11.1 + (1 : Int32))) (rec11 ((t11.1 + 1), (t11.2.1 + x15), ((t11.2.2 * (Int32.toInt64 (e10 - t11.1))) / (Int32.toInt64 (t11.1 + (1 : Int32)))))))
def S_X6_odds_40 (si : tSI) (a1 : Int32) (sa : tSA) (rec9 : ((Int32 × Int32) → Option Int32)) (t9 : (Int32 × Int32)) : Option Int32 :=
  (if (si 1) ≤ t9.1 then some t9.2 else (if t9.1 = a1 then rec9 ((t9.1 + 1), (t9.2 + (0 : Int32))) else ld t9.1 6 ((if ((sa 0) (Int32.toNatClampNeg t9.1)) = 0 then ld t9.1 6 ((if ((sa 3) (Int32.toNatClampNeg t9.1)) = a1 then ld t9.1 6 (rec9 ((t9.1 + 1), (t9.2 + ((sa 1) (Int32.toNatClampNeg t9.1))))) else rec9 ((t9.1 + 1), (t9.2 + (0 : Int32))))) else rec9 ((t9.1 + 1), (t9.2 + (0 : Int32)))))))
def F_X6_odds (a1 : Int32) (a2 : Int32) (a3 : Int32) (si : tSI) (sa : tSA) : Option Int64 :=
  (F_X6_noSort a1 si sa).bind fun r1 => (if r1 = 0 then (F_X6_in (Int32.toInt64 a2) (0 : Int64) (99 : Int64)).bind fun r4 => (if r4 = 0 then (F_X6_lost).bind fun r6 => some r6 else (F_X6_in (Int32.toInt64 a3) (0 : Int64) (1 : Int64)).bind fun r7 => (if r7 = 0 then (F_X6_lost).bind fun r21 => some r21 else (lp (S_X6_odds_40 si a1 sa) 100 ((0 : Int32), (0 : Int32))).bind fun (e10 : Int32) => (lp (S_X6_odds_107 e10 a2) 100 ((0 : Int32), (0 : Int64), (1 : Int64))).bind fun (e12 : Int64) => (F_X6_share e12 ((1 : Int64) <<< (Int32.toInt64 e10 &&& 63)) a3).bind fun r13 => some r13)) else (F_X6_lost).bind fun r3 => some r3)
set_option maxHeartbeats 4000000 in
set_option maxRecDepth 100000 in
theorem c_X6_odds (l : Launch) (D : va_G) (cA : ClassId) (ad : Nat → Nat) (si : tSI) (sa : tSA) (a1 : Int32) (a2 : Int32) (a3 : Int32) (o : Int64) (hF : F_X6_odds a1 a2 a3 si sa = some o) : CG l yX6_odds cX6_odds 10 (some .long) 2 46 D cA [.ref (ad 0), .int a1, .int a2, .int a3] (WM cA ad si sa) (WM cA ad si sa) (some (.long o)) := by
  refine CG.ofl (by decide) (Nat.le_of_ble_eq_true rfl) ?_
  intro p ee s m args below meth c A Q H0 ls C0 hA hP hD hS hl hE
  have hl : lv_has ls 10 [(0, .ref (ad 0)), (1, .int a1), (2, .int a2), (3, .int a3)] := hl
  obtain ⟨hx, hb, hml, hown, ht, hK⟩ := id C0
  unfold F_X6_odds at hF
  refine lv_aload_n hx hb dX6_odds_0 rfl (lv_at hl 0 rfl) ?_
  refine lv_iload_n hx hb dX6_odds_1 rfl (lv_at hl 1 rfl) ?_
  obtain ⟨r1, hr1, hF⟩ := bd_some hF
  refine kcV (As := [.int a1]) (rest := []) C0 hA hP hD hS (c_X6_noSort l D cA ad si sa a1 r1 hr1) lk_X6_noSort q730 s33 q728 0 6 rfl rfl hl.1 rfl rfl (Nat.le_of_ble_eq_true rfl) ⟨Nat.le_of_ble_eq_true rfl, Nat.le_of_ble_eq_true rfl⟩ ⟨Nat.le_refl _, Nat.le_refl _⟩ dX6_odds_2 (fun H locs hP hD hS => ?_)
  refine W.eq (g2 := F0 m 5 ls [.int r1]) rfl ?_
  refine lv_if_ne (tgt := 30) hx hb dX6_odds_5 (by decide) (fun c2 => ?_) (fun c2 => ?_)
  · have hF := (if_neg c2).symm.trans hF
    obtain ⟨r3, hr3, hF⟩ := bd_some hF
    refine kcS (As := []) (rest := []) C0 hA hP hD hS (c_X6_lost l D cA ad si sa r3 hr3) lk_X6_lost q838 q837 hl.1 rfl rfl (Nat.le_of_ble_eq_true rfl) ⟨Nat.le_of_ble_eq_true rfl, Nat.le_of_ble_eq_true rfl⟩ ⟨Nat.le_refl _, Nat.le_refl _⟩ dX6_odds_30 (fun H locs hP hD hS => ?_)
    refine W.eq (g2 := F0 m 33 ls [.long r3]) rfl ?_
    have hF := Option.some.inj hF
    exact hE _ _ _ _ _ hP hD hS dX6_odds_33 hF
  · have hF := (if_pos c2).symm.trans hF
    refine lv_iload_n hx hb dX6_odds_8 rfl (lv_at hl 2 rfl) ?_
    refine lv_i2l hx hb dX6_odds_9 rfl ?_
    refine lv_lconst (v := (0 : Int64)) hx hb dX6_odds_10 (by decide) ?_
    refine lv_ldc2 (v := (99 : Int64)) hx hb hown (ht _ q836) dX6_odds_11 ?_
    obtain ⟨r4, hr4, hF⟩ := bd_some hF
    refine kcS (As := [.long (Int32.toInt64 a2), .long (0 : Int64), .long (99 : Int64)]) (rest := []) C0 hA hP hD hS (c_X6_in l D cA ad si sa (Int32.toInt64 a2) (0 : Int64) (99 : Int64) r4 hr4) lk_X6_in q686 q685 hl.1 rfl rfl (Nat.le_of_ble_eq_true rfl) ⟨Nat.le_of_ble_eq_true rfl, Nat.le_of_ble_eq_true rfl⟩ ⟨Nat.le_refl _, Nat.le_refl _⟩ dX6_odds_14 (fun H locs hP hD hS => ?_)
    refine W.eq (g2 := F0 m 17 ls [.int r4]) rfl ?_
    refine lv_if_eq (tgt := 30) hx hb dX6_odds_17 (by decide) (fun c5 => ?_) (fun c5 => ?_)
    · have hF := (if_pos c5).symm.trans hF
      obtain ⟨r6, hr6, hF⟩ := bd_some hF
      refine kcS (As := []) (rest := []) C0 hA hP hD hS (c_X6_lost l D cA ad si sa r6 hr6) lk_X6_lost q838 q837 hl.1 rfl rfl (Nat.le_of_ble_eq_true rfl) ⟨Nat.le_of_ble_eq_true rfl, Nat.le_of_ble_eq_true rfl⟩ ⟨Nat.le_refl _, Nat.le_refl _⟩ dX6_odds_30 (fun H locs hP hD hS => ?_)
      refine W.eq (g2 := F0 m 33 ls [.long r6]) rfl ?_
      have hF := Option.some.inj hF
      exact hE _ _ _ _ _ hP hD hS dX6_odds_33 hF
    · have hF := (if_neg c5).symm.trans hF
      refine lv_iload_n hx hb dX6_odds_20 rfl (lv_at hl 3 rfl) ?_
      refine lv_i2l hx hb dX6_odds_21 rfl ?_
      refine lv_lconst (v := (0 : Int64)) hx hb dX6_odds_22 (by decide) ?_
      refine lv_lconst (v := (1 : Int64)) hx hb dX6_odds_23 (by decide) ?_
      obtain ⟨r7, hr7, hF⟩ := bd_some hF
      refine kcS (As := [.long (Int32.toInt64 a3), .long (0 : Int64), .long (1 : Int64)]) (rest := []) C0 hA hP hD hS (c_X6_in l D cA ad si sa (Int32.toInt64 a3) (0 : Int64) (1 : Int64) r7 hr7) lk_X6_in q686 q685 hl.1 rfl rfl (Nat.le_of_ble_eq_true rfl) ⟨Nat.le_of_ble_eq_true rfl, Nat.le_of_ble_eq_true rfl⟩ ⟨Nat.le_refl _, Nat.le_refl _⟩ dX6_odds_24 (fun H locs hP hD hS => ?_)
      refine W.eq (g2 := F0 m 27 ls [.int r7]) rfl ?_
      refine lv_if_ne (tgt := 34) hx hb dX6_odds_27 (by decide) (fun c8 => ?_) (fun c8 => ?_)
      · have hF := (if_neg c8).symm.trans hF
        refine lv_iconst (v := (0 : Int32)) hx hb dX6_odds_34 (by decide) ?_
        refine lv_istore (lv' := [(4, .int (0 : Int32)), (0, .ref (ad 0)), (1, .int a1), (2, .int a2), (3, .int a3)]) hx hb dX6_odds_35 hl (by decide) rfl (fun ls hl => ?_)
        refine lv_iconst (v := (0 : Int32)) hx hb dX6_odds_37 (by decide) ?_
        refine lv_istore (lv' := [(5, .int (0 : Int32)), (4, .int (0 : Int32)), (0, .ref (ad 0)), (1, .int a1), (2, .int a2), (3, .int a3)]) hx hb dX6_odds_38 hl (by decide) rfl (fun ls hl => ?_)
        obtain ⟨ox9, hL9, hX9⟩ := bd_all hF
        have JE9 : ∀ (e10 : Int32), ox9 = e10 → ∀ (H : Heap) (locs : List Loc) (ls : Array Slot), va_P D vwCl (WM cA ad si sa) H → va_D A (WM cA ad si sa) → va_S A H0 H locs → lv_has ls 10 [(4, .int e10), (2, .int a2), (3, .int a3)] → W p l ee (rmx 2 46) s m args below meth c H locs 0 0 Q (F0 m 98 ls []) := by
          intro e10 he H locs ls hP hD hS hl
          have hF := hX9 _ he
          refine lv_lconst (v := (1 : Int64)) hx hb dX6_odds_98 (by decide) ?_
          refine lv_lstore (lv' := [(5, .long (1 : Int64)), (4, .int e10), (2, .int a2), (3, .int a3)]) hx hb dX6_odds_99 hl (by decide) rfl (fun ls hl => ?_)
          refine lv_lconst (v := (0 : Int64)) hx hb dX6_odds_101 (by decide) ?_
          refine lv_lstore (lv' := [(7, .long (0 : Int64)), (5, .long (1 : Int64)), (4, .int e10), (2, .int a2), (3, .int a3)]) hx hb dX6_odds_102 hl (by decide) rfl (fun ls hl => ?_)
          refine lv_iconst (v := (0 : Int32)) hx hb dX6_odds_104 (by decide) ?_
          refine lv_istore (lv' := [(9, .int (0 : Int32)), (7, .long (0 : Int64)), (5, .long (1 : Int64)), (4, .int e10), (2, .int a2), (3, .int a3)]) hx hb dX6_odds_105 hl (by decide) rfl (fun ls hl => ?_)
          obtain ⟨ox11, hL11, hX11⟩ := bd_all hF
          have JE11 : ∀ (e12 : Int64), ox11 = e12 → ∀ (H : Heap) (locs : List Loc) (ls : Array Slot), va_P D vwCl (WM cA ad si sa) H → va_D A (WM cA ad si sa) → va_S A H0 H locs → lv_has ls 10 [(7, .long e12), (4, .int e10), (3, .int a3)] → W p l ee (rmx 2 46) s m args below meth c H locs 0 0 Q (F0 m 154 ls []) := by
            intro e12 he H locs ls hP hD hS hl
            have hF := hX11 _ he
            refine lv_lload hx hb dX6_odds_154 (lv_at hl 0 rfl) ?_
            refine lv_lconst (v := (1 : Int64)) hx hb dX6_odds_156 (by decide) ?_
            refine lv_iload hx hb dX6_odds_157 (lv_at hl 1 rfl) ?_
            refine lv_lshl hx hb dX6_odds_159 rfl ?_
            refine lv_iload_n hx hb dX6_odds_160 rfl (lv_at hl 2 rfl) ?_
            obtain ⟨r13, hr13, hF⟩ := bd_some hF
            refine kcS (As := [.long e12, .long ((1 : Int64) <<< (Int32.toInt64 e10 &&& 63)), .int a3]) (rest := []) C0 hA hP hD hS (c_X6_share l D cA ad si sa e12 ((1 : Int64) <<< (Int32.toInt64 e10 &&& 63)) a3 r13 hr13) lk_X6_share q842 q841 hl.1 rfl rfl (Nat.le_of_ble_eq_true rfl) ⟨Nat.le_of_ble_eq_true rfl, Nat.le_of_ble_eq_true rfl⟩ ⟨Nat.le_refl _, Nat.le_refl _⟩ dX6_odds_161 (fun H locs hP hD hS => ?_)
            refine W.eq (g2 := F0 m 164 ls [.long r13]) rfl ?_
            have hF := Option.some.inj hF
            exact hE _ _ _ _ _ hP hD hS dX6_odds_164 hF
          have LP11 : ∀ (k11 : Nat) (t11 : (Int32 × Int64 × Int64)), lp (S_X6_odds_107 e10 a2) k11 t11 = some ox11 → ∀ (H : Heap) (locs : List Loc) (ls : Array Slot), va_P D vwCl (WM cA ad si sa) H → va_D A (WM cA ad si sa) → va_S A H0 H locs → lv_has ls 10 [(9, .int t11.1), (7, .long t11.2.1), (5, .long t11.2.2), (4, .int e10), (2, .int a2), (3, .int a3)] → W p l ee (rmx 2 46) s m args below meth c H locs 0 0 Q (F0 m 107 ls []) := by
            intro k11
            induction k11 with
            | zero => intro t11 hF; exact (lp_no hF).elim
            | succ k11 ih11 =>
              intro t11 hF H locs ls hP hD hS hl
              change (S_X6_odds_107 e10 a2) (lp (S_X6_odds_107 e10 a2) k11) t11 = some ox11 at hF
              unfold S_X6_odds_107 at hF
              refine lv_iload hx hb dX6_odds_107 (lv_at hl 0 rfl) ?_
              refine lv_iload hx hb dX6_odds_109 (lv_at hl 3 rfl) ?_
              refine lv_icmp_gt (tgt := 154) hx hb dX6_odds_111 (by decide) (fun c14 => ?_) (fun c14 => ?_)
              · have hF := (if_pos c14).symm.trans hF
                exact JE11 _ (Option.some.inj hF).symm _ _ _ hP hD hS (lv_sub hl [1, 3, 5] rfl)
              · have hF := (if_neg c14).symm.trans hF
                refine lv_lload hx hb dX6_odds_114 (lv_at hl 1 rfl) ?_
                refine lv_iload hx hb dX6_odds_116 (lv_at hl 0 rfl) ?_
                refine lv_iload_n hx hb dX6_odds_118 rfl (lv_at hl 4 rfl) ?_
                obtain ⟨x15, hRx15, hF⟩ := bd_some hF
                have Jx15 : ∀ (H : Heap) (locs : List Loc) (ls : Array Slot), va_P D vwCl (WM cA ad si sa) H → va_D A (WM cA ad si sa) → va_S A H0 H locs → lv_has ls 10 [(9, .int t11.1), (5, .long t11.2.2), (4, .int e10), (2, .int a2), (3, .int a3)] → W p l ee (rmx 2 46) s m args below meth c H locs 0 0 Q (F0 m 128 ls [.long x15, .long t11.2.1]) := by
                  intro H locs ls hP hD hS hl
                  refine lv_ladd hx hb dX6_odds_128 ?_
                  refine lv_lstore (lv' := [(7, .long (t11.2.1 + x15)), (9, .int t11.1), (5, .long t11.2.2), (4, .int e10), (2, .int a2), (3, .int a3)]) hx hb dX6_odds_129 hl (by decide) rfl (fun ls hl => ?_)
                  refine lv_lload hx hb dX6_odds_131 (lv_at hl 2 rfl) ?_
                  refine lv_iload hx hb dX6_odds_133 (lv_at hl 3 rfl) ?_
                  refine lv_iload hx hb dX6_odds_135 (lv_at hl 1 rfl) ?_
                  refine lv_isub hx hb dX6_odds_137 ?_
                  refine lv_i2l hx hb dX6_odds_138 rfl ?_
                  refine lv_lmul hx hb dX6_odds_139 ?_
                  refine lv_iload hx hb dX6_odds_140 (lv_at hl 1 rfl) ?_
                  refine lv_iconst (v := (1 : Int32)) hx hb dX6_odds_142 (by decide) ?_
                  refine lv_iadd hx hb dX6_odds_143 ?_
                  refine lv_i2l hx hb dX6_odds_144 rfl ?_
                  obtain ⟨hdz, hF⟩ := dzl_some hF
                  refine lv_ldiv hx hb dX6_odds_145 hdz ?_
                  refine lv_lstore (lv' := [(5, .long ((t11.2.2 * (Int32.toInt64 (e10 - t11.1))) / (Int32.toInt64 (t11.1 + (1 : Int32))))), (7, .long (t11.2.1 + x15)), (9, .int t11.1), (4, .int e10), (2, .int a2), (3, .int a3)]) hx hb dX6_odds_146 hl (by decide) rfl (fun ls hl => ?_)
                  refine lv_iinc (v := (t11.1 + 1)) (lv' := [(9, .int (t11.1 + 1)), (5, .long ((t11.2.2 * (Int32.toInt64 (e10 - t11.1))) / (Int32.toInt64 (t11.1 + (1 : Int32))))), (7, .long (t11.2.1 + x15)), (4, .int e10), (2, .int a2), (3, .int a3)]) hx hb dX6_odds_148 hl (k := 2) rfl rfl (by decide) rfl (fun ls hl => ?_)
                  refine lv_goto (tgt := 107) hx hb dX6_odds_151 (by decide) ?_
                  exact ih11 _ hF _ _ _ hP hD hS (lv_sub hl [0, 2, 1, 3, 4, 5] rfl)
                have hF := hRx15
                refine lv_icmp_lt (tgt := 127) hx hb dX6_odds_119 (by decide) (fun c16 => ?_) (fun c16 => ?_)
                · have hF := (if_pos c16).symm.trans hF
                  refine lv_lconst (v := (0 : Int64)) hx hb dX6_odds_127 (by decide) ?_
                  have hF := Option.some.inj hF
                  subst hF
                  exact Jx15 _ _ _ hP hD hS (lv_sub hl [0, 2, 3, 4, 5] rfl)
                · have hF := (if_neg c16).symm.trans hF
                  refine lv_lload hx hb dX6_odds_122 (lv_at hl 2 rfl) ?_
                  refine lv_goto (tgt := 128) hx hb dX6_odds_124 (by decide) ?_
                  have hF := Option.some.inj hF
                  subst hF
                  exact Jx15 _ _ _ hP hD hS (lv_sub hl [0, 2, 3, 4, 5] rfl)
          exact LP11 _ _ hL11 _ _ _ hP hD hS (lv_sub hl [0, 1, 2, 3, 4, 5] rfl)
        have LP9 : ∀ (k9 : Nat) (t9 : (Int32 × Int32)), lp (S_X6_odds_40 si a1 sa) k9 t9 = some ox9 → ∀ (H : Heap) (locs : List Loc) (ls : Array Slot), va_P D vwCl (WM cA ad si sa) H → va_D A (WM cA ad si sa) → va_S A H0 H locs → lv_has ls 10 [(5, .int t9.1), (4, .int t9.2), (0, .ref (ad 0)), (1, .int a1), (2, .int a2), (3, .int a3)] → W p l ee (rmx 2 46) s m args below meth c H locs 0 0 Q (F0 m 40 ls []) := by
          intro k9
          induction k9 with
          | zero => intro t9 hF; exact (lp_no hF).elim
          | succ k9 ih9 =>
            intro t9 hF H locs ls hP hD hS hl
            change (S_X6_odds_40 si a1 sa) (lp (S_X6_odds_40 si a1 sa) k9) t9 = some ox9 at hF
            unfold S_X6_odds_40 at hF
            refine lv_iload hx hb dX6_odds_40 (lv_at hl 0 rfl) ?_
            refine lv_aload_n hx hb dX6_odds_42 rfl (lv_at hl 2 rfl) ?_
            refine gM0_1 (v := (si 1)) C0 hP rfl q581 dX6_odds_43 ?_
            refine lv_icmp_ge (tgt := 98) hx hb dX6_odds_46 (by decide) (fun c17 => ?_) (fun c17 => ?_)
            · have hF := (if_pos c17).symm.trans hF
              exact JE9 _ (Option.some.inj hF).symm _ _ _ hP hD hS (lv_sub hl [1, 4, 5] rfl)
            · have hF := (if_neg c17).symm.trans hF
              refine lv_iload hx hb dX6_odds_49 (lv_at hl 1 rfl) ?_
              refine lv_iload hx hb dX6_odds_51 (lv_at hl 0 rfl) ?_
              refine lv_iload_n hx hb dX6_odds_53 rfl (lv_at hl 3 rfl) ?_
              refine lv_icmp_eq (tgt := 88) hx hb dX6_odds_54 (by decide) (fun c18 => ?_) (fun c18 => ?_)
              · have hF := (if_pos c18).symm.trans hF
                refine lv_iconst (v := (0 : Int32)) hx hb dX6_odds_88 (by decide) ?_
                refine lv_iadd hx hb dX6_odds_89 ?_
                refine lv_istore (lv' := [(4, .int (t9.2 + (0 : Int32))), (5, .int t9.1), (0, .ref (ad 0)), (1, .int a1), (2, .int a2), (3, .int a3)]) hx hb dX6_odds_90 hl (by decide) rfl (fun ls hl => ?_)
                refine lv_iinc (v := (t9.1 + 1)) (lv' := [(5, .int (t9.1 + 1)), (4, .int (t9.2 + (0 : Int32))), (0, .ref (ad 0)), (1, .int a1), (2, .int a2), (3, .int a3)]) hx hb dX6_odds_92 hl (k := 1) rfl rfl (by decide) rfl (fun ls hl => ?_)
                refine lv_goto (tgt := 40) hx hb dX6_odds_95 (by decide) ?_
                exact ih9 _ hF _ _ _ hP hD hS (lv_sub hl [0, 1, 2, 3, 4, 5] rfl)
              · have hF := (if_neg c18).symm.trans hF
                refine lv_aload_n hx hb dX6_odds_57 rfl (lv_at hl 2 rfl) ?_
                refine gM0_2 C0 hP q582 dX6_odds_58 ?_
                refine lv_iload hx hb dX6_odds_61 (lv_at hl 0 rfl) ?_
                obtain ⟨hin, hF⟩ := ld_some hF
                refine aMl0 (f := (sa 0)) C0 hP rfl hin dX6_odds_63 ?_
                refine lv_if_ne (tgt := 88) hx hb dX6_odds_64 (by decide) (fun c19 => ?_) (fun c19 => ?_)
                · have hF := (if_neg c19).symm.trans hF
                  refine lv_iconst (v := (0 : Int32)) hx hb dX6_odds_88 (by decide) ?_
                  refine lv_iadd hx hb dX6_odds_89 ?_
                  refine lv_istore (lv' := [(4, .int (t9.2 + (0 : Int32))), (5, .int t9.1), (0, .ref (ad 0)), (1, .int a1), (2, .int a2), (3, .int a3)]) hx hb dX6_odds_90 hl (by decide) rfl (fun ls hl => ?_)
                  refine lv_iinc (v := (t9.1 + 1)) (lv' := [(5, .int (t9.1 + 1)), (4, .int (t9.2 + (0 : Int32))), (0, .ref (ad 0)), (1, .int a1), (2, .int a2), (3, .int a3)]) hx hb dX6_odds_92 hl (k := 1) rfl rfl (by decide) rfl (fun ls hl => ?_)
                  refine lv_goto (tgt := 40) hx hb dX6_odds_95 (by decide) ?_
                  exact ih9 _ hF _ _ _ hP hD hS (lv_sub hl [0, 1, 2, 3, 4, 5] rfl)
                · have hF := (if_pos c19).symm.trans hF
                  refine lv_aload_n hx hb dX6_odds_67 rfl (lv_at hl 2 rfl) ?_
                  refine gM0_5 C0 hP q585 dX6_odds_68 ?_
                  refine lv_iload hx hb dX6_odds_71 (lv_at hl 0 rfl) ?_
                  obtain ⟨hin, hF⟩ := ld_some hF
                  refine aMl3 (f := (sa 3)) C0 hP rfl hin dX6_odds_73 ?_
                  refine lv_iload_n hx hb dX6_odds_74 rfl (lv_at hl 3 rfl) ?_
                  refine lv_icmp_ne (tgt := 88) hx hb dX6_odds_75 (by decide) (fun c20 => ?_) (fun c20 => ?_)
                  · have hF := (if_neg c20).symm.trans hF
                    refine lv_iconst (v := (0 : Int32)) hx hb dX6_odds_88 (by decide) ?_
                    refine lv_iadd hx hb dX6_odds_89 ?_
                    refine lv_istore (lv' := [(4, .int (t9.2 + (0 : Int32))), (5, .int t9.1), (0, .ref (ad 0)), (1, .int a1), (2, .int a2), (3, .int a3)]) hx hb dX6_odds_90 hl (by decide) rfl (fun ls hl => ?_)
                    refine lv_iinc (v := (t9.1 + 1)) (lv' := [(5, .int (t9.1 + 1)), (4, .int (t9.2 + (0 : Int32))), (0, .ref (ad 0)), (1, .int a1), (2, .int a2), (3, .int a3)]) hx hb dX6_odds_92 hl (k := 1) rfl rfl (by decide) rfl (fun ls hl => ?_)
                    refine lv_goto (tgt := 40) hx hb dX6_odds_95 (by decide) ?_
                    exact ih9 _ hF _ _ _ hP hD hS (lv_sub hl [0, 1, 2, 3, 4, 5] rfl)
                  · have hF := (if_pos c20).symm.trans hF
                    refine lv_aload_n hx hb dX6_odds_78 rfl (lv_at hl 2 rfl) ?_
                    refine gM0_3 C0 hP q583 dX6_odds_79 ?_
                    refine lv_iload hx hb dX6_odds_82 (lv_at hl 0 rfl) ?_
                    obtain ⟨hin, hF⟩ := ld_some hF
                    refine aMl1 (f := (sa 1)) C0 hP rfl hin dX6_odds_84 ?_
                    refine lv_goto (tgt := 89) hx hb dX6_odds_85 (by decide) ?_
                    refine lv_iadd hx hb dX6_odds_89 ?_
                    refine lv_istore (lv' := [(4, .int (t9.2 + ((sa 1) (Int32.toNatClampNeg t9.1)))), (5, .int t9.1), (0, .ref (ad 0)), (1, .int a1), (2, .int a2), (3, .int a3)]) hx hb dX6_odds_90 hl (by decide) rfl (fun ls hl => ?_)
                    refine lv_iinc (v := (t9.1 + 1)) (lv' := [(5, .int (t9.1 + 1)), (4, .int (t9.2 + ((sa 1) (Int32.toNatClampNeg t9.1)))), (0, .ref (ad 0)), (1, .int a1), (2, .int a2), (3, .int a3)]) hx hb dX6_odds_92 hl (k := 1) rfl rfl (by decide) rfl (fun ls hl => ?_)
                    refine lv_goto (tgt := 40) hx hb dX6_odds_95 (by decide) ?_
                    exact ih9 _ hF _ _ _ hP hD hS (lv_sub hl [0, 1, 2, 3, 4, 5] rfl)
        exact LP9 _ _ hL9 _ _ _ hP hD hS (lv_sub hl [0, 1, 2, 3, 4, 5] rfl)
      · have hF := (if_pos c8).symm.trans hF
        obtain ⟨r21, hr21, hF⟩ := bd_some hF
        refine kcS (As := []) (rest := []) C0 hA hP hD hS (c_X6_lost l D cA ad si sa r21 hr21) lk_X6_lost q838 q837 hl.1 rfl rfl (Nat.le_of_ble_eq_true rfl) ⟨Nat.le_of_ble_eq_true rfl, Nat.le_of_ble_eq_true rfl⟩ ⟨Nat.le_refl _, Nat.le_refl _⟩ dX6_odds_30 (fun H locs hP hD hS => ?_)
        refine W.eq (g2 := F0 m 33 ls [.long r21]) rfl ?_
        have hF := Option.some.inj hF
        exact hE _ _ _ _ _ hP hD hS dX6_odds_33 hF
theorem lk_X6_reading : LK yX6_reading cX6_reading 3 (some .int) 2 := ⟨q847, q7, by decide +kernel⟩
def F_X6_reading (a1 : Int32) (a2 : Int32) (si : tSI) (sa : tSA) : Option (Int32 × tSI × tSA) :=
  (if (si 1) = 0 then some ((-3 : Int32), si, sa) else (F_X6_all si sa).bind fun r2 => (F_X6_in (Int32.toInt64 a1) (0 : Int64) (Int32.toInt64 r2)).bind fun r3 => (if r3 = 0 then some ((-2 : Int32), si, sa) else (F_X6_in (Int32.toInt64 a2) (0 : Int64) (9999 : Int64)).bind fun r5 => (if r5 = 0 then some ((-2 : Int32), si, sa) else (if (si 8) = (8 : Int32) then some ((-4 : Int32), si, sa) else ld (si 8) 8 (ld (si 8) 8 (some ((((si 8) + (1 : Int32)) - (1 : Int32)), (upd si 8 ((si 8) + (1 : Int32))), (va_up (va_up sa 16 (upd (sa 16) (Int32.toNatClampNeg (si 8)) a1)) 17 (upd (sa 17) (Int32.toNatClampNeg (si 8)) a2)))))))))
set_option maxHeartbeats 4000000 in
set_option maxRecDepth 100000 in
theorem c_X6_reading (l : Launch) (D : va_G) (cA : ClassId) (ad : Nat → Nat) (si : tSI) (sa : tSA) (a1 : Int32) (a2 : Int32) (o : (Int32 × tSI × tSA)) (hF : F_X6_reading a1 a2 si sa = some o) : CG l yX6_reading cX6_reading 3 (some .int) 1 25 D cA [.ref (ad 0), .int a1, .int a2] (WM cA ad si sa) (WM cA ad o.2.1 o.2.2) (some (.int o.1)) := by
  refine CG.ofi (by decide) (Nat.le_of_ble_eq_true rfl) ?_
  intro p ee s m args below meth c A Q H0 ls C0 hA hP hD hS hl hE
  have hl : lv_has ls 3 [(0, .ref (ad 0)), (1, .int a1), (2, .int a2)] := hl
  obtain ⟨hx, hb, hml, hown, ht, hK⟩ := id C0
  unfold F_X6_reading at hF
  refine lv_aload_n hx hb dX6_reading_0 rfl (lv_at hl 0 rfl) ?_
  refine gM0_1 (v := (si 1)) C0 hP rfl q581 dX6_reading_1 ?_
  refine lv_if_ne (tgt := 10) hx hb dX6_reading_4 (by decide) (fun c1 => ?_) (fun c1 => ?_)
  · have hF := (if_neg c1).symm.trans hF
    refine lv_iload_n hx hb dX6_reading_10 rfl (lv_at hl 1 rfl) ?_
    refine lv_i2l hx hb dX6_reading_11 rfl ?_
    refine lv_lconst (v := (0 : Int64)) hx hb dX6_reading_12 (by decide) ?_
    refine lv_aload_n hx hb dX6_reading_13 rfl (lv_at hl 0 rfl) ?_
    obtain ⟨r2, hr2, hF⟩ := bd_some hF
    refine kcV (As := []) (rest := [.long (0 : Int64), .long (Int32.toInt64 a1)]) C0 hA hP hD hS (c_X6_all l D cA ad si sa r2 hr2) lk_X6_all q746 s36 q744 0 6 rfl rfl hl.1 rfl rfl (Nat.le_of_ble_eq_true rfl) ⟨Nat.le_of_ble_eq_true rfl, Nat.le_of_ble_eq_true rfl⟩ ⟨Nat.le_refl _, Nat.le_refl _⟩ dX6_reading_14 (fun H locs hP hD hS => ?_)
    refine W.eq (g2 := F0 m 17 ls [.int r2, .long (0 : Int64), .long (Int32.toInt64 a1)]) rfl ?_
    refine lv_i2l hx hb dX6_reading_17 rfl ?_
    obtain ⟨r3, hr3, hF⟩ := bd_some hF
    refine kcS (As := [.long (Int32.toInt64 a1), .long (0 : Int64), .long (Int32.toInt64 r2)]) (rest := []) C0 hA hP hD hS (c_X6_in l D cA ad si sa (Int32.toInt64 a1) (0 : Int64) (Int32.toInt64 r2) r3 hr3) lk_X6_in q686 q685 hl.1 rfl rfl (Nat.le_of_ble_eq_true rfl) ⟨Nat.le_of_ble_eq_true rfl, Nat.le_of_ble_eq_true rfl⟩ ⟨Nat.le_refl _, Nat.le_refl _⟩ dX6_reading_18 (fun H locs hP hD hS => ?_)
    refine W.eq (g2 := F0 m 21 ls [.int r3]) rfl ?_
    refine lv_if_eq (tgt := 36) hx hb dX6_reading_21 (by decide) (fun c4 => ?_) (fun c4 => ?_)
    · have hF := (if_pos c4).symm.trans hF
      refine lv_bipush (v := (-2 : Int32)) hx hb dX6_reading_36 (by decide) ?_
      have hF := Option.some.inj hF
      subst hF
      exact hE _ _ _ _ _ hP hD hS dX6_reading_38 rfl rfl
    · have hF := (if_neg c4).symm.trans hF
      refine lv_iload_n hx hb dX6_reading_24 rfl (lv_at hl 2 rfl) ?_
      refine lv_i2l hx hb dX6_reading_25 rfl ?_
      refine lv_lconst (v := (0 : Int64)) hx hb dX6_reading_26 (by decide) ?_
      refine lv_ldc2 (v := (9999 : Int64)) hx hb hown (ht _ q848) dX6_reading_27 ?_
      obtain ⟨r5, hr5, hF⟩ := bd_some hF
      refine kcS (As := [.long (Int32.toInt64 a2), .long (0 : Int64), .long (9999 : Int64)]) (rest := []) C0 hA hP hD hS (c_X6_in l D cA ad si sa (Int32.toInt64 a2) (0 : Int64) (9999 : Int64) r5 hr5) lk_X6_in q686 q685 hl.1 rfl rfl (Nat.le_of_ble_eq_true rfl) ⟨Nat.le_of_ble_eq_true rfl, Nat.le_of_ble_eq_true rfl⟩ ⟨Nat.le_refl _, Nat.le_refl _⟩ dX6_reading_30 (fun H locs hP hD hS => ?_)
      refine W.eq (g2 := F0 m 33 ls [.int r5]) rfl ?_
      refine lv_if_ne (tgt := 39) hx hb dX6_reading_33 (by decide) (fun c6 => ?_) (fun c6 => ?_)
      · have hF := (if_neg c6).symm.trans hF
        refine lv_aload_n hx hb dX6_reading_39 rfl (lv_at hl 0 rfl) ?_
        refine gM0_24 (v := (si 8)) C0 hP rfl q604 dX6_reading_40 ?_
        refine lv_bipush (v := (8 : Int32)) hx hb dX6_reading_43 (by decide) ?_
        refine lv_icmp_ne (tgt := 51) hx hb dX6_reading_45 (by decide) (fun c7 => ?_) (fun c7 => ?_)
        · have hF := (if_neg c7).symm.trans hF
          refine lv_aload_n hx hb dX6_reading_51 rfl (lv_at hl 0 rfl) ?_
          refine gM0_25 C0 hP q605 dX6_reading_52 ?_
          refine lv_aload_n hx hb dX6_reading_55 rfl (lv_at hl 0 rfl) ?_
          refine gM0_24 (v := (si 8)) C0 hP rfl q604 dX6_reading_56 ?_
          refine lv_iload_n hx hb dX6_reading_59 rfl (lv_at hl 1 rfl) ?_
          obtain ⟨hin, hF⟩ := ld_some hF
          refine aMs16 (f := (sa 16)) C0 hP hD hS rfl hin dX6_reading_60 (fun H locs hP hD hS => ?_)
          refine lv_aload_n hx hb dX6_reading_61 rfl (lv_at hl 0 rfl) ?_
          refine gM0_26 C0 hP q606 dX6_reading_62 ?_
          refine lv_aload_n hx hb dX6_reading_65 rfl (lv_at hl 0 rfl) ?_
          refine gM0_24 (v := (si 8)) C0 hP rfl q604 dX6_reading_66 ?_
          refine lv_iload_n hx hb dX6_reading_69 rfl (lv_at hl 2 rfl) ?_
          obtain ⟨hin, hF⟩ := ld_some hF
          refine aMs17 (f := (sa 17)) C0 hP hD hS rfl hin dX6_reading_70 (fun H locs hP hD hS => ?_)
          refine lv_aload_n hx hb dX6_reading_71 rfl (lv_at hl 0 rfl) ?_
          refine lv_dup hx hb dX6_reading_72 rfl ?_
          refine gM0_24 (v := (si 8)) C0 hP rfl q604 dX6_reading_73 ?_
          refine lv_iconst (v := (1 : Int32)) hx hb dX6_reading_76 (by decide) ?_
          refine lv_iadd hx hb dX6_reading_77 ?_
          refine pM0_24 C0 hP hD hS q604 dX6_reading_78 (fun H locs hP hD hS => ?_)
          refine lv_aload_n hx hb dX6_reading_81 rfl (lv_at hl 0 rfl) ?_
          refine gM0_24 (v := ((si 8) + (1 : Int32))) C0 hP rfl q604 dX6_reading_82 ?_
          refine lv_iconst (v := (1 : Int32)) hx hb dX6_reading_85 (by decide) ?_
          refine lv_isub hx hb dX6_reading_86 ?_
          have hF := Option.some.inj hF
          subst hF
          exact hE _ _ _ _ _ hP hD hS dX6_reading_87 rfl rfl
        · have hF := (if_pos c7).symm.trans hF
          refine lv_bipush (v := (-4 : Int32)) hx hb dX6_reading_48 (by decide) ?_
          have hF := Option.some.inj hF
          subst hF
          exact hE _ _ _ _ _ hP hD hS dX6_reading_50 rfl rfl
      · have hF := (if_pos c6).symm.trans hF
        refine lv_bipush (v := (-2 : Int32)) hx hb dX6_reading_36 (by decide) ?_
        have hF := Option.some.inj hF
        subst hF
        exact hE _ _ _ _ _ hP hD hS dX6_reading_38 rfl rfl
  · have hF := (if_pos c1).symm.trans hF
    refine lv_bipush (v := (-3 : Int32)) hx hb dX6_reading_7 (by decide) ?_
    have hF := Option.some.inj hF
    subst hF
    exact hE _ _ _ _ _ hP hD hS dX6_reading_9 rfl rfl
theorem lk_X6_back : LK yX6_back cX6_back 2 (some .int) 1 := ⟨q852, q7, by decide +kernel⟩
def F_X6_back (a1 : Int32) (si : tSI) (sa : tSA) : Option (Int32 × tSI × tSA) :=
  (F_X6_in (Int32.toInt64 a1) (0 : Int64) (Int32.toInt64 (si 8))).bind fun r1 => (if r1 = 0 then some ((-2 : Int32), si, sa) else some (((si 8) - a1), (upd si 8 ((si 8) - a1)), sa))
set_option maxHeartbeats 4000000 in
set_option maxRecDepth 100000 in
theorem c_X6_back (l : Launch) (D : va_G) (cA : ClassId) (ad : Nat → Nat) (si : tSI) (sa : tSA) (a1 : Int32) (o : (Int32 × tSI × tSA)) (hF : F_X6_back a1 si sa = some o) : CG l yX6_back cX6_back 2 (some .int) 1 25 D cA [.ref (ad 0), .int a1] (WM cA ad si sa) (WM cA ad o.2.1 o.2.2) (some (.int o.1)) := by
  refine CG.ofi (by decide) (Nat.le_of_ble_eq_true rfl) ?_
  intro p ee s m args below meth c A Q H0 ls C0 hA hP hD hS hl hE
  have hl : lv_has ls 2 [(0, .ref (ad 0)), (1, .int a1)] := hl
  obtain ⟨hx, hb, hml, hown, ht, hK⟩ := id C0
  unfold F_X6_back at hF
  refine lv_iload_n hx hb dX6_back_0 rfl (lv_at hl 1 rfl) ?_
  refine lv_i2l hx hb dX6_back_1 rfl ?_
  refine lv_lconst (v := (0 : Int64)) hx hb dX6_back_2 (by decide) ?_
  refine lv_aload_n hx hb dX6_back_3 rfl (lv_at hl 0 rfl) ?_
  refine gM0_24 (v := (si 8)) C0 hP rfl q604 dX6_back_4 ?_
  refine lv_i2l hx hb dX6_back_7 rfl ?_
  obtain ⟨r1, hr1, hF⟩ := bd_some hF
  refine kcS (As := [.long (Int32.toInt64 a1), .long (0 : Int64), .long (Int32.toInt64 (si 8))]) (rest := []) C0 hA hP hD hS (c_X6_in l D cA ad si sa (Int32.toInt64 a1) (0 : Int64) (Int32.toInt64 (si 8)) r1 hr1) lk_X6_in q686 q685 hl.1 rfl rfl (Nat.le_of_ble_eq_true rfl) ⟨Nat.le_of_ble_eq_true rfl, Nat.le_of_ble_eq_true rfl⟩ ⟨Nat.le_refl _, Nat.le_refl _⟩ dX6_back_8 (fun H locs hP hD hS => ?_)
  refine W.eq (g2 := F0 m 11 ls [.int r1]) rfl ?_
  refine lv_if_ne (tgt := 17) hx hb dX6_back_11 (by decide) (fun c2 => ?_) (fun c2 => ?_)
  · have hF := (if_neg c2).symm.trans hF
    refine lv_aload_n hx hb dX6_back_17 rfl (lv_at hl 0 rfl) ?_
    refine lv_dup hx hb dX6_back_18 rfl ?_
    refine gM0_24 (v := (si 8)) C0 hP rfl q604 dX6_back_19 ?_
    refine lv_iload_n hx hb dX6_back_22 rfl (lv_at hl 1 rfl) ?_
    refine lv_isub hx hb dX6_back_23 ?_
    refine pM0_24 C0 hP hD hS q604 dX6_back_24 (fun H locs hP hD hS => ?_)
    refine lv_aload_n hx hb dX6_back_27 rfl (lv_at hl 0 rfl) ?_
    refine gM0_24 (v := ((si 8) - a1)) C0 hP rfl q604 dX6_back_28 ?_
    have hF := Option.some.inj hF
    subst hF
    exact hE _ _ _ _ _ hP hD hS dX6_back_31 rfl rfl
  · have hF := (if_pos c2).symm.trans hF
    refine lv_bipush (v := (-2 : Int32)) hx hb dX6_back_14 (by decide) ?_
    have hF := Option.some.inj hF
    subst hF
    exact hE _ _ _ _ _ hP hD hS dX6_back_16 rfl rfl
theorem lk_X6_areSo : LK yX6_areSo cX6_areSo 3 (some .boolean) 0 := ⟨q860, q7, by decide +kernel⟩
def S_X6_areSo_4 (si : tSI) (sa : tSA) (rec1 : ((Int32 × Int32) → Option Int32)) (t1 : (Int32 × Int32)) : Option Int32 :=
  (if (si 8) ≤ t1.1 then some t1.2 else (if t1.2 = 0 then rec1 ((t1.1 + 1), (0 : Int32)) else ld t1.1 8 ((F_X6_looksOf ((sa 16) (Int32.toNatClampNeg t1.1)) si sa).bind fun r5 => ld t1.1 8 ((if r5 = ((sa 17) (Int32.toNatClampNeg t1.1)) then rec1 ((t1.1 + 1), (1 : Int32)) else rec1 ((t1.1 + 1), (0 : Int32)))))))
def F_X6_areSo (si : tSI) (sa : tSA) : Option Int32 :=
  (lp (S_X6_areSo_4 si sa) 100 ((0 : Int32), (1 : Int32))).bind fun (e2 : Int32) => zb e2 (some e2)
set_option maxHeartbeats 4000000 in
set_option maxRecDepth 100000 in
theorem c_X6_areSo (l : Launch) (D : va_G) (cA : ClassId) (ad : Nat → Nat) (si : tSI) (sa : tSA) (o : Int32) (hF : F_X6_areSo si sa = some o) : CG l yX6_areSo cX6_areSo 3 (some .boolean) 2 45 D cA [.ref (ad 0)] (WM cA ad si sa) (WM cA ad si sa) (some (.int o)) := by
  refine CG.ofi (by decide) (Nat.le_of_ble_eq_true rfl) ?_
  intro p ee s m args below meth c A Q H0 ls C0 hA hP hD hS hl hE
  have hl : lv_has ls 3 [(0, .ref (ad 0))] := hl
  obtain ⟨hx, hb, hml, hown, ht, hK⟩ := id C0
  unfold F_X6_areSo at hF
  refine lv_iconst (v := (1 : Int32)) hx hb dX6_areSo_0 (by decide) ?_
  refine lv_istore_n (lv' := [(1, .int (1 : Int32)), (0, .ref (ad 0))]) hx hb dX6_areSo_1 rfl hl (by decide) rfl (fun ls hl => ?_)
  refine lv_iconst (v := (0 : Int32)) hx hb dX6_areSo_2 (by decide) ?_
  refine lv_istore_n (lv' := [(2, .int (0 : Int32)), (1, .int (1 : Int32)), (0, .ref (ad 0))]) hx hb dX6_areSo_3 rfl hl (by decide) rfl (fun ls hl => ?_)
  obtain ⟨ox1, hL1, hX1⟩ := bd_all hF
  have JE1 : ∀ (e2 : Int32), ox1 = e2 → ∀ (H : Heap) (locs : List Loc) (ls : Array Slot), va_P D vwCl (WM cA ad si sa) H → va_D A (WM cA ad si sa) → va_S A H0 H locs → lv_has ls 3 [(1, .int e2)] → W p l ee (rmx 2 45) s m args below meth c H locs 0 0 Q (F0 m 47 ls []) := by
    intro e2 he H locs ls hP hD hS hl
    have hF := hX1 _ he
    refine lv_iload_n hx hb dX6_areSo_47 rfl (lv_at hl 0 rfl) ?_
    obtain ⟨hz, hF⟩ := zb_some hF
    have hF := Option.some.inj hF
    exact hE _ _ _ _ _ hP hD hS dX6_areSo_48 hz hF
  have LP1 : ∀ (k1 : Nat) (t1 : (Int32 × Int32)), lp (S_X6_areSo_4 si sa) k1 t1 = some ox1 → ∀ (H : Heap) (locs : List Loc) (ls : Array Slot), va_P D vwCl (WM cA ad si sa) H → va_D A (WM cA ad si sa) → va_S A H0 H locs → lv_has ls 3 [(2, .int t1.1), (1, .int t1.2), (0, .ref (ad 0))] → W p l ee (rmx 2 45) s m args below meth c H locs 0 0 Q (F0 m 4 ls []) := by
    intro k1
    induction k1 with
    | zero => intro t1 hF; exact (lp_no hF).elim
    | succ k1 ih1 =>
      intro t1 hF H locs ls hP hD hS hl
      change (S_X6_areSo_4 si sa) (lp (S_X6_areSo_4 si sa) k1) t1 = some ox1 at hF
      unfold S_X6_areSo_4 at hF
      refine lv_iload_n hx hb dX6_areSo_4 rfl (lv_at hl 0 rfl) ?_
      refine lv_aload_n hx hb dX6_areSo_5 rfl (lv_at hl 2 rfl) ?_
      refine gM0_24 (v := (si 8)) C0 hP rfl q604 dX6_areSo_6 ?_
      refine lv_icmp_ge (tgt := 47) hx hb dX6_areSo_9 (by decide) (fun c3 => ?_) (fun c3 => ?_)
      · have hF := (if_pos c3).symm.trans hF
        exact JE1 _ (Option.some.inj hF).symm _ _ _ hP hD hS (lv_sub hl [1] rfl)
      · have hF := (if_neg c3).symm.trans hF
        refine lv_iload_n hx hb dX6_areSo_12 rfl (lv_at hl 1 rfl) ?_
        refine lv_if_eq (tgt := 39) hx hb dX6_areSo_13 (by decide) (fun c4 => ?_) (fun c4 => ?_)
        · have hF := (if_pos c4).symm.trans hF
          refine lv_iconst (v := (0 : Int32)) hx hb dX6_areSo_39 (by decide) ?_
          refine lv_istore_n (lv' := [(1, .int (0 : Int32)), (2, .int t1.1), (0, .ref (ad 0))]) hx hb dX6_areSo_40 rfl hl (by decide) rfl (fun ls hl => ?_)
          refine lv_iinc (v := (t1.1 + 1)) (lv' := [(2, .int (t1.1 + 1)), (1, .int (0 : Int32)), (0, .ref (ad 0))]) hx hb dX6_areSo_41 hl (k := 1) rfl rfl (by decide) rfl (fun ls hl => ?_)
          refine lv_goto (tgt := 4) hx hb dX6_areSo_44 (by decide) ?_
          exact ih1 _ hF _ _ _ hP hD hS (lv_sub hl [0, 1, 2] rfl)
        · have hF := (if_neg c4).symm.trans hF
          refine lv_aload_n hx hb dX6_areSo_16 rfl (lv_at hl 2 rfl) ?_
          refine lv_aload_n hx hb dX6_areSo_17 rfl (lv_at hl 2 rfl) ?_
          refine gM0_25 C0 hP q605 dX6_areSo_18 ?_
          refine lv_iload_n hx hb dX6_areSo_21 rfl (lv_at hl 0 rfl) ?_
          obtain ⟨hin, hF⟩ := ld_some hF
          refine aMl16 (f := (sa 16)) C0 hP rfl hin dX6_areSo_22 ?_
          obtain ⟨r5, hr5, hF⟩ := bd_some hF
          refine kcV (As := [.int ((sa 16) (Int32.toNatClampNeg t1.1))]) (rest := []) C0 hA hP hD hS (c_X6_looksOf l D cA ad si sa ((sa 16) (Int32.toNatClampNeg t1.1)) r5 hr5) lk_X6_looksOf q791 s42 q789 0 6 rfl rfl hl.1 rfl rfl (Nat.le_of_ble_eq_true rfl) ⟨Nat.le_of_ble_eq_true rfl, Nat.le_of_ble_eq_true rfl⟩ ⟨Nat.le_refl _, Nat.le_refl _⟩ dX6_areSo_23 (fun H locs hP hD hS => ?_)
          refine W.eq (g2 := F0 m 26 ls [.int r5]) rfl ?_
          refine lv_aload_n hx hb dX6_areSo_26 rfl (lv_at hl 2 rfl) ?_
          refine gM0_26 C0 hP q606 dX6_areSo_27 ?_
          refine lv_iload_n hx hb dX6_areSo_30 rfl (lv_at hl 0 rfl) ?_
          obtain ⟨hin, hF⟩ := ld_some hF
          refine aMl17 (f := (sa 17)) C0 hP rfl hin dX6_areSo_31 ?_
          refine lv_icmp_ne (tgt := 39) hx hb dX6_areSo_32 (by decide) (fun c6 => ?_) (fun c6 => ?_)
          · have hF := (if_neg c6).symm.trans hF
            refine lv_iconst (v := (0 : Int32)) hx hb dX6_areSo_39 (by decide) ?_
            refine lv_istore_n (lv' := [(1, .int (0 : Int32)), (2, .int t1.1), (0, .ref (ad 0))]) hx hb dX6_areSo_40 rfl hl (by decide) rfl (fun ls hl => ?_)
            refine lv_iinc (v := (t1.1 + 1)) (lv' := [(2, .int (t1.1 + 1)), (1, .int (0 : Int32)), (0, .ref (ad 0))]) hx hb dX6_areSo_41 hl (k := 1) rfl rfl (by decide) rfl (fun ls hl => ?_)
            refine lv_goto (tgt := 4) hx hb dX6_areSo_44 (by decide) ?_
            exact ih1 _ hF _ _ _ hP hD hS (lv_sub hl [0, 1, 2] rfl)
          · have hF := (if_pos c6).symm.trans hF
            refine lv_iconst (v := (1 : Int32)) hx hb dX6_areSo_35 (by decide) ?_
            refine lv_goto (tgt := 40) hx hb dX6_areSo_36 (by decide) ?_
            refine lv_istore_n (lv' := [(1, .int (1 : Int32)), (2, .int t1.1), (0, .ref (ad 0))]) hx hb dX6_areSo_40 rfl hl (by decide) rfl (fun ls hl => ?_)
            refine lv_iinc (v := (t1.1 + 1)) (lv' := [(2, .int (t1.1 + 1)), (1, .int (1 : Int32)), (0, .ref (ad 0))]) hx hb dX6_areSo_41 hl (k := 1) rfl rfl (by decide) rfl (fun ls hl => ?_)
            refine lv_goto (tgt := 4) hx hb dX6_areSo_44 (by decide) ?_
            exact ih1 _ hF _ _ _ hP hD hS (lv_sub hl [0, 1, 2] rfl)
  exact LP1 _ _ hL1 _ _ _ hP hD hS (lv_sub hl [0, 1, 2] rfl)
theorem lk_X6_counts : LK yX6_counts cX6_counts 5 (some .int) 1 := ⟨q856, q7, by decide +kernel⟩
def S_X6_counts_22 (a1 : Int32) (rec3 : ((Int32 × Int32 × tSI × tSA) → Option (Int32 × tSI × tSA))) (t3 : (Int32 × Int32 × tSI × tSA)) : Option (Int32 × tSI × tSA) :=
  (if (10 : Int32) ≤ t3.1 then some (t3.2.1, t3.2.2.1, t3.2.2.2) else ld a1 6 ((F_X6_areSo t3.2.2.1 (va_up t3.2.2.2 1 (upd (t3.2.2.2 1) (Int32.toNatClampNeg a1) t3.1))).bind fun r6 => (if r6 = 0 then rec3 ((t3.1 + 1), (t3.2.1 ||| (0 : Int32)), t3.2.2.1, (va_up t3.2.2.2 1 (upd (t3.2.2.2 1) (Int32.toNatClampNeg a1) t3.1))) else rec3 ((t3.1 + 1), (t3.2.1 ||| ((1 : Int32) <<< (t3.1 &&& 31))), t3.2.2.1, (va_up t3.2.2.2 1 (upd (t3.2.2.2 1) (Int32.toNatClampNeg a1) t3.1))))))
def F_X6_counts (a1 : Int32) (si : tSI) (sa : tSA) : Option (Int32 × tSI × tSA) :=
  (F_X6_noSort a1 si sa).bind fun r1 => (if r1 = 0 then ld a1 6 ((lp (S_X6_counts_22 a1) 100 ((0 : Int32), (0 : Int32), si, sa)).bind fun (e4 : (Int32 × tSI × tSA)) => ld a1 6 (some (e4.1, e4.2.1, (va_up e4.2.2 1 (upd (e4.2.2 1) (Int32.toNatClampNeg a1) ((sa 1) (Int32.toNatClampNeg a1))))))) else some ((-1 : Int32), si, sa))
set_option maxHeartbeats 4000000 in
set_option maxRecDepth 100000 in
theorem c_X6_counts (l : Launch) (D : va_G) (cA : ClassId) (ad : Nat → Nat) (si : tSI) (sa : tSA) (a1 : Int32) (o : (Int32 × tSI × tSA)) (hF : F_X6_counts a1 si sa = some o) : CG l yX6_counts cX6_counts 5 (some .int) 3 67 D cA [.ref (ad 0), .int a1] (WM cA ad si sa) (WM cA ad o.2.1 o.2.2) (some (.int o.1)) := by
  refine CG.ofi (by decide) (Nat.le_of_ble_eq_true rfl) ?_
  intro p ee s m args below meth c A Q H0 ls C0 hA hP hD hS hl hE
  have hl : lv_has ls 5 [(0, .ref (ad 0)), (1, .int a1)] := hl
  obtain ⟨hx, hb, hml, hown, ht, hK⟩ := id C0
  unfold F_X6_counts at hF
  refine lv_aload_n hx hb dX6_counts_0 rfl (lv_at hl 0 rfl) ?_
  refine lv_iload_n hx hb dX6_counts_1 rfl (lv_at hl 1 rfl) ?_
  obtain ⟨r1, hr1, hF⟩ := bd_some hF
  refine kcV (As := [.int a1]) (rest := []) C0 hA hP hD hS (c_X6_noSort l D cA ad si sa a1 r1 hr1) lk_X6_noSort q730 s33 q728 0 6 rfl rfl hl.1 rfl rfl (Nat.le_of_ble_eq_true rfl) ⟨Nat.le_of_ble_eq_true rfl, Nat.le_of_ble_eq_true rfl⟩ ⟨Nat.le_refl _, Nat.le_refl _⟩ dX6_counts_2 (fun H locs hP hD hS => ?_)
  refine W.eq (g2 := F0 m 5 ls [.int r1]) rfl ?_
  refine lv_if_eq (tgt := 10) hx hb dX6_counts_5 (by decide) (fun c2 => ?_) (fun c2 => ?_)
  · have hF := (if_pos c2).symm.trans hF
    refine lv_aload_n hx hb dX6_counts_10 rfl (lv_at hl 0 rfl) ?_
    refine gM0_3 C0 hP q583 dX6_counts_11 ?_
    refine lv_iload_n hx hb dX6_counts_14 rfl (lv_at hl 1 rfl) ?_
    obtain ⟨hin, hF⟩ := ld_some hF
    refine aMl1 (f := (sa 1)) C0 hP rfl hin dX6_counts_15 ?_
    refine lv_istore_n (lv' := [(2, .int ((sa 1) (Int32.toNatClampNeg a1))), (0, .ref (ad 0)), (1, .int a1)]) hx hb dX6_counts_16 rfl hl (by decide) rfl (fun ls hl => ?_)
    refine lv_iconst (v := (0 : Int32)) hx hb dX6_counts_17 (by decide) ?_
    refine lv_istore_n (lv' := [(3, .int (0 : Int32)), (2, .int ((sa 1) (Int32.toNatClampNeg a1))), (0, .ref (ad 0)), (1, .int a1)]) hx hb dX6_counts_18 rfl hl (by decide) rfl (fun ls hl => ?_)
    refine lv_iconst (v := (0 : Int32)) hx hb dX6_counts_19 (by decide) ?_
    refine lv_istore (lv' := [(4, .int (0 : Int32)), (3, .int (0 : Int32)), (2, .int ((sa 1) (Int32.toNatClampNeg a1))), (0, .ref (ad 0)), (1, .int a1)]) hx hb dX6_counts_20 hl (by decide) rfl (fun ls hl => ?_)
    obtain ⟨ox3, hL3, hX3⟩ := bd_all hF
    have JE3 : ∀ (e4 : (Int32 × tSI × tSA)), ox3 = e4 → ∀ (H : Heap) (locs : List Loc) (ls : Array Slot), va_P D vwCl (WM cA ad e4.2.1 e4.2.2) H → va_D A (WM cA ad e4.2.1 e4.2.2) → va_S A H0 H locs → lv_has ls 5 [(3, .int e4.1), (2, .int ((sa 1) (Int32.toNatClampNeg a1))), (0, .ref (ad 0)), (1, .int a1)] → W p l ee (rmx 3 67) s m args below meth c H locs 0 0 Q (F0 m 61 ls []) := by
      intro e4 he H locs ls hP hD hS hl
      have hF := hX3 _ he
      refine lv_aload_n hx hb dX6_counts_61 rfl (lv_at hl 2 rfl) ?_
      refine gM0_3 C0 hP q583 dX6_counts_62 ?_
      refine lv_iload_n hx hb dX6_counts_65 rfl (lv_at hl 3 rfl) ?_
      refine lv_iload_n hx hb dX6_counts_66 rfl (lv_at hl 1 rfl) ?_
      obtain ⟨hin, hF⟩ := ld_some hF
      refine aMs1 (f := (e4.2.2 1)) C0 hP hD hS rfl hin dX6_counts_67 (fun H locs hP hD hS => ?_)
      refine lv_iload_n hx hb dX6_counts_68 rfl (lv_at hl 0 rfl) ?_
      have hF := Option.some.inj hF
      subst hF
      exact hE _ _ _ _ _ hP hD hS dX6_counts_69 rfl rfl
    have LP3 : ∀ (k3 : Nat) (t3 : (Int32 × Int32 × tSI × tSA)), lp (S_X6_counts_22 a1) k3 t3 = some ox3 → ∀ (H : Heap) (locs : List Loc) (ls : Array Slot), va_P D vwCl (WM cA ad t3.2.2.1 t3.2.2.2) H → va_D A (WM cA ad t3.2.2.1 t3.2.2.2) → va_S A H0 H locs → lv_has ls 5 [(4, .int t3.1), (3, .int t3.2.1), (2, .int ((sa 1) (Int32.toNatClampNeg a1))), (0, .ref (ad 0)), (1, .int a1)] → W p l ee (rmx 3 67) s m args below meth c H locs 0 0 Q (F0 m 22 ls []) := by
      intro k3
      induction k3 with
      | zero => intro t3 hF; exact (lp_no hF).elim
      | succ k3 ih3 =>
        intro t3 hF H locs ls hP hD hS hl
        change (S_X6_counts_22 a1) (lp (S_X6_counts_22 a1) k3) t3 = some ox3 at hF
        unfold S_X6_counts_22 at hF
        refine lv_iload hx hb dX6_counts_22 (lv_at hl 0 rfl) ?_
        refine lv_bipush (v := (10 : Int32)) hx hb dX6_counts_24 (by decide) ?_
        refine lv_icmp_ge (tgt := 61) hx hb dX6_counts_26 (by decide) (fun c5 => ?_) (fun c5 => ?_)
        · have hF := (if_pos c5).symm.trans hF
          exact JE3 _ (Option.some.inj hF).symm _ _ _ hP hD hS (lv_sub hl [1, 2, 3, 4] rfl)
        · have hF := (if_neg c5).symm.trans hF
          refine lv_aload_n hx hb dX6_counts_29 rfl (lv_at hl 3 rfl) ?_
          refine gM0_3 C0 hP q583 dX6_counts_30 ?_
          refine lv_iload_n hx hb dX6_counts_33 rfl (lv_at hl 4 rfl) ?_
          refine lv_iload hx hb dX6_counts_34 (lv_at hl 0 rfl) ?_
          obtain ⟨hin, hF⟩ := ld_some hF
          refine aMs1 (f := (t3.2.2.2 1)) C0 hP hD hS rfl hin dX6_counts_36 (fun H locs hP hD hS => ?_)
          refine lv_iload_n hx hb dX6_counts_37 rfl (lv_at hl 1 rfl) ?_
          refine lv_aload_n hx hb dX6_counts_38 rfl (lv_at hl 3 rfl) ?_
          obtain ⟨r6, hr6, hF⟩ := bd_some hF
          refine kcV (As := []) (rest := [.int t3.2.1]) C0 hA hP hD hS (c_X6_areSo l D cA ad t3.2.2.1 (va_up t3.2.2.2 1 (upd (t3.2.2.2 1) (Int32.toNatClampNeg a1) t3.1)) r6 hr6) lk_X6_areSo q859 s48 q857 0 6 rfl rfl hl.1 rfl rfl (Nat.le_of_ble_eq_true rfl) ⟨Nat.le_of_ble_eq_true rfl, Nat.le_of_ble_eq_true rfl⟩ ⟨Nat.le_refl _, Nat.le_refl _⟩ dX6_counts_39 (fun H locs hP hD hS => ?_)
          refine W.eq (g2 := F0 m 42 ls [.int r6, .int t3.2.1]) rfl ?_
          refine lv_if_eq (tgt := 52) hx hb dX6_counts_42 (by decide) (fun c7 => ?_) (fun c7 => ?_)
          · have hF := (if_pos c7).symm.trans hF
            refine lv_iconst (v := (0 : Int32)) hx hb dX6_counts_52 (by decide) ?_
            refine lv_ior hx hb dX6_counts_53 ?_
            refine lv_istore_n (lv' := [(3, .int (t3.2.1 ||| (0 : Int32))), (4, .int t3.1), (2, .int ((sa 1) (Int32.toNatClampNeg a1))), (0, .ref (ad 0)), (1, .int a1)]) hx hb dX6_counts_54 rfl hl (by decide) rfl (fun ls hl => ?_)
            refine lv_iinc (v := (t3.1 + 1)) (lv' := [(4, .int (t3.1 + 1)), (3, .int (t3.2.1 ||| (0 : Int32))), (2, .int ((sa 1) (Int32.toNatClampNeg a1))), (0, .ref (ad 0)), (1, .int a1)]) hx hb dX6_counts_55 hl (k := 1) rfl rfl (by decide) rfl (fun ls hl => ?_)
            refine lv_goto (tgt := 22) hx hb dX6_counts_58 (by decide) ?_
            exact ih3 _ hF _ _ _ hP hD hS (lv_sub hl [0, 1, 2, 3, 4] rfl)
          · have hF := (if_neg c7).symm.trans hF
            refine lv_iconst (v := (1 : Int32)) hx hb dX6_counts_45 (by decide) ?_
            refine lv_iload hx hb dX6_counts_46 (lv_at hl 0 rfl) ?_
            refine lv_ishl hx hb dX6_counts_48 ?_
            refine lv_goto (tgt := 53) hx hb dX6_counts_49 (by decide) ?_
            refine lv_ior hx hb dX6_counts_53 ?_
            refine lv_istore_n (lv' := [(3, .int (t3.2.1 ||| ((1 : Int32) <<< (t3.1 &&& 31)))), (4, .int t3.1), (2, .int ((sa 1) (Int32.toNatClampNeg a1))), (0, .ref (ad 0)), (1, .int a1)]) hx hb dX6_counts_54 rfl hl (by decide) rfl (fun ls hl => ?_)
            refine lv_iinc (v := (t3.1 + 1)) (lv' := [(4, .int (t3.1 + 1)), (3, .int (t3.2.1 ||| ((1 : Int32) <<< (t3.1 &&& 31)))), (2, .int ((sa 1) (Int32.toNatClampNeg a1))), (0, .ref (ad 0)), (1, .int a1)]) hx hb dX6_counts_55 hl (k := 1) rfl rfl (by decide) rfl (fun ls hl => ?_)
            refine lv_goto (tgt := 22) hx hb dX6_counts_58 (by decide) ?_
            exact ih3 _ hF _ _ _ hP hD hS (lv_sub hl [0, 1, 2, 3, 4] rfl)
    exact LP3 _ _ hL3 _ _ _ hP hD hS (lv_sub hl [0, 1, 2, 3, 4] rfl)
  · have hF := (if_neg c2).symm.trans hF
    refine lv_iconst (v := (-1 : Int32)) hx hb dX6_counts_8 (by decide) ?_
    have hF := Option.some.inj hF
    subst hF
    exact hE _ _ _ _ _ hP hD hS dX6_counts_9 rfl rfl
theorem lk_X6_kinds : LK yX6_kinds cX6_kinds 5 (some .int) 1 := ⟨q864, q7, by decide +kernel⟩
def S_X6_kinds_22 (a1 : Int32) (rec3 : ((Int32 × Int32 × tSI × tSA) → Option (Int32 × tSI × tSA))) (t3 : (Int32 × Int32 × tSI × tSA)) : Option (Int32 × tSI × tSA) :=
  (if (3 : Int32) ≤ t3.1 then some (t3.2.1, t3.2.2.1, t3.2.2.2) else ld a1 6 ((F_X6_areSo t3.2.2.1 (va_up t3.2.2.2 0 (upd (t3.2.2.2 0) (Int32.toNatClampNeg a1) t3.1))).bind fun r6 => (if r6 = 0 then rec3 ((t3.1 + 1), (t3.2.1 ||| (0 : Int32)), t3.2.2.1, (va_up t3.2.2.2 0 (upd (t3.2.2.2 0) (Int32.toNatClampNeg a1) t3.1))) else rec3 ((t3.1 + 1), (t3.2.1 ||| ((1 : Int32) <<< (t3.1 &&& 31))), t3.2.2.1, (va_up t3.2.2.2 0 (upd (t3.2.2.2 0) (Int32.toNatClampNeg a1) t3.1))))))
def F_X6_kinds (a1 : Int32) (si : tSI) (sa : tSA) : Option (Int32 × tSI × tSA) :=
  (F_X6_noSort a1 si sa).bind fun r1 => (if r1 = 0 then ld a1 6 ((lp (S_X6_kinds_22 a1) 100 ((0 : Int32), (0 : Int32), si, sa)).bind fun (e4 : (Int32 × tSI × tSA)) => ld a1 6 (some (e4.1, e4.2.1, (va_up e4.2.2 0 (upd (e4.2.2 0) (Int32.toNatClampNeg a1) ((sa 0) (Int32.toNatClampNeg a1))))))) else some ((-1 : Int32), si, sa))
set_option maxHeartbeats 4000000 in
set_option maxRecDepth 100000 in
theorem c_X6_kinds (l : Launch) (D : va_G) (cA : ClassId) (ad : Nat → Nat) (si : tSI) (sa : tSA) (a1 : Int32) (o : (Int32 × tSI × tSA)) (hF : F_X6_kinds a1 si sa = some o) : CG l yX6_kinds cX6_kinds 5 (some .int) 3 67 D cA [.ref (ad 0), .int a1] (WM cA ad si sa) (WM cA ad o.2.1 o.2.2) (some (.int o.1)) := by
  refine CG.ofi (by decide) (Nat.le_of_ble_eq_true rfl) ?_
  intro p ee s m args below meth c A Q H0 ls C0 hA hP hD hS hl hE
  have hl : lv_has ls 5 [(0, .ref (ad 0)), (1, .int a1)] := hl
  obtain ⟨hx, hb, hml, hown, ht, hK⟩ := id C0
  unfold F_X6_kinds at hF
  refine lv_aload_n hx hb dX6_kinds_0 rfl (lv_at hl 0 rfl) ?_
  refine lv_iload_n hx hb dX6_kinds_1 rfl (lv_at hl 1 rfl) ?_
  obtain ⟨r1, hr1, hF⟩ := bd_some hF
  refine kcV (As := [.int a1]) (rest := []) C0 hA hP hD hS (c_X6_noSort l D cA ad si sa a1 r1 hr1) lk_X6_noSort q730 s33 q728 0 6 rfl rfl hl.1 rfl rfl (Nat.le_of_ble_eq_true rfl) ⟨Nat.le_of_ble_eq_true rfl, Nat.le_of_ble_eq_true rfl⟩ ⟨Nat.le_refl _, Nat.le_refl _⟩ dX6_kinds_2 (fun H locs hP hD hS => ?_)
  refine W.eq (g2 := F0 m 5 ls [.int r1]) rfl ?_
  refine lv_if_eq (tgt := 10) hx hb dX6_kinds_5 (by decide) (fun c2 => ?_) (fun c2 => ?_)
  · have hF := (if_pos c2).symm.trans hF
    refine lv_aload_n hx hb dX6_kinds_10 rfl (lv_at hl 0 rfl) ?_
    refine gM0_2 C0 hP q582 dX6_kinds_11 ?_
    refine lv_iload_n hx hb dX6_kinds_14 rfl (lv_at hl 1 rfl) ?_
    obtain ⟨hin, hF⟩ := ld_some hF
    refine aMl0 (f := (sa 0)) C0 hP rfl hin dX6_kinds_15 ?_
    refine lv_istore_n (lv' := [(2, .int ((sa 0) (Int32.toNatClampNeg a1))), (0, .ref (ad 0)), (1, .int a1)]) hx hb dX6_kinds_16 rfl hl (by decide) rfl (fun ls hl => ?_)
    refine lv_iconst (v := (0 : Int32)) hx hb dX6_kinds_17 (by decide) ?_
    refine lv_istore_n (lv' := [(3, .int (0 : Int32)), (2, .int ((sa 0) (Int32.toNatClampNeg a1))), (0, .ref (ad 0)), (1, .int a1)]) hx hb dX6_kinds_18 rfl hl (by decide) rfl (fun ls hl => ?_)
    refine lv_iconst (v := (0 : Int32)) hx hb dX6_kinds_19 (by decide) ?_
    refine lv_istore (lv' := [(4, .int (0 : Int32)), (3, .int (0 : Int32)), (2, .int ((sa 0) (Int32.toNatClampNeg a1))), (0, .ref (ad 0)), (1, .int a1)]) hx hb dX6_kinds_20 hl (by decide) rfl (fun ls hl => ?_)
    obtain ⟨ox3, hL3, hX3⟩ := bd_all hF
    have JE3 : ∀ (e4 : (Int32 × tSI × tSA)), ox3 = e4 → ∀ (H : Heap) (locs : List Loc) (ls : Array Slot), va_P D vwCl (WM cA ad e4.2.1 e4.2.2) H → va_D A (WM cA ad e4.2.1 e4.2.2) → va_S A H0 H locs → lv_has ls 5 [(3, .int e4.1), (2, .int ((sa 0) (Int32.toNatClampNeg a1))), (0, .ref (ad 0)), (1, .int a1)] → W p l ee (rmx 3 67) s m args below meth c H locs 0 0 Q (F0 m 60 ls []) := by
      intro e4 he H locs ls hP hD hS hl
      have hF := hX3 _ he
      refine lv_aload_n hx hb dX6_kinds_60 rfl (lv_at hl 2 rfl) ?_
      refine gM0_2 C0 hP q582 dX6_kinds_61 ?_
      refine lv_iload_n hx hb dX6_kinds_64 rfl (lv_at hl 3 rfl) ?_
      refine lv_iload_n hx hb dX6_kinds_65 rfl (lv_at hl 1 rfl) ?_
      obtain ⟨hin, hF⟩ := ld_some hF
      refine aMs0 (f := (e4.2.2 0)) C0 hP hD hS rfl hin dX6_kinds_66 (fun H locs hP hD hS => ?_)
      refine lv_iload_n hx hb dX6_kinds_67 rfl (lv_at hl 0 rfl) ?_
      have hF := Option.some.inj hF
      subst hF
      exact hE _ _ _ _ _ hP hD hS dX6_kinds_68 rfl rfl
    have LP3 : ∀ (k3 : Nat) (t3 : (Int32 × Int32 × tSI × tSA)), lp (S_X6_kinds_22 a1) k3 t3 = some ox3 → ∀ (H : Heap) (locs : List Loc) (ls : Array Slot), va_P D vwCl (WM cA ad t3.2.2.1 t3.2.2.2) H → va_D A (WM cA ad t3.2.2.1 t3.2.2.2) → va_S A H0 H locs → lv_has ls 5 [(4, .int t3.1), (3, .int t3.2.1), (2, .int ((sa 0) (Int32.toNatClampNeg a1))), (0, .ref (ad 0)), (1, .int a1)] → W p l ee (rmx 3 67) s m args below meth c H locs 0 0 Q (F0 m 22 ls []) := by
      intro k3
      induction k3 with
      | zero => intro t3 hF; exact (lp_no hF).elim
      | succ k3 ih3 =>
        intro t3 hF H locs ls hP hD hS hl
        change (S_X6_kinds_22 a1) (lp (S_X6_kinds_22 a1) k3) t3 = some ox3 at hF
        unfold S_X6_kinds_22 at hF
        refine lv_iload hx hb dX6_kinds_22 (lv_at hl 0 rfl) ?_
        refine lv_iconst (v := (3 : Int32)) hx hb dX6_kinds_24 (by decide) ?_
        refine lv_icmp_ge (tgt := 60) hx hb dX6_kinds_25 (by decide) (fun c5 => ?_) (fun c5 => ?_)
        · have hF := (if_pos c5).symm.trans hF
          exact JE3 _ (Option.some.inj hF).symm _ _ _ hP hD hS (lv_sub hl [1, 2, 3, 4] rfl)
        · have hF := (if_neg c5).symm.trans hF
          refine lv_aload_n hx hb dX6_kinds_28 rfl (lv_at hl 3 rfl) ?_
          refine gM0_2 C0 hP q582 dX6_kinds_29 ?_
          refine lv_iload_n hx hb dX6_kinds_32 rfl (lv_at hl 4 rfl) ?_
          refine lv_iload hx hb dX6_kinds_33 (lv_at hl 0 rfl) ?_
          obtain ⟨hin, hF⟩ := ld_some hF
          refine aMs0 (f := (t3.2.2.2 0)) C0 hP hD hS rfl hin dX6_kinds_35 (fun H locs hP hD hS => ?_)
          refine lv_iload_n hx hb dX6_kinds_36 rfl (lv_at hl 1 rfl) ?_
          refine lv_aload_n hx hb dX6_kinds_37 rfl (lv_at hl 3 rfl) ?_
          obtain ⟨r6, hr6, hF⟩ := bd_some hF
          refine kcV (As := []) (rest := [.int t3.2.1]) C0 hA hP hD hS (c_X6_areSo l D cA ad t3.2.2.1 (va_up t3.2.2.2 0 (upd (t3.2.2.2 0) (Int32.toNatClampNeg a1) t3.1)) r6 hr6) lk_X6_areSo q859 s48 q857 0 6 rfl rfl hl.1 rfl rfl (Nat.le_of_ble_eq_true rfl) ⟨Nat.le_of_ble_eq_true rfl, Nat.le_of_ble_eq_true rfl⟩ ⟨Nat.le_refl _, Nat.le_refl _⟩ dX6_kinds_38 (fun H locs hP hD hS => ?_)
          refine W.eq (g2 := F0 m 41 ls [.int r6, .int t3.2.1]) rfl ?_
          refine lv_if_eq (tgt := 51) hx hb dX6_kinds_41 (by decide) (fun c7 => ?_) (fun c7 => ?_)
          · have hF := (if_pos c7).symm.trans hF
            refine lv_iconst (v := (0 : Int32)) hx hb dX6_kinds_51 (by decide) ?_
            refine lv_ior hx hb dX6_kinds_52 ?_
            refine lv_istore_n (lv' := [(3, .int (t3.2.1 ||| (0 : Int32))), (4, .int t3.1), (2, .int ((sa 0) (Int32.toNatClampNeg a1))), (0, .ref (ad 0)), (1, .int a1)]) hx hb dX6_kinds_53 rfl hl (by decide) rfl (fun ls hl => ?_)
            refine lv_iinc (v := (t3.1 + 1)) (lv' := [(4, .int (t3.1 + 1)), (3, .int (t3.2.1 ||| (0 : Int32))), (2, .int ((sa 0) (Int32.toNatClampNeg a1))), (0, .ref (ad 0)), (1, .int a1)]) hx hb dX6_kinds_54 hl (k := 1) rfl rfl (by decide) rfl (fun ls hl => ?_)
            refine lv_goto (tgt := 22) hx hb dX6_kinds_57 (by decide) ?_
            exact ih3 _ hF _ _ _ hP hD hS (lv_sub hl [0, 1, 2, 3, 4] rfl)
          · have hF := (if_neg c7).symm.trans hF
            refine lv_iconst (v := (1 : Int32)) hx hb dX6_kinds_44 (by decide) ?_
            refine lv_iload hx hb dX6_kinds_45 (lv_at hl 0 rfl) ?_
            refine lv_ishl hx hb dX6_kinds_47 ?_
            refine lv_goto (tgt := 52) hx hb dX6_kinds_48 (by decide) ?_
            refine lv_ior hx hb dX6_kinds_52 ?_
            refine lv_istore_n (lv' := [(3, .int (t3.2.1 ||| ((1 : Int32) <<< (t3.1 &&& 31)))), (4, .int t3.1), (2, .int ((sa 0) (Int32.toNatClampNeg a1))), (0, .ref (ad 0)), (1, .int a1)]) hx hb dX6_kinds_53 rfl hl (by decide) rfl (fun ls hl => ?_)
            refine lv_iinc (v := (t3.1 + 1)) (lv' := [(4, .int (t3.1 + 1)), (3, .int (t3.2.1 ||| ((1 : Int32) <<< (t3.1 &&& 31)))), (2, .int ((sa 0) (Int32.toNatClampNeg a1))), (0, .ref (ad 0)), (1, .int a1)]) hx hb dX6_kinds_54 hl (k := 1) rfl rfl (by decide) rfl (fun ls hl => ?_)
            refine lv_goto (tgt := 22) hx hb dX6_kinds_57 (by decide) ?_
            exact ih3 _ hF _ _ _ hP hD hS (lv_sub hl [0, 1, 2, 3, 4] rfl)
    exact LP3 _ _ hL3 _ _ _ hP hD hS (lv_sub hl [0, 1, 2, 3, 4] rfl)
  · have hF := (if_neg c2).symm.trans hF
    refine lv_iconst (v := (-1 : Int32)) hx hb dX6_kinds_8 (by decide) ?_
    have hF := Option.some.inj hF
    subst hF
    exact hE _ _ _ _ _ hP hD hS dX6_kinds_9 rfl rfl
theorem lk_X6_speeds : LK yX6_speeds cX6_speeds 5 (some .int) 1 := ⟨q868, q7, by decide +kernel⟩
def S_X6_speeds_22 (a1 : Int32) (rec3 : ((Int32 × Int32 × tSI × tSA) → Option (Int32 × tSI × tSA))) (t3 : (Int32 × Int32 × tSI × tSA)) : Option (Int32 × tSI × tSA) :=
  (if (10 : Int32) ≤ t3.1 then some (t3.2.1, t3.2.2.1, t3.2.2.2) else ld a1 6 ((F_X6_areSo t3.2.2.1 (va_up t3.2.2.2 2 (upd (t3.2.2.2 2) (Int32.toNatClampNeg a1) t3.1))).bind fun r6 => (if r6 = 0 then rec3 ((t3.1 + 1), (t3.2.1 ||| (0 : Int32)), t3.2.2.1, (va_up t3.2.2.2 2 (upd (t3.2.2.2 2) (Int32.toNatClampNeg a1) t3.1))) else rec3 ((t3.1 + 1), (t3.2.1 ||| ((1 : Int32) <<< (t3.1 &&& 31))), t3.2.2.1, (va_up t3.2.2.2 2 (upd (t3.2.2.2 2) (Int32.toNatClampNeg a1) t3.1))))))
def F_X6_speeds (a1 : Int32) (si : tSI) (sa : tSA) : Option (Int32 × tSI × tSA) :=
  (F_X6_noSort a1 si sa).bind fun r1 => (if r1 = 0 then ld a1 6 ((lp (S_X6_speeds_22 a1) 100 ((1 : Int32), (0 : Int32), si, sa)).bind fun (e4 : (Int32 × tSI × tSA)) => ld a1 6 (some (e4.1, e4.2.1, (va_up e4.2.2 2 (upd (e4.2.2 2) (Int32.toNatClampNeg a1) ((sa 2) (Int32.toNatClampNeg a1))))))) else some ((-1 : Int32), si, sa))
set_option maxHeartbeats 4000000 in
set_option maxRecDepth 100000 in
theorem c_X6_speeds (l : Launch) (D : va_G) (cA : ClassId) (ad : Nat → Nat) (si : tSI) (sa : tSA) (a1 : Int32) (o : (Int32 × tSI × tSA)) (hF : F_X6_speeds a1 si sa = some o) : CG l yX6_speeds cX6_speeds 5 (some .int) 3 67 D cA [.ref (ad 0), .int a1] (WM cA ad si sa) (WM cA ad o.2.1 o.2.2) (some (.int o.1)) := by
  refine CG.ofi (by decide) (Nat.le_of_ble_eq_true rfl) ?_
  intro p ee s m args below meth c A Q H0 ls C0 hA hP hD hS hl hE
  have hl : lv_has ls 5 [(0, .ref (ad 0)), (1, .int a1)] := hl
  obtain ⟨hx, hb, hml, hown, ht, hK⟩ := id C0
  unfold F_X6_speeds at hF
  refine lv_aload_n hx hb dX6_speeds_0 rfl (lv_at hl 0 rfl) ?_
  refine lv_iload_n hx hb dX6_speeds_1 rfl (lv_at hl 1 rfl) ?_
  obtain ⟨r1, hr1, hF⟩ := bd_some hF
  refine kcV (As := [.int a1]) (rest := []) C0 hA hP hD hS (c_X6_noSort l D cA ad si sa a1 r1 hr1) lk_X6_noSort q730 s33 q728 0 6 rfl rfl hl.1 rfl rfl (Nat.le_of_ble_eq_true rfl) ⟨Nat.le_of_ble_eq_true rfl, Nat.le_of_ble_eq_true rfl⟩ ⟨Nat.le_refl _, Nat.le_refl _⟩ dX6_speeds_2 (fun H locs hP hD hS => ?_)
  refine W.eq (g2 := F0 m 5 ls [.int r1]) rfl ?_
  refine lv_if_eq (tgt := 10) hx hb dX6_speeds_5 (by decide) (fun c2 => ?_) (fun c2 => ?_)
  · have hF := (if_pos c2).symm.trans hF
    refine lv_aload_n hx hb dX6_speeds_10 rfl (lv_at hl 0 rfl) ?_
    refine gM0_4 C0 hP q584 dX6_speeds_11 ?_
    refine lv_iload_n hx hb dX6_speeds_14 rfl (lv_at hl 1 rfl) ?_
    obtain ⟨hin, hF⟩ := ld_some hF
    refine aMl2 (f := (sa 2)) C0 hP rfl hin dX6_speeds_15 ?_
    refine lv_istore_n (lv' := [(2, .int ((sa 2) (Int32.toNatClampNeg a1))), (0, .ref (ad 0)), (1, .int a1)]) hx hb dX6_speeds_16 rfl hl (by decide) rfl (fun ls hl => ?_)
    refine lv_iconst (v := (0 : Int32)) hx hb dX6_speeds_17 (by decide) ?_
    refine lv_istore_n (lv' := [(3, .int (0 : Int32)), (2, .int ((sa 2) (Int32.toNatClampNeg a1))), (0, .ref (ad 0)), (1, .int a1)]) hx hb dX6_speeds_18 rfl hl (by decide) rfl (fun ls hl => ?_)
    refine lv_iconst (v := (1 : Int32)) hx hb dX6_speeds_19 (by decide) ?_
    refine lv_istore (lv' := [(4, .int (1 : Int32)), (3, .int (0 : Int32)), (2, .int ((sa 2) (Int32.toNatClampNeg a1))), (0, .ref (ad 0)), (1, .int a1)]) hx hb dX6_speeds_20 hl (by decide) rfl (fun ls hl => ?_)
    obtain ⟨ox3, hL3, hX3⟩ := bd_all hF
    have JE3 : ∀ (e4 : (Int32 × tSI × tSA)), ox3 = e4 → ∀ (H : Heap) (locs : List Loc) (ls : Array Slot), va_P D vwCl (WM cA ad e4.2.1 e4.2.2) H → va_D A (WM cA ad e4.2.1 e4.2.2) → va_S A H0 H locs → lv_has ls 5 [(3, .int e4.1), (2, .int ((sa 2) (Int32.toNatClampNeg a1))), (0, .ref (ad 0)), (1, .int a1)] → W p l ee (rmx 3 67) s m args below meth c H locs 0 0 Q (F0 m 61 ls []) := by
      intro e4 he H locs ls hP hD hS hl
      have hF := hX3 _ he
      refine lv_aload_n hx hb dX6_speeds_61 rfl (lv_at hl 2 rfl) ?_
      refine gM0_4 C0 hP q584 dX6_speeds_62 ?_
      refine lv_iload_n hx hb dX6_speeds_65 rfl (lv_at hl 3 rfl) ?_
      refine lv_iload_n hx hb dX6_speeds_66 rfl (lv_at hl 1 rfl) ?_
      obtain ⟨hin, hF⟩ := ld_some hF
      refine aMs2 (f := (e4.2.2 2)) C0 hP hD hS rfl hin dX6_speeds_67 (fun H locs hP hD hS => ?_)
      refine lv_iload_n hx hb dX6_speeds_68 rfl (lv_at hl 0 rfl) ?_
      have hF := Option.some.inj hF
      subst hF
      exact hE _ _ _ _ _ hP hD hS dX6_speeds_69 rfl rfl
    have LP3 : ∀ (k3 : Nat) (t3 : (Int32 × Int32 × tSI × tSA)), lp (S_X6_speeds_22 a1) k3 t3 = some ox3 → ∀ (H : Heap) (locs : List Loc) (ls : Array Slot), va_P D vwCl (WM cA ad t3.2.2.1 t3.2.2.2) H → va_D A (WM cA ad t3.2.2.1 t3.2.2.2) → va_S A H0 H locs → lv_has ls 5 [(4, .int t3.1), (3, .int t3.2.1), (2, .int ((sa 2) (Int32.toNatClampNeg a1))), (0, .ref (ad 0)), (1, .int a1)] → W p l ee (rmx 3 67) s m args below meth c H locs 0 0 Q (F0 m 22 ls []) := by
      intro k3
      induction k3 with
      | zero => intro t3 hF; exact (lp_no hF).elim
      | succ k3 ih3 =>
        intro t3 hF H locs ls hP hD hS hl
        change (S_X6_speeds_22 a1) (lp (S_X6_speeds_22 a1) k3) t3 = some ox3 at hF
        unfold S_X6_speeds_22 at hF
        refine lv_iload hx hb dX6_speeds_22 (lv_at hl 0 rfl) ?_
        refine lv_bipush (v := (10 : Int32)) hx hb dX6_speeds_24 (by decide) ?_
        refine lv_icmp_ge (tgt := 61) hx hb dX6_speeds_26 (by decide) (fun c5 => ?_) (fun c5 => ?_)
        · have hF := (if_pos c5).symm.trans hF
          exact JE3 _ (Option.some.inj hF).symm _ _ _ hP hD hS (lv_sub hl [1, 2, 3, 4] rfl)
        · have hF := (if_neg c5).symm.trans hF
          refine lv_aload_n hx hb dX6_speeds_29 rfl (lv_at hl 3 rfl) ?_
          refine gM0_4 C0 hP q584 dX6_speeds_30 ?_
          refine lv_iload_n hx hb dX6_speeds_33 rfl (lv_at hl 4 rfl) ?_
          refine lv_iload hx hb dX6_speeds_34 (lv_at hl 0 rfl) ?_
          obtain ⟨hin, hF⟩ := ld_some hF
          refine aMs2 (f := (t3.2.2.2 2)) C0 hP hD hS rfl hin dX6_speeds_36 (fun H locs hP hD hS => ?_)
          refine lv_iload_n hx hb dX6_speeds_37 rfl (lv_at hl 1 rfl) ?_
          refine lv_aload_n hx hb dX6_speeds_38 rfl (lv_at hl 3 rfl) ?_
          obtain ⟨r6, hr6, hF⟩ := bd_some hF
          refine kcV (As := []) (rest := [.int t3.2.1]) C0 hA hP hD hS (c_X6_areSo l D cA ad t3.2.2.1 (va_up t3.2.2.2 2 (upd (t3.2.2.2 2) (Int32.toNatClampNeg a1) t3.1)) r6 hr6) lk_X6_areSo q859 s48 q857 0 6 rfl rfl hl.1 rfl rfl (Nat.le_of_ble_eq_true rfl) ⟨Nat.le_of_ble_eq_true rfl, Nat.le_of_ble_eq_true rfl⟩ ⟨Nat.le_refl _, Nat.le_refl _⟩ dX6_speeds_39 (fun H locs hP hD hS => ?_)
          refine W.eq (g2 := F0 m 42 ls [.int r6, .int t3.2.1]) rfl ?_
          refine lv_if_eq (tgt := 52) hx hb dX6_speeds_42 (by decide) (fun c7 => ?_) (fun c7 => ?_)
          · have hF := (if_pos c7).symm.trans hF
            refine lv_iconst (v := (0 : Int32)) hx hb dX6_speeds_52 (by decide) ?_
            refine lv_ior hx hb dX6_speeds_53 ?_
            refine lv_istore_n (lv' := [(3, .int (t3.2.1 ||| (0 : Int32))), (4, .int t3.1), (2, .int ((sa 2) (Int32.toNatClampNeg a1))), (0, .ref (ad 0)), (1, .int a1)]) hx hb dX6_speeds_54 rfl hl (by decide) rfl (fun ls hl => ?_)
            refine lv_iinc (v := (t3.1 + 1)) (lv' := [(4, .int (t3.1 + 1)), (3, .int (t3.2.1 ||| (0 : Int32))), (2, .int ((sa 2) (Int32.toNatClampNeg a1))), (0, .ref (ad 0)), (1, .int a1)]) hx hb dX6_speeds_55 hl (k := 1) rfl rfl (by decide) rfl (fun ls hl => ?_)
            refine lv_goto (tgt := 22) hx hb dX6_speeds_58 (by decide) ?_
            exact ih3 _ hF _ _ _ hP hD hS (lv_sub hl [0, 1, 2, 3, 4] rfl)
          · have hF := (if_neg c7).symm.trans hF
            refine lv_iconst (v := (1 : Int32)) hx hb dX6_speeds_45 (by decide) ?_
            refine lv_iload hx hb dX6_speeds_46 (lv_at hl 0 rfl) ?_
            refine lv_ishl hx hb dX6_speeds_48 ?_
            refine lv_goto (tgt := 53) hx hb dX6_speeds_49 (by decide) ?_
            refine lv_ior hx hb dX6_speeds_53 ?_
            refine lv_istore_n (lv' := [(3, .int (t3.2.1 ||| ((1 : Int32) <<< (t3.1 &&& 31)))), (4, .int t3.1), (2, .int ((sa 2) (Int32.toNatClampNeg a1))), (0, .ref (ad 0)), (1, .int a1)]) hx hb dX6_speeds_54 rfl hl (by decide) rfl (fun ls hl => ?_)
            refine lv_iinc (v := (t3.1 + 1)) (lv' := [(4, .int (t3.1 + 1)), (3, .int (t3.2.1 ||| ((1 : Int32) <<< (t3.1 &&& 31)))), (2, .int ((sa 2) (Int32.toNatClampNeg a1))), (0, .ref (ad 0)), (1, .int a1)]) hx hb dX6_speeds_55 hl (k := 1) rfl rfl (by decide) rfl (fun ls hl => ?_)
            refine lv_goto (tgt := 22) hx hb dX6_speeds_58 (by decide) ?_
            exact ih3 _ hF _ _ _ hP hD hS (lv_sub hl [0, 1, 2, 3, 4] rfl)
    exact LP3 _ _ hL3 _ _ _ hP hD hS (lv_sub hl [0, 1, 2, 3, 4] rfl)
  · have hF := (if_neg c2).symm.trans hF
    refine lv_iconst (v := (-1 : Int32)) hx hb dX6_speeds_8 (by decide) ?_
    have hF := Option.some.inj hF
    subst hF
    exact hE _ _ _ _ _ hP hD hS dX6_speeds_9 rfl rfl
theorem lk_X6_sheet : LK yX6_sheet cX6_sheet 5 (some .int) 3 := ⟨q872, q7, by decide +kernel⟩
def S_X6_sheet_65 (a3 : Int32) (a1 : Int32) (rec8 : ((Int32 × tSI × tSA) → Option (tSI × tSA))) (t8 : (Int32 × tSI × tSA)) : Option (tSI × tSA) :=
  (if a3 ≤ t8.1 then some (t8.2.1, t8.2.2) else ld (((60 : Int32) * a1) + t8.1) 240 (rec8 ((t8.1 + 1), t8.2.1, (va_up t8.2.2 20 (upd (t8.2.2 20) (Int32.toNatClampNeg (((60 : Int32) * a1) + t8.1)) (0 : Int32))))))
def F_X6_sheet (a1 : Int32) (a2 : Int32) (a3 : Int32) (si : tSI) (sa : tSA) : Option (Int32 × tSI × tSA) :=
  (F_X6_noSheet a1).bind fun r1 => (if r1 = 0 then (F_X6_in (Int32.toInt64 a2) (0 : Int64) (2 : Int64)).bind fun r3 => (if r3 = 0 then (F_X6_refused (-2 : Int32) si sa).bind fun r5 => some (r5.1, r5.2.1, r5.2.2) else (if a3 ≤ (60 : Int32) then (if 0 ≤ a3 then ld a1 4 (ld a1 4 ((lp (S_X6_sheet_65 a3 a1) 100 ((0 : Int32), si, (va_up (va_up sa 18 (upd (sa 18) (Int32.toNatClampNeg a1) a3)) 19 (upd (sa 19) (Int32.toNatClampNeg a1) a2)))).bind fun (e9 : (tSI × tSA)) => (F_X6_refused (1 : Int32) e9.1 e9.2).bind fun r10 => some (r10.1, r10.2.1, r10.2.2))) else (F_X6_failed (4 : Int32) si sa).bind fun r12 => some (r12.1, r12.2.1, r12.2.2)) else (F_X6_refused (-2 : Int32) si sa).bind fun r13 => some (r13.1, r13.2.1, r13.2.2))) else (F_X6_refused (-1 : Int32) si sa).bind fun r14 => some (r14.1, r14.2.1, r14.2.2))
set_option maxHeartbeats 4000000 in
set_option maxRecDepth 100000 in
theorem c_X6_sheet (l : Launch) (D : va_G) (cA : ClassId) (ad : Nat → Nat) (si : tSI) (sa : tSA) (a1 : Int32) (a2 : Int32) (a3 : Int32) (o : (Int32 × tSI × tSA)) (hF : F_X6_sheet a1 a2 a3 si sa = some o) : CG l yX6_sheet cX6_sheet 5 (some .int) 2 45 D cA [.ref (ad 0), .int a1, .int a2, .int a3] (WM cA ad si sa) (WM cA ad o.2.1 o.2.2) (some (.int o.1)) := by
  refine CG.ofi (by decide) (Nat.le_of_ble_eq_true rfl) ?_
  intro p ee s m args below meth c A Q H0 ls C0 hA hP hD hS hl hE
  have hl : lv_has ls 5 [(0, .ref (ad 0)), (1, .int a1), (2, .int a2), (3, .int a3)] := hl
  obtain ⟨hx, hb, hml, hown, ht, hK⟩ := id C0
  unfold F_X6_sheet at hF
  refine lv_iload_n hx hb dX6_sheet_0 rfl (lv_at hl 1 rfl) ?_
  obtain ⟨r1, hr1, hF⟩ := bd_some hF
  refine kcS (As := [.int a1]) (rest := []) C0 hA hP hD hS (c_X6_noSheet l D cA ad si sa a1 r1 hr1) lk_X6_noSheet q682 q681 hl.1 rfl rfl (Nat.le_of_ble_eq_true rfl) ⟨Nat.le_of_ble_eq_true rfl, Nat.le_of_ble_eq_true rfl⟩ ⟨Nat.le_refl _, Nat.le_refl _⟩ dX6_sheet_1 (fun H locs hP hD hS => ?_)
  refine W.eq (g2 := F0 m 4 ls [.int r1]) rfl ?_
  refine lv_if_eq (tgt := 13) hx hb dX6_sheet_4 (by decide) (fun c2 => ?_) (fun c2 => ?_)
  · have hF := (if_pos c2).symm.trans hF
    refine lv_iload_n hx hb dX6_sheet_13 rfl (lv_at hl 2 rfl) ?_
    refine lv_i2l hx hb dX6_sheet_14 rfl ?_
    refine lv_lconst (v := (0 : Int64)) hx hb dX6_sheet_15 (by decide) ?_
    refine lv_ldc2 (v := (2 : Int64)) hx hb hown (ht _ q692) dX6_sheet_16 ?_
    obtain ⟨r3, hr3, hF⟩ := bd_some hF
    refine kcS (As := [.long (Int32.toInt64 a2), .long (0 : Int64), .long (2 : Int64)]) (rest := []) C0 hA hP hD hS (c_X6_in l D cA ad si sa (Int32.toInt64 a2) (0 : Int64) (2 : Int64) r3 hr3) lk_X6_in q686 q685 hl.1 rfl rfl (Nat.le_of_ble_eq_true rfl) ⟨Nat.le_of_ble_eq_true rfl, Nat.le_of_ble_eq_true rfl⟩ ⟨Nat.le_refl _, Nat.le_refl _⟩ dX6_sheet_19 (fun H locs hP hD hS => ?_)
    refine W.eq (g2 := F0 m 22 ls [.int r3]) rfl ?_
    refine lv_if_eq (tgt := 31) hx hb dX6_sheet_22 (by decide) (fun c4 => ?_) (fun c4 => ?_)
    · have hF := (if_pos c4).symm.trans hF
      refine lv_aload_n hx hb dX6_sheet_31 rfl (lv_at hl 0 rfl) ?_
      refine lv_bipush (v := (-2 : Int32)) hx hb dX6_sheet_32 (by decide) ?_
      obtain ⟨r5, hr5, hF⟩ := bd_some hF
      refine kcV (As := [.int (-2 : Int32)]) (rest := []) C0 hA hP hD hS (c_X6_refused l D cA ad si sa (-2 : Int32) r5 hr5) lk_X6_refused q690 s25 q688 0 6 rfl rfl hl.1 rfl rfl (Nat.le_of_ble_eq_true rfl) ⟨Nat.le_of_ble_eq_true rfl, Nat.le_of_ble_eq_true rfl⟩ ⟨Nat.le_refl _, Nat.le_refl _⟩ dX6_sheet_34 (fun H locs hP hD hS => ?_)
      refine W.eq (g2 := F0 m 37 ls [.int r5.1]) rfl ?_
      have hF := Option.some.inj hF
      subst hF
      exact hE _ _ _ _ _ hP hD hS dX6_sheet_37 rfl rfl
    · have hF := (if_neg c4).symm.trans hF
      refine lv_iload_n hx hb dX6_sheet_25 rfl (lv_at hl 3 rfl) ?_
      refine lv_bipush (v := (60 : Int32)) hx hb dX6_sheet_26 (by decide) ?_
      refine lv_icmp_le (tgt := 38) hx hb dX6_sheet_28 (by decide) (fun c6 => ?_) (fun c6 => ?_)
      · have hF := (if_pos c6).symm.trans hF
        refine lv_iload_n hx hb dX6_sheet_38 rfl (lv_at hl 3 rfl) ?_
        refine lv_if_ge (tgt := 48) hx hb dX6_sheet_39 (by decide) (fun c7 => ?_) (fun c7 => ?_)
        · have hF := (if_pos c7).symm.trans hF
          refine lv_aload_n hx hb dX6_sheet_48 rfl (lv_at hl 0 rfl) ?_
          refine gM0_27 C0 hP q607 dX6_sheet_49 ?_
          refine lv_iload_n hx hb dX6_sheet_52 rfl (lv_at hl 1 rfl) ?_
          refine lv_iload_n hx hb dX6_sheet_53 rfl (lv_at hl 3 rfl) ?_
          obtain ⟨hin, hF⟩ := ld_some hF
          refine aMs18 (f := (sa 18)) C0 hP hD hS rfl hin dX6_sheet_54 (fun H locs hP hD hS => ?_)
          refine lv_aload_n hx hb dX6_sheet_55 rfl (lv_at hl 0 rfl) ?_
          refine gM0_28 C0 hP q608 dX6_sheet_56 ?_
          refine lv_iload_n hx hb dX6_sheet_59 rfl (lv_at hl 1 rfl) ?_
          refine lv_iload_n hx hb dX6_sheet_60 rfl (lv_at hl 2 rfl) ?_
          obtain ⟨hin, hF⟩ := ld_some hF
          refine aMs19 (f := (sa 19)) C0 hP hD hS rfl hin dX6_sheet_61 (fun H locs hP hD hS => ?_)
          refine lv_iconst (v := (0 : Int32)) hx hb dX6_sheet_62 (by decide) ?_
          refine lv_istore (lv' := [(4, .int (0 : Int32)), (0, .ref (ad 0)), (1, .int a1), (2, .int a2), (3, .int a3)]) hx hb dX6_sheet_63 hl (by decide) rfl (fun ls hl => ?_)
          obtain ⟨ox8, hL8, hX8⟩ := bd_all hF
          have JE8 : ∀ (e9 : (tSI × tSA)), ox8 = e9 → ∀ (H : Heap) (locs : List Loc) (ls : Array Slot), va_P D vwCl (WM cA ad e9.1 e9.2) H → va_D A (WM cA ad e9.1 e9.2) → va_S A H0 H locs → lv_has ls 5 [(0, .ref (ad 0))] → W p l ee (rmx 2 45) s m args below meth c H locs 0 0 Q (F0 m 90 ls []) := by
            intro e9 he H locs ls hP hD hS hl
            have hF := hX8 _ he
            refine lv_aload_n hx hb dX6_sheet_90 rfl (lv_at hl 0 rfl) ?_
            refine lv_iconst (v := (1 : Int32)) hx hb dX6_sheet_91 (by decide) ?_
            obtain ⟨r10, hr10, hF⟩ := bd_some hF
            refine kcV (As := [.int (1 : Int32)]) (rest := []) C0 hA hP hD hS (c_X6_refused l D cA ad e9.1 e9.2 (1 : Int32) r10 hr10) lk_X6_refused q690 s25 q688 0 6 rfl rfl hl.1 rfl rfl (Nat.le_of_ble_eq_true rfl) ⟨Nat.le_of_ble_eq_true rfl, Nat.le_of_ble_eq_true rfl⟩ ⟨Nat.le_refl _, Nat.le_refl _⟩ dX6_sheet_92 (fun H locs hP hD hS => ?_)
            refine W.eq (g2 := F0 m 95 ls [.int r10.1]) rfl ?_
            have hF := Option.some.inj hF
            subst hF
            exact hE _ _ _ _ _ hP hD hS dX6_sheet_95 rfl rfl
          have LP8 : ∀ (k8 : Nat) (t8 : (Int32 × tSI × tSA)), lp (S_X6_sheet_65 a3 a1) k8 t8 = some ox8 → ∀ (H : Heap) (locs : List Loc) (ls : Array Slot), va_P D vwCl (WM cA ad t8.2.1 t8.2.2) H → va_D A (WM cA ad t8.2.1 t8.2.2) → va_S A H0 H locs → lv_has ls 5 [(4, .int t8.1), (0, .ref (ad 0)), (1, .int a1), (3, .int a3)] → W p l ee (rmx 2 45) s m args below meth c H locs 0 0 Q (F0 m 65 ls []) := by
            intro k8
            induction k8 with
            | zero => intro t8 hF; exact (lp_no hF).elim
            | succ k8 ih8 =>
              intro t8 hF H locs ls hP hD hS hl
              change (S_X6_sheet_65 a3 a1) (lp (S_X6_sheet_65 a3 a1) k8) t8 = some ox8 at hF
              unfold S_X6_sheet_65 at hF
              refine lv_iload hx hb dX6_sheet_65 (lv_at hl 0 rfl) ?_
              refine lv_iload_n hx hb dX6_sheet_67 rfl (lv_at hl 3 rfl) ?_
              refine lv_icmp_ge (tgt := 90) hx hb dX6_sheet_68 (by decide) (fun c11 => ?_) (fun c11 => ?_)
              · have hF := (if_pos c11).symm.trans hF
                exact JE8 _ (Option.some.inj hF).symm _ _ _ hP hD hS (lv_sub hl [1] rfl)
              · have hF := (if_neg c11).symm.trans hF
                refine lv_aload_n hx hb dX6_sheet_71 rfl (lv_at hl 1 rfl) ?_
                refine gM0_29 C0 hP q609 dX6_sheet_72 ?_
                refine lv_bipush (v := (60 : Int32)) hx hb dX6_sheet_75 (by decide) ?_
                refine lv_iload_n hx hb dX6_sheet_77 rfl (lv_at hl 2 rfl) ?_
                refine lv_imul hx hb dX6_sheet_78 ?_
                refine lv_iload hx hb dX6_sheet_79 (lv_at hl 0 rfl) ?_
                refine lv_iadd hx hb dX6_sheet_81 ?_
                refine lv_iconst (v := (0 : Int32)) hx hb dX6_sheet_82 (by decide) ?_
                obtain ⟨hin, hF⟩ := ld_some hF
                refine aMs20 (f := (t8.2.2 20)) C0 hP hD hS rfl hin dX6_sheet_83 (fun H locs hP hD hS => ?_)
                refine lv_iinc (v := (t8.1 + 1)) (lv' := [(4, .int (t8.1 + 1)), (0, .ref (ad 0)), (1, .int a1), (3, .int a3)]) hx hb dX6_sheet_84 hl (k := 0) rfl rfl (by decide) rfl (fun ls hl => ?_)
                refine lv_goto (tgt := 65) hx hb dX6_sheet_87 (by decide) ?_
                exact ih8 _ hF _ _ _ hP hD hS (lv_sub hl [0, 1, 2, 3] rfl)
          exact LP8 _ _ hL8 _ _ _ hP hD hS (lv_sub hl [0, 1, 2, 4] rfl)
        · have hF := (if_neg c7).symm.trans hF
          refine lv_aload_n hx hb dX6_sheet_42 rfl (lv_at hl 0 rfl) ?_
          refine lv_iconst (v := (4 : Int32)) hx hb dX6_sheet_43 (by decide) ?_
          obtain ⟨r12, hr12, hF⟩ := bd_some hF
          refine kcV (As := [.int (4 : Int32)]) (rest := []) C0 hA hP hD hS (c_X6_failed l D cA ad si sa (4 : Int32) r12 hr12) lk_X6_failed q699 s27 q697 0 6 rfl rfl hl.1 rfl rfl (Nat.le_of_ble_eq_true rfl) ⟨Nat.le_of_ble_eq_true rfl, Nat.le_of_ble_eq_true rfl⟩ ⟨Nat.le_refl _, Nat.le_refl _⟩ dX6_sheet_44 (fun H locs hP hD hS => ?_)
          refine W.eq (g2 := F0 m 47 ls [.int r12.1]) rfl ?_
          have hF := Option.some.inj hF
          subst hF
          exact hE _ _ _ _ _ hP hD hS dX6_sheet_47 rfl rfl
      · have hF := (if_neg c6).symm.trans hF
        refine lv_aload_n hx hb dX6_sheet_31 rfl (lv_at hl 0 rfl) ?_
        refine lv_bipush (v := (-2 : Int32)) hx hb dX6_sheet_32 (by decide) ?_
        obtain ⟨r13, hr13, hF⟩ := bd_some hF
        refine kcV (As := [.int (-2 : Int32)]) (rest := []) C0 hA hP hD hS (c_X6_refused l D cA ad si sa (-2 : Int32) r13 hr13) lk_X6_refused q690 s25 q688 0 6 rfl rfl hl.1 rfl rfl (Nat.le_of_ble_eq_true rfl) ⟨Nat.le_of_ble_eq_true rfl, Nat.le_of_ble_eq_true rfl⟩ ⟨Nat.le_refl _, Nat.le_refl _⟩ dX6_sheet_34 (fun H locs hP hD hS => ?_)
        refine W.eq (g2 := F0 m 37 ls [.int r13.1]) rfl ?_
        have hF := Option.some.inj hF
        subst hF
        exact hE _ _ _ _ _ hP hD hS dX6_sheet_37 rfl rfl
  · have hF := (if_neg c2).symm.trans hF
    refine lv_aload_n hx hb dX6_sheet_7 rfl (lv_at hl 0 rfl) ?_
    refine lv_iconst (v := (-1 : Int32)) hx hb dX6_sheet_8 (by decide) ?_
    obtain ⟨r14, hr14, hF⟩ := bd_some hF
    refine kcV (As := [.int (-1 : Int32)]) (rest := []) C0 hA hP hD hS (c_X6_refused l D cA ad si sa (-1 : Int32) r14 hr14) lk_X6_refused q690 s25 q688 0 6 rfl rfl hl.1 rfl rfl (Nat.le_of_ble_eq_true rfl) ⟨Nat.le_of_ble_eq_true rfl, Nat.le_of_ble_eq_true rfl⟩ ⟨Nat.le_refl _, Nat.le_refl _⟩ dX6_sheet_9 (fun H locs hP hD hS => ?_)
    refine W.eq (g2 := F0 m 12 ls [.int r14.1]) rfl ?_
    have hF := Option.some.inj hF
    subst hF
    exact hE _ _ _ _ _ hP hD hS dX6_sheet_12 rfl rfl
theorem lk_X6_lose : LK yX6_lose cX6_lose 3 (some .int) 1 := ⟨q876, q7, by decide +kernel⟩
def F_X6_lose (a1 : Int32) (si : tSI) (sa : tSA) : Option (Int32 × tSI × tSA) :=
  (F_X6_noSheet a1).bind fun r1 => (if r1 = 0 then ld a1 4 (((if 0 ≤ ((sa 18) (Int32.toNatClampNeg a1)) then some (1 : Int32) else some (0 : Int32))).bind fun (x3 : Int32) => ld a1 4 (some (x3, si, (va_up sa 18 (upd (sa 18) (Int32.toNatClampNeg a1) (-1 : Int32)))))) else some ((-1 : Int32), si, sa))
set_option maxHeartbeats 4000000 in
set_option maxRecDepth 100000 in
theorem c_X6_lose (l : Launch) (D : va_G) (cA : ClassId) (ad : Nat → Nat) (si : tSI) (sa : tSA) (a1 : Int32) (o : (Int32 × tSI × tSA)) (hF : F_X6_lose a1 si sa = some o) : CG l yX6_lose cX6_lose 3 (some .int) 2 45 D cA [.ref (ad 0), .int a1] (WM cA ad si sa) (WM cA ad o.2.1 o.2.2) (some (.int o.1)) := by
  refine CG.ofi (by decide) (Nat.le_of_ble_eq_true rfl) ?_
  intro p ee s m args below meth c A Q H0 ls C0 hA hP hD hS hl hE
  have hl : lv_has ls 3 [(0, .ref (ad 0)), (1, .int a1)] := hl
  obtain ⟨hx, hb, hml, hown, ht, hK⟩ := id C0
  unfold F_X6_lose at hF
  refine lv_iload_n hx hb dX6_lose_0 rfl (lv_at hl 1 rfl) ?_
  obtain ⟨r1, hr1, hF⟩ := bd_some hF
  refine kcS (As := [.int a1]) (rest := []) C0 hA hP hD hS (c_X6_noSheet l D cA ad si sa a1 r1 hr1) lk_X6_noSheet q682 q681 hl.1 rfl rfl (Nat.le_of_ble_eq_true rfl) ⟨Nat.le_of_ble_eq_true rfl, Nat.le_of_ble_eq_true rfl⟩ ⟨Nat.le_refl _, Nat.le_refl _⟩ dX6_lose_1 (fun H locs hP hD hS => ?_)
  refine W.eq (g2 := F0 m 4 ls [.int r1]) rfl ?_
  refine lv_if_eq (tgt := 9) hx hb dX6_lose_4 (by decide) (fun c2 => ?_) (fun c2 => ?_)
  · have hF := (if_pos c2).symm.trans hF
    refine lv_aload_n hx hb dX6_lose_9 rfl (lv_at hl 0 rfl) ?_
    refine gM0_27 C0 hP q607 dX6_lose_10 ?_
    refine lv_iload_n hx hb dX6_lose_13 rfl (lv_at hl 1 rfl) ?_
    obtain ⟨hin, hF⟩ := ld_some hF
    refine aMl18 (f := (sa 18)) C0 hP rfl hin dX6_lose_14 ?_
    obtain ⟨x3, hRx3, hF⟩ := bd_some hF
    have Jx3 : ∀ (H : Heap) (locs : List Loc) (ls : Array Slot), va_P D vwCl (WM cA ad si sa) H → va_D A (WM cA ad si sa) → va_S A H0 H locs → lv_has ls 3 [(0, .ref (ad 0)), (1, .int a1)] → W p l ee (rmx 2 45) s m args below meth c H locs 0 0 Q (F0 m 23 ls [.int x3]) := by
      intro H locs ls hP hD hS hl
      refine lv_istore_n (lv' := [(2, .int x3), (0, .ref (ad 0)), (1, .int a1)]) hx hb dX6_lose_23 rfl hl (by decide) rfl (fun ls hl => ?_)
      refine lv_aload_n hx hb dX6_lose_24 rfl (lv_at hl 1 rfl) ?_
      refine gM0_27 C0 hP q607 dX6_lose_25 ?_
      refine lv_iload_n hx hb dX6_lose_28 rfl (lv_at hl 2 rfl) ?_
      refine lv_iconst (v := (-1 : Int32)) hx hb dX6_lose_29 (by decide) ?_
      obtain ⟨hin, hF⟩ := ld_some hF
      refine aMs18 (f := (sa 18)) C0 hP hD hS rfl hin dX6_lose_30 (fun H locs hP hD hS => ?_)
      refine lv_iload_n hx hb dX6_lose_31 rfl (lv_at hl 0 rfl) ?_
      have hF := Option.some.inj hF
      subst hF
      exact hE _ _ _ _ _ hP hD hS dX6_lose_32 rfl rfl
    have hF := hRx3
    refine lv_if_ge (tgt := 22) hx hb dX6_lose_15 (by decide) (fun c4 => ?_) (fun c4 => ?_)
    · have hF := (if_pos c4).symm.trans hF
      refine lv_iconst (v := (1 : Int32)) hx hb dX6_lose_22 (by decide) ?_
      have hF := Option.some.inj hF
      subst hF
      exact Jx3 _ _ _ hP hD hS (lv_sub hl [0, 1] rfl)
    · have hF := (if_neg c4).symm.trans hF
      refine lv_iconst (v := (0 : Int32)) hx hb dX6_lose_18 (by decide) ?_
      refine lv_goto (tgt := 23) hx hb dX6_lose_19 (by decide) ?_
      have hF := Option.some.inj hF
      subst hF
      exact Jx3 _ _ _ hP hD hS (lv_sub hl [0, 1] rfl)
  · have hF := (if_neg c2).symm.trans hF
    refine lv_iconst (v := (-1 : Int32)) hx hb dX6_lose_7 (by decide) ?_
    have hF := Option.some.inj hF
    subst hF
    exact hE _ _ _ _ _ hP hD hS dX6_lose_8 rfl rfl
theorem lk_X6_noCell : LK yX6_noCell cX6_noCell 3 (some .int) 2 := ⟨q884, q7, by decide +kernel⟩
def F_X6_noCell (a1 : Int32) (a2 : Int32) (si : tSI) (sa : tSA) : Option Int32 :=
  ld a1 4 ((if 0 ≤ ((sa 18) (Int32.toNatClampNeg a1)) then ld a1 4 ((F_X6_in (Int32.toInt64 a2) (0 : Int64) ((Int32.toInt64 ((sa 18) (Int32.toNatClampNeg a1))) - (1 : Int64))).bind fun r2 => (if r2 = 0 then some (3 : Int32) else some (0 : Int32))) else some (1 : Int32)))
set_option maxHeartbeats 4000000 in
set_option maxRecDepth 100000 in
theorem c_X6_noCell (l : Launch) (D : va_G) (cA : ClassId) (ad : Nat → Nat) (si : tSI) (sa : tSA) (a1 : Int32) (a2 : Int32) (o : Int32) (hF : F_X6_noCell a1 a2 si sa = some o) : CG l yX6_noCell cX6_noCell 3 (some .int) 1 25 D cA [.ref (ad 0), .int a1, .int a2] (WM cA ad si sa) (WM cA ad si sa) (some (.int o)) := by
  refine CG.ofi (by decide) (Nat.le_of_ble_eq_true rfl) ?_
  intro p ee s m args below meth c A Q H0 ls C0 hA hP hD hS hl hE
  have hl : lv_has ls 3 [(0, .ref (ad 0)), (1, .int a1), (2, .int a2)] := hl
  obtain ⟨hx, hb, hml, hown, ht, hK⟩ := id C0
  unfold F_X6_noCell at hF
  refine lv_aload_n hx hb dX6_noCell_0 rfl (lv_at hl 0 rfl) ?_
  refine gM0_27 C0 hP q607 dX6_noCell_1 ?_
  refine lv_iload_n hx hb dX6_noCell_4 rfl (lv_at hl 1 rfl) ?_
  obtain ⟨hin, hF⟩ := ld_some hF
  refine aMl18 (f := (sa 18)) C0 hP rfl hin dX6_noCell_5 ?_
  refine lv_if_ge (tgt := 13) hx hb dX6_noCell_6 (by decide) (fun c1 => ?_) (fun c1 => ?_)
  · have hF := (if_pos c1).symm.trans hF
    refine lv_iload_n hx hb dX6_noCell_13 rfl (lv_at hl 2 rfl) ?_
    refine lv_i2l hx hb dX6_noCell_14 rfl ?_
    refine lv_lconst (v := (0 : Int64)) hx hb dX6_noCell_15 (by decide) ?_
    refine lv_aload_n hx hb dX6_noCell_16 rfl (lv_at hl 0 rfl) ?_
    refine gM0_27 C0 hP q607 dX6_noCell_17 ?_
    refine lv_iload_n hx hb dX6_noCell_20 rfl (lv_at hl 1 rfl) ?_
    obtain ⟨hin, hF⟩ := ld_some hF
    refine aMl18 (f := (sa 18)) C0 hP rfl hin dX6_noCell_21 ?_
    refine lv_i2l hx hb dX6_noCell_22 rfl ?_
    refine lv_lconst (v := (1 : Int64)) hx hb dX6_noCell_23 (by decide) ?_
    refine lv_lsub hx hb dX6_noCell_24 ?_
    obtain ⟨r2, hr2, hF⟩ := bd_some hF
    refine kcS (As := [.long (Int32.toInt64 a2), .long (0 : Int64), .long ((Int32.toInt64 ((sa 18) (Int32.toNatClampNeg a1))) - (1 : Int64))]) (rest := []) C0 hA hP hD hS (c_X6_in l D cA ad si sa (Int32.toInt64 a2) (0 : Int64) ((Int32.toInt64 ((sa 18) (Int32.toNatClampNeg a1))) - (1 : Int64)) r2 hr2) lk_X6_in q686 q685 hl.1 rfl rfl (Nat.le_of_ble_eq_true rfl) ⟨Nat.le_of_ble_eq_true rfl, Nat.le_of_ble_eq_true rfl⟩ ⟨Nat.le_refl _, Nat.le_refl _⟩ dX6_noCell_25 (fun H locs hP hD hS => ?_)
    refine W.eq (g2 := F0 m 28 ls [.int r2]) rfl ?_
    refine lv_if_eq (tgt := 35) hx hb dX6_noCell_28 (by decide) (fun c3 => ?_) (fun c3 => ?_)
    · have hF := (if_pos c3).symm.trans hF
      refine lv_iconst (v := (3 : Int32)) hx hb dX6_noCell_35 (by decide) ?_
      have hF := Option.some.inj hF
      exact hE _ _ _ _ _ hP hD hS dX6_noCell_36 rfl hF
    · have hF := (if_neg c3).symm.trans hF
      refine lv_iconst (v := (0 : Int32)) hx hb dX6_noCell_31 (by decide) ?_
      refine lv_goto (tgt := 36) hx hb dX6_noCell_32 (by decide) ?_
      have hF := Option.some.inj hF
      exact hE _ _ _ _ _ hP hD hS dX6_noCell_36 rfl hF
  · have hF := (if_neg c1).symm.trans hF
    refine lv_iconst (v := (1 : Int32)) hx hb dX6_noCell_9 (by decide) ?_
    refine lv_goto (tgt := 36) hx hb dX6_noCell_10 (by decide) ?_
    have hF := Option.some.inj hF
    exact hE _ _ _ _ _ hP hD hS dX6_noCell_36 rfl hF
theorem lk_X6_put : LK yX6_put cX6_put 4 (some .int) 3 := ⟨q880, q7, by decide +kernel⟩
def F_X6_put (a1 : Int32) (a2 : Int32) (a3 : Int32) (si : tSI) (sa : tSA) : Option (Int32 × tSI × tSA) :=
  (F_X6_noSheet a1).bind fun r1 => (if r1 = 0 then (F_X6_noCell a1 a2 si sa).bind fun r3 => (if r3 ≤ 0 then ld a1 4 (((if ((sa 19) (Int32.toNatClampNeg a1)) = 0 then some (Int8.toInt32 (Int32.toInt8 a3)) else ld a1 4 ((if ((sa 19) (Int32.toNatClampNeg a1)) = (1 : Int32) then some (Int16.toInt32 (Int32.toInt16 a3)) else some a3)))).bind fun (x5 : Int32) => ld (((60 : Int32) * a1) + a2) 240 ((F_X6_refused (1 : Int32) si (va_up sa 20 (upd (sa 20) (Int32.toNatClampNeg (((60 : Int32) * a1) + a2)) x5))).bind fun r6 => some (r6.1, r6.2.1, r6.2.2))) else (F_X6_noCell a1 a2 si sa).bind fun r9 => (F_X6_failed r9 si sa).bind fun r10 => some (r10.1, r10.2.1, r10.2.2)) else (F_X6_refused (-1 : Int32) si sa).bind fun r11 => some (r11.1, r11.2.1, r11.2.2))
set_option maxHeartbeats 4000000 in
set_option maxRecDepth 100000 in
theorem c_X6_put (l : Launch) (D : va_G) (cA : ClassId) (ad : Nat → Nat) (si : tSI) (sa : tSA) (a1 : Int32) (a2 : Int32) (a3 : Int32) (o : (Int32 × tSI × tSA)) (hF : F_X6_put a1 a2 a3 si sa = some o) : CG l yX6_put cX6_put 4 (some .int) 2 47 D cA [.ref (ad 0), .int a1, .int a2, .int a3] (WM cA ad si sa) (WM cA ad o.2.1 o.2.2) (some (.int o.1)) := by
  refine CG.ofi (by decide) (Nat.le_of_ble_eq_true rfl) ?_
  intro p ee s m args below meth c A Q H0 ls C0 hA hP hD hS hl hE
  have hl : lv_has ls 4 [(0, .ref (ad 0)), (1, .int a1), (2, .int a2), (3, .int a3)] := hl
  obtain ⟨hx, hb, hml, hown, ht, hK⟩ := id C0
  unfold F_X6_put at hF
  refine lv_iload_n hx hb dX6_put_0 rfl (lv_at hl 1 rfl) ?_
  obtain ⟨r1, hr1, hF⟩ := bd_some hF
  refine kcS (As := [.int a1]) (rest := []) C0 hA hP hD hS (c_X6_noSheet l D cA ad si sa a1 r1 hr1) lk_X6_noSheet q682 q681 hl.1 rfl rfl (Nat.le_of_ble_eq_true rfl) ⟨Nat.le_of_ble_eq_true rfl, Nat.le_of_ble_eq_true rfl⟩ ⟨Nat.le_refl _, Nat.le_refl _⟩ dX6_put_1 (fun H locs hP hD hS => ?_)
  refine W.eq (g2 := F0 m 4 ls [.int r1]) rfl ?_
  refine lv_if_eq (tgt := 13) hx hb dX6_put_4 (by decide) (fun c2 => ?_) (fun c2 => ?_)
  · have hF := (if_pos c2).symm.trans hF
    refine lv_aload_n hx hb dX6_put_13 rfl (lv_at hl 0 rfl) ?_
    refine lv_iload_n hx hb dX6_put_14 rfl (lv_at hl 1 rfl) ?_
    refine lv_iload_n hx hb dX6_put_15 rfl (lv_at hl 2 rfl) ?_
    obtain ⟨r3, hr3, hF⟩ := bd_some hF
    refine kcV (As := [.int a1, .int a2]) (rest := []) C0 hA hP hD hS (c_X6_noCell l D cA ad si sa a1 a2 r3 hr3) lk_X6_noCell q883 s49 q881 0 6 rfl rfl hl.1 rfl rfl (Nat.le_of_ble_eq_true rfl) ⟨Nat.le_of_ble_eq_true rfl, Nat.le_of_ble_eq_true rfl⟩ ⟨Nat.le_refl _, Nat.le_refl _⟩ dX6_put_16 (fun H locs hP hD hS => ?_)
    refine W.eq (g2 := F0 m 19 ls [.int r3]) rfl ?_
    refine lv_if_le (tgt := 33) hx hb dX6_put_19 (by decide) (fun c4 => ?_) (fun c4 => ?_)
    · have hF := (if_pos c4).symm.trans hF
      refine lv_aload_n hx hb dX6_put_33 rfl (lv_at hl 0 rfl) ?_
      refine gM0_29 C0 hP q609 dX6_put_34 ?_
      refine lv_bipush (v := (60 : Int32)) hx hb dX6_put_37 (by decide) ?_
      refine lv_iload_n hx hb dX6_put_39 rfl (lv_at hl 1 rfl) ?_
      refine lv_imul hx hb dX6_put_40 ?_
      refine lv_iload_n hx hb dX6_put_41 rfl (lv_at hl 2 rfl) ?_
      refine lv_iadd hx hb dX6_put_42 ?_
      refine lv_aload_n hx hb dX6_put_43 rfl (lv_at hl 0 rfl) ?_
      refine gM0_28 C0 hP q608 dX6_put_44 ?_
      refine lv_iload_n hx hb dX6_put_47 rfl (lv_at hl 1 rfl) ?_
      obtain ⟨hin, hF⟩ := ld_some hF
      refine aMl19 (f := (sa 19)) C0 hP rfl hin dX6_put_48 ?_
      obtain ⟨x5, hRx5, hF⟩ := bd_some hF
      have Jx5 : ∀ (H : Heap) (locs : List Loc) (ls : Array Slot), va_P D vwCl (WM cA ad si sa) H → va_D A (WM cA ad si sa) → va_S A H0 H locs → lv_has ls 4 [(0, .ref (ad 0))] → W p l ee (rmx 2 47) s m args below meth c H locs 0 0 Q (F0 m 73 ls [.int x5, .int (((60 : Int32) * a1) + a2), .ref (ad 21)]) := by
        intro H locs ls hP hD hS hl
        obtain ⟨hin, hF⟩ := ld_some hF
        refine aMs20 (f := (sa 20)) C0 hP hD hS rfl hin dX6_put_73 (fun H locs hP hD hS => ?_)
        refine lv_aload_n hx hb dX6_put_74 rfl (lv_at hl 0 rfl) ?_
        refine lv_iconst (v := (1 : Int32)) hx hb dX6_put_75 (by decide) ?_
        obtain ⟨r6, hr6, hF⟩ := bd_some hF
        refine kcV (As := [.int (1 : Int32)]) (rest := []) C0 hA hP hD hS (c_X6_refused l D cA ad si (va_up sa 20 (upd (sa 20) (Int32.toNatClampNeg (((60 : Int32) * a1) + a2)) x5)) (1 : Int32) r6 hr6) lk_X6_refused q690 s25 q688 0 6 rfl rfl hl.1 rfl rfl (Nat.le_of_ble_eq_true rfl) ⟨Nat.le_of_ble_eq_true rfl, Nat.le_of_ble_eq_true rfl⟩ ⟨Nat.le_refl _, Nat.le_refl _⟩ dX6_put_76 (fun H locs hP hD hS => ?_)
        refine W.eq (g2 := F0 m 79 ls [.int r6.1]) rfl ?_
        have hF := Option.some.inj hF
        subst hF
        exact hE _ _ _ _ _ hP hD hS dX6_put_79 rfl rfl
      have hF := hRx5
      refine lv_if_ne (tgt := 57) hx hb dX6_put_49 (by decide) (fun c7 => ?_) (fun c7 => ?_)
      · have hF := (if_neg c7).symm.trans hF
        refine lv_aload_n hx hb dX6_put_57 rfl (lv_at hl 0 rfl) ?_
        refine gM0_28 C0 hP q608 dX6_put_58 ?_
        refine lv_iload_n hx hb dX6_put_61 rfl (lv_at hl 1 rfl) ?_
        obtain ⟨hin, hF⟩ := ld_some hF
        refine aMl19 (f := (sa 19)) C0 hP rfl hin dX6_put_62 ?_
        refine lv_iconst (v := (1 : Int32)) hx hb dX6_put_63 (by decide) ?_
        refine lv_icmp_ne (tgt := 72) hx hb dX6_put_64 (by decide) (fun c8 => ?_) (fun c8 => ?_)
        · have hF := (if_neg c8).symm.trans hF
          refine lv_iload_n hx hb dX6_put_72 rfl (lv_at hl 3 rfl) ?_
          have hF := Option.some.inj hF
          subst hF
          exact Jx5 _ _ _ hP hD hS (lv_sub hl [0] rfl)
        · have hF := (if_pos c8).symm.trans hF
          refine lv_iload_n hx hb dX6_put_67 rfl (lv_at hl 3 rfl) ?_
          refine lv_i2s hx hb dX6_put_68 rfl ?_
          refine lv_goto (tgt := 73) hx hb dX6_put_69 (by decide) ?_
          have hF := Option.some.inj hF
          subst hF
          exact Jx5 _ _ _ hP hD hS (lv_sub hl [0] rfl)
      · have hF := (if_pos c7).symm.trans hF
        refine lv_iload_n hx hb dX6_put_52 rfl (lv_at hl 3 rfl) ?_
        refine lv_i2b hx hb dX6_put_53 rfl ?_
        refine lv_goto (tgt := 73) hx hb dX6_put_54 (by decide) ?_
        have hF := Option.some.inj hF
        subst hF
        exact Jx5 _ _ _ hP hD hS (lv_sub hl [0] rfl)
    · have hF := (if_neg c4).symm.trans hF
      refine lv_aload_n hx hb dX6_put_22 rfl (lv_at hl 0 rfl) ?_
      refine lv_aload_n hx hb dX6_put_23 rfl (lv_at hl 0 rfl) ?_
      refine lv_iload_n hx hb dX6_put_24 rfl (lv_at hl 1 rfl) ?_
      refine lv_iload_n hx hb dX6_put_25 rfl (lv_at hl 2 rfl) ?_
      obtain ⟨r9, hr9, hF⟩ := bd_some hF
      refine kcV (As := [.int a1, .int a2]) (rest := [.ref (ad 0)]) C0 hA hP hD hS (c_X6_noCell l D cA ad si sa a1 a2 r9 hr9) lk_X6_noCell q883 s49 q881 0 6 rfl rfl hl.1 rfl rfl (Nat.le_of_ble_eq_true rfl) ⟨Nat.le_of_ble_eq_true rfl, Nat.le_of_ble_eq_true rfl⟩ ⟨Nat.le_refl _, Nat.le_refl _⟩ dX6_put_26 (fun H locs hP hD hS => ?_)
      refine W.eq (g2 := F0 m 29 ls [.int r9, .ref (ad 0)]) rfl ?_
      obtain ⟨r10, hr10, hF⟩ := bd_some hF
      refine kcV (As := [.int r9]) (rest := []) C0 hA hP hD hS (c_X6_failed l D cA ad si sa r9 r10 hr10) lk_X6_failed q699 s27 q697 0 6 rfl rfl hl.1 rfl rfl (Nat.le_of_ble_eq_true rfl) ⟨Nat.le_of_ble_eq_true rfl, Nat.le_of_ble_eq_true rfl⟩ ⟨Nat.le_refl _, Nat.le_refl _⟩ dX6_put_29 (fun H locs hP hD hS => ?_)
      refine W.eq (g2 := F0 m 32 ls [.int r10.1]) rfl ?_
      have hF := Option.some.inj hF
      subst hF
      exact hE _ _ _ _ _ hP hD hS dX6_put_32 rfl rfl
  · have hF := (if_neg c2).symm.trans hF
    refine lv_aload_n hx hb dX6_put_7 rfl (lv_at hl 0 rfl) ?_
    refine lv_iconst (v := (-1 : Int32)) hx hb dX6_put_8 (by decide) ?_
    obtain ⟨r11, hr11, hF⟩ := bd_some hF
    refine kcV (As := [.int (-1 : Int32)]) (rest := []) C0 hA hP hD hS (c_X6_refused l D cA ad si sa (-1 : Int32) r11 hr11) lk_X6_refused q690 s25 q688 0 6 rfl rfl hl.1 rfl rfl (Nat.le_of_ble_eq_true rfl) ⟨Nat.le_of_ble_eq_true rfl, Nat.le_of_ble_eq_true rfl⟩ ⟨Nat.le_refl _, Nat.le_refl _⟩ dX6_put_9 (fun H locs hP hD hS => ?_)
    refine W.eq (g2 := F0 m 12 ls [.int r11.1]) rfl ?_
    have hF := Option.some.inj hF
    subst hF
    exact hE _ _ _ _ _ hP hD hS dX6_put_12 rfl rfl
theorem lk_X6_cell : LK yX6_cell cX6_cell 4 (some .long) 3 := ⟨q888, q7, by decide +kernel⟩
def K_X6_cell_53 (a1 : Int32) (a2 : Int32) (si : tSI) (sa : tSA) : Option (Int64 × tSI × tSA) :=
  (F_X6_noCell a1 a2 (upd si 0 (0 : Int32)) sa).bind fun r7 => (if r7 ≤ 0 then ld (((60 : Int32) * a1) + a2) 240 (some ((Int32.toInt64 ((sa 20) (Int32.toNatClampNeg (((60 : Int32) * a1) + a2)))), (upd si 0 (0 : Int32)), sa)) else (F_X6_noCell a1 a2 (upd si 0 (0 : Int32)) sa).bind fun r9 => (F_X6_failedLong r9 (upd si 0 (0 : Int32)) sa).bind fun r10 => some (r10.1, r10.2.1, r10.2.2))
def F_X6_cell (a1 : Int32) (a2 : Int32) (a3 : Int32) (si : tSI) (sa : tSA) : Option (Int64 × tSI × tSA) :=
  (F_X6_noSheet a1).bind fun r1 => (if r1 = 0 then (F_X6_in (Int32.toInt64 a3) (0 : Int64) (2 : Int64)).bind fun r4 => (if r4 = 0 then (F_X6_lost).bind fun r14 => some (r14, (upd si 0 (0 : Int32)), sa) else ld a1 4 ((if ((sa 18) (Int32.toNatClampNeg a1)) < 0 then K_X6_cell_53 a1 a2 si sa else ld a1 4 ((if ((sa 19) (Int32.toNatClampNeg a1)) = a3 then K_X6_cell_53 a1 a2 si sa else (F_X6_failedLong (2 : Int32) (upd si 0 (0 : Int32)) sa).bind fun r13 => some (r13.1, r13.2.1, r13.2.2)))))) else (F_X6_lost).bind fun r3 => some (r3, (upd si 0 (0 : Int32)), sa))
set_option maxHeartbeats 4000000 in
set_option maxRecDepth 100000 in
theorem c_X6_cell (l : Launch) (D : va_G) (cA : ClassId) (ad : Nat → Nat) (si : tSI) (sa : tSA) (a1 : Int32) (a2 : Int32) (a3 : Int32) (o : (Int64 × tSI × tSA)) (hF : F_X6_cell a1 a2 a3 si sa = some o) : CG l yX6_cell cX6_cell 4 (some .long) 2 47 D cA [.ref (ad 0), .int a1, .int a2, .int a3] (WM cA ad si sa) (WM cA ad o.2.1 o.2.2) (some (.long o.1)) := by
  refine CG.ofl (by decide) (Nat.le_of_ble_eq_true rfl) ?_
  intro p ee s m args below meth c A Q H0 ls C0 hA hP hD hS hl hE
  have hl : lv_has ls 4 [(0, .ref (ad 0)), (1, .int a1), (2, .int a2), (3, .int a3)] := hl
  obtain ⟨hx, hb, hml, hown, ht, hK⟩ := id C0
  unfold F_X6_cell at hF
  refine lv_aload_n hx hb dX6_cell_0 rfl (lv_at hl 0 rfl) ?_
  refine lv_iconst (v := (0 : Int32)) hx hb dX6_cell_1 (by decide) ?_
  refine pM0_0 C0 hP hD hS q580 dX6_cell_2 (fun H locs hP hD hS => ?_)
  refine lv_iload_n hx hb dX6_cell_5 rfl (lv_at hl 1 rfl) ?_
  obtain ⟨r1, hr1, hF⟩ := bd_some hF
  refine kcS (As := [.int a1]) (rest := []) C0 hA hP hD hS (c_X6_noSheet l D cA ad (upd si 0 (0 : Int32)) sa a1 r1 hr1) lk_X6_noSheet q682 q681 hl.1 rfl rfl (Nat.le_of_ble_eq_true rfl) ⟨Nat.le_of_ble_eq_true rfl, Nat.le_of_ble_eq_true rfl⟩ ⟨Nat.le_refl _, Nat.le_refl _⟩ dX6_cell_6 (fun H locs hP hD hS => ?_)
  refine W.eq (g2 := F0 m 9 ls [.int r1]) rfl ?_
  refine lv_if_ne (tgt := 24) hx hb dX6_cell_9 (by decide) (fun c2 => ?_) (fun c2 => ?_)
  · have hF := (if_neg c2).symm.trans hF
    obtain ⟨r3, hr3, hF⟩ := bd_some hF
    refine kcS (As := []) (rest := []) C0 hA hP hD hS (c_X6_lost l D cA ad (upd si 0 (0 : Int32)) sa r3 hr3) lk_X6_lost q838 q837 hl.1 rfl rfl (Nat.le_of_ble_eq_true rfl) ⟨Nat.le_of_ble_eq_true rfl, Nat.le_of_ble_eq_true rfl⟩ ⟨Nat.le_refl _, Nat.le_refl _⟩ dX6_cell_24 (fun H locs hP hD hS => ?_)
    refine W.eq (g2 := F0 m 27 ls [.long r3]) rfl ?_
    have hF := Option.some.inj hF
    subst hF
    exact hE _ _ _ _ _ hP hD hS dX6_cell_27 rfl
  · have hF := (if_pos c2).symm.trans hF
    refine lv_iload_n hx hb dX6_cell_12 rfl (lv_at hl 3 rfl) ?_
    refine lv_i2l hx hb dX6_cell_13 rfl ?_
    refine lv_lconst (v := (0 : Int64)) hx hb dX6_cell_14 (by decide) ?_
    refine lv_ldc2 (v := (2 : Int64)) hx hb hown (ht _ q692) dX6_cell_15 ?_
    obtain ⟨r4, hr4, hF⟩ := bd_some hF
    refine kcS (As := [.long (Int32.toInt64 a3), .long (0 : Int64), .long (2 : Int64)]) (rest := []) C0 hA hP hD hS (c_X6_in l D cA ad (upd si 0 (0 : Int32)) sa (Int32.toInt64 a3) (0 : Int64) (2 : Int64) r4 hr4) lk_X6_in q686 q685 hl.1 rfl rfl (Nat.le_of_ble_eq_true rfl) ⟨Nat.le_of_ble_eq_true rfl, Nat.le_of_ble_eq_true rfl⟩ ⟨Nat.le_refl _, Nat.le_refl _⟩ dX6_cell_18 (fun H locs hP hD hS => ?_)
    refine W.eq (g2 := F0 m 21 ls [.int r4]) rfl ?_
    refine lv_if_ne (tgt := 28) hx hb dX6_cell_21 (by decide) (fun c5 => ?_) (fun c5 => ?_)
    · have hF := (if_neg c5).symm.trans hF
      refine lv_aload_n hx hb dX6_cell_28 rfl (lv_at hl 0 rfl) ?_
      refine gM0_27 C0 hP q607 dX6_cell_29 ?_
      refine lv_iload_n hx hb dX6_cell_32 rfl (lv_at hl 1 rfl) ?_
      obtain ⟨hin, hF⟩ := ld_some hF
      refine aMl18 (f := (sa 18)) C0 hP rfl hin dX6_cell_33 ?_
      have Jx6 : ∀ (H : Heap) (locs : List Loc) (ls : Array Slot), K_X6_cell_53 a1 a2 si sa = some o → va_P D vwCl (WM cA ad (upd si 0 (0 : Int32)) sa) H → va_D A (WM cA ad (upd si 0 (0 : Int32)) sa) → va_S A H0 H locs → lv_has ls 4 [(0, .ref (ad 0)), (1, .int a1), (2, .int a2)] → W p l ee (rmx 2 47) s m args below meth c H locs 0 0 Q (F0 m 53 ls []) := by
        intro H locs ls hF hP hD hS hl
        unfold K_X6_cell_53 at hF
        refine lv_aload_n hx hb dX6_cell_53 rfl (lv_at hl 0 rfl) ?_
        refine lv_iload_n hx hb dX6_cell_54 rfl (lv_at hl 1 rfl) ?_
        refine lv_iload_n hx hb dX6_cell_55 rfl (lv_at hl 2 rfl) ?_
        obtain ⟨r7, hr7, hF⟩ := bd_some hF
        refine kcV (As := [.int a1, .int a2]) (rest := []) C0 hA hP hD hS (c_X6_noCell l D cA ad (upd si 0 (0 : Int32)) sa a1 a2 r7 hr7) lk_X6_noCell q883 s49 q881 0 6 rfl rfl hl.1 rfl rfl (Nat.le_of_ble_eq_true rfl) ⟨Nat.le_of_ble_eq_true rfl, Nat.le_of_ble_eq_true rfl⟩ ⟨Nat.le_refl _, Nat.le_refl _⟩ dX6_cell_56 (fun H locs hP hD hS => ?_)
        refine W.eq (g2 := F0 m 59 ls [.int r7]) rfl ?_
        refine lv_if_le (tgt := 75) hx hb dX6_cell_59 (by decide) (fun c8 => ?_) (fun c8 => ?_)
        · have hF := (if_pos c8).symm.trans hF
          refine lv_aload_n hx hb dX6_cell_75 rfl (lv_at hl 0 rfl) ?_
          refine gM0_29 C0 hP q609 dX6_cell_76 ?_
          refine lv_bipush (v := (60 : Int32)) hx hb dX6_cell_79 (by decide) ?_
          refine lv_iload_n hx hb dX6_cell_81 rfl (lv_at hl 1 rfl) ?_
          refine lv_imul hx hb dX6_cell_82 ?_
          refine lv_iload_n hx hb dX6_cell_83 rfl (lv_at hl 2 rfl) ?_
          refine lv_iadd hx hb dX6_cell_84 ?_
          obtain ⟨hin, hF⟩ := ld_some hF
          refine aMl20 (f := (sa 20)) C0 hP rfl hin dX6_cell_85 ?_
          refine lv_i2l hx hb dX6_cell_86 rfl ?_
          have hF := Option.some.inj hF
          subst hF
          exact hE _ _ _ _ _ hP hD hS dX6_cell_87 rfl
        · have hF := (if_neg c8).symm.trans hF
          refine lv_aload_n hx hb dX6_cell_62 rfl (lv_at hl 0 rfl) ?_
          refine lv_aload_n hx hb dX6_cell_63 rfl (lv_at hl 0 rfl) ?_
          refine lv_iload_n hx hb dX6_cell_64 rfl (lv_at hl 1 rfl) ?_
          refine lv_iload_n hx hb dX6_cell_65 rfl (lv_at hl 2 rfl) ?_
          obtain ⟨r9, hr9, hF⟩ := bd_some hF
          refine kcV (As := [.int a1, .int a2]) (rest := [.ref (ad 0)]) C0 hA hP hD hS (c_X6_noCell l D cA ad (upd si 0 (0 : Int32)) sa a1 a2 r9 hr9) lk_X6_noCell q883 s49 q881 0 6 rfl rfl hl.1 rfl rfl (Nat.le_of_ble_eq_true rfl) ⟨Nat.le_of_ble_eq_true rfl, Nat.le_of_ble_eq_true rfl⟩ ⟨Nat.le_refl _, Nat.le_refl _⟩ dX6_cell_66 (fun H locs hP hD hS => ?_)
          refine W.eq (g2 := F0 m 69 ls [.int r9, .ref (ad 0)]) rfl ?_
          obtain ⟨r10, hr10, hF⟩ := bd_some hF
          refine kcV (As := [.int r9]) (rest := []) C0 hA hP hD hS (c_X6_failedLong l D cA ad (upd si 0 (0 : Int32)) sa r9 r10 hr10) lk_X6_failedLong q891 s50 q889 0 6 rfl rfl hl.1 rfl rfl (Nat.le_of_ble_eq_true rfl) ⟨Nat.le_of_ble_eq_true rfl, Nat.le_of_ble_eq_true rfl⟩ ⟨Nat.le_refl _, Nat.le_refl _⟩ dX6_cell_69 (fun H locs hP hD hS => ?_)
          refine W.eq (g2 := F0 m 72 ls [.long r10.1]) rfl ?_
          refine lv_goto (tgt := 87) hx hb dX6_cell_72 (by decide) ?_
          have hF := Option.some.inj hF
          subst hF
          exact hE _ _ _ _ _ hP hD hS dX6_cell_87 rfl
      refine lv_if_lt (tgt := 53) hx hb dX6_cell_34 (by decide) (fun c11 => ?_) (fun c11 => ?_)
      · have hF := (if_pos c11).symm.trans hF
        exact Jx6 _ _ _ hF hP hD hS (lv_sub hl [0, 1, 2] rfl)
      · have hF := (if_neg c11).symm.trans hF
        refine lv_aload_n hx hb dX6_cell_37 rfl (lv_at hl 0 rfl) ?_
        refine gM0_28 C0 hP q608 dX6_cell_38 ?_
        refine lv_iload_n hx hb dX6_cell_41 rfl (lv_at hl 1 rfl) ?_
        obtain ⟨hin, hF⟩ := ld_some hF
        refine aMl19 (f := (sa 19)) C0 hP rfl hin dX6_cell_42 ?_
        refine lv_iload_n hx hb dX6_cell_43 rfl (lv_at hl 3 rfl) ?_
        refine lv_icmp_eq (tgt := 53) hx hb dX6_cell_44 (by decide) (fun c12 => ?_) (fun c12 => ?_)
        · have hF := (if_pos c12).symm.trans hF
          exact Jx6 _ _ _ hF hP hD hS (lv_sub hl [0, 1, 2] rfl)
        · have hF := (if_neg c12).symm.trans hF
          refine lv_aload_n hx hb dX6_cell_47 rfl (lv_at hl 0 rfl) ?_
          refine lv_iconst (v := (2 : Int32)) hx hb dX6_cell_48 (by decide) ?_
          obtain ⟨r13, hr13, hF⟩ := bd_some hF
          refine kcV (As := [.int (2 : Int32)]) (rest := []) C0 hA hP hD hS (c_X6_failedLong l D cA ad (upd si 0 (0 : Int32)) sa (2 : Int32) r13 hr13) lk_X6_failedLong q891 s50 q889 0 6 rfl rfl hl.1 rfl rfl (Nat.le_of_ble_eq_true rfl) ⟨Nat.le_of_ble_eq_true rfl, Nat.le_of_ble_eq_true rfl⟩ ⟨Nat.le_refl _, Nat.le_refl _⟩ dX6_cell_49 (fun H locs hP hD hS => ?_)
          refine W.eq (g2 := F0 m 52 ls [.long r13.1]) rfl ?_
          have hF := Option.some.inj hF
          subst hF
          exact hE _ _ _ _ _ hP hD hS dX6_cell_52 rfl
    · have hF := (if_pos c5).symm.trans hF
      obtain ⟨r14, hr14, hF⟩ := bd_some hF
      refine kcS (As := []) (rest := []) C0 hA hP hD hS (c_X6_lost l D cA ad (upd si 0 (0 : Int32)) sa r14 hr14) lk_X6_lost q838 q837 hl.1 rfl rfl (Nat.le_of_ble_eq_true rfl) ⟨Nat.le_of_ble_eq_true rfl, Nat.le_of_ble_eq_true rfl⟩ ⟨Nat.le_refl _, Nat.le_refl _⟩ dX6_cell_24 (fun H locs hP hD hS => ?_)
      refine W.eq (g2 := F0 m 27 ls [.long r14]) rfl ?_
      have hF := Option.some.inj hF
      subst hF
      exact hE _ _ _ _ _ hP hD hS dX6_cell_27 rfl
theorem lk_X6_copy : LK yX6_copy cX6_copy 7 (some .int) 5 := ⟨q896, q7, by decide +kernel⟩
def S_X6_copy_144 (a5 : Int32) (a3 : Int32) (a4 : Int32) (rec17 : ((Int32 × tSI × tSA) → Option (tSI × tSA))) (t17 : (Int32 × tSI × tSA)) : Option (tSI × tSA) :=
  (if a5 ≤ t17.1 then some (t17.2.1, t17.2.2) else ld t17.1 60 (ld ((((60 : Int32) * a3) + a4) + t17.1) 240 (rec17 ((t17.1 + 1), t17.2.1, (va_up t17.2.2 20 (upd (t17.2.2 20) (Int32.toNatClampNeg ((((60 : Int32) * a3) + a4) + t17.1)) ((t17.2.2 21) (Int32.toNatClampNeg t17.1))))))))
def S_X6_copy_107 (a5 : Int32) (a1 : Int32) (a2 : Int32) (rec15 : ((Int32 × tSI × tSA) → Option (tSI × tSA))) (t15 : (Int32 × tSI × tSA)) : Option (tSI × tSA) :=
  (if a5 ≤ t15.1 then some (t15.2.1, t15.2.2) else ld ((((60 : Int32) * a1) + a2) + t15.1) 240 (ld t15.1 60 (rec15 ((t15.1 + 1), t15.2.1, (va_up t15.2.2 21 (upd (t15.2.2 21) (Int32.toNatClampNeg t15.1) ((t15.2.2 20) (Int32.toNatClampNeg ((((60 : Int32) * a1) + a2) + t15.1)))))))))
def F_X6_copy (a1 : Int32) (a2 : Int32) (a3 : Int32) (a4 : Int32) (a5 : Int32) (si : tSI) (sa : tSA) : Option (Int32 × tSI × tSA) :=
  (F_X6_noSheet a1).bind fun r1 => (if r1 = 0 then (F_X6_noSheet a3).bind fun r4 => (if r4 = 0 then ld a1 4 ((if ((sa 18) (Int32.toNatClampNeg a1)) < 0 then (F_X6_failed (1 : Int32) si sa).bind fun r7 => some (r7.1, r7.2.1, r7.2.2) else ld a3 4 ((if 0 ≤ ((sa 18) (Int32.toNatClampNeg a3)) then ld a1 4 (ld a3 4 ((if ((sa 19) (Int32.toNatClampNeg a1)) = ((sa 19) (Int32.toNatClampNeg a3)) then ld a1 4 ((F_X6_isBeyond a2 (Int32.toInt64 a5) ((sa 18) (Int32.toNatClampNeg a1))).bind fun r10 => (if r10 = 0 then ld a3 4 ((F_X6_isBeyond a4 (Int32.toInt64 a5) ((sa 18) (Int32.toNatClampNeg a3))).bind fun r13 => (if r13 = 0 then (lp (S_X6_copy_107 a5 a1 a2) 100 ((0 : Int32), si, sa)).bind fun (e16 : (tSI × tSA)) => (lp (S_X6_copy_144 a5 a3 a4) 100 ((0 : Int32), e16.1, e16.2)).bind fun (e18 : (tSI × tSA)) => (F_X6_refused a5 e18.1 e18.2).bind fun r19 => some (r19.1, r19.2.1, r19.2.2) else (F_X6_failed (3 : Int32) si sa).bind fun r22 => some (r22.1, r22.2.1, r22.2.2))) else (F_X6_failed (3 : Int32) si sa).bind fun r12 => some (r12.1, r12.2.1, r12.2.2))) else (F_X6_failed (2 : Int32) si sa).bind fun r23 => some (r23.1, r23.2.1, r23.2.2)))) else (F_X6_failed (1 : Int32) si sa).bind fun r24 => some (r24.1, r24.2.1, r24.2.2))))) else (F_X6_refused (-1 : Int32) si sa).bind fun r25 => some (r25.1, r25.2.1, r25.2.2)) else (F_X6_refused (-1 : Int32) si sa).bind fun r3 => some (r3.1, r3.2.1, r3.2.2))
set_option maxHeartbeats 4000000 in
set_option maxRecDepth 100000 in
theorem c_X6_copy (l : Launch) (D : va_G) (cA : ClassId) (ad : Nat → Nat) (si : tSI) (sa : tSA) (a1 : Int32) (a2 : Int32) (a3 : Int32) (a4 : Int32) (a5 : Int32) (o : (Int32 × tSI × tSA)) (hF : F_X6_copy a1 a2 a3 a4 a5 si sa = some o) : CG l yX6_copy cX6_copy 7 (some .int) 2 45 D cA [.ref (ad 0), .int a1, .int a2, .int a3, .int a4, .int a5] (WM cA ad si sa) (WM cA ad o.2.1 o.2.2) (some (.int o.1)) := by
  refine CG.ofi (by decide) (Nat.le_of_ble_eq_true rfl) ?_
  intro p ee s m args below meth c A Q H0 ls C0 hA hP hD hS hl hE
  have hl : lv_has ls 7 [(0, .ref (ad 0)), (1, .int a1), (2, .int a2), (3, .int a3), (4, .int a4), (5, .int a5)] := hl
  obtain ⟨hx, hb, hml, hown, ht, hK⟩ := id C0
  unfold F_X6_copy at hF
  refine lv_iload_n hx hb dX6_copy_0 rfl (lv_at hl 1 rfl) ?_
  obtain ⟨r1, hr1, hF⟩ := bd_some hF
  refine kcS (As := [.int a1]) (rest := []) C0 hA hP hD hS (c_X6_noSheet l D cA ad si sa a1 r1 hr1) lk_X6_noSheet q682 q681 hl.1 rfl rfl (Nat.le_of_ble_eq_true rfl) ⟨Nat.le_of_ble_eq_true rfl, Nat.le_of_ble_eq_true rfl⟩ ⟨Nat.le_refl _, Nat.le_refl _⟩ dX6_copy_1 (fun H locs hP hD hS => ?_)
  refine W.eq (g2 := F0 m 4 ls [.int r1]) rfl ?_
  refine lv_if_ne (tgt := 14) hx hb dX6_copy_4 (by decide) (fun c2 => ?_) (fun c2 => ?_)
  · have hF := (if_neg c2).symm.trans hF
    refine lv_aload_n hx hb dX6_copy_14 rfl (lv_at hl 0 rfl) ?_
    refine lv_iconst (v := (-1 : Int32)) hx hb dX6_copy_15 (by decide) ?_
    obtain ⟨r3, hr3, hF⟩ := bd_some hF
    refine kcV (As := [.int (-1 : Int32)]) (rest := []) C0 hA hP hD hS (c_X6_refused l D cA ad si sa (-1 : Int32) r3 hr3) lk_X6_refused q690 s25 q688 0 6 rfl rfl hl.1 rfl rfl (Nat.le_of_ble_eq_true rfl) ⟨Nat.le_of_ble_eq_true rfl, Nat.le_of_ble_eq_true rfl⟩ ⟨Nat.le_refl _, Nat.le_refl _⟩ dX6_copy_16 (fun H locs hP hD hS => ?_)
    refine W.eq (g2 := F0 m 19 ls [.int r3.1]) rfl ?_
    have hF := Option.some.inj hF
    subst hF
    exact hE _ _ _ _ _ hP hD hS dX6_copy_19 rfl rfl
  · have hF := (if_pos c2).symm.trans hF
    refine lv_iload_n hx hb dX6_copy_7 rfl (lv_at hl 3 rfl) ?_
    obtain ⟨r4, hr4, hF⟩ := bd_some hF
    refine kcS (As := [.int a3]) (rest := []) C0 hA hP hD hS (c_X6_noSheet l D cA ad si sa a3 r4 hr4) lk_X6_noSheet q682 q681 hl.1 rfl rfl (Nat.le_of_ble_eq_true rfl) ⟨Nat.le_of_ble_eq_true rfl, Nat.le_of_ble_eq_true rfl⟩ ⟨Nat.le_refl _, Nat.le_refl _⟩ dX6_copy_8 (fun H locs hP hD hS => ?_)
    refine W.eq (g2 := F0 m 11 ls [.int r4]) rfl ?_
    refine lv_if_eq (tgt := 20) hx hb dX6_copy_11 (by decide) (fun c5 => ?_) (fun c5 => ?_)
    · have hF := (if_pos c5).symm.trans hF
      refine lv_aload_n hx hb dX6_copy_20 rfl (lv_at hl 0 rfl) ?_
      refine gM0_27 C0 hP q607 dX6_copy_21 ?_
      refine lv_iload_n hx hb dX6_copy_24 rfl (lv_at hl 1 rfl) ?_
      obtain ⟨hin, hF⟩ := ld_some hF
      refine aMl18 (f := (sa 18)) C0 hP rfl hin dX6_copy_25 ?_
      refine lv_if_lt (tgt := 38) hx hb dX6_copy_26 (by decide) (fun c6 => ?_) (fun c6 => ?_)
      · have hF := (if_pos c6).symm.trans hF
        refine lv_aload_n hx hb dX6_copy_38 rfl (lv_at hl 0 rfl) ?_
        refine lv_iconst (v := (1 : Int32)) hx hb dX6_copy_39 (by decide) ?_
        obtain ⟨r7, hr7, hF⟩ := bd_some hF
        refine kcV (As := [.int (1 : Int32)]) (rest := []) C0 hA hP hD hS (c_X6_failed l D cA ad si sa (1 : Int32) r7 hr7) lk_X6_failed q699 s27 q697 0 6 rfl rfl hl.1 rfl rfl (Nat.le_of_ble_eq_true rfl) ⟨Nat.le_of_ble_eq_true rfl, Nat.le_of_ble_eq_true rfl⟩ ⟨Nat.le_refl _, Nat.le_refl _⟩ dX6_copy_40 (fun H locs hP hD hS => ?_)
        refine W.eq (g2 := F0 m 43 ls [.int r7.1]) rfl ?_
        have hF := Option.some.inj hF
        subst hF
        exact hE _ _ _ _ _ hP hD hS dX6_copy_43 rfl rfl
      · have hF := (if_neg c6).symm.trans hF
        refine lv_aload_n hx hb dX6_copy_29 rfl (lv_at hl 0 rfl) ?_
        refine gM0_27 C0 hP q607 dX6_copy_30 ?_
        refine lv_iload_n hx hb dX6_copy_33 rfl (lv_at hl 3 rfl) ?_
        obtain ⟨hin, hF⟩ := ld_some hF
        refine aMl18 (f := (sa 18)) C0 hP rfl hin dX6_copy_34 ?_
        refine lv_if_ge (tgt := 44) hx hb dX6_copy_35 (by decide) (fun c8 => ?_) (fun c8 => ?_)
        · have hF := (if_pos c8).symm.trans hF
          refine lv_aload_n hx hb dX6_copy_44 rfl (lv_at hl 0 rfl) ?_
          refine gM0_28 C0 hP q608 dX6_copy_45 ?_
          refine lv_iload_n hx hb dX6_copy_48 rfl (lv_at hl 1 rfl) ?_
          obtain ⟨hin, hF⟩ := ld_some hF
          refine aMl19 (f := (sa 19)) C0 hP rfl hin dX6_copy_49 ?_
          refine lv_aload_n hx hb dX6_copy_50 rfl (lv_at hl 0 rfl) ?_
          refine gM0_28 C0 hP q608 dX6_copy_51 ?_
          refine lv_iload_n hx hb dX6_copy_54 rfl (lv_at hl 3 rfl) ?_
          obtain ⟨hin, hF⟩ := ld_some hF
          refine aMl19 (f := (sa 19)) C0 hP rfl hin dX6_copy_55 ?_
          refine lv_icmp_eq (tgt := 65) hx hb dX6_copy_56 (by decide) (fun c9 => ?_) (fun c9 => ?_)
          · have hF := (if_pos c9).symm.trans hF
            refine lv_iload_n hx hb dX6_copy_65 rfl (lv_at hl 2 rfl) ?_
            refine lv_iload hx hb dX6_copy_66 (lv_at hl 5 rfl) ?_
            refine lv_i2l hx hb dX6_copy_68 rfl ?_
            refine lv_aload_n hx hb dX6_copy_69 rfl (lv_at hl 0 rfl) ?_
            refine gM0_27 C0 hP q607 dX6_copy_70 ?_
            refine lv_iload_n hx hb dX6_copy_73 rfl (lv_at hl 1 rfl) ?_
            obtain ⟨hin, hF⟩ := ld_some hF
            refine aMl18 (f := (sa 18)) C0 hP rfl hin dX6_copy_74 ?_
            obtain ⟨r10, hr10, hF⟩ := bd_some hF
            refine kcS (As := [.int a2, .long (Int32.toInt64 a5), .int ((sa 18) (Int32.toNatClampNeg a1))]) (rest := []) C0 hA hP hD hS (c_X6_isBeyond l D cA ad si sa a2 (Int32.toInt64 a5) ((sa 18) (Int32.toNatClampNeg a1)) r10 hr10) lk_X6_isBeyond q702 q701 hl.1 rfl rfl (Nat.le_of_ble_eq_true rfl) ⟨Nat.le_of_ble_eq_true rfl, Nat.le_of_ble_eq_true rfl⟩ ⟨Nat.le_refl _, Nat.le_refl _⟩ dX6_copy_75 (fun H locs hP hD hS => ?_)
            refine W.eq (g2 := F0 m 78 ls [.int r10]) rfl ?_
            refine lv_if_ne (tgt := 98) hx hb dX6_copy_78 (by decide) (fun c11 => ?_) (fun c11 => ?_)
            · have hF := (if_neg c11).symm.trans hF
              refine lv_aload_n hx hb dX6_copy_98 rfl (lv_at hl 0 rfl) ?_
              refine lv_iconst (v := (3 : Int32)) hx hb dX6_copy_99 (by decide) ?_
              obtain ⟨r12, hr12, hF⟩ := bd_some hF
              refine kcV (As := [.int (3 : Int32)]) (rest := []) C0 hA hP hD hS (c_X6_failed l D cA ad si sa (3 : Int32) r12 hr12) lk_X6_failed q699 s27 q697 0 6 rfl rfl hl.1 rfl rfl (Nat.le_of_ble_eq_true rfl) ⟨Nat.le_of_ble_eq_true rfl, Nat.le_of_ble_eq_true rfl⟩ ⟨Nat.le_refl _, Nat.le_refl _⟩ dX6_copy_100 (fun H locs hP hD hS => ?_)
              refine W.eq (g2 := F0 m 103 ls [.int r12.1]) rfl ?_
              have hF := Option.some.inj hF
              subst hF
              exact hE _ _ _ _ _ hP hD hS dX6_copy_103 rfl rfl
            · have hF := (if_pos c11).symm.trans hF
              refine lv_iload hx hb dX6_copy_81 (lv_at hl 4 rfl) ?_
              refine lv_iload hx hb dX6_copy_83 (lv_at hl 5 rfl) ?_
              refine lv_i2l hx hb dX6_copy_85 rfl ?_
              refine lv_aload_n hx hb dX6_copy_86 rfl (lv_at hl 0 rfl) ?_
              refine gM0_27 C0 hP q607 dX6_copy_87 ?_
              refine lv_iload_n hx hb dX6_copy_90 rfl (lv_at hl 3 rfl) ?_
              obtain ⟨hin, hF⟩ := ld_some hF
              refine aMl18 (f := (sa 18)) C0 hP rfl hin dX6_copy_91 ?_
              obtain ⟨r13, hr13, hF⟩ := bd_some hF
              refine kcS (As := [.int a4, .long (Int32.toInt64 a5), .int ((sa 18) (Int32.toNatClampNeg a3))]) (rest := []) C0 hA hP hD hS (c_X6_isBeyond l D cA ad si sa a4 (Int32.toInt64 a5) ((sa 18) (Int32.toNatClampNeg a3)) r13 hr13) lk_X6_isBeyond q702 q701 hl.1 rfl rfl (Nat.le_of_ble_eq_true rfl) ⟨Nat.le_of_ble_eq_true rfl, Nat.le_of_ble_eq_true rfl⟩ ⟨Nat.le_refl _, Nat.le_refl _⟩ dX6_copy_92 (fun H locs hP hD hS => ?_)
              refine W.eq (g2 := F0 m 95 ls [.int r13]) rfl ?_
              refine lv_if_eq (tgt := 104) hx hb dX6_copy_95 (by decide) (fun c14 => ?_) (fun c14 => ?_)
              · have hF := (if_pos c14).symm.trans hF
                refine lv_iconst (v := (0 : Int32)) hx hb dX6_copy_104 (by decide) ?_
                refine lv_istore (lv' := [(6, .int (0 : Int32)), (0, .ref (ad 0)), (1, .int a1), (2, .int a2), (3, .int a3), (4, .int a4), (5, .int a5)]) hx hb dX6_copy_105 hl (by decide) rfl (fun ls hl => ?_)
                obtain ⟨ox15, hL15, hX15⟩ := bd_all hF
                have JE15 : ∀ (e16 : (tSI × tSA)), ox15 = e16 → ∀ (H : Heap) (locs : List Loc) (ls : Array Slot), va_P D vwCl (WM cA ad e16.1 e16.2) H → va_D A (WM cA ad e16.1 e16.2) → va_S A H0 H locs → lv_has ls 7 [(0, .ref (ad 0)), (3, .int a3), (4, .int a4), (5, .int a5)] → W p l ee (rmx 2 45) s m args below meth c H locs 0 0 Q (F0 m 141 ls []) := by
                  intro e16 he H locs ls hP hD hS hl
                  have hF := hX15 _ he
                  refine lv_iconst (v := (0 : Int32)) hx hb dX6_copy_141 (by decide) ?_
                  refine lv_istore (lv' := [(6, .int (0 : Int32)), (0, .ref (ad 0)), (3, .int a3), (4, .int a4), (5, .int a5)]) hx hb dX6_copy_142 hl (by decide) rfl (fun ls hl => ?_)
                  obtain ⟨ox17, hL17, hX17⟩ := bd_all hF
                  have JE17 : ∀ (e18 : (tSI × tSA)), ox17 = e18 → ∀ (H : Heap) (locs : List Loc) (ls : Array Slot), va_P D vwCl (WM cA ad e18.1 e18.2) H → va_D A (WM cA ad e18.1 e18.2) → va_S A H0 H locs → lv_has ls 7 [(0, .ref (ad 0)), (5, .int a5)] → W p l ee (rmx 2 45) s m args below meth c H locs 0 0 Q (F0 m 179 ls []) := by
                    intro e18 he H locs ls hP hD hS hl
                    have hF := hX17 _ he
                    refine lv_aload_n hx hb dX6_copy_179 rfl (lv_at hl 0 rfl) ?_
                    refine lv_iload hx hb dX6_copy_180 (lv_at hl 1 rfl) ?_
                    obtain ⟨r19, hr19, hF⟩ := bd_some hF
                    refine kcV (As := [.int a5]) (rest := []) C0 hA hP hD hS (c_X6_refused l D cA ad e18.1 e18.2 a5 r19 hr19) lk_X6_refused q690 s25 q688 0 6 rfl rfl hl.1 rfl rfl (Nat.le_of_ble_eq_true rfl) ⟨Nat.le_of_ble_eq_true rfl, Nat.le_of_ble_eq_true rfl⟩ ⟨Nat.le_refl _, Nat.le_refl _⟩ dX6_copy_182 (fun H locs hP hD hS => ?_)
                    refine W.eq (g2 := F0 m 185 ls [.int r19.1]) rfl ?_
                    have hF := Option.some.inj hF
                    subst hF
                    exact hE _ _ _ _ _ hP hD hS dX6_copy_185 rfl rfl
                  have LP17 : ∀ (k17 : Nat) (t17 : (Int32 × tSI × tSA)), lp (S_X6_copy_144 a5 a3 a4) k17 t17 = some ox17 → ∀ (H : Heap) (locs : List Loc) (ls : Array Slot), va_P D vwCl (WM cA ad t17.2.1 t17.2.2) H → va_D A (WM cA ad t17.2.1 t17.2.2) → va_S A H0 H locs → lv_has ls 7 [(6, .int t17.1), (0, .ref (ad 0)), (3, .int a3), (4, .int a4), (5, .int a5)] → W p l ee (rmx 2 45) s m args below meth c H locs 0 0 Q (F0 m 144 ls []) := by
                    intro k17
                    induction k17 with
                    | zero => intro t17 hF; exact (lp_no hF).elim
                    | succ k17 ih17 =>
                      intro t17 hF H locs ls hP hD hS hl
                      change (S_X6_copy_144 a5 a3 a4) (lp (S_X6_copy_144 a5 a3 a4) k17) t17 = some ox17 at hF
                      unfold S_X6_copy_144 at hF
                      refine lv_iload hx hb dX6_copy_144 (lv_at hl 0 rfl) ?_
                      refine lv_iload hx hb dX6_copy_146 (lv_at hl 4 rfl) ?_
                      refine lv_icmp_ge (tgt := 179) hx hb dX6_copy_148 (by decide) (fun c20 => ?_) (fun c20 => ?_)
                      · have hF := (if_pos c20).symm.trans hF
                        exact JE17 _ (Option.some.inj hF).symm _ _ _ hP hD hS (lv_sub hl [1, 4] rfl)
                      · have hF := (if_neg c20).symm.trans hF
                        refine lv_aload_n hx hb dX6_copy_151 rfl (lv_at hl 1 rfl) ?_
                        refine gM0_29 C0 hP q609 dX6_copy_152 ?_
                        refine lv_bipush (v := (60 : Int32)) hx hb dX6_copy_155 (by decide) ?_
                        refine lv_iload_n hx hb dX6_copy_157 rfl (lv_at hl 2 rfl) ?_
                        refine lv_imul hx hb dX6_copy_158 ?_
                        refine lv_iload hx hb dX6_copy_159 (lv_at hl 3 rfl) ?_
                        refine lv_iadd hx hb dX6_copy_161 ?_
                        refine lv_iload hx hb dX6_copy_162 (lv_at hl 0 rfl) ?_
                        refine lv_iadd hx hb dX6_copy_164 ?_
                        refine lv_aload_n hx hb dX6_copy_165 rfl (lv_at hl 1 rfl) ?_
                        refine gM0_30 C0 hP q610 dX6_copy_166 ?_
                        refine lv_iload hx hb dX6_copy_169 (lv_at hl 0 rfl) ?_
                        obtain ⟨hin, hF⟩ := ld_some hF
                        refine aMl21 (f := (t17.2.2 21)) C0 hP rfl hin dX6_copy_171 ?_
                        obtain ⟨hin, hF⟩ := ld_some hF
                        refine aMs20 (f := (t17.2.2 20)) C0 hP hD hS rfl hin dX6_copy_172 (fun H locs hP hD hS => ?_)
                        refine lv_iinc (v := (t17.1 + 1)) (lv' := [(6, .int (t17.1 + 1)), (0, .ref (ad 0)), (3, .int a3), (4, .int a4), (5, .int a5)]) hx hb dX6_copy_173 hl (k := 0) rfl rfl (by decide) rfl (fun ls hl => ?_)
                        refine lv_goto (tgt := 144) hx hb dX6_copy_176 (by decide) ?_
                        exact ih17 _ hF _ _ _ hP hD hS (lv_sub hl [0, 1, 2, 3, 4] rfl)
                  exact LP17 _ _ hL17 _ _ _ hP hD hS (lv_sub hl [0, 1, 2, 3, 4] rfl)
                have LP15 : ∀ (k15 : Nat) (t15 : (Int32 × tSI × tSA)), lp (S_X6_copy_107 a5 a1 a2) k15 t15 = some ox15 → ∀ (H : Heap) (locs : List Loc) (ls : Array Slot), va_P D vwCl (WM cA ad t15.2.1 t15.2.2) H → va_D A (WM cA ad t15.2.1 t15.2.2) → va_S A H0 H locs → lv_has ls 7 [(6, .int t15.1), (0, .ref (ad 0)), (1, .int a1), (2, .int a2), (3, .int a3), (4, .int a4), (5, .int a5)] → W p l ee (rmx 2 45) s m args below meth c H locs 0 0 Q (F0 m 107 ls []) := by
                  intro k15
                  induction k15 with
                  | zero => intro t15 hF; exact (lp_no hF).elim
                  | succ k15 ih15 =>
                    intro t15 hF H locs ls hP hD hS hl
                    change (S_X6_copy_107 a5 a1 a2) (lp (S_X6_copy_107 a5 a1 a2) k15) t15 = some ox15 at hF
                    unfold S_X6_copy_107 at hF
                    refine lv_iload hx hb dX6_copy_107 (lv_at hl 0 rfl) ?_
                    refine lv_iload hx hb dX6_copy_109 (lv_at hl 6 rfl) ?_
                    refine lv_icmp_ge (tgt := 141) hx hb dX6_copy_111 (by decide) (fun c21 => ?_) (fun c21 => ?_)
                    · have hF := (if_pos c21).symm.trans hF
                      exact JE15 _ (Option.some.inj hF).symm _ _ _ hP hD hS (lv_sub hl [1, 4, 5, 6] rfl)
                    · have hF := (if_neg c21).symm.trans hF
                      refine lv_aload_n hx hb dX6_copy_114 rfl (lv_at hl 1 rfl) ?_
                      refine gM0_30 C0 hP q610 dX6_copy_115 ?_
                      refine lv_iload hx hb dX6_copy_118 (lv_at hl 0 rfl) ?_
                      refine lv_aload_n hx hb dX6_copy_120 rfl (lv_at hl 1 rfl) ?_
                      refine gM0_29 C0 hP q609 dX6_copy_121 ?_
                      refine lv_bipush (v := (60 : Int32)) hx hb dX6_copy_124 (by decide) ?_
                      refine lv_iload_n hx hb dX6_copy_126 rfl (lv_at hl 2 rfl) ?_
                      refine lv_imul hx hb dX6_copy_127 ?_
                      refine lv_iload_n hx hb dX6_copy_128 rfl (lv_at hl 3 rfl) ?_
                      refine lv_iadd hx hb dX6_copy_129 ?_
                      refine lv_iload hx hb dX6_copy_130 (lv_at hl 0 rfl) ?_
                      refine lv_iadd hx hb dX6_copy_132 ?_
                      obtain ⟨hin, hF⟩ := ld_some hF
                      refine aMl20 (f := (t15.2.2 20)) C0 hP rfl hin dX6_copy_133 ?_
                      obtain ⟨hin, hF⟩ := ld_some hF
                      refine aMs21 (f := (t15.2.2 21)) C0 hP hD hS rfl hin dX6_copy_134 (fun H locs hP hD hS => ?_)
                      refine lv_iinc (v := (t15.1 + 1)) (lv' := [(6, .int (t15.1 + 1)), (0, .ref (ad 0)), (1, .int a1), (2, .int a2), (3, .int a3), (4, .int a4), (5, .int a5)]) hx hb dX6_copy_135 hl (k := 0) rfl rfl (by decide) rfl (fun ls hl => ?_)
                      refine lv_goto (tgt := 107) hx hb dX6_copy_138 (by decide) ?_
                      exact ih15 _ hF _ _ _ hP hD hS (lv_sub hl [0, 1, 2, 3, 4, 5, 6] rfl)
                exact LP15 _ _ hL15 _ _ _ hP hD hS (lv_sub hl [0, 1, 2, 3, 4, 5, 6] rfl)
              · have hF := (if_neg c14).symm.trans hF
                refine lv_aload_n hx hb dX6_copy_98 rfl (lv_at hl 0 rfl) ?_
                refine lv_iconst (v := (3 : Int32)) hx hb dX6_copy_99 (by decide) ?_
                obtain ⟨r22, hr22, hF⟩ := bd_some hF
                refine kcV (As := [.int (3 : Int32)]) (rest := []) C0 hA hP hD hS (c_X6_failed l D cA ad si sa (3 : Int32) r22 hr22) lk_X6_failed q699 s27 q697 0 6 rfl rfl hl.1 rfl rfl (Nat.le_of_ble_eq_true rfl) ⟨Nat.le_of_ble_eq_true rfl, Nat.le_of_ble_eq_true rfl⟩ ⟨Nat.le_refl _, Nat.le_refl _⟩ dX6_copy_100 (fun H locs hP hD hS => ?_)
                refine W.eq (g2 := F0 m 103 ls [.int r22.1]) rfl ?_
                have hF := Option.some.inj hF
                subst hF
                exact hE _ _ _ _ _ hP hD hS dX6_copy_103 rfl rfl
          · have hF := (if_neg c9).symm.trans hF
            refine lv_aload_n hx hb dX6_copy_59 rfl (lv_at hl 0 rfl) ?_
            refine lv_iconst (v := (2 : Int32)) hx hb dX6_copy_60 (by decide) ?_
            obtain ⟨r23, hr23, hF⟩ := bd_some hF
            refine kcV (As := [.int (2 : Int32)]) (rest := []) C0 hA hP hD hS (c_X6_failed l D cA ad si sa (2 : Int32) r23 hr23) lk_X6_failed q699 s27 q697 0 6 rfl rfl hl.1 rfl rfl (Nat.le_of_ble_eq_true rfl) ⟨Nat.le_of_ble_eq_true rfl, Nat.le_of_ble_eq_true rfl⟩ ⟨Nat.le_refl _, Nat.le_refl _⟩ dX6_copy_61 (fun H locs hP hD hS => ?_)
            refine W.eq (g2 := F0 m 64 ls [.int r23.1]) rfl ?_
            have hF := Option.some.inj hF
            subst hF
            exact hE _ _ _ _ _ hP hD hS dX6_copy_64 rfl rfl
        · have hF := (if_neg c8).symm.trans hF
          refine lv_aload_n hx hb dX6_copy_38 rfl (lv_at hl 0 rfl) ?_
          refine lv_iconst (v := (1 : Int32)) hx hb dX6_copy_39 (by decide) ?_
          obtain ⟨r24, hr24, hF⟩ := bd_some hF
          refine kcV (As := [.int (1 : Int32)]) (rest := []) C0 hA hP hD hS (c_X6_failed l D cA ad si sa (1 : Int32) r24 hr24) lk_X6_failed q699 s27 q697 0 6 rfl rfl hl.1 rfl rfl (Nat.le_of_ble_eq_true rfl) ⟨Nat.le_of_ble_eq_true rfl, Nat.le_of_ble_eq_true rfl⟩ ⟨Nat.le_refl _, Nat.le_refl _⟩ dX6_copy_40 (fun H locs hP hD hS => ?_)
          refine W.eq (g2 := F0 m 43 ls [.int r24.1]) rfl ?_
          have hF := Option.some.inj hF
          subst hF
          exact hE _ _ _ _ _ hP hD hS dX6_copy_43 rfl rfl
    · have hF := (if_neg c5).symm.trans hF
      refine lv_aload_n hx hb dX6_copy_14 rfl (lv_at hl 0 rfl) ?_
      refine lv_iconst (v := (-1 : Int32)) hx hb dX6_copy_15 (by decide) ?_
      obtain ⟨r25, hr25, hF⟩ := bd_some hF
      refine kcV (As := [.int (-1 : Int32)]) (rest := []) C0 hA hP hD hS (c_X6_refused l D cA ad si sa (-1 : Int32) r25 hr25) lk_X6_refused q690 s25 q688 0 6 rfl rfl hl.1 rfl rfl (Nat.le_of_ble_eq_true rfl) ⟨Nat.le_of_ble_eq_true rfl, Nat.le_of_ble_eq_true rfl⟩ ⟨Nat.le_refl _, Nat.le_refl _⟩ dX6_copy_16 (fun H locs hP hD hS => ?_)
      refine W.eq (g2 := F0 m 19 ls [.int r25.1]) rfl ?_
      have hF := Option.some.inj hF
      subst hF
      exact hE _ _ _ _ _ hP hD hS dX6_copy_19 rfl rfl
theorem lk_X6_traced : LK yX6_traced cX6_traced 2 none 1 := ⟨q904, q7, by decide +kernel⟩
def F_X6_traced (a1 : Int32) (si : tSI) (sa : tSA) : Option (tSI × tSA) :=
  some ((upd si 9 (((31 : Int32) * (si 9)) + a1)), sa)
set_option maxHeartbeats 4000000 in
set_option maxRecDepth 100000 in
theorem c_X6_traced (l : Launch) (D : va_G) (cA : ClassId) (ad : Nat → Nat) (si : tSI) (sa : tSA) (a1 : Int32) (o : (tSI × tSA)) (hF : F_X6_traced a1 si sa = some o) : CG l yX6_traced cX6_traced 2 none 0 0 D cA [.ref (ad 0), .int a1] (WM cA ad si sa) (WM cA ad o.1 o.2) none := by
  refine CG.ofv (by decide) (Nat.le_of_ble_eq_true rfl) ?_
  intro p ee s m args below meth c A Q H0 ls C0 hA hP hD hS hl hE
  have hl : lv_has ls 2 [(0, .ref (ad 0)), (1, .int a1)] := hl
  obtain ⟨hx, hb, hml, hown, ht, hK⟩ := id C0
  unfold F_X6_traced at hF
  refine lv_aload_n hx hb dX6_traced_0 rfl (lv_at hl 0 rfl) ?_
  refine lv_bipush (v := (31 : Int32)) hx hb dX6_traced_1 (by decide) ?_
  refine lv_aload_n hx hb dX6_traced_3 rfl (lv_at hl 0 rfl) ?_
  refine gM0_31 (v := (si 9)) C0 hP rfl q611 dX6_traced_4 ?_
  refine lv_imul hx hb dX6_traced_7 ?_
  refine lv_iload_n hx hb dX6_traced_8 rfl (lv_at hl 1 rfl) ?_
  refine lv_iadd hx hb dX6_traced_9 ?_
  refine pM0_31 C0 hP hD hS q611 dX6_traced_10 (fun H locs hP hD hS => ?_)
  have hF := Option.some.inj hF
  subst hF
  exact hE _ _ _ _ hP hD hS dX6_traced_13
theorem lk_X6_tell : LK yX6_tell cX6_tell 4 (some .int) 1 := ⟨q900, q7, by decide +kernel⟩
def F_X6_tell (a1 : Int32) (si : tSI) (sa : tSA) : Option (Int32 × tSI × tSA) :=
  (F_X6_noSort a1 si sa).bind fun r1 => (if r1 = 0 then ld a1 6 (((if ((sa 0) (Int32.toNatClampNeg a1)) = (2 : Int32) then (F_X6_traced (3 : Int32) si sa).bind fun r14 => some (r14.1, r14.2) else some (si, sa))).bind fun (x3 : (tSI × tSA)) => ((if ((sa 0) (Int32.toNatClampNeg a1)) ≤ 0 then some (x3.1, x3.2) else (F_X6_traced (2 : Int32) x3.1 x3.2).bind fun r12 => some (r12.1, r12.2))).bind fun (x4 : (tSI × tSA)) => (F_X6_traced (1 : Int32) x4.1 x4.2).bind fun r5 => ((if ((sa 0) (Int32.toNatClampNeg a1)) = (2 : Int32) then (F_X6_traced (1 : Int32) r5.1 r5.2).bind fun r10 => some (r10.1, r10.2) else some (r5.1, r5.2))).bind fun (x6 : (tSI × tSA)) => ld a1 6 ((if ((sa 0) (Int32.toNatClampNeg a1)) = 0 then some (((x6.2 2) (Int32.toNatClampNeg a1)), x6.1, x6.2) else (if ((sa 0) (Int32.toNatClampNeg a1)) = (1 : Int32) then some ((((x6.2 2) (Int32.toNatClampNeg a1)) + (100 : Int32)), x6.1, x6.2) else some ((((2 : Int32) * ((x6.2 2) (Int32.toNatClampNeg a1))) + (100 : Int32)), x6.1, x6.2))))) else some ((-1 : Int32), si, sa))
set_option maxHeartbeats 4000000 in
set_option maxRecDepth 100000 in
theorem c_X6_tell (l : Launch) (D : va_G) (cA : ClassId) (ad : Nat → Nat) (si : tSI) (sa : tSA) (a1 : Int32) (o : (Int32 × tSI × tSA)) (hF : F_X6_tell a1 si sa = some o) : CG l yX6_tell cX6_tell 4 (some .int) 2 46 D cA [.ref (ad 0), .int a1] (WM cA ad si sa) (WM cA ad o.2.1 o.2.2) (some (.int o.1)) := by
  refine CG.ofi (by decide) (Nat.le_of_ble_eq_true rfl) ?_
  intro p ee s m args below meth c A Q H0 ls C0 hA hP hD hS hl hE
  have hl : lv_has ls 4 [(0, .ref (ad 0)), (1, .int a1)] := hl
  obtain ⟨hx, hb, hml, hown, ht, hK⟩ := id C0
  unfold F_X6_tell at hF
  refine lv_aload_n hx hb dX6_tell_0 rfl (lv_at hl 0 rfl) ?_
  refine lv_iload_n hx hb dX6_tell_1 rfl (lv_at hl 1 rfl) ?_
  obtain ⟨r1, hr1, hF⟩ := bd_some hF
  refine kcV (As := [.int a1]) (rest := []) C0 hA hP hD hS (c_X6_noSort l D cA ad si sa a1 r1 hr1) lk_X6_noSort q730 s33 q728 0 6 rfl rfl hl.1 rfl rfl (Nat.le_of_ble_eq_true rfl) ⟨Nat.le_of_ble_eq_true rfl, Nat.le_of_ble_eq_true rfl⟩ ⟨Nat.le_refl _, Nat.le_refl _⟩ dX6_tell_2 (fun H locs hP hD hS => ?_)
  refine W.eq (g2 := F0 m 5 ls [.int r1]) rfl ?_
  refine lv_if_eq (tgt := 10) hx hb dX6_tell_5 (by decide) (fun c2 => ?_) (fun c2 => ?_)
  · have hF := (if_pos c2).symm.trans hF
    refine lv_aload_n hx hb dX6_tell_10 rfl (lv_at hl 0 rfl) ?_
    refine gM0_2 C0 hP q582 dX6_tell_11 ?_
    refine lv_iload_n hx hb dX6_tell_14 rfl (lv_at hl 1 rfl) ?_
    obtain ⟨hin, hF⟩ := ld_some hF
    refine aMl0 (f := (sa 0)) C0 hP rfl hin dX6_tell_15 ?_
    refine lv_istore_n (lv' := [(2, .int ((sa 0) (Int32.toNatClampNeg a1))), (0, .ref (ad 0)), (1, .int a1)]) hx hb dX6_tell_16 rfl hl (by decide) rfl (fun ls hl => ?_)
    refine lv_iload_n hx hb dX6_tell_17 rfl (lv_at hl 0 rfl) ?_
    refine lv_iconst (v := (2 : Int32)) hx hb dX6_tell_18 (by decide) ?_
    obtain ⟨x3, hRx3, hF⟩ := bd_some hF
    have Jx3 : ∀ (H : Heap) (locs : List Loc) (ls : Array Slot), va_P D vwCl (WM cA ad x3.1 x3.2) H → va_D A (WM cA ad x3.1 x3.2) → va_S A H0 H locs → lv_has ls 4 [(2, .int ((sa 0) (Int32.toNatClampNeg a1))), (0, .ref (ad 0)), (1, .int a1)] → W p l ee (rmx 2 46) s m args below meth c H locs 0 0 Q (F0 m 27 ls []) := by
      intro H locs ls hP hD hS hl
      refine lv_iload_n hx hb dX6_tell_27 rfl (lv_at hl 0 rfl) ?_
      obtain ⟨x4, hRx4, hF⟩ := bd_some hF
      have Jx4 : ∀ (H : Heap) (locs : List Loc) (ls : Array Slot), va_P D vwCl (WM cA ad x4.1 x4.2) H → va_D A (WM cA ad x4.1 x4.2) → va_S A H0 H locs → lv_has ls 4 [(2, .int ((sa 0) (Int32.toNatClampNeg a1))), (0, .ref (ad 0)), (1, .int a1)] → W p l ee (rmx 2 46) s m args below meth c H locs 0 0 Q (F0 m 36 ls []) := by
        intro H locs ls hP hD hS hl
        refine lv_aload_n hx hb dX6_tell_36 rfl (lv_at hl 1 rfl) ?_
        refine lv_iconst (v := (1 : Int32)) hx hb dX6_tell_37 (by decide) ?_
        obtain ⟨r5, hr5, hF⟩ := bd_some hF
        refine kcV (As := [.int (1 : Int32)]) (rest := []) C0 hA hP hD hS (c_X6_traced l D cA ad x4.1 x4.2 (1 : Int32) r5 hr5) lk_X6_traced q903 s51 q901 0 6 rfl rfl hl.1 rfl rfl (Nat.le_of_ble_eq_true rfl) ⟨Nat.le_of_ble_eq_true rfl, Nat.le_of_ble_eq_true rfl⟩ ⟨Nat.le_refl _, Nat.le_refl _⟩ dX6_tell_38 (fun H locs hP hD hS => ?_)
        refine W.eq (g2 := F0 m 41 ls []) rfl ?_
        refine lv_iload_n hx hb dX6_tell_41 rfl (lv_at hl 0 rfl) ?_
        refine lv_iconst (v := (2 : Int32)) hx hb dX6_tell_42 (by decide) ?_
        obtain ⟨x6, hRx6, hF⟩ := bd_some hF
        have Jx6 : ∀ (H : Heap) (locs : List Loc) (ls : Array Slot), va_P D vwCl (WM cA ad x6.1 x6.2) H → va_D A (WM cA ad x6.1 x6.2) → va_S A H0 H locs → lv_has ls 4 [(2, .int ((sa 0) (Int32.toNatClampNeg a1))), (0, .ref (ad 0)), (1, .int a1)] → W p l ee (rmx 2 46) s m args below meth c H locs 0 0 Q (F0 m 51 ls []) := by
          intro H locs ls hP hD hS hl
          refine lv_aload_n hx hb dX6_tell_51 rfl (lv_at hl 1 rfl) ?_
          refine gM0_4 C0 hP q584 dX6_tell_52 ?_
          refine lv_iload_n hx hb dX6_tell_55 rfl (lv_at hl 2 rfl) ?_
          obtain ⟨hin, hF⟩ := ld_some hF
          refine aMl2 (f := (x6.2 2)) C0 hP rfl hin dX6_tell_56 ?_
          refine lv_istore_n (lv' := [(3, .int ((x6.2 2) (Int32.toNatClampNeg a1))), (2, .int ((sa 0) (Int32.toNatClampNeg a1))), (0, .ref (ad 0)), (1, .int a1)]) hx hb dX6_tell_57 rfl hl (by decide) rfl (fun ls hl => ?_)
          refine lv_iload_n hx hb dX6_tell_58 rfl (lv_at hl 1 rfl) ?_
          refine lv_if_ne (tgt := 66) hx hb dX6_tell_59 (by decide) (fun c7 => ?_) (fun c7 => ?_)
          · have hF := (if_neg c7).symm.trans hF
            refine lv_iload_n hx hb dX6_tell_66 rfl (lv_at hl 1 rfl) ?_
            refine lv_iconst (v := (1 : Int32)) hx hb dX6_tell_67 (by decide) ?_
            refine lv_icmp_ne (tgt := 78) hx hb dX6_tell_68 (by decide) (fun c8 => ?_) (fun c8 => ?_)
            · have hF := (if_neg c8).symm.trans hF
              refine lv_iconst (v := (2 : Int32)) hx hb dX6_tell_78 (by decide) ?_
              refine lv_iload_n hx hb dX6_tell_79 rfl (lv_at hl 0 rfl) ?_
              refine lv_imul hx hb dX6_tell_80 ?_
              refine lv_bipush (v := (100 : Int32)) hx hb dX6_tell_81 (by decide) ?_
              refine lv_iadd hx hb dX6_tell_83 ?_
              have hF := Option.some.inj hF
              subst hF
              exact hE _ _ _ _ _ hP hD hS dX6_tell_84 rfl rfl
            · have hF := (if_pos c8).symm.trans hF
              refine lv_iload_n hx hb dX6_tell_71 rfl (lv_at hl 0 rfl) ?_
              refine lv_bipush (v := (100 : Int32)) hx hb dX6_tell_72 (by decide) ?_
              refine lv_iadd hx hb dX6_tell_74 ?_
              refine lv_goto (tgt := 84) hx hb dX6_tell_75 (by decide) ?_
              have hF := Option.some.inj hF
              subst hF
              exact hE _ _ _ _ _ hP hD hS dX6_tell_84 rfl rfl
          · have hF := (if_pos c7).symm.trans hF
            refine lv_iload_n hx hb dX6_tell_62 rfl (lv_at hl 0 rfl) ?_
            refine lv_goto (tgt := 84) hx hb dX6_tell_63 (by decide) ?_
            have hF := Option.some.inj hF
            subst hF
            exact hE _ _ _ _ _ hP hD hS dX6_tell_84 rfl rfl
        have hF := hRx6
        refine lv_icmp_ne (tgt := 51) hx hb dX6_tell_43 (by decide) (fun c9 => ?_) (fun c9 => ?_)
        · have hF := (if_neg c9).symm.trans hF
          have hF := Option.some.inj hF
          subst hF
          exact Jx6 _ _ _ hP hD hS (lv_sub hl [0, 1, 2] rfl)
        · have hF := (if_pos c9).symm.trans hF
          refine lv_aload_n hx hb dX6_tell_46 rfl (lv_at hl 1 rfl) ?_
          refine lv_iconst (v := (1 : Int32)) hx hb dX6_tell_47 (by decide) ?_
          obtain ⟨r10, hr10, hF⟩ := bd_some hF
          refine kcV (As := [.int (1 : Int32)]) (rest := []) C0 hA hP hD hS (c_X6_traced l D cA ad r5.1 r5.2 (1 : Int32) r10 hr10) lk_X6_traced q903 s51 q901 0 6 rfl rfl hl.1 rfl rfl (Nat.le_of_ble_eq_true rfl) ⟨Nat.le_of_ble_eq_true rfl, Nat.le_of_ble_eq_true rfl⟩ ⟨Nat.le_refl _, Nat.le_refl _⟩ dX6_tell_48 (fun H locs hP hD hS => ?_)
          refine W.eq (g2 := F0 m 51 ls []) rfl ?_
          have hF := Option.some.inj hF
          subst hF
          exact Jx6 _ _ _ hP hD hS (lv_sub hl [0, 1, 2] rfl)
      have hF := hRx4
      refine lv_if_le (tgt := 36) hx hb dX6_tell_28 (by decide) (fun c11 => ?_) (fun c11 => ?_)
      · have hF := (if_pos c11).symm.trans hF
        have hF := Option.some.inj hF
        subst hF
        exact Jx4 _ _ _ hP hD hS (lv_sub hl [0, 1, 2] rfl)
      · have hF := (if_neg c11).symm.trans hF
        refine lv_aload_n hx hb dX6_tell_31 rfl (lv_at hl 1 rfl) ?_
        refine lv_iconst (v := (2 : Int32)) hx hb dX6_tell_32 (by decide) ?_
        obtain ⟨r12, hr12, hF⟩ := bd_some hF
        refine kcV (As := [.int (2 : Int32)]) (rest := []) C0 hA hP hD hS (c_X6_traced l D cA ad x3.1 x3.2 (2 : Int32) r12 hr12) lk_X6_traced q903 s51 q901 0 6 rfl rfl hl.1 rfl rfl (Nat.le_of_ble_eq_true rfl) ⟨Nat.le_of_ble_eq_true rfl, Nat.le_of_ble_eq_true rfl⟩ ⟨Nat.le_refl _, Nat.le_refl _⟩ dX6_tell_33 (fun H locs hP hD hS => ?_)
        refine W.eq (g2 := F0 m 36 ls []) rfl ?_
        have hF := Option.some.inj hF
        subst hF
        exact Jx4 _ _ _ hP hD hS (lv_sub hl [0, 1, 2] rfl)
    have hF := hRx3
    refine lv_icmp_ne (tgt := 27) hx hb dX6_tell_19 (by decide) (fun c13 => ?_) (fun c13 => ?_)
    · have hF := (if_neg c13).symm.trans hF
      have hF := Option.some.inj hF
      subst hF
      exact Jx3 _ _ _ hP hD hS (lv_sub hl [0, 1, 2] rfl)
    · have hF := (if_pos c13).symm.trans hF
      refine lv_aload_n hx hb dX6_tell_22 rfl (lv_at hl 1 rfl) ?_
      refine lv_iconst (v := (3 : Int32)) hx hb dX6_tell_23 (by decide) ?_
      obtain ⟨r14, hr14, hF⟩ := bd_some hF
      refine kcV (As := [.int (3 : Int32)]) (rest := []) C0 hA hP hD hS (c_X6_traced l D cA ad si sa (3 : Int32) r14 hr14) lk_X6_traced q903 s51 q901 0 6 rfl rfl hl.1 rfl rfl (Nat.le_of_ble_eq_true rfl) ⟨Nat.le_of_ble_eq_true rfl, Nat.le_of_ble_eq_true rfl⟩ ⟨Nat.le_refl _, Nat.le_refl _⟩ dX6_tell_24 (fun H locs hP hD hS => ?_)
      refine W.eq (g2 := F0 m 27 ls []) rfl ?_
      have hF := Option.some.inj hF
      subst hF
      exact Jx3 _ _ _ hP hD hS (lv_sub hl [0, 1, 2] rfl)
  · have hF := (if_neg c2).symm.trans hF
    refine lv_iconst (v := (-1 : Int32)) hx hb dX6_tell_8 (by decide) ?_
    have hF := Option.some.inj hF
    subst hF
    exact hE _ _ _ _ _ hP hD hS dX6_tell_9 rfl rfl
theorem lk_X6_drop : LK yX6_drop cX6_drop 2 (some .int) 1 := ⟨q908, q7, by decide +kernel⟩
def F_X6_drop (a1 : Int32) (si : tSI) (sa : tSA) : Option (Int32 × tSI × tSA) :=
  (F_X6_noSort a1 si sa).bind fun r1 => (if r1 = 0 then ld a1 6 (((if ((sa 0) (Int32.toNatClampNeg a1)) = (2 : Int32) then some (5 : Int32) else some (4 : Int32))).bind fun (x3 : Int32) => (F_X6_traced x3 si sa).bind fun r4 => ld a1 6 ((if ((r4.2 0) (Int32.toNatClampNeg a1)) = (2 : Int32) then some ((70 : Int32), r4.1, r4.2) else some (a1, r4.1, r4.2)))) else some ((-1 : Int32), si, sa))
set_option maxHeartbeats 4000000 in
set_option maxRecDepth 100000 in
theorem c_X6_drop (l : Launch) (D : va_G) (cA : ClassId) (ad : Nat → Nat) (si : tSI) (sa : tSA) (a1 : Int32) (o : (Int32 × tSI × tSA)) (hF : F_X6_drop a1 si sa = some o) : CG l yX6_drop cX6_drop 2 (some .int) 2 46 D cA [.ref (ad 0), .int a1] (WM cA ad si sa) (WM cA ad o.2.1 o.2.2) (some (.int o.1)) := by
  refine CG.ofi (by decide) (Nat.le_of_ble_eq_true rfl) ?_
  intro p ee s m args below meth c A Q H0 ls C0 hA hP hD hS hl hE
  have hl : lv_has ls 2 [(0, .ref (ad 0)), (1, .int a1)] := hl
  obtain ⟨hx, hb, hml, hown, ht, hK⟩ := id C0
  unfold F_X6_drop at hF
  refine lv_aload_n hx hb dX6_drop_0 rfl (lv_at hl 0 rfl) ?_
  refine lv_iload_n hx hb dX6_drop_1 rfl (lv_at hl 1 rfl) ?_
  obtain ⟨r1, hr1, hF⟩ := bd_some hF
  refine kcV (As := [.int a1]) (rest := []) C0 hA hP hD hS (c_X6_noSort l D cA ad si sa a1 r1 hr1) lk_X6_noSort q730 s33 q728 0 6 rfl rfl hl.1 rfl rfl (Nat.le_of_ble_eq_true rfl) ⟨Nat.le_of_ble_eq_true rfl, Nat.le_of_ble_eq_true rfl⟩ ⟨Nat.le_refl _, Nat.le_refl _⟩ dX6_drop_2 (fun H locs hP hD hS => ?_)
  refine W.eq (g2 := F0 m 5 ls [.int r1]) rfl ?_
  refine lv_if_eq (tgt := 10) hx hb dX6_drop_5 (by decide) (fun c2 => ?_) (fun c2 => ?_)
  · have hF := (if_pos c2).symm.trans hF
    refine lv_aload_n hx hb dX6_drop_10 rfl (lv_at hl 0 rfl) ?_
    refine lv_aload_n hx hb dX6_drop_11 rfl (lv_at hl 0 rfl) ?_
    refine gM0_2 C0 hP q582 dX6_drop_12 ?_
    refine lv_iload_n hx hb dX6_drop_15 rfl (lv_at hl 1 rfl) ?_
    obtain ⟨hin, hF⟩ := ld_some hF
    refine aMl0 (f := (sa 0)) C0 hP rfl hin dX6_drop_16 ?_
    refine lv_iconst (v := (2 : Int32)) hx hb dX6_drop_17 (by decide) ?_
    obtain ⟨x3, hRx3, hF⟩ := bd_some hF
    have Jx3 : ∀ (H : Heap) (locs : List Loc) (ls : Array Slot), va_P D vwCl (WM cA ad si sa) H → va_D A (WM cA ad si sa) → va_S A H0 H locs → lv_has ls 2 [(0, .ref (ad 0)), (1, .int a1)] → W p l ee (rmx 2 46) s m args below meth c H locs 0 0 Q (F0 m 26 ls [.int x3, .ref (ad 0)]) := by
      intro H locs ls hP hD hS hl
      obtain ⟨r4, hr4, hF⟩ := bd_some hF
      refine kcV (As := [.int x3]) (rest := []) C0 hA hP hD hS (c_X6_traced l D cA ad si sa x3 r4 hr4) lk_X6_traced q903 s51 q901 0 6 rfl rfl hl.1 rfl rfl (Nat.le_of_ble_eq_true rfl) ⟨Nat.le_of_ble_eq_true rfl, Nat.le_of_ble_eq_true rfl⟩ ⟨Nat.le_refl _, Nat.le_refl _⟩ dX6_drop_26 (fun H locs hP hD hS => ?_)
      refine W.eq (g2 := F0 m 29 ls []) rfl ?_
      refine lv_aload_n hx hb dX6_drop_29 rfl (lv_at hl 0 rfl) ?_
      refine gM0_2 C0 hP q582 dX6_drop_30 ?_
      refine lv_iload_n hx hb dX6_drop_33 rfl (lv_at hl 1 rfl) ?_
      obtain ⟨hin, hF⟩ := ld_some hF
      refine aMl0 (f := (r4.2 0)) C0 hP rfl hin dX6_drop_34 ?_
      refine lv_iconst (v := (2 : Int32)) hx hb dX6_drop_35 (by decide) ?_
      refine lv_icmp_ne (tgt := 44) hx hb dX6_drop_36 (by decide) (fun c5 => ?_) (fun c5 => ?_)
      · have hF := (if_neg c5).symm.trans hF
        refine lv_iload_n hx hb dX6_drop_44 rfl (lv_at hl 1 rfl) ?_
        have hF := Option.some.inj hF
        subst hF
        exact hE _ _ _ _ _ hP hD hS dX6_drop_45 rfl rfl
      · have hF := (if_pos c5).symm.trans hF
        refine lv_bipush (v := (70 : Int32)) hx hb dX6_drop_39 (by decide) ?_
        refine lv_goto (tgt := 45) hx hb dX6_drop_41 (by decide) ?_
        have hF := Option.some.inj hF
        subst hF
        exact hE _ _ _ _ _ hP hD hS dX6_drop_45 rfl rfl
    have hF := hRx3
    refine lv_icmp_ne (tgt := 25) hx hb dX6_drop_18 (by decide) (fun c6 => ?_) (fun c6 => ?_)
    · have hF := (if_neg c6).symm.trans hF
      refine lv_iconst (v := (4 : Int32)) hx hb dX6_drop_25 (by decide) ?_
      have hF := Option.some.inj hF
      subst hF
      exact Jx3 _ _ _ hP hD hS (lv_sub hl [0, 1] rfl)
    · have hF := (if_pos c6).symm.trans hF
      refine lv_iconst (v := (5 : Int32)) hx hb dX6_drop_21 (by decide) ?_
      refine lv_goto (tgt := 26) hx hb dX6_drop_22 (by decide) ?_
      have hF := Option.some.inj hF
      subst hF
      exact Jx3 _ _ _ hP hD hS (lv_sub hl [0, 1] rfl)
  · have hF := (if_neg c2).symm.trans hF
    refine lv_iconst (v := (-1 : Int32)) hx hb dX6_drop_8 (by decide) ?_
    have hF := Option.some.inj hF
    subst hF
    exact hE _ _ _ _ _ hP hD hS dX6_drop_9 rfl rfl
theorem lk_X6_as : LK yX6_as cX6_as 3 (some .int) 2 := ⟨q912, q7, by decide +kernel⟩
def F_X6_as (a1 : Int32) (a2 : Int32) (si : tSI) (sa : tSA) : Option (Int32 × tSI × tSA) :=
  (F_X6_noSort a1 si sa).bind fun r1 => (if r1 = 0 then (F_X6_in (Int32.toInt64 a2) (0 : Int64) (2 : Int64)).bind fun r3 => (if r3 = 0 then (F_X6_refused (-2 : Int32) si sa).bind fun r8 => some (r8.1, r8.2.1, r8.2.2) else ld a1 6 ((if ((sa 0) (Int32.toNatClampNeg a1)) < a2 then (F_X6_failed (2 : Int32) si sa).bind fun r6 => some (r6.1, r6.2.1, r6.2.2) else (F_X6_refused (1 : Int32) si sa).bind fun r7 => some (r7.1, r7.2.1, r7.2.2)))) else (F_X6_refused (-1 : Int32) si sa).bind fun r9 => some (r9.1, r9.2.1, r9.2.2))
set_option maxHeartbeats 4000000 in
set_option maxRecDepth 100000 in
theorem c_X6_as (l : Launch) (D : va_G) (cA : ClassId) (ad : Nat → Nat) (si : tSI) (sa : tSA) (a1 : Int32) (a2 : Int32) (o : (Int32 × tSI × tSA)) (hF : F_X6_as a1 a2 si sa = some o) : CG l yX6_as cX6_as 3 (some .int) 2 46 D cA [.ref (ad 0), .int a1, .int a2] (WM cA ad si sa) (WM cA ad o.2.1 o.2.2) (some (.int o.1)) := by
  refine CG.ofi (by decide) (Nat.le_of_ble_eq_true rfl) ?_
  intro p ee s m args below meth c A Q H0 ls C0 hA hP hD hS hl hE
  have hl : lv_has ls 3 [(0, .ref (ad 0)), (1, .int a1), (2, .int a2)] := hl
  obtain ⟨hx, hb, hml, hown, ht, hK⟩ := id C0
  unfold F_X6_as at hF
  refine lv_aload_n hx hb dX6_as_0 rfl (lv_at hl 0 rfl) ?_
  refine lv_iload_n hx hb dX6_as_1 rfl (lv_at hl 1 rfl) ?_
  obtain ⟨r1, hr1, hF⟩ := bd_some hF
  refine kcV (As := [.int a1]) (rest := []) C0 hA hP hD hS (c_X6_noSort l D cA ad si sa a1 r1 hr1) lk_X6_noSort q730 s33 q728 0 6 rfl rfl hl.1 rfl rfl (Nat.le_of_ble_eq_true rfl) ⟨Nat.le_of_ble_eq_true rfl, Nat.le_of_ble_eq_true rfl⟩ ⟨Nat.le_refl _, Nat.le_refl _⟩ dX6_as_2 (fun H locs hP hD hS => ?_)
  refine W.eq (g2 := F0 m 5 ls [.int r1]) rfl ?_
  refine lv_if_eq (tgt := 14) hx hb dX6_as_5 (by decide) (fun c2 => ?_) (fun c2 => ?_)
  · have hF := (if_pos c2).symm.trans hF
    refine lv_iload_n hx hb dX6_as_14 rfl (lv_at hl 2 rfl) ?_
    refine lv_i2l hx hb dX6_as_15 rfl ?_
    refine lv_lconst (v := (0 : Int64)) hx hb dX6_as_16 (by decide) ?_
    refine lv_ldc2 (v := (2 : Int64)) hx hb hown (ht _ q692) dX6_as_17 ?_
    obtain ⟨r3, hr3, hF⟩ := bd_some hF
    refine kcS (As := [.long (Int32.toInt64 a2), .long (0 : Int64), .long (2 : Int64)]) (rest := []) C0 hA hP hD hS (c_X6_in l D cA ad si sa (Int32.toInt64 a2) (0 : Int64) (2 : Int64) r3 hr3) lk_X6_in q686 q685 hl.1 rfl rfl (Nat.le_of_ble_eq_true rfl) ⟨Nat.le_of_ble_eq_true rfl, Nat.le_of_ble_eq_true rfl⟩ ⟨Nat.le_refl _, Nat.le_refl _⟩ dX6_as_20 (fun H locs hP hD hS => ?_)
    refine W.eq (g2 := F0 m 23 ls [.int r3]) rfl ?_
    refine lv_if_ne (tgt := 33) hx hb dX6_as_23 (by decide) (fun c4 => ?_) (fun c4 => ?_)
    · have hF := (if_neg c4).symm.trans hF
      refine lv_aload_n hx hb dX6_as_33 rfl (lv_at hl 0 rfl) ?_
      refine gM0_2 C0 hP q582 dX6_as_34 ?_
      refine lv_iload_n hx hb dX6_as_37 rfl (lv_at hl 1 rfl) ?_
      obtain ⟨hin, hF⟩ := ld_some hF
      refine aMl0 (f := (sa 0)) C0 hP rfl hin dX6_as_38 ?_
      refine lv_iload_n hx hb dX6_as_39 rfl (lv_at hl 2 rfl) ?_
      refine lv_icmp_lt (tgt := 51) hx hb dX6_as_40 (by decide) (fun c5 => ?_) (fun c5 => ?_)
      · have hF := (if_pos c5).symm.trans hF
        refine lv_aload_n hx hb dX6_as_51 rfl (lv_at hl 0 rfl) ?_
        refine lv_iconst (v := (2 : Int32)) hx hb dX6_as_52 (by decide) ?_
        obtain ⟨r6, hr6, hF⟩ := bd_some hF
        refine kcV (As := [.int (2 : Int32)]) (rest := []) C0 hA hP hD hS (c_X6_failed l D cA ad si sa (2 : Int32) r6 hr6) lk_X6_failed q699 s27 q697 0 6 rfl rfl hl.1 rfl rfl (Nat.le_of_ble_eq_true rfl) ⟨Nat.le_of_ble_eq_true rfl, Nat.le_of_ble_eq_true rfl⟩ ⟨Nat.le_refl _, Nat.le_refl _⟩ dX6_as_53 (fun H locs hP hD hS => ?_)
        refine W.eq (g2 := F0 m 56 ls [.int r6.1]) rfl ?_
        have hF := Option.some.inj hF
        subst hF
        exact hE _ _ _ _ _ hP hD hS dX6_as_56 rfl rfl
      · have hF := (if_neg c5).symm.trans hF
        refine lv_aload_n hx hb dX6_as_43 rfl (lv_at hl 0 rfl) ?_
        refine lv_iconst (v := (1 : Int32)) hx hb dX6_as_44 (by decide) ?_
        obtain ⟨r7, hr7, hF⟩ := bd_some hF
        refine kcV (As := [.int (1 : Int32)]) (rest := []) C0 hA hP hD hS (c_X6_refused l D cA ad si sa (1 : Int32) r7 hr7) lk_X6_refused q690 s25 q688 0 6 rfl rfl hl.1 rfl rfl (Nat.le_of_ble_eq_true rfl) ⟨Nat.le_of_ble_eq_true rfl, Nat.le_of_ble_eq_true rfl⟩ ⟨Nat.le_refl _, Nat.le_refl _⟩ dX6_as_45 (fun H locs hP hD hS => ?_)
        refine W.eq (g2 := F0 m 48 ls [.int r7.1]) rfl ?_
        refine lv_goto (tgt := 56) hx hb dX6_as_48 (by decide) ?_
        have hF := Option.some.inj hF
        subst hF
        exact hE _ _ _ _ _ hP hD hS dX6_as_56 rfl rfl
    · have hF := (if_pos c4).symm.trans hF
      refine lv_aload_n hx hb dX6_as_26 rfl (lv_at hl 0 rfl) ?_
      refine lv_bipush (v := (-2 : Int32)) hx hb dX6_as_27 (by decide) ?_
      obtain ⟨r8, hr8, hF⟩ := bd_some hF
      refine kcV (As := [.int (-2 : Int32)]) (rest := []) C0 hA hP hD hS (c_X6_refused l D cA ad si sa (-2 : Int32) r8 hr8) lk_X6_refused q690 s25 q688 0 6 rfl rfl hl.1 rfl rfl (Nat.le_of_ble_eq_true rfl) ⟨Nat.le_of_ble_eq_true rfl, Nat.le_of_ble_eq_true rfl⟩ ⟨Nat.le_refl _, Nat.le_refl _⟩ dX6_as_29 (fun H locs hP hD hS => ?_)
      refine W.eq (g2 := F0 m 32 ls [.int r8.1]) rfl ?_
      have hF := Option.some.inj hF
      subst hF
      exact hE _ _ _ _ _ hP hD hS dX6_as_32 rfl rfl
  · have hF := (if_neg c2).symm.trans hF
    refine lv_aload_n hx hb dX6_as_8 rfl (lv_at hl 0 rfl) ?_
    refine lv_iconst (v := (-1 : Int32)) hx hb dX6_as_9 (by decide) ?_
    obtain ⟨r9, hr9, hF⟩ := bd_some hF
    refine kcV (As := [.int (-1 : Int32)]) (rest := []) C0 hA hP hD hS (c_X6_refused l D cA ad si sa (-1 : Int32) r9 hr9) lk_X6_refused q690 s25 q688 0 6 rfl rfl hl.1 rfl rfl (Nat.le_of_ble_eq_true rfl) ⟨Nat.le_of_ble_eq_true rfl, Nat.le_of_ble_eq_true rfl⟩ ⟨Nat.le_refl _, Nat.le_refl _⟩ dX6_as_10 (fun H locs hP hD hS => ?_)
    refine W.eq (g2 := F0 m 13 ls [.int r9.1]) rfl ?_
    have hF := Option.some.inj hF
    subst hF
    exact hE _ _ _ _ _ hP hD hS dX6_as_13 rfl rfl
theorem lk_X6_trace : LK yX6_trace cX6_trace 1 (some .int) 0 := ⟨q916, q7, by decide +kernel⟩
def F_X6_trace (si : tSI) (sa : tSA) : Option Int32 :=
  some (si 9)
set_option maxHeartbeats 4000000 in
set_option maxRecDepth 100000 in
theorem c_X6_trace (l : Launch) (D : va_G) (cA : ClassId) (ad : Nat → Nat) (si : tSI) (sa : tSA) (o : Int32) (hF : F_X6_trace si sa = some o) : CG l yX6_trace cX6_trace 1 (some .int) 0 0 D cA [.ref (ad 0)] (WM cA ad si sa) (WM cA ad si sa) (some (.int o)) := by
  refine CG.ofi (by decide) (Nat.le_of_ble_eq_true rfl) ?_
  intro p ee s m args below meth c A Q H0 ls C0 hA hP hD hS hl hE
  have hl : lv_has ls 1 [(0, .ref (ad 0))] := hl
  obtain ⟨hx, hb, hml, hown, ht, hK⟩ := id C0
  unfold F_X6_trace at hF
  refine lv_aload_n hx hb dX6_trace_0 rfl (lv_at hl 0 rfl) ?_
  refine gM0_31 (v := (si 9)) C0 hP rfl q611 dX6_trace_1 ?_
  have hF := Option.some.inj hF
  exact hE _ _ _ _ _ hP hD hS dX6_trace_4 rfl hF
theorem lk_X6_fault : LK yX6_fault cX6_fault 1 (some .int) 0 := ⟨q920, q7, by decide +kernel⟩
def F_X6_fault (si : tSI) (sa : tSA) : Option Int32 :=
  some (si 0)
set_option maxHeartbeats 4000000 in
set_option maxRecDepth 100000 in
theorem c_X6_fault (l : Launch) (D : va_G) (cA : ClassId) (ad : Nat → Nat) (si : tSI) (sa : tSA) (o : Int32) (hF : F_X6_fault si sa = some o) : CG l yX6_fault cX6_fault 1 (some .int) 0 0 D cA [.ref (ad 0)] (WM cA ad si sa) (WM cA ad si sa) (some (.int o)) := by
  refine CG.ofi (by decide) (Nat.le_of_ble_eq_true rfl) ?_
  intro p ee s m args below meth c A Q H0 ls C0 hA hP hD hS hl hE
  have hl : lv_has ls 1 [(0, .ref (ad 0))] := hl
  obtain ⟨hx, hb, hml, hown, ht, hK⟩ := id C0
  unfold F_X6_fault at hF
  refine lv_aload_n hx hb dX6_fault_0 rfl (lv_at hl 0 rfl) ?_
  refine gM0_0 (v := (si 0)) C0 hP rfl q580 dX6_fault_1 ?_
  have hF := Option.some.inj hF
  exact hE _ _ _ _ _ hP hD hS dX6_fault_4 rfl hF
theorem lk_X6_lettersNow : LK yX6_lettersNow cX6_lettersNow 3 (some .int) 0 := ⟨q928, q7, by decide +kernel⟩
def S_X6_lettersNow_4 (si : tSI) (sa : tSA) (rec1 : ((Int32 × Int32) → Option Int32)) (t1 : (Int32 × Int32)) : Option Int32 :=
  (if (si 1) ≤ t1.1 then some t1.2 else ld t1.1 6 (rec1 ((t1.1 + 1), (t1.2 + ((sa 1) (Int32.toNatClampNeg t1.1))))))
def F_X6_lettersNow (si : tSI) (sa : tSA) : Option Int32 :=
  (lp (S_X6_lettersNow_4 si sa) 100 ((0 : Int32), (0 : Int32))).bind fun (e2 : Int32) => some e2
set_option maxHeartbeats 4000000 in
set_option maxRecDepth 100000 in
theorem c_X6_lettersNow (l : Launch) (D : va_G) (cA : ClassId) (ad : Nat → Nat) (si : tSI) (sa : tSA) (o : Int32) (hF : F_X6_lettersNow si sa = some o) : CG l yX6_lettersNow cX6_lettersNow 3 (some .int) 0 0 D cA [.ref (ad 0)] (WM cA ad si sa) (WM cA ad si sa) (some (.int o)) := by
  refine CG.ofi (by decide) (Nat.le_of_ble_eq_true rfl) ?_
  intro p ee s m args below meth c A Q H0 ls C0 hA hP hD hS hl hE
  have hl : lv_has ls 3 [(0, .ref (ad 0))] := hl
  obtain ⟨hx, hb, hml, hown, ht, hK⟩ := id C0
  unfold F_X6_lettersNow at hF
  refine lv_iconst (v := (0 : Int32)) hx hb dX6_lettersNow_0 (by decide) ?_
  refine lv_istore_n (lv' := [(1, .int (0 : Int32)), (0, .ref (ad 0))]) hx hb dX6_lettersNow_1 rfl hl (by decide) rfl (fun ls hl => ?_)
  refine lv_iconst (v := (0 : Int32)) hx hb dX6_lettersNow_2 (by decide) ?_
  refine lv_istore_n (lv' := [(2, .int (0 : Int32)), (1, .int (0 : Int32)), (0, .ref (ad 0))]) hx hb dX6_lettersNow_3 rfl hl (by decide) rfl (fun ls hl => ?_)
  obtain ⟨ox1, hL1, hX1⟩ := bd_all hF
  have JE1 : ∀ (e2 : Int32), ox1 = e2 → ∀ (H : Heap) (locs : List Loc) (ls : Array Slot), va_P D vwCl (WM cA ad si sa) H → va_D A (WM cA ad si sa) → va_S A H0 H locs → lv_has ls 3 [(1, .int e2)] → W p l ee (rmx 0 0) s m args below meth c H locs 0 0 Q (F0 m 27 ls []) := by
    intro e2 he H locs ls hP hD hS hl
    have hF := hX1 _ he
    refine lv_iload_n hx hb dX6_lettersNow_27 rfl (lv_at hl 0 rfl) ?_
    have hF := Option.some.inj hF
    exact hE _ _ _ _ _ hP hD hS dX6_lettersNow_28 rfl hF
  have LP1 : ∀ (k1 : Nat) (t1 : (Int32 × Int32)), lp (S_X6_lettersNow_4 si sa) k1 t1 = some ox1 → ∀ (H : Heap) (locs : List Loc) (ls : Array Slot), va_P D vwCl (WM cA ad si sa) H → va_D A (WM cA ad si sa) → va_S A H0 H locs → lv_has ls 3 [(2, .int t1.1), (1, .int t1.2), (0, .ref (ad 0))] → W p l ee (rmx 0 0) s m args below meth c H locs 0 0 Q (F0 m 4 ls []) := by
    intro k1
    induction k1 with
    | zero => intro t1 hF; exact (lp_no hF).elim
    | succ k1 ih1 =>
      intro t1 hF H locs ls hP hD hS hl
      change (S_X6_lettersNow_4 si sa) (lp (S_X6_lettersNow_4 si sa) k1) t1 = some ox1 at hF
      unfold S_X6_lettersNow_4 at hF
      refine lv_iload_n hx hb dX6_lettersNow_4 rfl (lv_at hl 0 rfl) ?_
      refine lv_aload_n hx hb dX6_lettersNow_5 rfl (lv_at hl 2 rfl) ?_
      refine gM0_1 (v := (si 1)) C0 hP rfl q581 dX6_lettersNow_6 ?_
      refine lv_icmp_ge (tgt := 27) hx hb dX6_lettersNow_9 (by decide) (fun c3 => ?_) (fun c3 => ?_)
      · have hF := (if_pos c3).symm.trans hF
        exact JE1 _ (Option.some.inj hF).symm _ _ _ hP hD hS (lv_sub hl [1] rfl)
      · have hF := (if_neg c3).symm.trans hF
        refine lv_iload_n hx hb dX6_lettersNow_12 rfl (lv_at hl 1 rfl) ?_
        refine lv_aload_n hx hb dX6_lettersNow_13 rfl (lv_at hl 2 rfl) ?_
        refine gM0_3 C0 hP q583 dX6_lettersNow_14 ?_
        refine lv_iload_n hx hb dX6_lettersNow_17 rfl (lv_at hl 0 rfl) ?_
        obtain ⟨hin, hF⟩ := ld_some hF
        refine aMl1 (f := (sa 1)) C0 hP rfl hin dX6_lettersNow_18 ?_
        refine lv_iadd hx hb dX6_lettersNow_19 ?_
        refine lv_istore_n (lv' := [(1, .int (t1.2 + ((sa 1) (Int32.toNatClampNeg t1.1)))), (2, .int t1.1), (0, .ref (ad 0))]) hx hb dX6_lettersNow_20 rfl hl (by decide) rfl (fun ls hl => ?_)
        refine lv_iinc (v := (t1.1 + 1)) (lv' := [(2, .int (t1.1 + 1)), (1, .int (t1.2 + ((sa 1) (Int32.toNatClampNeg t1.1)))), (0, .ref (ad 0))]) hx hb dX6_lettersNow_21 hl (k := 1) rfl rfl (by decide) rfl (fun ls hl => ?_)
        refine lv_goto (tgt := 4) hx hb dX6_lettersNow_24 (by decide) ?_
        exact ih1 _ hF _ _ _ hP hD hS (lv_sub hl [0, 1, 2] rfl)
  exact LP1 _ _ hL1 _ _ _ hP hD hS (lv_sub hl [0, 1, 2] rfl)
theorem lk_X6_many : LK yX6_many cX6_many 2 (some .int) 1 := ⟨q924, q7, by decide +kernel⟩
def F_X6_many (a1 : Int32) (si : tSI) (sa : tSA) : Option Int32 :=
  (if a1 = 0 then some (si 1) else (if a1 = 1 then some (si 2) else (if a1 = 2 then (F_X6_lettersNow si sa).bind fun r4 => some r4 else (if a1 = 3 then some (si 8) else some (-2 : Int32)))))
set_option maxHeartbeats 4000000 in
set_option maxRecDepth 100000 in
theorem c_X6_many (l : Launch) (D : va_G) (cA : ClassId) (ad : Nat → Nat) (si : tSI) (sa : tSA) (a1 : Int32) (o : Int32) (hF : F_X6_many a1 si sa = some o) : CG l yX6_many cX6_many 2 (some .int) 1 22 D cA [.ref (ad 0), .int a1] (WM cA ad si sa) (WM cA ad si sa) (some (.int o)) := by
  refine CG.ofi (by decide) (Nat.le_of_ble_eq_true rfl) ?_
  intro p ee s m args below meth c A Q H0 ls C0 hA hP hD hS hl hE
  have hl : lv_has ls 2 [(0, .ref (ad 0)), (1, .int a1)] := hl
  obtain ⟨hx, hb, hml, hown, ht, hK⟩ := id C0
  unfold F_X6_many at hF
  refine lv_iload_n hx hb dX6_many_0 rfl (lv_at hl 1 rfl) ?_
  rcases Decidable.em (a1 = 0) with c1 | c1
  · have hF := (if_pos c1).symm.trans hF
    refine lv_tableIn (off := 31) (tgt := 32) hx hb dX6_many_1 (by rw [c1]; decide) (by rw [c1]; decide) (by rw [c1]; rfl) (by decide) ?_
    refine lv_aload_n hx hb dX6_many_32 rfl (lv_at hl 0 rfl) ?_
    refine gM0_1 (v := (si 1)) C0 hP rfl q581 dX6_many_33 ?_
    have hF := Option.some.inj hF
    exact hE _ _ _ _ _ hP hD hS dX6_many_36 rfl hF
  · have hF := (if_neg c1).symm.trans hF
    rcases Decidable.em (a1 = 1) with c2 | c2
    · have hF := (if_pos c2).symm.trans hF
      refine lv_tableIn (off := 36) (tgt := 37) hx hb dX6_many_1 (by rw [c2]; decide) (by rw [c2]; decide) (by rw [c2]; rfl) (by decide) ?_
      refine lv_aload_n hx hb dX6_many_37 rfl (lv_at hl 0 rfl) ?_
      refine gM0_6 (v := (si 2)) C0 hP rfl q586 dX6_many_38 ?_
      have hF := Option.some.inj hF
      exact hE _ _ _ _ _ hP hD hS dX6_many_41 rfl hF
    · have hF := (if_neg c2).symm.trans hF
      rcases Decidable.em (a1 = 2) with c3 | c3
      · have hF := (if_pos c3).symm.trans hF
        refine lv_tableIn (off := 41) (tgt := 42) hx hb dX6_many_1 (by rw [c3]; decide) (by rw [c3]; decide) (by rw [c3]; rfl) (by decide) ?_
        refine lv_aload_n hx hb dX6_many_42 rfl (lv_at hl 0 rfl) ?_
        obtain ⟨r4, hr4, hF⟩ := bd_some hF
        refine kcV (As := []) (rest := []) C0 hA hP hD hS (c_X6_lettersNow l D cA ad si sa r4 hr4) lk_X6_lettersNow q927 s52 q925 0 6 rfl rfl hl.1 rfl rfl (Nat.le_of_ble_eq_true rfl) ⟨Nat.le_of_ble_eq_true rfl, Nat.le_of_ble_eq_true rfl⟩ ⟨Nat.le_refl _, Nat.le_refl _⟩ dX6_many_43 (fun H locs hP hD hS => ?_)
        refine W.eq (g2 := F0 m 46 ls [.int r4]) rfl ?_
        have hF := Option.some.inj hF
        exact hE _ _ _ _ _ hP hD hS dX6_many_46 rfl hF
      · have hF := (if_neg c3).symm.trans hF
        rcases Decidable.em (a1 = 3) with c5 | c5
        · have hF := (if_pos c5).symm.trans hF
          refine lv_tableIn (off := 46) (tgt := 47) hx hb dX6_many_1 (by rw [c5]; decide) (by rw [c5]; decide) (by rw [c5]; rfl) (by decide) ?_
          refine lv_aload_n hx hb dX6_many_47 rfl (lv_at hl 0 rfl) ?_
          refine gM0_24 (v := (si 8)) C0 hP rfl q604 dX6_many_48 ?_
          have hF := Option.some.inj hF
          exact hE _ _ _ _ _ hP hD hS dX6_many_51 rfl hF
        · have hF := (if_neg c5).symm.trans hF
          have hout : (Int32.toInt a1) < 0 ∨ 3 < (Int32.toInt a1) := by
            have hc1 := ne_toIntk (0) (0) (by decide) c1
            have hc2 := ne_toIntk (1) (1) (by decide) c2
            have hc3 := ne_toIntk (2) (2) (by decide) c3
            have hc5 := ne_toIntk (3) (3) (by decide) c5
            omega
          refine lv_tableOut (tgt := 52) hx hb dX6_many_1 hout (by decide) ?_
          refine lv_bipush (v := (-2 : Int32)) hx hb dX6_many_52 (by decide) ?_
          have hF := Option.some.inj hF
          exact hE _ _ _ _ _ hP hD hS dX6_many_54 rfl hF
