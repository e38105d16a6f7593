abbrev tSI : Type := Nat → Int32
abbrev tSA : Type := Nat → Nat → Int32
theorem lk_X2_isSheet : LK yX2_isSheet cX2_isSheet 1 (some .boolean) 1 := ⟨q176, q2, by decide +kernel⟩
def F_X2_isSheet (a1 : Int32) : Option Int32 :=
  (if a1 < 0 then some (0 : Int32) else (if (4 : Int32) ≤ a1 then some (0 : Int32) else some (1 : Int32)))
set_option maxHeartbeats 4000000 in
set_option maxRecDepth 100000 in
theorem c_X2_isSheet (l : Launch) (D : va_G) (cA : ClassId) (ad : Nat → Nat) (si : tSI) (sa : tSA) (a1 : Int32) (o : Int32) (hF : F_X2_isSheet a1 = some o) : CG l yX2_isSheet cX2_isSheet 1 (some .boolean) 0 0 D cA [.int a1] (WX cA ad si sa) (WX cA ad si sa) (some (.int o)) := by
  refine CG.ofi (by decide) (Nat.le_of_ble_eq_true rfl) ?_
  intro p ee s m args below meth c A Q H0 ls C0 hA hP hD hS hl hE
  have hl : lv_has ls 1 [(0, .int a1)] := hl
  obtain ⟨hx, hb, hml, hown, ht, hK⟩ := id C0
  unfold F_X2_isSheet at hF
  refine lv_iload_n hx hb dX2_isSheet_0 rfl (lv_at hl 0 rfl) ?_
  refine lv_if_lt (tgt := 13) hx hb dX2_isSheet_1 (by decide) (fun c1 => ?_) (fun c1 => ?_)
  · have hF := (if_pos c1).symm.trans hF
    refine lv_iconst (v := (0 : Int32)) hx hb dX2_isSheet_13 (by decide) ?_
    have hF := Option.some.inj hF
    exact hE _ _ _ _ _ hP hD hS dX2_isSheet_14 rfl hF
  · have hF := (if_neg c1).symm.trans hF
    refine lv_iload_n hx hb dX2_isSheet_4 rfl (lv_at hl 0 rfl) ?_
    refine lv_iconst (v := (4 : Int32)) hx hb dX2_isSheet_5 (by decide) ?_
    refine lv_icmp_ge (tgt := 13) hx hb dX2_isSheet_6 (by decide) (fun c2 => ?_) (fun c2 => ?_)
    · have hF := (if_pos c2).symm.trans hF
      refine lv_iconst (v := (0 : Int32)) hx hb dX2_isSheet_13 (by decide) ?_
      have hF := Option.some.inj hF
      exact hE _ _ _ _ _ hP hD hS dX2_isSheet_14 rfl hF
    · have hF := (if_neg c2).symm.trans hF
      refine lv_iconst (v := (1 : Int32)) hx hb dX2_isSheet_9 (by decide) ?_
      refine lv_goto (tgt := 14) hx hb dX2_isSheet_10 (by decide) ?_
      have hF := Option.some.inj hF
      exact hE _ _ _ _ _ hP hD hS dX2_isSheet_14 rfl hF
theorem lk_X2_isLane : LK yX2_isLane cX2_isLane 1 (some .boolean) 1 := ⟨q179, q2, by decide +kernel⟩
def F_X2_isLane (a1 : Int32) : Option Int32 :=
  (if a1 < 0 then some (0 : Int32) else (if (3 : Int32) ≤ a1 then some (0 : Int32) else some (1 : Int32)))
set_option maxHeartbeats 4000000 in
set_option maxRecDepth 100000 in
theorem c_X2_isLane (l : Launch) (D : va_G) (cA : ClassId) (ad : Nat → Nat) (si : tSI) (sa : tSA) (a1 : Int32) (o : Int32) (hF : F_X2_isLane a1 = some o) : CG l yX2_isLane cX2_isLane 1 (some .boolean) 0 0 D cA [.int a1] (WX cA ad si sa) (WX cA ad si sa) (some (.int o)) := by
  refine CG.ofi (by decide) (Nat.le_of_ble_eq_true rfl) ?_
  intro p ee s m args below meth c A Q H0 ls C0 hA hP hD hS hl hE
  have hl : lv_has ls 1 [(0, .int a1)] := hl
  obtain ⟨hx, hb, hml, hown, ht, hK⟩ := id C0
  unfold F_X2_isLane at hF
  refine lv_iload_n hx hb dX2_isLane_0 rfl (lv_at hl 0 rfl) ?_
  refine lv_if_lt (tgt := 13) hx hb dX2_isLane_1 (by decide) (fun c1 => ?_) (fun c1 => ?_)
  · have hF := (if_pos c1).symm.trans hF
    refine lv_iconst (v := (0 : Int32)) hx hb dX2_isLane_13 (by decide) ?_
    have hF := Option.some.inj hF
    exact hE _ _ _ _ _ hP hD hS dX2_isLane_14 rfl hF
  · have hF := (if_neg c1).symm.trans hF
    refine lv_iload_n hx hb dX2_isLane_4 rfl (lv_at hl 0 rfl) ?_
    refine lv_iconst (v := (3 : Int32)) hx hb dX2_isLane_5 (by decide) ?_
    refine lv_icmp_ge (tgt := 13) hx hb dX2_isLane_6 (by decide) (fun c2 => ?_) (fun c2 => ?_)
    · have hF := (if_pos c2).symm.trans hF
      refine lv_iconst (v := (0 : Int32)) hx hb dX2_isLane_13 (by decide) ?_
      have hF := Option.some.inj hF
      exact hE _ _ _ _ _ hP hD hS dX2_isLane_14 rfl hF
    · have hF := (if_neg c2).symm.trans hF
      refine lv_iconst (v := (1 : Int32)) hx hb dX2_isLane_9 (by decide) ?_
      refine lv_goto (tgt := 14) hx hb dX2_isLane_10 (by decide) ?_
      have hF := Option.some.inj hF
      exact hE _ _ _ _ _ hP hD hS dX2_isLane_14 rfl hF
theorem lk_X2_isEmpty : LK yX2_isEmpty cX2_isEmpty 2 (some .boolean) 1 := ⟨q187, q2, by decide +kernel⟩
def F_X2_isEmpty (a1 : Int32) (si : tSI) (sa : tSA) : Option Int32 :=
  ld a1 4 ((if ((sa 3) (Int32.toNatClampNeg a1)) = (-9 : Int32) then some (1 : Int32) else some (0 : Int32)))
set_option maxHeartbeats 4000000 in
set_option maxRecDepth 100000 in
theorem c_X2_isEmpty (l : Launch) (D : va_G) (cA : ClassId) (ad : Nat → Nat) (si : tSI) (sa : tSA) (a1 : Int32) (o : Int32) (hF : F_X2_isEmpty a1 si sa = some o) : CG l yX2_isEmpty cX2_isEmpty 2 (some .boolean) 0 0 D cA [.ref (ad 1), .int a1] (WX cA ad si sa) (WX cA ad si sa) (some (.int o)) := by
  refine CG.ofi (by decide) (Nat.le_of_ble_eq_true rfl) ?_
  intro p ee s m args below meth c A Q H0 ls C0 hA hP hD hS hl hE
  have hl : lv_has ls 2 [(0, .ref (ad 1)), (1, .int a1)] := hl
  obtain ⟨hx, hb, hml, hown, ht, hK⟩ := id C0
  unfold F_X2_isEmpty at hF
  refine lv_aload_n hx hb dX2_isEmpty_0 rfl (lv_at hl 0 rfl) ?_
  refine gX1_2 C0 hP q27 dX2_isEmpty_1 ?_
  refine lv_iload_n hx hb dX2_isEmpty_4 rfl (lv_at hl 1 rfl) ?_
  obtain ⟨hin, hF⟩ := ld_some hF
  refine aXl3 (f := (sa 3)) C0 hP rfl hin dX2_isEmpty_5 ?_
  refine lv_bipush (v := (-9 : Int32)) hx hb dX2_isEmpty_6 (by decide) ?_
  refine lv_icmp_ne (tgt := 15) hx hb dX2_isEmpty_8 (by decide) (fun c1 => ?_) (fun c1 => ?_)
  · have hF := (if_neg c1).symm.trans hF
    refine lv_iconst (v := (0 : Int32)) hx hb dX2_isEmpty_15 (by decide) ?_
    have hF := Option.some.inj hF
    exact hE _ _ _ _ _ hP hD hS dX2_isEmpty_16 rfl hF
  · have hF := (if_pos c1).symm.trans hF
    refine lv_iconst (v := (1 : Int32)) hx hb dX2_isEmpty_11 (by decide) ?_
    refine lv_goto (tgt := 16) hx hb dX2_isEmpty_12 (by decide) ?_
    have hF := Option.some.inj hF
    exact hE _ _ _ _ _ hP hD hS dX2_isEmpty_16 rfl hF
theorem lk_X2_faultAsRow : LK yX2_faultAsRow cX2_faultAsRow 3 (some .int) 2 := ⟨q183, q2, by decide +kernel⟩
def F_X2_faultAsRow (a1 : Int32) (a2 : Int32) (si : tSI) (sa : tSA) : Option Int32 :=
  (F_X2_isEmpty a1 si sa).bind fun r1 => (if r1 = 0 then ld a1 4 ((if ((sa 2) (Int32.toNatClampNeg a1)) = a2 then some (0 : Int32) else some (2 : Int32))) else some (1 : Int32))
set_option maxHeartbeats 4000000 in
set_option maxRecDepth 100000 in
theorem c_X2_faultAsRow (l : Launch) (D : va_G) (cA : ClassId) (ad : Nat → Nat) (si : tSI) (sa : tSA) (a1 : Int32) (a2 : Int32) (o : Int32) (hF : F_X2_faultAsRow a1 a2 si sa = some o) : CG l yX2_faultAsRow cX2_faultAsRow 3 (some .int) 1 21 D cA [.ref (ad 1), .int a1, .int a2] (WX cA ad si sa) (WX cA ad si sa) (some (.int o)) := by
  refine CG.ofi (by decide) (Nat.le_of_ble_eq_true rfl) ?_
  intro p ee s m args below meth c A Q H0 ls C0 hA hP hD hS hl hE
  have hl : lv_has ls 3 [(0, .ref (ad 1)), (1, .int a1), (2, .int a2)] := hl
  obtain ⟨hx, hb, hml, hown, ht, hK⟩ := id C0
  unfold F_X2_faultAsRow at hF
  refine lv_aload_n hx hb dX2_faultAsRow_0 rfl (lv_at hl 0 rfl) ?_
  refine lv_iload_n hx hb dX2_faultAsRow_1 rfl (lv_at hl 1 rfl) ?_
  obtain ⟨r1, hr1, hF⟩ := bd_some hF
  refine kcV (As := [.int a1]) (rest := []) C0 hA hP hD hS (c_X2_isEmpty l D cA ad si sa a1 r1 hr1) lk_X2_isEmpty q185 q186 q184 1 2 rfl rfl hl.1 rfl rfl (Nat.le_of_ble_eq_true rfl) ⟨Nat.le_of_ble_eq_true rfl, Nat.le_of_ble_eq_true rfl⟩ ⟨Nat.le_refl _, Nat.le_refl _⟩ dX2_faultAsRow_2 (fun H locs hP hD hS => ?_)
  refine W.eq (g2 := F0 m 5 ls [.int r1]) rfl ?_
  refine lv_if_eq (tgt := 10) hx hb dX2_faultAsRow_5 (by decide) (fun c2 => ?_) (fun c2 => ?_)
  · have hF := (if_pos c2).symm.trans hF
    refine lv_aload_n hx hb dX2_faultAsRow_10 rfl (lv_at hl 0 rfl) ?_
    refine gX1_1 C0 hP q26 dX2_faultAsRow_11 ?_
    refine lv_iload_n hx hb dX2_faultAsRow_14 rfl (lv_at hl 1 rfl) ?_
    obtain ⟨hin, hF⟩ := ld_some hF
    refine aXl2 (f := (sa 2)) C0 hP rfl hin dX2_faultAsRow_15 ?_
    refine lv_iload_n hx hb dX2_faultAsRow_16 rfl (lv_at hl 2 rfl) ?_
    refine lv_icmp_ne (tgt := 24) hx hb dX2_faultAsRow_17 (by decide) (fun c3 => ?_) (fun c3 => ?_)
    · have hF := (if_neg c3).symm.trans hF
      refine lv_iconst (v := (2 : Int32)) hx hb dX2_faultAsRow_24 (by decide) ?_
      have hF := Option.some.inj hF
      exact hE _ _ _ _ _ hP hD hS dX2_faultAsRow_25 rfl hF
    · have hF := (if_pos c3).symm.trans hF
      refine lv_iconst (v := (0 : Int32)) hx hb dX2_faultAsRow_20 (by decide) ?_
      refine lv_goto (tgt := 25) hx hb dX2_faultAsRow_21 (by decide) ?_
      have hF := Option.some.inj hF
      exact hE _ _ _ _ _ hP hD hS dX2_faultAsRow_25 rfl hF
  · have hF := (if_neg c2).symm.trans hF
    refine lv_iconst (v := (1 : Int32)) hx hb dX2_faultAsRow_8 (by decide) ?_
    have hF := Option.some.inj hF
    exact hE _ _ _ _ _ hP hD hS dX2_faultAsRow_9 rfl hF
theorem lk_X2_faultOfSpan : LK yX2_faultOfSpan cX2_faultOfSpan 5 (some .int) 3 := ⟨q191, q2, by decide +kernel⟩
def F_X2_faultOfSpan (a1 : Int32) (a2 : Int32) (a3 : Int32) (si : tSI) (sa : tSA) : Option Int32 :=
  ((if a2 < 0 then some (0 : Int32) else ld a1 4 ((if ((sa 3) (Int32.toNatClampNeg a1)) < a2 then some (0 : Int32) else (if a3 < 0 then some (0 : Int32) else ld a1 4 ((if (((sa 3) (Int32.toNatClampNeg a1)) - a2) < a3 then some (0 : Int32) else some (1 : Int32)))))))).bind fun (x1 : Int32) => (if x1 = 0 then some (3 : Int32) else some (0 : Int32))
set_option maxHeartbeats 4000000 in
set_option maxRecDepth 100000 in
theorem c_X2_faultOfSpan (l : Launch) (D : va_G) (cA : ClassId) (ad : Nat → Nat) (si : tSI) (sa : tSA) (a1 : Int32) (a2 : Int32) (a3 : Int32) (o : Int32) (hF : F_X2_faultOfSpan a1 a2 a3 si sa = some o) : CG l yX2_faultOfSpan cX2_faultOfSpan 5 (some .int) 0 0 D cA [.ref (ad 1), .int a1, .int a2, .int a3] (WX cA ad si sa) (WX cA ad si sa) (some (.int o)) := by
  refine CG.ofi (by decide) (Nat.le_of_ble_eq_true rfl) ?_
  intro p ee s m args below meth c A Q H0 ls C0 hA hP hD hS hl hE
  have hl : lv_has ls 5 [(0, .ref (ad 1)), (1, .int a1), (2, .int a2), (3, .int a3)] := hl
  obtain ⟨hx, hb, hml, hown, ht, hK⟩ := id C0
  unfold F_X2_faultOfSpan at hF
  refine lv_iload_n hx hb dX2_faultOfSpan_0 rfl (lv_at hl 2 rfl) ?_
  obtain ⟨x1, hRx1, hF⟩ := bd_some hF
  have Jx1 : ∀ (H : Heap) (locs : List Loc) (ls : Array Slot), va_P D vwCl (WX cA ad si sa) H → va_D A (WX cA ad si sa) → va_S A H0 H locs → lv_has ls 5 [] → W p l ee (rmx 0 0) s m args below meth c H locs 0 0 Q (F0 m 35 ls [.int x1]) := by
    intro H locs ls hP hD hS hl
    refine lv_istore (lv' := [(4, .int x1)]) hx hb dX2_faultOfSpan_35 hl (by decide) rfl (fun ls hl => ?_)
    refine lv_iload hx hb dX2_faultOfSpan_37 (lv_at hl 0 rfl) ?_
    refine lv_if_eq (tgt := 46) hx hb dX2_faultOfSpan_39 (by decide) (fun c2 => ?_) (fun c2 => ?_)
    · have hF := (if_pos c2).symm.trans hF
      refine lv_iconst (v := (3 : Int32)) hx hb dX2_faultOfSpan_46 (by decide) ?_
      have hF := Option.some.inj hF
      exact hE _ _ _ _ _ hP hD hS dX2_faultOfSpan_47 rfl hF
    · have hF := (if_neg c2).symm.trans hF
      refine lv_iconst (v := (0 : Int32)) hx hb dX2_faultOfSpan_42 (by decide) ?_
      refine lv_goto (tgt := 47) hx hb dX2_faultOfSpan_43 (by decide) ?_
      have hF := Option.some.inj hF
      exact hE _ _ _ _ _ hP hD hS dX2_faultOfSpan_47 rfl hF
  have hF := hRx1
  refine lv_if_lt (tgt := 34) hx hb dX2_faultOfSpan_1 (by decide) (fun c3 => ?_) (fun c3 => ?_)
  · have hF := (if_pos c3).symm.trans hF
    refine lv_iconst (v := (0 : Int32)) hx hb dX2_faultOfSpan_34 (by decide) ?_
    have hF := Option.some.inj hF
    subst hF
    exact Jx1 _ _ _ hP hD hS (lv_sub hl [] rfl)
  · have hF := (if_neg c3).symm.trans hF
    refine lv_iload_n hx hb dX2_faultOfSpan_4 rfl (lv_at hl 2 rfl) ?_
    refine lv_aload_n hx hb dX2_faultOfSpan_5 rfl (lv_at hl 0 rfl) ?_
    refine gX1_2 C0 hP q27 dX2_faultOfSpan_6 ?_
    refine lv_iload_n hx hb dX2_faultOfSpan_9 rfl (lv_at hl 1 rfl) ?_
    obtain ⟨hin, hF⟩ := ld_some hF
    refine aXl3 (f := (sa 3)) C0 hP rfl hin dX2_faultOfSpan_10 ?_
    refine lv_icmp_gt (tgt := 34) hx hb dX2_faultOfSpan_11 (by decide) (fun c4 => ?_) (fun c4 => ?_)
    · have hF := (if_pos c4).symm.trans hF
      refine lv_iconst (v := (0 : Int32)) hx hb dX2_faultOfSpan_34 (by decide) ?_
      have hF := Option.some.inj hF
      subst hF
      exact Jx1 _ _ _ hP hD hS (lv_sub hl [] rfl)
    · have hF := (if_neg c4).symm.trans hF
      refine lv_iload_n hx hb dX2_faultOfSpan_14 rfl (lv_at hl 3 rfl) ?_
      refine lv_if_lt (tgt := 34) hx hb dX2_faultOfSpan_15 (by decide) (fun c5 => ?_) (fun c5 => ?_)
      · have hF := (if_pos c5).symm.trans hF
        refine lv_iconst (v := (0 : Int32)) hx hb dX2_faultOfSpan_34 (by decide) ?_
        have hF := Option.some.inj hF
        subst hF
        exact Jx1 _ _ _ hP hD hS (lv_sub hl [] rfl)
      · have hF := (if_neg c5).symm.trans hF
        refine lv_iload_n hx hb dX2_faultOfSpan_18 rfl (lv_at hl 3 rfl) ?_
        refine lv_aload_n hx hb dX2_faultOfSpan_19 rfl (lv_at hl 0 rfl) ?_
        refine gX1_2 C0 hP q27 dX2_faultOfSpan_20 ?_
        refine lv_iload_n hx hb dX2_faultOfSpan_23 rfl (lv_at hl 1 rfl) ?_
        obtain ⟨hin, hF⟩ := ld_some hF
        refine aXl3 (f := (sa 3)) C0 hP rfl hin dX2_faultOfSpan_24 ?_
        refine lv_iload_n hx hb dX2_faultOfSpan_25 rfl (lv_at hl 2 rfl) ?_
        refine lv_isub hx hb dX2_faultOfSpan_26 ?_
        refine lv_icmp_gt (tgt := 34) hx hb dX2_faultOfSpan_27 (by decide) (fun c6 => ?_) (fun c6 => ?_)
        · have hF := (if_pos c6).symm.trans hF
          refine lv_iconst (v := (0 : Int32)) hx hb dX2_faultOfSpan_34 (by decide) ?_
          have hF := Option.some.inj hF
          subst hF
          exact Jx1 _ _ _ hP hD hS (lv_sub hl [] rfl)
        · have hF := (if_neg c6).symm.trans hF
          refine lv_iconst (v := (1 : Int32)) hx hb dX2_faultOfSpan_30 (by decide) ?_
          refine lv_goto (tgt := 35) hx hb dX2_faultOfSpan_31 (by decide) ?_
          have hF := Option.some.inj hF
          subst hF
          exact Jx1 _ _ _ hP hD hS (lv_sub hl [] rfl)
theorem lk_X2_take : LK yX2_take cX2_take 5 none 4 := ⟨q199, q2, by decide +kernel⟩
def F_X2_take_r17 (a1 : Int32) (a2 : Int32) (a3 : Int32) (si : tSI) (sa : tSA) : Option (tSI × tSA) :=
  cpk ((a1 * (60 : Int32)) + a2) (0 : Int32) a3 240 60 (some (si, (va_up sa 11 (va_cpy (sa 1) (sa 11) (Int32.toNatClampNeg ((a1 * (60 : Int32)) + a2)) (Int32.toNatClampNeg (0 : Int32)) (Int32.toNatClampNeg a3)))))
set_option maxHeartbeats 4000000 in
set_option maxRecDepth 100000 in
theorem c_X2_take_r17 (l : Launch) (D : va_G) (cA : ClassId) (ad : Nat → Nat) (si : tSI) (sa : tSA) (a1 : Int32) (a2 : Int32) (a3 : Int32) (o : (tSI × tSA)) (hF : F_X2_take_r17 a1 a2 a3 si sa = some o) : CG l yX2_take cX2_take 5 none 1 60 D cA [.ref (ad 1), .int a1, .int a2, .int a3, .ref (ad 17)] (WX cA ad si sa) (WX cA ad o.1 o.2) none := by
  refine CG.ofv (by decide) (Nat.le_of_ble_eq_true rfl) ?_
  intro p ee s m args below meth c A Q H0 ls C0 hA hP hD hS hl hE
  have hl : lv_has ls 5 [(0, .ref (ad 1)), (1, .int a1), (2, .int a2), (3, .int a3), (4, .ref (ad 17))] := hl
  obtain ⟨hx, hb, hml, hown, ht, hK⟩ := id C0
  unfold F_X2_take_r17 at hF
  refine lv_aload_n hx hb dX2_take_0 rfl (lv_at hl 0 rfl) ?_
  refine gX1_0 C0 hP q25 dX2_take_1 ?_
  refine lv_iload_n hx hb dX2_take_4 rfl (lv_at hl 1 rfl) ?_
  refine lv_bipush (v := (60 : Int32)) hx hb dX2_take_5 (by decide) ?_
  refine lv_imul hx hb dX2_take_7 ?_
  refine lv_iload_n hx hb dX2_take_8 rfl (lv_at hl 2 rfl) ?_
  refine lv_iadd hx hb dX2_take_9 ?_
  refine lv_aload hx hb dX2_take_10 (lv_at hl 4 rfl) ?_
  refine lv_iconst (v := (0 : Int32)) hx hb dX2_take_12 (by decide) ?_
  refine lv_iload_n hx hb dX2_take_13 rfl (lv_at hl 3 rfl) ?_
  obtain ⟨h1, h2, h3, h4, h5, hF⟩ := cpk_some hF
  refine va_copyi (D := D) (f := (sa 1)) (g := (sa 11)) hx hb (hml.trans hl.1.symm) hown (ht _ q200) (ht _ q202) (ht _ q201) (ht _ q8) hK.1 hP hD hS 7 17 0 0 rfl rfl rfl rfl rfl h1 h2 h3 h4 h5 (fun _ _ => rfl) (Nat.le_of_ble_eq_true rfl) (Nat.le_of_ble_eq_true rfl) dX2_take_14 (fun H locs hP hD hS => ?_)
  have hP : va_P D vwCl (WX cA ad si (va_up sa 11 (va_cpy (sa 1) (sa 11) (Int32.toNatClampNeg ((a1 * (60 : Int32)) + a2)) (Int32.toNatClampNeg (0 : Int32)) (Int32.toNatClampNeg a3)))) H := hP
  have hD : va_D A (WX cA ad si (va_up sa 11 (va_cpy (sa 1) (sa 11) (Int32.toNatClampNeg ((a1 * (60 : Int32)) + a2)) (Int32.toNatClampNeg (0 : Int32)) (Int32.toNatClampNeg a3)))) := hD
  have hF := Option.some.inj hF
  subst hF
  exact hE _ _ _ _ hP hD hS dX2_take_17
theorem lk_X3_isNext : LK yX3_isNext cX3_isNext 3 (some .boolean) 2 := ⟨q214, q4, by decide +kernel⟩
def F_X3_isNext (a1 : Int32) (a2 : Int32) (si : tSI) (sa : tSA) : Option Int32 :=
  (if (si 5) ≤ (si 6) then some (0 : Int32) else ld (si 6) 60 ((if ((sa 11) (Int32.toNatClampNeg (si 6))) < a1 then some (0 : Int32) else ld (si 6) 60 ((if a2 < ((sa 11) (Int32.toNatClampNeg (si 6))) then some (0 : Int32) else some (1 : Int32))))))
set_option maxHeartbeats 4000000 in
set_option maxRecDepth 100000 in
theorem c_X3_isNext (l : Launch) (D : va_G) (cA : ClassId) (ad : Nat → Nat) (si : tSI) (sa : tSA) (a1 : Int32) (a2 : Int32) (o : Int32) (hF : F_X3_isNext a1 a2 si sa = some o) : CG l yX3_isNext cX3_isNext 3 (some .boolean) 0 0 D cA [.ref (ad 3), .int a1, .int a2] (WX cA ad si sa) (WX cA ad si sa) (some (.int o)) := by
  refine CG.ofi (by decide) (Nat.le_of_ble_eq_true rfl) ?_
  intro p ee s m args below meth c A Q H0 ls C0 hA hP hD hS hl hE
  have hl : lv_has ls 3 [(0, .ref (ad 3)), (1, .int a1), (2, .int a2)] := hl
  obtain ⟨hx, hb, hml, hown, ht, hK⟩ := id C0
  unfold F_X3_isNext at hF
  refine lv_aload_n hx hb dX3_isNext_0 rfl (lv_at hl 0 rfl) ?_
  refine gX3_2 (v := (si 6)) C0 hP rfl q93 dX3_isNext_1 ?_
  refine lv_aload_n hx hb dX3_isNext_4 rfl (lv_at hl 0 rfl) ?_
  refine gX3_1 (v := (si 5)) C0 hP rfl q92 dX3_isNext_5 ?_
  refine lv_icmp_ge (tgt := 41) hx hb dX3_isNext_8 (by decide) (fun c1 => ?_) (fun c1 => ?_)
  · have hF := (if_pos c1).symm.trans hF
    refine lv_iconst (v := (0 : Int32)) hx hb dX3_isNext_41 (by decide) ?_
    have hF := Option.some.inj hF
    exact hE _ _ _ _ _ hP hD hS dX3_isNext_42 rfl hF
  · have hF := (if_neg c1).symm.trans hF
    refine lv_aload_n hx hb dX3_isNext_11 rfl (lv_at hl 0 rfl) ?_
    refine gX3_0 C0 hP q89 dX3_isNext_12 ?_
    refine lv_aload_n hx hb dX3_isNext_15 rfl (lv_at hl 0 rfl) ?_
    refine gX3_2 (v := (si 6)) C0 hP rfl q93 dX3_isNext_16 ?_
    obtain ⟨hin, hF⟩ := ld_some hF
    refine aXl11 (f := (sa 11)) C0 hP rfl hin dX3_isNext_19 ?_
    refine lv_iload_n hx hb dX3_isNext_20 rfl (lv_at hl 1 rfl) ?_
    refine lv_icmp_lt (tgt := 41) hx hb dX3_isNext_21 (by decide) (fun c2 => ?_) (fun c2 => ?_)
    · have hF := (if_pos c2).symm.trans hF
      refine lv_iconst (v := (0 : Int32)) hx hb dX3_isNext_41 (by decide) ?_
      have hF := Option.some.inj hF
      exact hE _ _ _ _ _ hP hD hS dX3_isNext_42 rfl hF
    · have hF := (if_neg c2).symm.trans hF
      refine lv_aload_n hx hb dX3_isNext_24 rfl (lv_at hl 0 rfl) ?_
      refine gX3_0 C0 hP q89 dX3_isNext_25 ?_
      refine lv_aload_n hx hb dX3_isNext_28 rfl (lv_at hl 0 rfl) ?_
      refine gX3_2 (v := (si 6)) C0 hP rfl q93 dX3_isNext_29 ?_
      obtain ⟨hin, hF⟩ := ld_some hF
      refine aXl11 (f := (sa 11)) C0 hP rfl hin dX3_isNext_32 ?_
      refine lv_iload_n hx hb dX3_isNext_33 rfl (lv_at hl 2 rfl) ?_
      refine lv_icmp_gt (tgt := 41) hx hb dX3_isNext_34 (by decide) (fun c3 => ?_) (fun c3 => ?_)
      · have hF := (if_pos c3).symm.trans hF
        refine lv_iconst (v := (0 : Int32)) hx hb dX3_isNext_41 (by decide) ?_
        have hF := Option.some.inj hF
        exact hE _ _ _ _ _ hP hD hS dX3_isNext_42 rfl hF
      · have hF := (if_neg c3).symm.trans hF
        refine lv_iconst (v := (1 : Int32)) hx hb dX3_isNext_37 (by decide) ?_
        refine lv_goto (tgt := 42) hx hb dX3_isNext_38 (by decide) ?_
        have hF := Option.some.inj hF
        exact hE _ _ _ _ _ hP hD hS dX3_isNext_42 rfl hF
theorem lk_X3_passes : LK yX3_passes cX3_passes 3 (some .boolean) 2 := ⟨q210, q4, by decide +kernel⟩
def F_X3_passes (a1 : Int32) (a2 : Int32) (si : tSI) (sa : tSA) : Option (Int32 × tSI × tSA) :=
  (F_X3_isNext a1 a2 si sa).bind fun r1 => (if r1 = 0 then some ((0 : Int32), si, sa) else some ((1 : Int32), (upd si 6 ((si 6) + (1 : Int32))), sa))
set_option maxHeartbeats 4000000 in
set_option maxRecDepth 100000 in
theorem c_X3_passes (l : Launch) (D : va_G) (cA : ClassId) (ad : Nat → Nat) (si : tSI) (sa : tSA) (a1 : Int32) (a2 : Int32) (o : (Int32 × tSI × tSA)) (hF : F_X3_passes a1 a2 si sa = some o) : CG l yX3_passes cX3_passes 3 (some .boolean) 1 22 D cA [.ref (ad 3), .int a1, .int a2] (WX cA ad si sa) (WX cA ad o.2.1 o.2.2) (some (.int o.1)) := by
  refine CG.ofi (by decide) (Nat.le_of_ble_eq_true rfl) ?_
  intro p ee s m args below meth c A Q H0 ls C0 hA hP hD hS hl hE
  have hl : lv_has ls 3 [(0, .ref (ad 3)), (1, .int a1), (2, .int a2)] := hl
  obtain ⟨hx, hb, hml, hown, ht, hK⟩ := id C0
  unfold F_X3_passes at hF
  refine lv_aload_n hx hb dX3_passes_0 rfl (lv_at hl 0 rfl) ?_
  refine lv_iload_n hx hb dX3_passes_1 rfl (lv_at hl 1 rfl) ?_
  refine lv_iload_n hx hb dX3_passes_2 rfl (lv_at hl 2 rfl) ?_
  obtain ⟨r1, hr1, hF⟩ := bd_some hF
  refine kcV (As := [.int a1, .int a2]) (rest := []) C0 hA hP hD hS (c_X3_isNext l D cA ad si sa a1 a2 r1 hr1) lk_X3_isNext q213 s2 q211 3 3 rfl rfl hl.1 rfl rfl (Nat.le_of_ble_eq_true rfl) ⟨Nat.le_of_ble_eq_true rfl, Nat.le_of_ble_eq_true rfl⟩ ⟨Nat.le_refl _, Nat.le_refl _⟩ dX3_passes_3 (fun H locs hP hD hS => ?_)
  refine W.eq (g2 := F0 m 6 ls [.int r1]) rfl ?_
  refine lv_if_ne (tgt := 11) hx hb dX3_passes_6 (by decide) (fun c2 => ?_) (fun c2 => ?_)
  · have hF := (if_neg c2).symm.trans hF
    refine lv_aload_n hx hb dX3_passes_11 rfl (lv_at hl 0 rfl) ?_
    refine lv_dup hx hb dX3_passes_12 rfl ?_
    refine gX3_2 (v := (si 6)) C0 hP rfl q93 dX3_passes_13 ?_
    refine lv_iconst (v := (1 : Int32)) hx hb dX3_passes_16 (by decide) ?_
    refine lv_iadd hx hb dX3_passes_17 ?_
    refine pX3_2 C0 hP hD hS q93 dX3_passes_18 (fun H locs hP hD hS => ?_)
    refine lv_iconst (v := (1 : Int32)) hx hb dX3_passes_21 (by decide) ?_
    have hF := Option.some.inj hF
    subst hF
    exact hE _ _ _ _ _ hP hD hS dX3_passes_22 rfl rfl
  · have hF := (if_pos c2).symm.trans hF
    refine lv_iconst (v := (0 : Int32)) hx hb dX3_passes_9 (by decide) ?_
    have hF := Option.some.inj hF
    subst hF
    exact hE _ _ _ _ _ hP hD hS dX3_passes_10 rfl rfl
theorem lk_X3_passesKind : LK yX3_passesKind cX3_passesKind 1 (some .boolean) 0 := ⟨q226, q4, by decide +kernel⟩
def F_X3_passesKind (si : tSI) (sa : tSA) : Option (Int32 × tSI × tSA) :=
  (F_X3_passes (112 : Int32) (112 : Int32) si sa).bind fun r1 => (if r1.1 = 0 then (F_X3_passes (115 : Int32) (115 : Int32) r1.2.1 r1.2.2).bind fun r3 => (if r3.1 = 0 then (F_X3_passes (100 : Int32) (100 : Int32) r3.2.1 r3.2.2).bind fun r5 => (if r5.1 = 0 then some ((0 : Int32), r5.2.1, r5.2.2) else some ((1 : Int32), r5.2.1, r5.2.2)) else some ((1 : Int32), r3.2.1, r3.2.2)) else some ((1 : Int32), r1.2.1, r1.2.2))
set_option maxHeartbeats 4000000 in
set_option maxRecDepth 100000 in
theorem c_X3_passesKind (l : Launch) (D : va_G) (cA : ClassId) (ad : Nat → Nat) (si : tSI) (sa : tSA) (o : (Int32 × tSI × tSA)) (hF : F_X3_passesKind si sa = some o) : CG l yX3_passesKind cX3_passesKind 1 (some .boolean) 2 44 D cA [.ref (ad 3)] (WX cA ad si sa) (WX cA ad o.2.1 o.2.2) (some (.int o.1)) := by
  refine CG.ofi (by decide) (Nat.le_of_ble_eq_true rfl) ?_
  intro p ee s m args below meth c A Q H0 ls C0 hA hP hD hS hl hE
  have hl : lv_has ls 1 [(0, .ref (ad 3))] := hl
  obtain ⟨hx, hb, hml, hown, ht, hK⟩ := id C0
  unfold F_X3_passesKind at hF
  refine lv_aload_n hx hb dX3_passesKind_0 rfl (lv_at hl 0 rfl) ?_
  refine lv_bipush (v := (112 : Int32)) hx hb dX3_passesKind_1 (by decide) ?_
  refine lv_bipush (v := (112 : Int32)) hx hb dX3_passesKind_3 (by decide) ?_
  obtain ⟨r1, hr1, hF⟩ := bd_some hF
  refine kcV (As := [.int (112 : Int32), .int (112 : Int32)]) (rest := []) C0 hA hP hD hS (c_X3_passes l D cA ad si sa (112 : Int32) (112 : Int32) r1 hr1) lk_X3_passes q209 s1 q207 3 3 rfl rfl hl.1 rfl rfl (Nat.le_of_ble_eq_true rfl) ⟨Nat.le_of_ble_eq_true rfl, Nat.le_of_ble_eq_true rfl⟩ ⟨Nat.le_refl _, Nat.le_refl _⟩ dX3_passesKind_5 (fun H locs hP hD hS => ?_)
  refine W.eq (g2 := F0 m 8 ls [.int r1.1]) rfl ?_
  refine lv_if_ne (tgt := 33) hx hb dX3_passesKind_8 (by decide) (fun c2 => ?_) (fun c2 => ?_)
  · have hF := (if_neg c2).symm.trans hF
    refine lv_iconst (v := (1 : Int32)) hx hb dX3_passesKind_33 (by decide) ?_
    refine lv_goto (tgt := 38) hx hb dX3_passesKind_34 (by decide) ?_
    have hF := Option.some.inj hF
    subst hF
    exact hE _ _ _ _ _ hP hD hS dX3_passesKind_38 rfl rfl
  · have hF := (if_pos c2).symm.trans hF
    refine lv_aload_n hx hb dX3_passesKind_11 rfl (lv_at hl 0 rfl) ?_
    refine lv_bipush (v := (115 : Int32)) hx hb dX3_passesKind_12 (by decide) ?_
    refine lv_bipush (v := (115 : Int32)) hx hb dX3_passesKind_14 (by decide) ?_
    obtain ⟨r3, hr3, hF⟩ := bd_some hF
    refine kcV (As := [.int (115 : Int32), .int (115 : Int32)]) (rest := []) C0 hA hP hD hS (c_X3_passes l D cA ad r1.2.1 r1.2.2 (115 : Int32) (115 : Int32) r3 hr3) lk_X3_passes q209 s1 q207 3 3 rfl rfl hl.1 rfl rfl (Nat.le_of_ble_eq_true rfl) ⟨Nat.le_of_ble_eq_true rfl, Nat.le_of_ble_eq_true rfl⟩ ⟨Nat.le_refl _, Nat.le_refl _⟩ dX3_passesKind_16 (fun H locs hP hD hS => ?_)
    refine W.eq (g2 := F0 m 19 ls [.int r3.1]) rfl ?_
    refine lv_if_ne (tgt := 33) hx hb dX3_passesKind_19 (by decide) (fun c4 => ?_) (fun c4 => ?_)
    · have hF := (if_neg c4).symm.trans hF
      refine lv_iconst (v := (1 : Int32)) hx hb dX3_passesKind_33 (by decide) ?_
      refine lv_goto (tgt := 38) hx hb dX3_passesKind_34 (by decide) ?_
      have hF := Option.some.inj hF
      subst hF
      exact hE _ _ _ _ _ hP hD hS dX3_passesKind_38 rfl rfl
    · have hF := (if_pos c4).symm.trans hF
      refine lv_aload_n hx hb dX3_passesKind_22 rfl (lv_at hl 0 rfl) ?_
      refine lv_bipush (v := (100 : Int32)) hx hb dX3_passesKind_23 (by decide) ?_
      refine lv_bipush (v := (100 : Int32)) hx hb dX3_passesKind_25 (by decide) ?_
      obtain ⟨r5, hr5, hF⟩ := bd_some hF
      refine kcV (As := [.int (100 : Int32), .int (100 : Int32)]) (rest := []) C0 hA hP hD hS (c_X3_passes l D cA ad r3.2.1 r3.2.2 (100 : Int32) (100 : Int32) r5 hr5) lk_X3_passes q209 s1 q207 3 3 rfl rfl hl.1 rfl rfl (Nat.le_of_ble_eq_true rfl) ⟨Nat.le_of_ble_eq_true rfl, Nat.le_of_ble_eq_true rfl⟩ ⟨Nat.le_refl _, Nat.le_refl _⟩ dX3_passesKind_27 (fun H locs hP hD hS => ?_)
      refine W.eq (g2 := F0 m 30 ls [.int r5.1]) rfl ?_
      refine lv_if_eq (tgt := 37) hx hb dX3_passesKind_30 (by decide) (fun c6 => ?_) (fun c6 => ?_)
      · have hF := (if_pos c6).symm.trans hF
        refine lv_iconst (v := (0 : Int32)) hx hb dX3_passesKind_37 (by decide) ?_
        have hF := Option.some.inj hF
        subst hF
        exact hE _ _ _ _ _ hP hD hS dX3_passesKind_38 rfl rfl
      · have hF := (if_neg c6).symm.trans hF
        refine lv_iconst (v := (1 : Int32)) hx hb dX3_passesKind_33 (by decide) ?_
        refine lv_goto (tgt := 38) hx hb dX3_passesKind_34 (by decide) ?_
        have hF := Option.some.inj hF
        subst hF
        exact hE _ _ _ _ _ hP hD hS dX3_passesKind_38 rfl rfl
theorem lk_X3_passesSort : LK yX3_passesSort cX3_passesSort 1 (some .boolean) 0 := ⟨q222, q4, by decide +kernel⟩
def F_X3_passesSort (si : tSI) (sa : tSA) : Option (Int32 × tSI × tSA) :=
  (F_X3_passes (59 : Int32) (59 : Int32) si sa).bind fun r1 => (if r1.1 = 0 then some ((0 : Int32), r1.2.1, r1.2.2) else (F_X3_passesKind r1.2.1 r1.2.2).bind fun r3 => (if r3.1 = 0 then some ((0 : Int32), r3.2.1, r3.2.2) else (F_X3_passes (48 : Int32) (57 : Int32) r3.2.1 r3.2.2).bind fun r5 => (if r5.1 = 0 then some ((0 : Int32), r5.2.1, r5.2.2) else (F_X3_passes (49 : Int32) (57 : Int32) r5.2.1 r5.2.2).bind fun r7 => (if r7.1 = 0 then some ((0 : Int32), r7.2.1, r7.2.2) else (F_X3_passes (48 : Int32) (53 : Int32) r7.2.1 r7.2.2).bind fun r9 => (if r9.1 = 0 then some ((0 : Int32), r9.2.1, r9.2.2) else some ((1 : Int32), r9.2.1, r9.2.2))))))
set_option maxHeartbeats 4000000 in
set_option maxRecDepth 100000 in
theorem c_X3_passesSort (l : Launch) (D : va_G) (cA : ClassId) (ad : Nat → Nat) (si : tSI) (sa : tSA) (o : (Int32 × tSI × tSA)) (hF : F_X3_passesSort si sa = some o) : CG l yX3_passesSort cX3_passesSort 1 (some .boolean) 3 64 D cA [.ref (ad 3)] (WX cA ad si sa) (WX cA ad o.2.1 o.2.2) (some (.int o.1)) := by
  refine CG.ofi (by decide) (Nat.le_of_ble_eq_true rfl) ?_
  intro p ee s m args below meth c A Q H0 ls C0 hA hP hD hS hl hE
  have hl : lv_has ls 1 [(0, .ref (ad 3))] := hl
  obtain ⟨hx, hb, hml, hown, ht, hK⟩ := id C0
  unfold F_X3_passesSort at hF
  refine lv_aload_n hx hb dX3_passesSort_0 rfl (lv_at hl 0 rfl) ?_
  refine lv_bipush (v := (59 : Int32)) hx hb dX3_passesSort_1 (by decide) ?_
  refine lv_bipush (v := (59 : Int32)) hx hb dX3_passesSort_3 (by decide) ?_
  obtain ⟨r1, hr1, hF⟩ := bd_some hF
  refine kcV (As := [.int (59 : Int32), .int (59 : Int32)]) (rest := []) C0 hA hP hD hS (c_X3_passes l D cA ad si sa (59 : Int32) (59 : Int32) r1 hr1) lk_X3_passes q209 s1 q207 3 3 rfl rfl hl.1 rfl rfl (Nat.le_of_ble_eq_true rfl) ⟨Nat.le_of_ble_eq_true rfl, Nat.le_of_ble_eq_true rfl⟩ ⟨Nat.le_refl _, Nat.le_refl _⟩ dX3_passesSort_5 (fun H locs hP hD hS => ?_)
  refine W.eq (g2 := F0 m 8 ls [.int r1.1]) rfl ?_
  refine lv_if_eq (tgt := 55) hx hb dX3_passesSort_8 (by decide) (fun c2 => ?_) (fun c2 => ?_)
  · have hF := (if_pos c2).symm.trans hF
    refine lv_iconst (v := (0 : Int32)) hx hb dX3_passesSort_55 (by decide) ?_
    have hF := Option.some.inj hF
    subst hF
    exact hE _ _ _ _ _ hP hD hS dX3_passesSort_56 rfl rfl
  · have hF := (if_neg c2).symm.trans hF
    refine lv_aload_n hx hb dX3_passesSort_11 rfl (lv_at hl 0 rfl) ?_
    obtain ⟨r3, hr3, hF⟩ := bd_some hF
    refine kcV (As := []) (rest := []) C0 hA hP hD hS (c_X3_passesKind l D cA ad r1.2.1 r1.2.2 r3 hr3) lk_X3_passesKind q225 s5 q223 3 3 rfl rfl hl.1 rfl rfl (Nat.le_of_ble_eq_true rfl) ⟨Nat.le_of_ble_eq_true rfl, Nat.le_of_ble_eq_true rfl⟩ ⟨Nat.le_refl _, Nat.le_refl _⟩ dX3_passesSort_12 (fun H locs hP hD hS => ?_)
    refine W.eq (g2 := F0 m 15 ls [.int r3.1]) rfl ?_
    refine lv_if_eq (tgt := 55) hx hb dX3_passesSort_15 (by decide) (fun c4 => ?_) (fun c4 => ?_)
    · have hF := (if_pos c4).symm.trans hF
      refine lv_iconst (v := (0 : Int32)) hx hb dX3_passesSort_55 (by decide) ?_
      have hF := Option.some.inj hF
      subst hF
      exact hE _ _ _ _ _ hP hD hS dX3_passesSort_56 rfl rfl
    · have hF := (if_neg c4).symm.trans hF
      refine lv_aload_n hx hb dX3_passesSort_18 rfl (lv_at hl 0 rfl) ?_
      refine lv_bipush (v := (48 : Int32)) hx hb dX3_passesSort_19 (by decide) ?_
      refine lv_bipush (v := (57 : Int32)) hx hb dX3_passesSort_21 (by decide) ?_
      obtain ⟨r5, hr5, hF⟩ := bd_some hF
      refine kcV (As := [.int (48 : Int32), .int (57 : Int32)]) (rest := []) C0 hA hP hD hS (c_X3_passes l D cA ad r3.2.1 r3.2.2 (48 : Int32) (57 : Int32) r5 hr5) lk_X3_passes q209 s1 q207 3 3 rfl rfl hl.1 rfl rfl (Nat.le_of_ble_eq_true rfl) ⟨Nat.le_of_ble_eq_true rfl, Nat.le_of_ble_eq_true rfl⟩ ⟨Nat.le_refl _, Nat.le_refl _⟩ dX3_passesSort_23 (fun H locs hP hD hS => ?_)
      refine W.eq (g2 := F0 m 26 ls [.int r5.1]) rfl ?_
      refine lv_if_eq (tgt := 55) hx hb dX3_passesSort_26 (by decide) (fun c6 => ?_) (fun c6 => ?_)
      · have hF := (if_pos c6).symm.trans hF
        refine lv_iconst (v := (0 : Int32)) hx hb dX3_passesSort_55 (by decide) ?_
        have hF := Option.some.inj hF
        subst hF
        exact hE _ _ _ _ _ hP hD hS dX3_passesSort_56 rfl rfl
      · have hF := (if_neg c6).symm.trans hF
        refine lv_aload_n hx hb dX3_passesSort_29 rfl (lv_at hl 0 rfl) ?_
        refine lv_bipush (v := (49 : Int32)) hx hb dX3_passesSort_30 (by decide) ?_
        refine lv_bipush (v := (57 : Int32)) hx hb dX3_passesSort_32 (by decide) ?_
        obtain ⟨r7, hr7, hF⟩ := bd_some hF
        refine kcV (As := [.int (49 : Int32), .int (57 : Int32)]) (rest := []) C0 hA hP hD hS (c_X3_passes l D cA ad r5.2.1 r5.2.2 (49 : Int32) (57 : Int32) r7 hr7) lk_X3_passes q209 s1 q207 3 3 rfl rfl hl.1 rfl rfl (Nat.le_of_ble_eq_true rfl) ⟨Nat.le_of_ble_eq_true rfl, Nat.le_of_ble_eq_true rfl⟩ ⟨Nat.le_refl _, Nat.le_refl _⟩ dX3_passesSort_34 (fun H locs hP hD hS => ?_)
        refine W.eq (g2 := F0 m 37 ls [.int r7.1]) rfl ?_
        refine lv_if_eq (tgt := 55) hx hb dX3_passesSort_37 (by decide) (fun c8 => ?_) (fun c8 => ?_)
        · have hF := (if_pos c8).symm.trans hF
          refine lv_iconst (v := (0 : Int32)) hx hb dX3_passesSort_55 (by decide) ?_
          have hF := Option.some.inj hF
          subst hF
          exact hE _ _ _ _ _ hP hD hS dX3_passesSort_56 rfl rfl
        · have hF := (if_neg c8).symm.trans hF
          refine lv_aload_n hx hb dX3_passesSort_40 rfl (lv_at hl 0 rfl) ?_
          refine lv_bipush (v := (48 : Int32)) hx hb dX3_passesSort_41 (by decide) ?_
          refine lv_bipush (v := (53 : Int32)) hx hb dX3_passesSort_43 (by decide) ?_
          obtain ⟨r9, hr9, hF⟩ := bd_some hF
          refine kcV (As := [.int (48 : Int32), .int (53 : Int32)]) (rest := []) C0 hA hP hD hS (c_X3_passes l D cA ad r7.2.1 r7.2.2 (48 : Int32) (53 : Int32) r9 hr9) lk_X3_passes q209 s1 q207 3 3 rfl rfl hl.1 rfl rfl (Nat.le_of_ble_eq_true rfl) ⟨Nat.le_of_ble_eq_true rfl, Nat.le_of_ble_eq_true rfl⟩ ⟨Nat.le_refl _, Nat.le_refl _⟩ dX3_passesSort_45 (fun H locs hP hD hS => ?_)
          refine W.eq (g2 := F0 m 48 ls [.int r9.1]) rfl ?_
          refine lv_if_eq (tgt := 55) hx hb dX3_passesSort_48 (by decide) (fun c10 => ?_) (fun c10 => ?_)
          · have hF := (if_pos c10).symm.trans hF
            refine lv_iconst (v := (0 : Int32)) hx hb dX3_passesSort_55 (by decide) ?_
            have hF := Option.some.inj hF
            subst hF
            exact hE _ _ _ _ _ hP hD hS dX3_passesSort_56 rfl rfl
          · have hF := (if_neg c10).symm.trans hF
            refine lv_iconst (v := (1 : Int32)) hx hb dX3_passesSort_51 (by decide) ?_
            refine lv_goto (tgt := 56) hx hb dX3_passesSort_52 (by decide) ?_
            have hF := Option.some.inj hF
            subst hF
            exact hE _ _ _ _ _ hP hD hS dX3_passesSort_56 rfl rfl
theorem lk_X3_passesSorts : LK yX3_passesSorts cX3_passesSorts 1 (some .boolean) 0 := ⟨q218, q4, by decide +kernel⟩
def S_X3_passesSorts_0 (rec1 : ((tSI × tSA) → Option ((Int32 × tSI × tSA) ⊕ (tSI × tSA)))) (t1 : (tSI × tSA)) : Option ((Int32 × tSI × tSA) ⊕ (tSI × tSA)) :=
  (if (6 : Int32) ≤ (t1.1 7) then some (.inr (t1.1, t1.2)) else (F_X3_isNext (59 : Int32) (59 : Int32) t1.1 t1.2).bind fun r5 => (if r5 = 0 then some (.inr (t1.1, t1.2)) else (F_X3_passesSort t1.1 t1.2).bind fun r7 => (if r7.1 = 0 then some (.inl ((0 : Int32), r7.2.1, r7.2.2)) else rec1 ((upd r7.2.1 7 ((r7.2.1 7) + (1 : Int32))), r7.2.2))))
def F_X3_passesSorts (si : tSI) (sa : tSA) : Option (Int32 × tSI × tSA) :=
  (lp S_X3_passesSorts_0 100 (si, sa)).bind (Sum.elim some fun (e2 : (tSI × tSA)) => (if (e2.1 7) < (2 : Int32) then some ((0 : Int32), e2.1, e2.2) else some ((1 : Int32), e2.1, e2.2)))
set_option maxHeartbeats 4000000 in
set_option maxRecDepth 100000 in
theorem c_X3_passesSorts (l : Launch) (D : va_G) (cA : ClassId) (ad : Nat → Nat) (si : tSI) (sa : tSA) (o : (Int32 × tSI × tSA)) (hF : F_X3_passesSorts si sa = some o) : CG l yX3_passesSorts cX3_passesSorts 1 (some .boolean) 4 84 D cA [.ref (ad 3)] (WX cA ad si sa) (WX cA ad o.2.1 o.2.2) (some (.int o.1)) := by
  refine CG.ofi (by decide) (Nat.le_of_ble_eq_true rfl) ?_
  intro p ee s m args below meth c A Q H0 ls C0 hA hP hD hS hl hE
  have hl : lv_has ls 1 [(0, .ref (ad 3))] := hl
  obtain ⟨hx, hb, hml, hown, ht, hK⟩ := id C0
  unfold F_X3_passesSorts at hF
  obtain ⟨ox1, hL1, hI1, hX1⟩ := bds_all hF
  have JE1 : ∀ (e2 : (tSI × tSA)), ox1 = .inr e2 → ∀ (H : Heap) (locs : List Loc) (ls : Array Slot), va_P D vwCl (WX cA ad e2.1 e2.2) H → va_D A (WX cA ad e2.1 e2.2) → va_S A H0 H locs → lv_has ls 1 [(0, .ref (ad 3))] → W p l ee (rmx 4 84) s m args below meth c H locs 0 0 Q (F0 m 42 ls []) := by
    intro e2 he H locs ls hP hD hS hl
    have hF := hX1 _ he
    refine lv_aload_n hx hb dX3_passesSorts_42 rfl (lv_at hl 0 rfl) ?_
    refine gX3_3 (v := (e2.1 7)) C0 hP rfl q94 dX3_passesSorts_43 ?_
    refine lv_iconst (v := (2 : Int32)) hx hb dX3_passesSorts_46 (by decide) ?_
    refine lv_icmp_lt (tgt := 54) hx hb dX3_passesSorts_47 (by decide) (fun c3 => ?_) (fun c3 => ?_)
    · have hF := (if_pos c3).symm.trans hF
      refine lv_iconst (v := (0 : Int32)) hx hb dX3_passesSorts_54 (by decide) ?_
      have hF := Option.some.inj hF
      subst hF
      exact hE _ _ _ _ _ hP hD hS dX3_passesSorts_55 rfl rfl
    · have hF := (if_neg c3).symm.trans hF
      refine lv_iconst (v := (1 : Int32)) hx hb dX3_passesSorts_50 (by decide) ?_
      refine lv_goto (tgt := 55) hx hb dX3_passesSorts_51 (by decide) ?_
      have hF := Option.some.inj hF
      subst hF
      exact hE _ _ _ _ _ hP hD hS dX3_passesSorts_55 rfl rfl
  have LP1 : ∀ (k1 : Nat) (t1 : (tSI × tSA)), lp S_X3_passesSorts_0 k1 t1 = some ox1 → ∀ (H : Heap) (locs : List Loc) (ls : Array Slot), va_P D vwCl (WX cA ad t1.1 t1.2) H → va_D A (WX cA ad t1.1 t1.2) → va_S A H0 H locs → lv_has ls 1 [(0, .ref (ad 3))] → W p l ee (rmx 4 84) s m args below meth c H locs 0 0 Q (F0 m 0 ls []) := by
    intro k1
    induction k1 with
    | zero => intro t1 hF; exact (lp_no hF).elim
    | succ k1 ih1 =>
      intro t1 hF H locs ls hP hD hS hl
      change S_X3_passesSorts_0 (lp S_X3_passesSorts_0 k1) t1 = some ox1 at hF
      unfold S_X3_passesSorts_0 at hF
      refine lv_aload_n hx hb dX3_passesSorts_0 rfl (lv_at hl 0 rfl) ?_
      refine gX3_3 (v := (t1.1 7)) C0 hP rfl q94 dX3_passesSorts_1 ?_
      refine lv_bipush (v := (6 : Int32)) hx hb dX3_passesSorts_4 (by decide) ?_
      refine lv_icmp_ge (tgt := 42) hx hb dX3_passesSorts_6 (by decide) (fun c4 => ?_) (fun c4 => ?_)
      · have hF := (if_pos c4).symm.trans hF
        exact JE1 _ (Option.some.inj hF).symm _ _ _ hP hD hS (lv_sub hl [0] rfl)
      · have hF := (if_neg c4).symm.trans hF
        refine lv_aload_n hx hb dX3_passesSorts_9 rfl (lv_at hl 0 rfl) ?_
        refine lv_bipush (v := (59 : Int32)) hx hb dX3_passesSorts_10 (by decide) ?_
        refine lv_bipush (v := (59 : Int32)) hx hb dX3_passesSorts_12 (by decide) ?_
        obtain ⟨r5, hr5, hF⟩ := bd_some hF
        refine kcV (As := [.int (59 : Int32), .int (59 : Int32)]) (rest := []) C0 hA hP hD hS (c_X3_isNext l D cA ad t1.1 t1.2 (59 : Int32) (59 : Int32) r5 hr5) lk_X3_isNext q213 s2 q211 3 3 rfl rfl hl.1 rfl rfl (Nat.le_of_ble_eq_true rfl) ⟨Nat.le_of_ble_eq_true rfl, Nat.le_of_ble_eq_true rfl⟩ ⟨Nat.le_refl _, Nat.le_refl _⟩ dX3_passesSorts_14 (fun H locs hP hD hS => ?_)
        refine W.eq (g2 := F0 m 17 ls [.int r5]) rfl ?_
        refine lv_if_eq (tgt := 42) hx hb dX3_passesSorts_17 (by decide) (fun c6 => ?_) (fun c6 => ?_)
        · have hF := (if_pos c6).symm.trans hF
          exact JE1 _ (Option.some.inj hF).symm _ _ _ hP hD hS (lv_sub hl [0] rfl)
        · have hF := (if_neg c6).symm.trans hF
          refine lv_aload_n hx hb dX3_passesSorts_20 rfl (lv_at hl 0 rfl) ?_
          obtain ⟨r7, hr7, hF⟩ := bd_some hF
          refine kcV (As := []) (rest := []) C0 hA hP hD hS (c_X3_passesSort l D cA ad t1.1 t1.2 r7 hr7) lk_X3_passesSort q221 s4 q219 3 3 rfl rfl hl.1 rfl rfl (Nat.le_of_ble_eq_true rfl) ⟨Nat.le_of_ble_eq_true rfl, Nat.le_of_ble_eq_true rfl⟩ ⟨Nat.le_refl _, Nat.le_refl _⟩ dX3_passesSorts_21 (fun H locs hP hD hS => ?_)
          refine W.eq (g2 := F0 m 24 ls [.int r7.1]) rfl ?_
          refine lv_if_ne (tgt := 29) hx hb dX3_passesSorts_24 (by decide) (fun c8 => ?_) (fun c8 => ?_)
          · have hF := (if_neg c8).symm.trans hF
            refine lv_aload_n hx hb dX3_passesSorts_29 rfl (lv_at hl 0 rfl) ?_
            refine lv_dup hx hb dX3_passesSorts_30 rfl ?_
            refine gX3_3 (v := (r7.2.1 7)) C0 hP rfl q94 dX3_passesSorts_31 ?_
            refine lv_iconst (v := (1 : Int32)) hx hb dX3_passesSorts_34 (by decide) ?_
            refine lv_iadd hx hb dX3_passesSorts_35 ?_
            refine pX3_3 C0 hP hD hS q94 dX3_passesSorts_36 (fun H locs hP hD hS => ?_)
            refine lv_goto (tgt := 0) hx hb dX3_passesSorts_39 (by decide) ?_
            exact ih1 _ hF _ _ _ hP hD hS (lv_sub hl [0] rfl)
          · have hF := (if_pos c8).symm.trans hF
            refine lv_iconst (v := (0 : Int32)) hx hb dX3_passesSorts_27 (by decide) ?_
            have hF := Option.some.inj hF
            subst hF
            have hF := hI1 _ rfl
            subst hF
            exact hE _ _ _ _ _ hP hD hS dX3_passesSorts_28 rfl rfl
  exact LP1 _ _ hL1 _ _ _ hP hD hS (lv_sub hl [0] rfl)
theorem lk_X3_passesSign : LK yX3_passesSign cX3_passesSign 2 (some .boolean) 0 := ⟨q234, q4, by decide +kernel⟩
def F_X3_passesSign (si : tSI) (sa : tSA) : Option (Int32 × tSI × tSA) :=
  (F_X3_passes (47 : Int32) (47 : Int32) si sa).bind fun r1 => (if r1.1 = 0 then some ((0 : Int32), r1.2.1, r1.2.2) else (F_X3_isNext (54 : Int32) (54 : Int32) r1.2.1 r1.2.2).bind fun r3 => ((if r3 = 0 then some (57 : Int32) else some (51 : Int32))).bind fun (x4 : Int32) => (F_X3_passes (48 : Int32) (54 : Int32) r1.2.1 r1.2.2).bind fun r5 => (if r5.1 = 0 then some ((0 : Int32), r5.2.1, r5.2.2) else (F_X3_passes (48 : Int32) x4 r5.2.1 r5.2.2).bind fun r7 => (if r7.1 = 0 then some ((0 : Int32), r7.2.1, r7.2.2) else some ((1 : Int32), r7.2.1, r7.2.2))))
set_option maxHeartbeats 4000000 in
set_option maxRecDepth 100000 in
theorem c_X3_passesSign (l : Launch) (D : va_G) (cA : ClassId) (ad : Nat → Nat) (si : tSI) (sa : tSA) (o : (Int32 × tSI × tSA)) (hF : F_X3_passesSign si sa = some o) : CG l yX3_passesSign cX3_passesSign 2 (some .boolean) 2 44 D cA [.ref (ad 3)] (WX cA ad si sa) (WX cA ad o.2.1 o.2.2) (some (.int o.1)) := by
  refine CG.ofi (by decide) (Nat.le_of_ble_eq_true rfl) ?_
  intro p ee s m args below meth c A Q H0 ls C0 hA hP hD hS hl hE
  have hl : lv_has ls 2 [(0, .ref (ad 3))] := hl
  obtain ⟨hx, hb, hml, hown, ht, hK⟩ := id C0
  unfold F_X3_passesSign at hF
  refine lv_aload_n hx hb dX3_passesSign_0 rfl (lv_at hl 0 rfl) ?_
  refine lv_bipush (v := (47 : Int32)) hx hb dX3_passesSign_1 (by decide) ?_
  refine lv_bipush (v := (47 : Int32)) hx hb dX3_passesSign_3 (by decide) ?_
  obtain ⟨r1, hr1, hF⟩ := bd_some hF
  refine kcV (As := [.int (47 : Int32), .int (47 : Int32)]) (rest := []) C0 hA hP hD hS (c_X3_passes l D cA ad si sa (47 : Int32) (47 : Int32) r1 hr1) lk_X3_passes q209 s1 q207 3 3 rfl rfl hl.1 rfl rfl (Nat.le_of_ble_eq_true rfl) ⟨Nat.le_of_ble_eq_true rfl, Nat.le_of_ble_eq_true rfl⟩ ⟨Nat.le_refl _, Nat.le_refl _⟩ dX3_passesSign_5 (fun H locs hP hD hS => ?_)
  refine W.eq (g2 := F0 m 8 ls [.int r1.1]) rfl ?_
  refine lv_if_ne (tgt := 13) hx hb dX3_passesSign_8 (by decide) (fun c2 => ?_) (fun c2 => ?_)
  · have hF := (if_neg c2).symm.trans hF
    refine lv_aload_n hx hb dX3_passesSign_13 rfl (lv_at hl 0 rfl) ?_
    refine lv_bipush (v := (54 : Int32)) hx hb dX3_passesSign_14 (by decide) ?_
    refine lv_bipush (v := (54 : Int32)) hx hb dX3_passesSign_16 (by decide) ?_
    obtain ⟨r3, hr3, hF⟩ := bd_some hF
    refine kcV (As := [.int (54 : Int32), .int (54 : Int32)]) (rest := []) C0 hA hP hD hS (c_X3_isNext l D cA ad r1.2.1 r1.2.2 (54 : Int32) (54 : Int32) r3 hr3) lk_X3_isNext q213 s2 q211 3 3 rfl rfl hl.1 rfl rfl (Nat.le_of_ble_eq_true rfl) ⟨Nat.le_of_ble_eq_true rfl, Nat.le_of_ble_eq_true rfl⟩ ⟨Nat.le_refl _, Nat.le_refl _⟩ dX3_passesSign_18 (fun H locs hP hD hS => ?_)
    refine W.eq (g2 := F0 m 21 ls [.int r3]) rfl ?_
    obtain ⟨x4, hRx4, hF⟩ := bd_some hF
    have Jx4 : ∀ (H : Heap) (locs : List Loc) (ls : Array Slot), va_P D vwCl (WX cA ad r1.2.1 r1.2.2) H → va_D A (WX cA ad r1.2.1 r1.2.2) → va_S A H0 H locs → lv_has ls 2 [(0, .ref (ad 3))] → W p l ee (rmx 2 44) s m args below meth c H locs 0 0 Q (F0 m 31 ls [.int x4]) := by
      intro H locs ls hP hD hS hl
      refine lv_istore_n (lv' := [(1, .int x4), (0, .ref (ad 3))]) hx hb dX3_passesSign_31 rfl hl (by decide) rfl (fun ls hl => ?_)
      refine lv_aload_n hx hb dX3_passesSign_32 rfl (lv_at hl 1 rfl) ?_
      refine lv_bipush (v := (48 : Int32)) hx hb dX3_passesSign_33 (by decide) ?_
      refine lv_bipush (v := (54 : Int32)) hx hb dX3_passesSign_35 (by decide) ?_
      obtain ⟨r5, hr5, hF⟩ := bd_some hF
      refine kcV (As := [.int (48 : Int32), .int (54 : Int32)]) (rest := []) C0 hA hP hD hS (c_X3_passes l D cA ad r1.2.1 r1.2.2 (48 : Int32) (54 : Int32) r5 hr5) lk_X3_passes q209 s1 q207 3 3 rfl rfl hl.1 rfl rfl (Nat.le_of_ble_eq_true rfl) ⟨Nat.le_of_ble_eq_true rfl, Nat.le_of_ble_eq_true rfl⟩ ⟨Nat.le_refl _, Nat.le_refl _⟩ dX3_passesSign_37 (fun H locs hP hD hS => ?_)
      refine W.eq (g2 := F0 m 40 ls [.int r5.1]) rfl ?_
      refine lv_if_eq (tgt := 57) hx hb dX3_passesSign_40 (by decide) (fun c6 => ?_) (fun c6 => ?_)
      · have hF := (if_pos c6).symm.trans hF
        refine lv_iconst (v := (0 : Int32)) hx hb dX3_passesSign_57 (by decide) ?_
        have hF := Option.some.inj hF
        subst hF
        exact hE _ _ _ _ _ hP hD hS dX3_passesSign_58 rfl rfl
      · have hF := (if_neg c6).symm.trans hF
        refine lv_aload_n hx hb dX3_passesSign_43 rfl (lv_at hl 1 rfl) ?_
        refine lv_bipush (v := (48 : Int32)) hx hb dX3_passesSign_44 (by decide) ?_
        refine lv_iload_n hx hb dX3_passesSign_46 rfl (lv_at hl 0 rfl) ?_
        obtain ⟨r7, hr7, hF⟩ := bd_some hF
        refine kcV (As := [.int (48 : Int32), .int x4]) (rest := []) C0 hA hP hD hS (c_X3_passes l D cA ad r5.2.1 r5.2.2 (48 : Int32) x4 r7 hr7) lk_X3_passes q209 s1 q207 3 3 rfl rfl hl.1 rfl rfl (Nat.le_of_ble_eq_true rfl) ⟨Nat.le_of_ble_eq_true rfl, Nat.le_of_ble_eq_true rfl⟩ ⟨Nat.le_refl _, Nat.le_refl _⟩ dX3_passesSign_47 (fun H locs hP hD hS => ?_)
        refine W.eq (g2 := F0 m 50 ls [.int r7.1]) rfl ?_
        refine lv_if_eq (tgt := 57) hx hb dX3_passesSign_50 (by decide) (fun c8 => ?_) (fun c8 => ?_)
        · have hF := (if_pos c8).symm.trans hF
          refine lv_iconst (v := (0 : Int32)) hx hb dX3_passesSign_57 (by decide) ?_
          have hF := Option.some.inj hF
          subst hF
          exact hE _ _ _ _ _ hP hD hS dX3_passesSign_58 rfl rfl
        · have hF := (if_neg c8).symm.trans hF
          refine lv_iconst (v := (1 : Int32)) hx hb dX3_passesSign_53 (by decide) ?_
          refine lv_goto (tgt := 58) hx hb dX3_passesSign_54 (by decide) ?_
          have hF := Option.some.inj hF
          subst hF
          exact hE _ _ _ _ _ hP hD hS dX3_passesSign_58 rfl rfl
    have hF := hRx4
    refine lv_if_eq (tgt := 29) hx hb dX3_passesSign_21 (by decide) (fun c9 => ?_) (fun c9 => ?_)
    · have hF := (if_pos c9).symm.trans hF
      refine lv_bipush (v := (57 : Int32)) hx hb dX3_passesSign_29 (by decide) ?_
      have hF := Option.some.inj hF
      subst hF
      exact Jx4 _ _ _ hP hD hS (lv_sub hl [0] rfl)
    · have hF := (if_neg c9).symm.trans hF
      refine lv_bipush (v := (51 : Int32)) hx hb dX3_passesSign_24 (by decide) ?_
      refine lv_goto (tgt := 31) hx hb dX3_passesSign_26 (by decide) ?_
      have hF := Option.some.inj hF
      subst hF
      exact Jx4 _ _ _ hP hD hS (lv_sub hl [0] rfl)
  · have hF := (if_pos c2).symm.trans hF
    refine lv_iconst (v := (0 : Int32)) hx hb dX3_passesSign_11 (by decide) ?_
    have hF := Option.some.inj hF
    subst hF
    exact hE _ _ _ _ _ hP hD hS dX3_passesSign_12 rfl rfl
theorem lk_X3_passesSigns : LK yX3_passesSigns cX3_passesSigns 1 (some .boolean) 0 := ⟨q230, q4, by decide +kernel⟩
def S_X3_passesSigns_0 (rec1 : ((tSI × tSA) → Option ((Int32 × tSI × tSA) ⊕ (tSI × tSA)))) (t1 : (tSI × tSA)) : Option ((Int32 × tSI × tSA) ⊕ (tSI × tSA)) :=
  (if (5 : Int32) ≤ (t1.1 8) then some (.inr (t1.1, t1.2)) else (F_X3_isNext (47 : Int32) (47 : Int32) t1.1 t1.2).bind fun r5 => (if r5 = 0 then some (.inr (t1.1, t1.2)) else (F_X3_passesSign t1.1 t1.2).bind fun r7 => (if r7.1 = 0 then some (.inl ((0 : Int32), r7.2.1, r7.2.2)) else rec1 ((upd r7.2.1 8 ((r7.2.1 8) + (1 : Int32))), r7.2.2))))
def F_X3_passesSigns (si : tSI) (sa : tSA) : Option (Int32 × tSI × tSA) :=
  (lp S_X3_passesSigns_0 100 (si, sa)).bind (Sum.elim some fun (e2 : (tSI × tSA)) => (if (e2.1 8) < (1 : Int32) then some ((0 : Int32), e2.1, e2.2) else some ((1 : Int32), e2.1, e2.2)))
set_option maxHeartbeats 4000000 in
set_option maxRecDepth 100000 in
theorem c_X3_passesSigns (l : Launch) (D : va_G) (cA : ClassId) (ad : Nat → Nat) (si : tSI) (sa : tSA) (o : (Int32 × tSI × tSA)) (hF : F_X3_passesSigns si sa = some o) : CG l yX3_passesSigns cX3_passesSigns 1 (some .boolean) 3 65 D cA [.ref (ad 3)] (WX cA ad si sa) (WX cA ad o.2.1 o.2.2) (some (.int o.1)) := by
  refine CG.ofi (by decide) (Nat.le_of_ble_eq_true rfl) ?_
  intro p ee s m args below meth c A Q H0 ls C0 hA hP hD hS hl hE
  have hl : lv_has ls 1 [(0, .ref (ad 3))] := hl
  obtain ⟨hx, hb, hml, hown, ht, hK⟩ := id C0
  unfold F_X3_passesSigns at hF
  obtain ⟨ox1, hL1, hI1, hX1⟩ := bds_all hF
  have JE1 : ∀ (e2 : (tSI × tSA)), ox1 = .inr e2 → ∀ (H : Heap) (locs : List Loc) (ls : Array Slot), va_P D vwCl (WX cA ad e2.1 e2.2) H → va_D A (WX cA ad e2.1 e2.2) → va_S A H0 H locs → lv_has ls 1 [(0, .ref (ad 3))] → W p l ee (rmx 3 65) s m args below meth c H locs 0 0 Q (F0 m 41 ls []) := by
    intro e2 he H locs ls hP hD hS hl
    have hF := hX1 _ he
    refine lv_aload_n hx hb dX3_passesSigns_41 rfl (lv_at hl 0 rfl) ?_
    refine gX3_4 (v := (e2.1 8)) C0 hP rfl q96 dX3_passesSigns_42 ?_
    refine lv_iconst (v := (1 : Int32)) hx hb dX3_passesSigns_45 (by decide) ?_
    refine lv_icmp_lt (tgt := 53) hx hb dX3_passesSigns_46 (by decide) (fun c3 => ?_) (fun c3 => ?_)
    · have hF := (if_pos c3).symm.trans hF
      refine lv_iconst (v := (0 : Int32)) hx hb dX3_passesSigns_53 (by decide) ?_
      have hF := Option.some.inj hF
      subst hF
      exact hE _ _ _ _ _ hP hD hS dX3_passesSigns_54 rfl rfl
    · have hF := (if_neg c3).symm.trans hF
      refine lv_iconst (v := (1 : Int32)) hx hb dX3_passesSigns_49 (by decide) ?_
      refine lv_goto (tgt := 54) hx hb dX3_passesSigns_50 (by decide) ?_
      have hF := Option.some.inj hF
      subst hF
      exact hE _ _ _ _ _ hP hD hS dX3_passesSigns_54 rfl rfl
  have LP1 : ∀ (k1 : Nat) (t1 : (tSI × tSA)), lp S_X3_passesSigns_0 k1 t1 = some ox1 → ∀ (H : Heap) (locs : List Loc) (ls : Array Slot), va_P D vwCl (WX cA ad t1.1 t1.2) H → va_D A (WX cA ad t1.1 t1.2) → va_S A H0 H locs → lv_has ls 1 [(0, .ref (ad 3))] → W p l ee (rmx 3 65) s m args below meth c H locs 0 0 Q (F0 m 0 ls []) := by
    intro k1
    induction k1 with
    | zero => intro t1 hF; exact (lp_no hF).elim
    | succ k1 ih1 =>
      intro t1 hF H locs ls hP hD hS hl
      change S_X3_passesSigns_0 (lp S_X3_passesSigns_0 k1) t1 = some ox1 at hF
      unfold S_X3_passesSigns_0 at hF
      refine lv_aload_n hx hb dX3_passesSigns_0 rfl (lv_at hl 0 rfl) ?_
      refine gX3_4 (v := (t1.1 8)) C0 hP rfl q96 dX3_passesSigns_1 ?_
      refine lv_iconst (v := (5 : Int32)) hx hb dX3_passesSigns_4 (by decide) ?_
      refine lv_icmp_ge (tgt := 41) hx hb dX3_passesSigns_5 (by decide) (fun c4 => ?_) (fun c4 => ?_)
      · have hF := (if_pos c4).symm.trans hF
        exact JE1 _ (Option.some.inj hF).symm _ _ _ hP hD hS (lv_sub hl [0] rfl)
      · have hF := (if_neg c4).symm.trans hF
        refine lv_aload_n hx hb dX3_passesSigns_8 rfl (lv_at hl 0 rfl) ?_
        refine lv_bipush (v := (47 : Int32)) hx hb dX3_passesSigns_9 (by decide) ?_
        refine lv_bipush (v := (47 : Int32)) hx hb dX3_passesSigns_11 (by decide) ?_
        obtain ⟨r5, hr5, hF⟩ := bd_some hF
        refine kcV (As := [.int (47 : Int32), .int (47 : Int32)]) (rest := []) C0 hA hP hD hS (c_X3_isNext l D cA ad t1.1 t1.2 (47 : Int32) (47 : Int32) r5 hr5) lk_X3_isNext q213 s2 q211 3 3 rfl rfl hl.1 rfl rfl (Nat.le_of_ble_eq_true rfl) ⟨Nat.le_of_ble_eq_true rfl, Nat.le_of_ble_eq_true rfl⟩ ⟨Nat.le_refl _, Nat.le_refl _⟩ dX3_passesSigns_13 (fun H locs hP hD hS => ?_)
        refine W.eq (g2 := F0 m 16 ls [.int r5]) rfl ?_
        refine lv_if_eq (tgt := 41) hx hb dX3_passesSigns_16 (by decide) (fun c6 => ?_) (fun c6 => ?_)
        · have hF := (if_pos c6).symm.trans hF
          exact JE1 _ (Option.some.inj hF).symm _ _ _ hP hD hS (lv_sub hl [0] rfl)
        · have hF := (if_neg c6).symm.trans hF
          refine lv_aload_n hx hb dX3_passesSigns_19 rfl (lv_at hl 0 rfl) ?_
          obtain ⟨r7, hr7, hF⟩ := bd_some hF
          refine kcV (As := []) (rest := []) C0 hA hP hD hS (c_X3_passesSign l D cA ad t1.1 t1.2 r7 hr7) lk_X3_passesSign q233 s7 q231 3 3 rfl rfl hl.1 rfl rfl (Nat.le_of_ble_eq_true rfl) ⟨Nat.le_of_ble_eq_true rfl, Nat.le_of_ble_eq_true rfl⟩ ⟨Nat.le_refl _, Nat.le_refl _⟩ dX3_passesSigns_20 (fun H locs hP hD hS => ?_)
          refine W.eq (g2 := F0 m 23 ls [.int r7.1]) rfl ?_
          refine lv_if_ne (tgt := 28) hx hb dX3_passesSigns_23 (by decide) (fun c8 => ?_) (fun c8 => ?_)
          · have hF := (if_neg c8).symm.trans hF
            refine lv_aload_n hx hb dX3_passesSigns_28 rfl (lv_at hl 0 rfl) ?_
            refine lv_dup hx hb dX3_passesSigns_29 rfl ?_
            refine gX3_4 (v := (r7.2.1 8)) C0 hP rfl q96 dX3_passesSigns_30 ?_
            refine lv_iconst (v := (1 : Int32)) hx hb dX3_passesSigns_33 (by decide) ?_
            refine lv_iadd hx hb dX3_passesSigns_34 ?_
            refine pX3_4 C0 hP hD hS q96 dX3_passesSigns_35 (fun H locs hP hD hS => ?_)
            refine lv_goto (tgt := 0) hx hb dX3_passesSigns_38 (by decide) ?_
            exact ih1 _ hF _ _ _ hP hD hS (lv_sub hl [0] rfl)
          · have hF := (if_pos c8).symm.trans hF
            refine lv_iconst (v := (0 : Int32)) hx hb dX3_passesSigns_26 (by decide) ?_
            have hF := Option.some.inj hF
            subst hF
            have hF := hI1 _ rfl
            subst hF
            exact hE _ _ _ _ _ hP hD hS dX3_passesSigns_27 rfl rfl
  exact LP1 _ _ hL1 _ _ _ hP hD hS (lv_sub hl [0] rfl)
theorem lk_X3_firstFault : LK yX3_firstFault cX3_firstFault 2 (some .int) 1 := ⟨q206, q4, by decide +kernel⟩
def F_X3_firstFault (a1 : Int32) (si : tSI) (sa : tSA) : Option (Int32 × tSI × tSA) :=
  (F_X3_passes (116 : Int32) (116 : Int32) (upd (upd (upd (upd si 5 a1) 6 (0 : Int32)) 7 (0 : Int32)) 8 (0 : Int32)) sa).bind fun r1 => (if r1.1 = 0 then some ((r1.2.1 6), r1.2.1, r1.2.2) else (F_X3_passesSorts r1.2.1 r1.2.2).bind fun r3 => (if r3.1 = 0 then some ((r3.2.1 6), r3.2.1, r3.2.2) else (F_X3_passesSigns r3.2.1 r3.2.2).bind fun r5 => (if r5.1 = 0 then some ((r5.2.1 6), r5.2.1, r5.2.2) else (if (r5.2.1 5) ≤ (r5.2.1 6) then some ((-9 : Int32), r5.2.1, r5.2.2) else some ((r5.2.1 6), r5.2.1, r5.2.2)))))
set_option maxHeartbeats 4000000 in
set_option maxRecDepth 100000 in
theorem c_X3_firstFault (l : Launch) (D : va_G) (cA : ClassId) (ad : Nat → Nat) (si : tSI) (sa : tSA) (a1 : Int32) (o : (Int32 × tSI × tSA)) (hF : F_X3_firstFault a1 si sa = some o) : CG l yX3_firstFault cX3_firstFault 2 (some .int) 5 104 D cA [.ref (ad 3), .int a1] (WX cA ad si sa) (WX cA ad o.2.1 o.2.2) (some (.int o.1)) := by
  refine CG.ofi (by decide) (Nat.le_of_ble_eq_true rfl) ?_
  intro p ee s m args below meth c A Q H0 ls C0 hA hP hD hS hl hE
  have hl : lv_has ls 2 [(0, .ref (ad 3)), (1, .int a1)] := hl
  obtain ⟨hx, hb, hml, hown, ht, hK⟩ := id C0
  unfold F_X3_firstFault at hF
  refine lv_aload_n hx hb dX3_firstFault_0 rfl (lv_at hl 0 rfl) ?_
  refine lv_iload_n hx hb dX3_firstFault_1 rfl (lv_at hl 1 rfl) ?_
  refine pX3_1 C0 hP hD hS q92 dX3_firstFault_2 (fun H locs hP hD hS => ?_)
  refine lv_aload_n hx hb dX3_firstFault_5 rfl (lv_at hl 0 rfl) ?_
  refine lv_iconst (v := (0 : Int32)) hx hb dX3_firstFault_6 (by decide) ?_
  refine pX3_2 C0 hP hD hS q93 dX3_firstFault_7 (fun H locs hP hD hS => ?_)
  refine lv_aload_n hx hb dX3_firstFault_10 rfl (lv_at hl 0 rfl) ?_
  refine lv_iconst (v := (0 : Int32)) hx hb dX3_firstFault_11 (by decide) ?_
  refine pX3_3 C0 hP hD hS q94 dX3_firstFault_12 (fun H locs hP hD hS => ?_)
  refine lv_aload_n hx hb dX3_firstFault_15 rfl (lv_at hl 0 rfl) ?_
  refine lv_iconst (v := (0 : Int32)) hx hb dX3_firstFault_16 (by decide) ?_
  refine pX3_4 C0 hP hD hS q96 dX3_firstFault_17 (fun H locs hP hD hS => ?_)
  refine lv_aload_n hx hb dX3_firstFault_20 rfl (lv_at hl 0 rfl) ?_
  refine lv_bipush (v := (116 : Int32)) hx hb dX3_firstFault_21 (by decide) ?_
  refine lv_bipush (v := (116 : Int32)) hx hb dX3_firstFault_23 (by decide) ?_
  obtain ⟨r1, hr1, hF⟩ := bd_some hF
  refine kcV (As := [.int (116 : Int32), .int (116 : Int32)]) (rest := []) C0 hA hP hD hS (c_X3_passes l D cA ad (upd (upd (upd (upd si 5 a1) 6 (0 : Int32)) 7 (0 : Int32)) 8 (0 : Int32)) sa (116 : Int32) (116 : Int32) r1 hr1) lk_X3_passes q209 s1 q207 3 3 rfl rfl hl.1 rfl rfl (Nat.le_of_ble_eq_true rfl) ⟨Nat.le_of_ble_eq_true rfl, Nat.le_of_ble_eq_true rfl⟩ ⟨Nat.le_refl _, Nat.le_refl _⟩ dX3_firstFault_25 (fun H locs hP hD hS => ?_)
  refine W.eq (g2 := F0 m 28 ls [.int r1.1]) rfl ?_
  refine lv_if_eq (tgt := 56) hx hb dX3_firstFault_28 (by decide) (fun c2 => ?_) (fun c2 => ?_)
  · have hF := (if_pos c2).symm.trans hF
    refine lv_aload_n hx hb dX3_firstFault_56 rfl (lv_at hl 0 rfl) ?_
    refine gX3_2 (v := (r1.2.1 6)) C0 hP rfl q93 dX3_firstFault_57 ?_
    have hF := Option.some.inj hF
    subst hF
    exact hE _ _ _ _ _ hP hD hS dX3_firstFault_60 rfl rfl
  · have hF := (if_neg c2).symm.trans hF
    refine lv_aload_n hx hb dX3_firstFault_31 rfl (lv_at hl 0 rfl) ?_
    obtain ⟨r3, hr3, hF⟩ := bd_some hF
    refine kcV (As := []) (rest := []) C0 hA hP hD hS (c_X3_passesSorts l D cA ad r1.2.1 r1.2.2 r3 hr3) lk_X3_passesSorts q217 s3 q215 3 3 rfl rfl hl.1 rfl rfl (Nat.le_of_ble_eq_true rfl) ⟨Nat.le_of_ble_eq_true rfl, Nat.le_of_ble_eq_true rfl⟩ ⟨Nat.le_refl _, Nat.le_refl _⟩ dX3_firstFault_32 (fun H locs hP hD hS => ?_)
    refine W.eq (g2 := F0 m 35 ls [.int r3.1]) rfl ?_
    refine lv_if_eq (tgt := 56) hx hb dX3_firstFault_35 (by decide) (fun c4 => ?_) (fun c4 => ?_)
    · have hF := (if_pos c4).symm.trans hF
      refine lv_aload_n hx hb dX3_firstFault_56 rfl (lv_at hl 0 rfl) ?_
      refine gX3_2 (v := (r3.2.1 6)) C0 hP rfl q93 dX3_firstFault_57 ?_
      have hF := Option.some.inj hF
      subst hF
      exact hE _ _ _ _ _ hP hD hS dX3_firstFault_60 rfl rfl
    · have hF := (if_neg c4).symm.trans hF
      refine lv_aload_n hx hb dX3_firstFault_38 rfl (lv_at hl 0 rfl) ?_
      obtain ⟨r5, hr5, hF⟩ := bd_some hF
      refine kcV (As := []) (rest := []) C0 hA hP hD hS (c_X3_passesSigns l D cA ad r3.2.1 r3.2.2 r5 hr5) lk_X3_passesSigns q229 s6 q227 3 3 rfl rfl hl.1 rfl rfl (Nat.le_of_ble_eq_true rfl) ⟨Nat.le_of_ble_eq_true rfl, Nat.le_of_ble_eq_true rfl⟩ ⟨Nat.le_refl _, Nat.le_refl _⟩ dX3_firstFault_39 (fun H locs hP hD hS => ?_)
      refine W.eq (g2 := F0 m 42 ls [.int r5.1]) rfl ?_
      refine lv_if_eq (tgt := 56) hx hb dX3_firstFault_42 (by decide) (fun c6 => ?_) (fun c6 => ?_)
      · have hF := (if_pos c6).symm.trans hF
        refine lv_aload_n hx hb dX3_firstFault_56 rfl (lv_at hl 0 rfl) ?_
        refine gX3_2 (v := (r5.2.1 6)) C0 hP rfl q93 dX3_firstFault_57 ?_
        have hF := Option.some.inj hF
        subst hF
        exact hE _ _ _ _ _ hP hD hS dX3_firstFault_60 rfl rfl
      · have hF := (if_neg c6).symm.trans hF
        refine lv_aload_n hx hb dX3_firstFault_45 rfl (lv_at hl 0 rfl) ?_
        refine gX3_2 (v := (r5.2.1 6)) C0 hP rfl q93 dX3_firstFault_46 ?_
        refine lv_aload_n hx hb dX3_firstFault_49 rfl (lv_at hl 0 rfl) ?_
        refine gX3_1 (v := (r5.2.1 5)) C0 hP rfl q92 dX3_firstFault_50 ?_
        refine lv_icmp_ge (tgt := 61) hx hb dX3_firstFault_53 (by decide) (fun c7 => ?_) (fun c7 => ?_)
        · have hF := (if_pos c7).symm.trans hF
          refine lv_bipush (v := (-9 : Int32)) hx hb dX3_firstFault_61 (by decide) ?_
          have hF := Option.some.inj hF
          subst hF
          exact hE _ _ _ _ _ hP hD hS dX3_firstFault_63 rfl rfl
        · have hF := (if_neg c7).symm.trans hF
          refine lv_aload_n hx hb dX3_firstFault_56 rfl (lv_at hl 0 rfl) ?_
          refine gX3_2 (v := (r5.2.1 6)) C0 hP rfl q93 dX3_firstFault_57 ?_
          have hF := Option.some.inj hF
          subst hF
          exact hE _ _ _ _ _ hP hD hS dX3_firstFault_60 rfl rfl
theorem lk_X0_everySort : LK yX0_everySort cX0_everySort 1 (some .int) 0 := ⟨q246, q3, by decide +kernel⟩
def F_X0_everySort (si : tSI) (sa : tSA) : Option Int32 :=
  some (((1 : Int32) <<< ((si 2) &&& 31)) - (1 : Int32))
set_option maxHeartbeats 4000000 in
set_option maxRecDepth 100000 in
theorem c_X0_everySort (l : Launch) (D : va_G) (cA : ClassId) (ad : Nat → Nat) (si : tSI) (sa : tSA) (o : Int32) (hF : F_X0_everySort si sa = some o) : CG l yX0_everySort cX0_everySort 1 (some .int) 0 0 D cA [.ref (ad 2)] (WX cA ad si sa) (WX cA ad si sa) (some (.int o)) := by
  refine CG.ofi (by decide) (Nat.le_of_ble_eq_true rfl) ?_
  intro p ee s m args below meth c A Q H0 ls C0 hA hP hD hS hl hE
  have hl : lv_has ls 1 [(0, .ref (ad 2))] := hl
  obtain ⟨hx, hb, hml, hown, ht, hK⟩ := id C0
  unfold F_X0_everySort at hF
  refine lv_iconst (v := (1 : Int32)) hx hb dX0_everySort_0 (by decide) ?_
  refine lv_aload_n hx hb dX0_everySort_1 rfl (lv_at hl 0 rfl) ?_
  refine gX2_0 (v := (si 2)) C0 hP rfl q42 dX0_everySort_2 ?_
  refine lv_ishl hx hb dX0_everySort_5 ?_
  refine lv_iconst (v := (1 : Int32)) hx hb dX0_everySort_6 (by decide) ?_
  refine lv_isub hx hb dX0_everySort_7 ?_
  have hF := Option.some.inj hF
  exact hE _ _ _ _ _ hP hD hS dX0_everySort_8 rfl hF
theorem lk_X0_fillSort : LK yX0_fillSort cX0_fillSort 4 none 3 := ⟨q242, q3, by decide +kernel⟩
def F_X0_fillSort_r17 (a2 : Int32) (a3 : Int32) (si : tSI) (sa : tSA) : Option (tSI × tSA) :=
  ld (a2 + (1 : Int32)) 60 (((if ((sa 11) (Int32.toNatClampNeg (a2 + (1 : Int32)))) = (112 : Int32) then some (0 : Int32) else ld (a2 + (1 : Int32)) 60 ((if ((sa 11) (Int32.toNatClampNeg (a2 + (1 : Int32)))) = (115 : Int32) then some (1 : Int32) else some (2 : Int32))))).bind fun (x1 : Int32) => ld a3 6 (ld (a2 + (2 : Int32)) 60 (ld a3 6 (ld (a2 + (3 : Int32)) 60 (ld a3 6 (ld (a2 + (4 : Int32)) 60 (ld a3 6 (some (si, (va_up (va_up (va_up (va_up sa 4 (upd (sa 4) (Int32.toNatClampNeg a3) x1)) 5 (upd (sa 5) (Int32.toNatClampNeg a3) (((sa 11) (Int32.toNatClampNeg (a2 + (2 : Int32)))) - (48 : Int32)))) 6 (upd (sa 6) (Int32.toNatClampNeg a3) (((sa 11) (Int32.toNatClampNeg (a2 + (3 : Int32)))) - (48 : Int32)))) 7 (upd (sa 7) (Int32.toNatClampNeg a3) (((sa 11) (Int32.toNatClampNeg (a2 + (4 : Int32)))) - (48 : Int32)))))))))))))
set_option maxHeartbeats 4000000 in
set_option maxRecDepth 100000 in
theorem c_X0_fillSort_r17 (l : Launch) (D : va_G) (cA : ClassId) (ad : Nat → Nat) (si : tSI) (sa : tSA) (a2 : Int32) (a3 : Int32) (o : (tSI × tSA)) (hF : F_X0_fillSort_r17 a2 a3 si sa = some o) : CG l yX0_fillSort cX0_fillSort 4 none 0 0 D cA [.ref (ad 2), .ref (ad 17), .int a2, .int a3] (WX cA ad si sa) (WX cA ad o.1 o.2) none := by
  refine CG.ofv (by decide) (Nat.le_of_ble_eq_true rfl) ?_
  intro p ee s m args below meth c A Q H0 ls C0 hA hP hD hS hl hE
  have hl : lv_has ls 4 [(0, .ref (ad 2)), (1, .ref (ad 17)), (2, .int a2), (3, .int a3)] := hl
  obtain ⟨hx, hb, hml, hown, ht, hK⟩ := id C0
  unfold F_X0_fillSort_r17 at hF
  refine lv_aload_n hx hb dX0_fillSort_0 rfl (lv_at hl 0 rfl) ?_
  refine gX2_3 C0 hP q49 dX0_fillSort_1 ?_
  refine lv_iload_n hx hb dX0_fillSort_4 rfl (lv_at hl 3 rfl) ?_
  refine lv_aload_n hx hb dX0_fillSort_5 rfl (lv_at hl 1 rfl) ?_
  refine lv_iload_n hx hb dX0_fillSort_6 rfl (lv_at hl 2 rfl) ?_
  refine lv_iconst (v := (1 : Int32)) hx hb dX0_fillSort_7 (by decide) ?_
  refine lv_iadd hx hb dX0_fillSort_8 ?_
  obtain ⟨hin, hF⟩ := ld_some hF
  refine aXl11 (f := (sa 11)) C0 hP rfl hin dX0_fillSort_9 ?_
  refine lv_bipush (v := (112 : Int32)) hx hb dX0_fillSort_10 (by decide) ?_
  obtain ⟨x1, hRx1, hF⟩ := bd_some hF
  have Jx1 : ∀ (H : Heap) (locs : List Loc) (ls : Array Slot), va_P D vwCl (WX cA ad si sa) H → va_D A (WX cA ad si sa) → va_S A H0 H locs → lv_has ls 4 [(0, .ref (ad 2)), (1, .ref (ad 17)), (2, .int a2), (3, .int a3)] → W p l ee (rmx 0 0) s m args below meth c H locs 0 0 Q (F0 m 34 ls [.int x1, .int a3, .ref (ad 10)]) := by
    intro H locs ls hP hD hS hl
    obtain ⟨hin, hF⟩ := ld_some hF
    refine aXs4 (f := (sa 4)) C0 hP hD hS rfl hin dX0_fillSort_34 (fun H locs hP hD hS => ?_)
    refine lv_aload_n hx hb dX0_fillSort_35 rfl (lv_at hl 0 rfl) ?_
    refine gX2_4 C0 hP q51 dX0_fillSort_36 ?_
    refine lv_iload_n hx hb dX0_fillSort_39 rfl (lv_at hl 3 rfl) ?_
    refine lv_aload_n hx hb dX0_fillSort_40 rfl (lv_at hl 1 rfl) ?_
    refine lv_iload_n hx hb dX0_fillSort_41 rfl (lv_at hl 2 rfl) ?_
    refine lv_iconst (v := (2 : Int32)) hx hb dX0_fillSort_42 (by decide) ?_
    refine lv_iadd hx hb dX0_fillSort_43 ?_
    obtain ⟨hin, hF⟩ := ld_some hF
    refine aXl11 (f := (sa 11)) C0 hP rfl hin dX0_fillSort_44 ?_
    refine lv_bipush (v := (48 : Int32)) hx hb dX0_fillSort_45 (by decide) ?_
    refine lv_isub hx hb dX0_fillSort_47 ?_
    obtain ⟨hin, hF⟩ := ld_some hF
    refine aXs5 (f := (sa 5)) C0 hP hD hS rfl hin dX0_fillSort_48 (fun H locs hP hD hS => ?_)
    refine lv_aload_n hx hb dX0_fillSort_49 rfl (lv_at hl 0 rfl) ?_
    refine gX2_5 C0 hP q53 dX0_fillSort_50 ?_
    refine lv_iload_n hx hb dX0_fillSort_53 rfl (lv_at hl 3 rfl) ?_
    refine lv_aload_n hx hb dX0_fillSort_54 rfl (lv_at hl 1 rfl) ?_
    refine lv_iload_n hx hb dX0_fillSort_55 rfl (lv_at hl 2 rfl) ?_
    refine lv_iconst (v := (3 : Int32)) hx hb dX0_fillSort_56 (by decide) ?_
    refine lv_iadd hx hb dX0_fillSort_57 ?_
    obtain ⟨hin, hF⟩ := ld_some hF
    refine aXl11 (f := (sa 11)) C0 hP rfl hin dX0_fillSort_58 ?_
    refine lv_bipush (v := (48 : Int32)) hx hb dX0_fillSort_59 (by decide) ?_
    refine lv_isub hx hb dX0_fillSort_61 ?_
    obtain ⟨hin, hF⟩ := ld_some hF
    refine aXs6 (f := (sa 6)) C0 hP hD hS rfl hin dX0_fillSort_62 (fun H locs hP hD hS => ?_)
    refine lv_aload_n hx hb dX0_fillSort_63 rfl (lv_at hl 0 rfl) ?_
    refine gX2_6 C0 hP q55 dX0_fillSort_64 ?_
    refine lv_iload_n hx hb dX0_fillSort_67 rfl (lv_at hl 3 rfl) ?_
    refine lv_aload_n hx hb dX0_fillSort_68 rfl (lv_at hl 1 rfl) ?_
    refine lv_iload_n hx hb dX0_fillSort_69 rfl (lv_at hl 2 rfl) ?_
    refine lv_iconst (v := (4 : Int32)) hx hb dX0_fillSort_70 (by decide) ?_
    refine lv_iadd hx hb dX0_fillSort_71 ?_
    obtain ⟨hin, hF⟩ := ld_some hF
    refine aXl11 (f := (sa 11)) C0 hP rfl hin dX0_fillSort_72 ?_
    refine lv_bipush (v := (48 : Int32)) hx hb dX0_fillSort_73 (by decide) ?_
    refine lv_isub hx hb dX0_fillSort_75 ?_
    obtain ⟨hin, hF⟩ := ld_some hF
    refine aXs7 (f := (sa 7)) C0 hP hD hS rfl hin dX0_fillSort_76 (fun H locs hP hD hS => ?_)
    have hF := Option.some.inj hF
    subst hF
    exact hE _ _ _ _ hP hD hS dX0_fillSort_77
  have hF := hRx1
  refine lv_icmp_ne (tgt := 19) hx hb dX0_fillSort_12 (by decide) (fun c2 => ?_) (fun c2 => ?_)
  · have hF := (if_neg c2).symm.trans hF
    refine lv_aload_n hx hb dX0_fillSort_19 rfl (lv_at hl 1 rfl) ?_
    refine lv_iload_n hx hb dX0_fillSort_20 rfl (lv_at hl 2 rfl) ?_
    refine lv_iconst (v := (1 : Int32)) hx hb dX0_fillSort_21 (by decide) ?_
    refine lv_iadd hx hb dX0_fillSort_22 ?_
    obtain ⟨hin, hF⟩ := ld_some hF
    refine aXl11 (f := (sa 11)) C0 hP rfl hin dX0_fillSort_23 ?_
    refine lv_bipush (v := (115 : Int32)) hx hb dX0_fillSort_24 (by decide) ?_
    refine lv_icmp_ne (tgt := 33) hx hb dX0_fillSort_26 (by decide) (fun c3 => ?_) (fun c3 => ?_)
    · have hF := (if_neg c3).symm.trans hF
      refine lv_iconst (v := (2 : Int32)) hx hb dX0_fillSort_33 (by decide) ?_
      have hF := Option.some.inj hF
      subst hF
      exact Jx1 _ _ _ hP hD hS (lv_sub hl [0, 1, 2, 3] rfl)
    · have hF := (if_pos c3).symm.trans hF
      refine lv_iconst (v := (1 : Int32)) hx hb dX0_fillSort_29 (by decide) ?_
      refine lv_goto (tgt := 34) hx hb dX0_fillSort_30 (by decide) ?_
      have hF := Option.some.inj hF
      subst hF
      exact Jx1 _ _ _ hP hD hS (lv_sub hl [0, 1, 2, 3] rfl)
  · have hF := (if_pos c2).symm.trans hF
    refine lv_iconst (v := (0 : Int32)) hx hb dX0_fillSort_15 (by decide) ?_
    refine lv_goto (tgt := 34) hx hb dX0_fillSort_16 (by decide) ?_
    have hF := Option.some.inj hF
    subst hF
    exact Jx1 _ _ _ hP hD hS (lv_sub hl [0, 1, 2, 3] rfl)
theorem lk_X0_fill : LK yX0_fill cX0_fill 5 none 1 := ⟨q238, q3, by decide +kernel⟩
def S_X0_fill_r3_62 (e2 : (tSI × tSA)) (rec3 : ((Int32 × tSI × tSA) → Option (tSI × tSA))) (t3 : (Int32 × tSI × tSA)) : Option (tSI × tSA) :=
  (if (t3.2.1 3) ≤ t3.1 then some (t3.2.1, t3.2.2) else ld ((((1 : Int32) + ((e2.1 2) * (5 : Int32))) + (t3.1 * (3 : Int32))) + (1 : Int32)) 60 (ld ((((1 : Int32) + ((e2.1 2) * (5 : Int32))) + (t3.1 * (3 : Int32))) + (2 : Int32)) 60 ((F_X0_everySort t3.2.1 t3.2.2).bind fun r6 => ld t3.1 5 (rec3 ((t3.1 + 1), t3.2.1, (va_up t3.2.2 8 (upd (t3.2.2 8) (Int32.toNatClampNeg t3.1) (((((10 : Int32) * (((t3.2.2 11) (Int32.toNatClampNeg ((((1 : Int32) + ((e2.1 2) * (5 : Int32))) + (t3.1 * (3 : Int32))) + (1 : Int32)))) - (48 : Int32))) + ((t3.2.2 11) (Int32.toNatClampNeg ((((1 : Int32) + ((e2.1 2) * (5 : Int32))) + (t3.1 * (3 : Int32))) + (2 : Int32))))) - (48 : Int32)) &&& r6))))))))
def S_X0_fill_r3_23 (rec1 : ((Int32 × tSI × tSA) → Option (tSI × tSA))) (t1 : (Int32 × tSI × tSA)) : Option (tSI × tSA) :=
  (if (t1.2.1 2) ≤ t1.1 then some (t1.2.1, t1.2.2) else (F_X0_fillSort_r17 ((1 : Int32) + (t1.1 * (5 : Int32))) t1.1 t1.2.1 t1.2.2).bind fun r8 => rec1 ((t1.1 + 1), r8.1, r8.2))
def F_X0_fill_r3 (si : tSI) (sa : tSA) : Option (tSI × tSA) :=
  (lp S_X0_fill_r3_23 100 ((0 : Int32), (upd (upd (upd si 2 (si 7)) 3 (si 8)) 4 (0 : Int32)), sa)).bind fun (e2 : (tSI × tSA)) => (lp (S_X0_fill_r3_62 e2) 100 ((0 : Int32), e2.1, e2.2)).bind fun (e4 : (tSI × tSA)) => some (e4.1, e4.2)
set_option maxHeartbeats 4000000 in
set_option maxRecDepth 100000 in
theorem c_X0_fill_r3 (l : Launch) (D : va_G) (cA : ClassId) (ad : Nat → Nat) (si : tSI) (sa : tSA) (o : (tSI × tSA)) (hF : F_X0_fill_r3 si sa = some o) : CG l yX0_fill cX0_fill 5 none 1 23 D cA [.ref (ad 2), .ref (ad 3)] (WX cA ad si sa) (WX cA ad o.1 o.2) none := by
  refine CG.ofv (by decide) (Nat.le_of_ble_eq_true rfl) ?_
  intro p ee s m args below meth c A Q H0 ls C0 hA hP hD hS hl hE
  have hl : lv_has ls 5 [(0, .ref (ad 2)), (1, .ref (ad 3))] := hl
  obtain ⟨hx, hb, hml, hown, ht, hK⟩ := id C0
  unfold F_X0_fill_r3 at hF
  refine lv_aload_n hx hb dX0_fill_0 rfl (lv_at hl 0 rfl) ?_
  refine lv_aload_n hx hb dX0_fill_1 rfl (lv_at hl 1 rfl) ?_
  refine gX3_3 (v := (si 7)) C0 hP rfl q95 dX0_fill_2 ?_
  refine pX2_0 C0 hP hD hS q42 dX0_fill_5 (fun H locs hP hD hS => ?_)
  refine lv_aload_n hx hb dX0_fill_8 rfl (lv_at hl 0 rfl) ?_
  refine lv_aload_n hx hb dX0_fill_9 rfl (lv_at hl 1 rfl) ?_
  refine gX3_4 (v := (si 8)) C0 hP rfl q97 dX0_fill_10 ?_
  refine pX2_1 C0 hP hD hS q45 dX0_fill_13 (fun H locs hP hD hS => ?_)
  refine lv_aload_n hx hb dX0_fill_16 rfl (lv_at hl 0 rfl) ?_
  refine lv_iconst (v := (0 : Int32)) hx hb dX0_fill_17 (by decide) ?_
  refine pX2_2 C0 hP hD hS q47 dX0_fill_18 (fun H locs hP hD hS => ?_)
  refine lv_iconst (v := (0 : Int32)) hx hb dX0_fill_21 (by decide) ?_
  refine lv_istore_n (lv' := [(2, .int (0 : Int32)), (0, .ref (ad 2)), (1, .ref (ad 3))]) hx hb dX0_fill_22 rfl hl (by decide) rfl (fun ls hl => ?_)
  obtain ⟨ox1, hL1, hX1⟩ := bd_all hF
  have JE1 : ∀ (e2 : (tSI × tSA)), ox1 = e2 → ∀ (H : Heap) (locs : List Loc) (ls : Array Slot), va_P D vwCl (WX cA ad e2.1 e2.2) H → va_D A (WX cA ad e2.1 e2.2) → va_S A H0 H locs → lv_has ls 5 [(0, .ref (ad 2)), (1, .ref (ad 3))] → W p l ee (rmx 1 23) s m args below meth c H locs 0 0 Q (F0 m 51 ls []) := by
    intro e2 he H locs ls hP hD hS hl
    have hF := hX1 _ he
    refine lv_iconst (v := (1 : Int32)) hx hb dX0_fill_51 (by decide) ?_
    refine lv_aload_n hx hb dX0_fill_52 rfl (lv_at hl 0 rfl) ?_
    refine gX2_0 (v := (e2.1 2)) C0 hP rfl q42 dX0_fill_53 ?_
    refine lv_iconst (v := (5 : Int32)) hx hb dX0_fill_56 (by decide) ?_
    refine lv_imul hx hb dX0_fill_57 ?_
    refine lv_iadd hx hb dX0_fill_58 ?_
    refine lv_istore_n (lv' := [(2, .int ((1 : Int32) + ((e2.1 2) * (5 : Int32)))), (0, .ref (ad 2)), (1, .ref (ad 3))]) hx hb dX0_fill_59 rfl hl (by decide) rfl (fun ls hl => ?_)
    refine lv_iconst (v := (0 : Int32)) hx hb dX0_fill_60 (by decide) ?_
    refine lv_istore_n (lv' := [(3, .int (0 : Int32)), (2, .int ((1 : Int32) + ((e2.1 2) * (5 : Int32)))), (0, .ref (ad 2)), (1, .ref (ad 3))]) hx hb dX0_fill_61 rfl hl (by decide) rfl (fun ls hl => ?_)
    obtain ⟨ox3, hL3, hX3⟩ := bd_all hF
    have JE3 : ∀ (e4 : (tSI × tSA)), ox3 = e4 → ∀ (H : Heap) (locs : List Loc) (ls : Array Slot), va_P D vwCl (WX cA ad e4.1 e4.2) H → va_D A (WX cA ad e4.1 e4.2) → va_S A H0 H locs → lv_has ls 5 [] → W p l ee (rmx 1 23) s m args below meth c H locs 0 0 Q (F0 m 122 ls []) := by
      intro e4 he H locs ls hP hD hS hl
      have hF := hX3 _ he
      have hF := Option.some.inj hF
      subst hF
      exact hE _ _ _ _ hP hD hS dX0_fill_122
    have LP3 : ∀ (k3 : Nat) (t3 : (Int32 × tSI × tSA)), lp (S_X0_fill_r3_62 e2) k3 t3 = some ox3 → ∀ (H : Heap) (locs : List Loc) (ls : Array Slot), va_P D vwCl (WX cA ad t3.2.1 t3.2.2) H → va_D A (WX cA ad t3.2.1 t3.2.2) → va_S A H0 H locs → lv_has ls 5 [(3, .int t3.1), (2, .int ((1 : Int32) + ((e2.1 2) * (5 : Int32)))), (0, .ref (ad 2)), (1, .ref (ad 3))] → W p l ee (rmx 1 23) s m args below meth c H locs 0 0 Q (F0 m 62 ls []) := by
      intro k3
      induction k3 with
      | zero => intro t3 hF; exact (lp_no hF).elim
      | succ k3 ih3 =>
        intro t3 hF H locs ls hP hD hS hl
        change (S_X0_fill_r3_62 e2) (lp (S_X0_fill_r3_62 e2) k3) t3 = some ox3 at hF
        unfold S_X0_fill_r3_62 at hF
        refine lv_iload_n hx hb dX0_fill_62 rfl (lv_at hl 0 rfl) ?_
        refine lv_aload_n hx hb dX0_fill_63 rfl (lv_at hl 2 rfl) ?_
        refine gX2_1 (v := (t3.2.1 3)) C0 hP rfl q45 dX0_fill_64 ?_
        refine lv_icmp_ge (tgt := 122) hx hb dX0_fill_67 (by decide) (fun c5 => ?_) (fun c5 => ?_)
        · have hF := (if_pos c5).symm.trans hF
          exact JE3 _ (Option.some.inj hF).symm _ _ _ hP hD hS (lv_sub hl [] rfl)
        · have hF := (if_neg c5).symm.trans hF
          refine lv_iload_n hx hb dX0_fill_70 rfl (lv_at hl 1 rfl) ?_
          refine lv_iload_n hx hb dX0_fill_71 rfl (lv_at hl 0 rfl) ?_
          refine lv_iconst (v := (3 : Int32)) hx hb dX0_fill_72 (by decide) ?_
          refine lv_imul hx hb dX0_fill_73 ?_
          refine lv_iadd hx hb dX0_fill_74 ?_
          refine lv_istore (lv' := [(4, .int (((1 : Int32) + ((e2.1 2) * (5 : Int32))) + (t3.1 * (3 : Int32)))), (3, .int t3.1), (2, .int ((1 : Int32) + ((e2.1 2) * (5 : Int32)))), (0, .ref (ad 2)), (1, .ref (ad 3))]) hx hb dX0_fill_75 hl (by decide) rfl (fun ls hl => ?_)
          refine lv_aload_n hx hb dX0_fill_77 rfl (lv_at hl 3 rfl) ?_
          refine gX2_7 C0 hP q57 dX0_fill_78 ?_
          refine lv_iload_n hx hb dX0_fill_81 rfl (lv_at hl 1 rfl) ?_
          refine lv_bipush (v := (10 : Int32)) hx hb dX0_fill_82 (by decide) ?_
          refine lv_aload_n hx hb dX0_fill_84 rfl (lv_at hl 4 rfl) ?_
          refine gX3_0 C0 hP q91 dX0_fill_85 ?_
          refine lv_iload hx hb dX0_fill_88 (lv_at hl 0 rfl) ?_
          refine lv_iconst (v := (1 : Int32)) hx hb dX0_fill_90 (by decide) ?_
          refine lv_iadd hx hb dX0_fill_91 ?_
          obtain ⟨hin, hF⟩ := ld_some hF
          refine aXl11 (f := (t3.2.2 11)) C0 hP rfl hin dX0_fill_92 ?_
          refine lv_bipush (v := (48 : Int32)) hx hb dX0_fill_93 (by decide) ?_
          refine lv_isub hx hb dX0_fill_95 ?_
          refine lv_imul hx hb dX0_fill_96 ?_
          refine lv_aload_n hx hb dX0_fill_97 rfl (lv_at hl 4 rfl) ?_
          refine gX3_0 C0 hP q91 dX0_fill_98 ?_
          refine lv_iload hx hb dX0_fill_101 (lv_at hl 0 rfl) ?_
          refine lv_iconst (v := (2 : Int32)) hx hb dX0_fill_103 (by decide) ?_
          refine lv_iadd hx hb dX0_fill_104 ?_
          obtain ⟨hin, hF⟩ := ld_some hF
          refine aXl11 (f := (t3.2.2 11)) C0 hP rfl hin dX0_fill_105 ?_
          refine lv_iadd hx hb dX0_fill_106 ?_
          refine lv_bipush (v := (48 : Int32)) hx hb dX0_fill_107 (by decide) ?_
          refine lv_isub hx hb dX0_fill_109 ?_
          refine lv_aload_n hx hb dX0_fill_110 rfl (lv_at hl 3 rfl) ?_
          obtain ⟨r6, hr6, hF⟩ := bd_some hF
          refine kcV (As := []) (rest := [.int ((((10 : Int32) * (((t3.2.2 11) (Int32.toNatClampNeg ((((1 : Int32) + ((e2.1 2) * (5 : Int32))) + (t3.1 * (3 : Int32))) + (1 : Int32)))) - (48 : Int32))) + ((t3.2.2 11) (Int32.toNatClampNeg ((((1 : Int32) + ((e2.1 2) * (5 : Int32))) + (t3.1 * (3 : Int32))) + (2 : Int32))))) - (48 : Int32)), .int t3.1, .ref (ad 14)]) C0 hA hP hD hS (c_X0_everySort l D cA ad t3.2.1 t3.2.2 r6 hr6) lk_X0_everySort q244 q245 q243 2 0 rfl rfl hl.1 rfl rfl (Nat.le_of_ble_eq_true rfl) ⟨Nat.le_of_ble_eq_true rfl, Nat.le_of_ble_eq_true rfl⟩ ⟨Nat.le_refl _, Nat.le_refl _⟩ dX0_fill_111 (fun H locs hP hD hS => ?_)
          refine W.eq (g2 := F0 m 114 ls [.int r6, .int ((((10 : Int32) * (((t3.2.2 11) (Int32.toNatClampNeg ((((1 : Int32) + ((e2.1 2) * (5 : Int32))) + (t3.1 * (3 : Int32))) + (1 : Int32)))) - (48 : Int32))) + ((t3.2.2 11) (Int32.toNatClampNeg ((((1 : Int32) + ((e2.1 2) * (5 : Int32))) + (t3.1 * (3 : Int32))) + (2 : Int32))))) - (48 : Int32)), .int t3.1, .ref (ad 14)]) rfl ?_
          refine lv_iand hx hb dX0_fill_114 ?_
          obtain ⟨hin, hF⟩ := ld_some hF
          refine aXs8 (f := (t3.2.2 8)) C0 hP hD hS rfl hin dX0_fill_115 (fun H locs hP hD hS => ?_)
          refine lv_iinc (v := (t3.1 + 1)) (lv' := [(3, .int (t3.1 + 1)), (4, .int (((1 : Int32) + ((e2.1 2) * (5 : Int32))) + (t3.1 * (3 : Int32)))), (2, .int ((1 : Int32) + ((e2.1 2) * (5 : Int32)))), (0, .ref (ad 2)), (1, .ref (ad 3))]) hx hb dX0_fill_116 hl (k := 1) rfl rfl (by decide) rfl (fun ls hl => ?_)
          refine lv_goto (tgt := 62) hx hb dX0_fill_119 (by decide) ?_
          exact ih3 _ hF _ _ _ hP hD hS (lv_sub hl [0, 2, 3, 4] rfl)
    exact LP3 _ _ hL3 _ _ _ hP hD hS (lv_sub hl [0, 1, 2, 3] rfl)
  have LP1 : ∀ (k1 : Nat) (t1 : (Int32 × tSI × tSA)), lp S_X0_fill_r3_23 k1 t1 = some ox1 → ∀ (H : Heap) (locs : List Loc) (ls : Array Slot), va_P D vwCl (WX cA ad t1.2.1 t1.2.2) H → va_D A (WX cA ad t1.2.1 t1.2.2) → va_S A H0 H locs → lv_has ls 5 [(2, .int t1.1), (0, .ref (ad 2)), (1, .ref (ad 3))] → W p l ee (rmx 1 23) s m args below meth c H locs 0 0 Q (F0 m 23 ls []) := by
    intro k1
    induction k1 with
    | zero => intro t1 hF; exact (lp_no hF).elim
    | succ k1 ih1 =>
      intro t1 hF H locs ls hP hD hS hl
      change S_X0_fill_r3_23 (lp S_X0_fill_r3_23 k1) t1 = some ox1 at hF
      unfold S_X0_fill_r3_23 at hF
      refine lv_iload_n hx hb dX0_fill_23 rfl (lv_at hl 0 rfl) ?_
      refine lv_aload_n hx hb dX0_fill_24 rfl (lv_at hl 1 rfl) ?_
      refine gX2_0 (v := (t1.2.1 2)) C0 hP rfl q42 dX0_fill_25 ?_
      refine lv_icmp_ge (tgt := 51) hx hb dX0_fill_28 (by decide) (fun c7 => ?_) (fun c7 => ?_)
      · have hF := (if_pos c7).symm.trans hF
        exact JE1 _ (Option.some.inj hF).symm _ _ _ hP hD hS (lv_sub hl [1, 2] rfl)
      · have hF := (if_neg c7).symm.trans hF
        refine lv_aload_n hx hb dX0_fill_31 rfl (lv_at hl 1 rfl) ?_
        refine lv_aload_n hx hb dX0_fill_32 rfl (lv_at hl 2 rfl) ?_
        refine gX3_0 C0 hP q91 dX0_fill_33 ?_
        refine lv_iconst (v := (1 : Int32)) hx hb dX0_fill_36 (by decide) ?_
        refine lv_iload_n hx hb dX0_fill_37 rfl (lv_at hl 0 rfl) ?_
        refine lv_iconst (v := (5 : Int32)) hx hb dX0_fill_38 (by decide) ?_
        refine lv_imul hx hb dX0_fill_39 ?_
        refine lv_iadd hx hb dX0_fill_40 ?_
        refine lv_iload_n hx hb dX0_fill_41 rfl (lv_at hl 0 rfl) ?_
        obtain ⟨r8, hr8, hF⟩ := bd_some hF
        refine kcV (As := [.ref (ad 17), .int ((1 : Int32) + (t1.1 * (5 : Int32))), .int t1.1]) (rest := []) C0 hA hP hD hS (c_X0_fillSort_r17 l D cA ad t1.2.1 t1.2.2 ((1 : Int32) + (t1.1 * (5 : Int32))) t1.1 r8 hr8) lk_X0_fillSort q241 s8 q239 2 0 rfl rfl hl.1 rfl rfl (Nat.le_of_ble_eq_true rfl) ⟨Nat.le_of_ble_eq_true rfl, Nat.le_of_ble_eq_true rfl⟩ ⟨Nat.le_refl _, Nat.le_refl _⟩ dX0_fill_42 (fun H locs hP hD hS => ?_)
        refine W.eq (g2 := F0 m 45 ls []) rfl ?_
        refine lv_iinc (v := (t1.1 + 1)) (lv' := [(2, .int (t1.1 + 1)), (0, .ref (ad 2)), (1, .ref (ad 3))]) hx hb dX0_fill_45 hl (k := 0) rfl rfl (by decide) rfl (fun ls hl => ?_)
        refine lv_goto (tgt := 23) hx hb dX0_fill_48 (by decide) ?_
        exact ih1 _ hF _ _ _ hP hD hS (lv_sub hl [0, 1, 2] rfl)
  exact LP1 _ _ hL1 _ _ _ hP hD hS (lv_sub hl [0, 1, 2] rfl)
theorem lk_X5_failed : LK yX5_failed cX5_failed 2 (some .int) 1 := ⟨q195, q1, by decide +kernel⟩
def F_X5_failed (a1 : Int32) (si : tSI) (sa : tSA) : Option (Int32 × tSI × tSA) :=
  some (((-10 : Int32) - a1), (upd si 1 a1), sa)
set_option maxHeartbeats 4000000 in
set_option maxRecDepth 100000 in
theorem c_X5_failed (l : Launch) (D : va_G) (cA : ClassId) (ad : Nat → Nat) (si : tSI) (sa : tSA) (a1 : Int32) (o : (Int32 × tSI × tSA)) (hF : F_X5_failed a1 si sa = some o) : CG l yX5_failed cX5_failed 2 (some .int) 0 0 D cA [.ref (ad 0), .int a1] (WX cA ad si sa) (WX cA ad o.2.1 o.2.2) (some (.int o.1)) := by
  refine CG.ofi (by decide) (Nat.le_of_ble_eq_true rfl) ?_
  intro p ee s m args below meth c A Q H0 ls C0 hA hP hD hS hl hE
  have hl : lv_has ls 2 [(0, .ref (ad 0)), (1, .int a1)] := hl
  obtain ⟨hx, hb, hml, hown, ht, hK⟩ := id C0
  unfold F_X5_failed at hF
  refine lv_aload_n hx hb dX5_failed_0 rfl (lv_at hl 0 rfl) ?_
  refine lv_iload_n hx hb dX5_failed_1 rfl (lv_at hl 1 rfl) ?_
  refine pX0_7 C0 hP hD hS q152 dX5_failed_2 (fun H locs hP hD hS => ?_)
  refine lv_bipush (v := (-10 : Int32)) hx hb dX5_failed_5 (by decide) ?_
  refine lv_iload_n hx hb dX5_failed_7 rfl (lv_at hl 1 rfl) ?_
  refine lv_isub hx hb dX5_failed_8 ?_
  have hF := Option.some.inj hF
  subst hF
  exact hE _ _ _ _ _ hP hD hS dX5_failed_9 rfl rfl
theorem lk_X5_floor : LK yX5_floor cX5_floor 7 (some .int) 4 := ⟨q173, q1, by decide +kernel⟩
def F_X5_floor (a1 : Int32) (a2 : Int32) (a3 : Int32) (a4 : Int32) (si : tSI) (sa : tSA) : Option (Int32 × tSI × tSA) :=
  (F_X2_isSheet a1).bind fun r1 => (if r1 = 0 then some ((-1 : Int32), (upd si 1 (0 : Int32)), sa) else (F_X2_isLane a2).bind fun r3 => (if r3 = 0 then some ((-2 : Int32), (upd si 1 (0 : Int32)), sa) else (F_X2_faultAsRow a1 a2 (upd si 1 (0 : Int32)) sa).bind fun r5 => ((if r5 = 0 then (if 0 ≤ a4 then some r5 else some (4 : Int32)) else some r5)).bind fun (x6 : Int32) => ((if x6 = 0 then (F_X2_faultOfSpan a1 a3 a4 (upd si 1 (0 : Int32)) sa).bind fun r15 => some r15 else some x6)).bind fun (x7 : Int32) => (if x7 = 0 then (F_X2_take_r17 a1 a3 a4 (upd si 1 (0 : Int32)) sa).bind fun r9 => (F_X3_firstFault a4 r9.1 r9.2).bind fun r10 => (if r10.1 = (-9 : Int32) then (F_X0_fill_r3 r10.2.1 r10.2.2).bind fun r12 => some ((r12.1 2), r12.1, r12.2) else some (((-100 : Int32) - r10.1), r10.2.1, r10.2.2)) else (F_X5_failed x7 (upd si 1 (0 : Int32)) sa).bind fun r13 => some (r13.1, r13.2.1, r13.2.2))))
set_option maxHeartbeats 4000000 in
set_option maxRecDepth 100000 in
theorem c_X5_floor (l : Launch) (D : va_G) (cA : ClassId) (ad : Nat → Nat) (si : tSI) (sa : tSA) (a1 : Int32) (a2 : Int32) (a3 : Int32) (a4 : Int32) (o : (Int32 × tSI × tSA)) (hF : F_X5_floor a1 a2 a3 a4 si sa = some o) : CG l yX5_floor cX5_floor 7 (some .int) 6 125 D cA [.ref (ad 0), .int a1, .int a2, .int a3, .int a4] (WX cA ad si sa) (WX cA ad o.2.1 o.2.2) (some (.int o.1)) := by
  refine CG.ofi (by decide) (Nat.le_of_ble_eq_true rfl) ?_
  intro p ee s m args below meth c A Q H0 ls C0 hA hP hD hS hl hE
  have hl : lv_has ls 7 [(0, .ref (ad 0)), (1, .int a1), (2, .int a2), (3, .int a3), (4, .int a4)] := hl
  obtain ⟨hx, hb, hml, hown, ht, hK⟩ := id C0
  unfold F_X5_floor at hF
  refine lv_aload_n hx hb dX5_floor_0 rfl (lv_at hl 0 rfl) ?_
  refine lv_iconst (v := (0 : Int32)) hx hb dX5_floor_1 (by decide) ?_
  refine pX0_7 C0 hP hD hS q152 dX5_floor_2 (fun H locs hP hD hS => ?_)
  refine lv_iload_n hx hb dX5_floor_5 rfl (lv_at hl 1 rfl) ?_
  obtain ⟨r1, hr1, hF⟩ := bd_some hF
  refine kcS (As := [.int a1]) (rest := []) C0 hA hP hD hS (c_X2_isSheet l D cA ad (upd si 1 (0 : Int32)) sa a1 r1 hr1) lk_X2_isSheet q175 q174 hl.1 rfl rfl (Nat.le_of_ble_eq_true rfl) ⟨Nat.le_of_ble_eq_true rfl, Nat.le_of_ble_eq_true rfl⟩ ⟨Nat.le_refl _, Nat.le_refl _⟩ dX5_floor_6 (fun H locs hP hD hS => ?_)
  refine W.eq (g2 := F0 m 9 ls [.int r1]) rfl ?_
  refine lv_if_ne (tgt := 14) hx hb dX5_floor_9 (by decide) (fun c2 => ?_) (fun c2 => ?_)
  · have hF := (if_neg c2).symm.trans hF
    refine lv_iload_n hx hb dX5_floor_14 rfl (lv_at hl 2 rfl) ?_
    obtain ⟨r3, hr3, hF⟩ := bd_some hF
    refine kcS (As := [.int a2]) (rest := []) C0 hA hP hD hS (c_X2_isLane l D cA ad (upd si 1 (0 : Int32)) sa a2 r3 hr3) lk_X2_isLane q178 q177 hl.1 rfl rfl (Nat.le_of_ble_eq_true rfl) ⟨Nat.le_of_ble_eq_true rfl, Nat.le_of_ble_eq_true rfl⟩ ⟨Nat.le_refl _, Nat.le_refl _⟩ dX5_floor_15 (fun H locs hP hD hS => ?_)
    refine W.eq (g2 := F0 m 18 ls [.int r3]) rfl ?_
    refine lv_if_ne (tgt := 24) hx hb dX5_floor_18 (by decide) (fun c4 => ?_) (fun c4 => ?_)
    · have hF := (if_neg c4).symm.trans hF
      refine lv_aload_n hx hb dX5_floor_24 rfl (lv_at hl 0 rfl) ?_
      refine gX0_0 C0 hP q145 dX5_floor_25 ?_
      refine lv_iload_n hx hb dX5_floor_28 rfl (lv_at hl 1 rfl) ?_
      refine lv_iload_n hx hb dX5_floor_29 rfl (lv_at hl 2 rfl) ?_
      obtain ⟨r5, hr5, hF⟩ := bd_some hF
      refine kcV (As := [.int a1, .int a2]) (rest := []) C0 hA hP hD hS (c_X2_faultAsRow l D cA ad (upd si 1 (0 : Int32)) sa a1 a2 r5 hr5) lk_X2_faultAsRow q181 q182 q180 1 2 rfl rfl hl.1 rfl rfl (Nat.le_of_ble_eq_true rfl) ⟨Nat.le_of_ble_eq_true rfl, Nat.le_of_ble_eq_true rfl⟩ ⟨Nat.le_refl _, Nat.le_refl _⟩ dX5_floor_30 (fun H locs hP hD hS => ?_)
      refine W.eq (g2 := F0 m 33 ls [.int r5]) rfl ?_
      refine lv_istore (lv' := [(5, .int r5), (0, .ref (ad 0)), (1, .int a1), (2, .int a2), (3, .int a3), (4, .int a4)]) hx hb dX5_floor_33 hl (by decide) rfl (fun ls hl => ?_)
      refine lv_iload hx hb dX5_floor_35 (lv_at hl 0 rfl) ?_
      obtain ⟨x6, hRx6, hF⟩ := bd_some hF
      have Jx6 : ∀ (H : Heap) (locs : List Loc) (ls : Array Slot), va_P D vwCl (WX cA ad (upd si 1 (0 : Int32)) sa) H → va_D A (WX cA ad (upd si 1 (0 : Int32)) sa) → va_S A H0 H locs → lv_has ls 7 [(5, .int x6), (0, .ref (ad 0)), (1, .int a1), (3, .int a3), (4, .int a4)] → W p l ee (rmx 6 125) s m args below meth c H locs 0 0 Q (F0 m 48 ls []) := by
        intro H locs ls hP hD hS hl
        refine lv_iload hx hb dX5_floor_48 (lv_at hl 0 rfl) ?_
        obtain ⟨x7, hRx7, hF⟩ := bd_some hF
        have Jx7 : ∀ (H : Heap) (locs : List Loc) (ls : Array Slot), va_P D vwCl (WX cA ad (upd si 1 (0 : Int32)) sa) H → va_D A (WX cA ad (upd si 1 (0 : Int32)) sa) → va_S A H0 H locs → lv_has ls 7 [(5, .int x7), (0, .ref (ad 0)), (1, .int a1), (3, .int a3), (4, .int a4)] → W p l ee (rmx 6 125) s m args below meth c H locs 0 0 Q (F0 m 66 ls []) := by
          intro H locs ls hP hD hS hl
          refine lv_iload hx hb dX5_floor_66 (lv_at hl 0 rfl) ?_
          refine lv_if_eq (tgt := 78) hx hb dX5_floor_68 (by decide) (fun c8 => ?_) (fun c8 => ?_)
          · have hF := (if_pos c8).symm.trans hF
            refine lv_aload_n hx hb dX5_floor_78 rfl (lv_at hl 1 rfl) ?_
            refine gX0_0 C0 hP q145 dX5_floor_79 ?_
            refine lv_iload_n hx hb dX5_floor_82 rfl (lv_at hl 2 rfl) ?_
            refine lv_iload_n hx hb dX5_floor_83 rfl (lv_at hl 3 rfl) ?_
            refine lv_iload hx hb dX5_floor_84 (lv_at hl 4 rfl) ?_
            refine lv_aload_n hx hb dX5_floor_86 rfl (lv_at hl 1 rfl) ?_
            refine gX0_2 C0 hP q147 dX5_floor_87 ?_
            refine gX3_0 C0 hP q90 dX5_floor_90 ?_
            obtain ⟨r9, hr9, hF⟩ := bd_some hF
            refine kcV (As := [.int a1, .int a3, .int a4, .ref (ad 17)]) (rest := []) C0 hA hP hD hS (c_X2_take_r17 l D cA ad (upd si 1 (0 : Int32)) sa a1 a3 a4 r9 hr9) lk_X2_take q197 q198 q196 1 2 rfl rfl hl.1 rfl rfl (Nat.le_of_ble_eq_true rfl) ⟨Nat.le_of_ble_eq_true rfl, Nat.le_of_ble_eq_true rfl⟩ ⟨Nat.le_refl _, Nat.le_refl _⟩ dX5_floor_93 (fun H locs hP hD hS => ?_)
            refine W.eq (g2 := F0 m 96 ls []) rfl ?_
            refine lv_aload_n hx hb dX5_floor_96 rfl (lv_at hl 1 rfl) ?_
            refine gX0_2 C0 hP q147 dX5_floor_97 ?_
            refine lv_iload hx hb dX5_floor_100 (lv_at hl 4 rfl) ?_
            obtain ⟨r10, hr10, hF⟩ := bd_some hF
            refine kcV (As := [.int a4]) (rest := []) C0 hA hP hD hS (c_X3_firstFault l D cA ad r9.1 r9.2 a4 r10 hr10) lk_X3_firstFault q204 q205 q203 3 3 rfl rfl hl.1 rfl rfl (Nat.le_of_ble_eq_true rfl) ⟨Nat.le_of_ble_eq_true rfl, Nat.le_of_ble_eq_true rfl⟩ ⟨Nat.le_refl _, Nat.le_refl _⟩ dX5_floor_102 (fun H locs hP hD hS => ?_)
            refine W.eq (g2 := F0 m 105 ls [.int r10.1]) rfl ?_
            refine lv_istore (lv' := [(6, .int r10.1), (5, .int x7), (0, .ref (ad 0)), (1, .int a1), (3, .int a3), (4, .int a4)]) hx hb dX5_floor_105 hl (by decide) rfl (fun ls hl => ?_)
            refine lv_iload hx hb dX5_floor_107 (lv_at hl 0 rfl) ?_
            refine lv_bipush (v := (-9 : Int32)) hx hb dX5_floor_109 (by decide) ?_
            refine lv_icmp_eq (tgt := 120) hx hb dX5_floor_111 (by decide) (fun c11 => ?_) (fun c11 => ?_)
            · have hF := (if_pos c11).symm.trans hF
              refine lv_aload_n hx hb dX5_floor_120 rfl (lv_at hl 2 rfl) ?_
              refine gX0_1 C0 hP q146 dX5_floor_121 ?_
              refine lv_aload_n hx hb dX5_floor_124 rfl (lv_at hl 2 rfl) ?_
              refine gX0_2 C0 hP q147 dX5_floor_125 ?_
              obtain ⟨r12, hr12, hF⟩ := bd_some hF
              refine kcV (As := [.ref (ad 3)]) (rest := []) C0 hA hP hD hS (c_X0_fill_r3 l D cA ad r10.2.1 r10.2.2 r12 hr12) lk_X0_fill q236 q237 q235 2 0 rfl rfl hl.1 rfl rfl (Nat.le_of_ble_eq_true rfl) ⟨Nat.le_of_ble_eq_true rfl, Nat.le_of_ble_eq_true rfl⟩ ⟨Nat.le_refl _, Nat.le_refl _⟩ dX5_floor_128 (fun H locs hP hD hS => ?_)
              refine W.eq (g2 := F0 m 131 ls []) rfl ?_
              refine lv_aload_n hx hb dX5_floor_131 rfl (lv_at hl 2 rfl) ?_
              refine gX0_1 C0 hP q146 dX5_floor_132 ?_
              refine gX2_0 (v := (r12.1 2)) C0 hP rfl q43 dX5_floor_135 ?_
              have hF := Option.some.inj hF
              subst hF
              exact hE _ _ _ _ _ hP hD hS dX5_floor_138 rfl rfl
            · have hF := (if_neg c11).symm.trans hF
              refine lv_bipush (v := (-100 : Int32)) hx hb dX5_floor_114 (by decide) ?_
              refine lv_iload hx hb dX5_floor_116 (lv_at hl 0 rfl) ?_
              refine lv_isub hx hb dX5_floor_118 ?_
              have hF := Option.some.inj hF
              subst hF
              exact hE _ _ _ _ _ hP hD hS dX5_floor_119 rfl rfl
          · have hF := (if_neg c8).symm.trans hF
            refine lv_aload_n hx hb dX5_floor_71 rfl (lv_at hl 1 rfl) ?_
            refine lv_iload hx hb dX5_floor_72 (lv_at hl 0 rfl) ?_
            obtain ⟨r13, hr13, hF⟩ := bd_some hF
            refine kcV (As := [.int x7]) (rest := []) C0 hA hP hD hS (c_X5_failed l D cA ad (upd si 1 (0 : Int32)) sa x7 r13 hr13) lk_X5_failed q194 s0 q192 0 5 rfl rfl hl.1 rfl rfl (Nat.le_of_ble_eq_true rfl) ⟨Nat.le_of_ble_eq_true rfl, Nat.le_of_ble_eq_true rfl⟩ ⟨Nat.le_refl _, Nat.le_refl _⟩ dX5_floor_74 (fun H locs hP hD hS => ?_)
            refine W.eq (g2 := F0 m 77 ls [.int r13.1]) rfl ?_
            have hF := Option.some.inj hF
            subst hF
            exact hE _ _ _ _ _ hP hD hS dX5_floor_77 rfl rfl
        have hF := hRx7
        refine lv_if_ne (tgt := 66) hx hb dX5_floor_50 (by decide) (fun c14 => ?_) (fun c14 => ?_)
        · have hF := (if_neg c14).symm.trans hF
          have hF := Option.some.inj hF
          subst hF
          exact Jx7 _ _ _ hP hD hS (lv_sub hl [0, 1, 2, 3, 4] rfl)
        · have hF := (if_pos c14).symm.trans hF
          refine lv_aload_n hx hb dX5_floor_53 rfl (lv_at hl 1 rfl) ?_
          refine gX0_0 C0 hP q145 dX5_floor_54 ?_
          refine lv_iload_n hx hb dX5_floor_57 rfl (lv_at hl 2 rfl) ?_
          refine lv_iload_n hx hb dX5_floor_58 rfl (lv_at hl 3 rfl) ?_
          refine lv_iload hx hb dX5_floor_59 (lv_at hl 4 rfl) ?_
          obtain ⟨r15, hr15, hF⟩ := bd_some hF
          refine kcV (As := [.int a1, .int a3, .int a4]) (rest := []) C0 hA hP hD hS (c_X2_faultOfSpan l D cA ad (upd si 1 (0 : Int32)) sa a1 a3 a4 r15 hr15) lk_X2_faultOfSpan q189 q190 q188 1 2 rfl rfl hl.1 rfl rfl (Nat.le_of_ble_eq_true rfl) ⟨Nat.le_of_ble_eq_true rfl, Nat.le_of_ble_eq_true rfl⟩ ⟨Nat.le_refl _, Nat.le_refl _⟩ dX5_floor_61 (fun H locs hP hD hS => ?_)
          refine W.eq (g2 := F0 m 64 ls [.int r15]) rfl ?_
          refine lv_istore (lv' := [(5, .int r15), (0, .ref (ad 0)), (1, .int a1), (3, .int a3), (4, .int a4)]) hx hb dX5_floor_64 hl (by decide) rfl (fun ls hl => ?_)
          have hF := Option.some.inj hF
          subst hF
          exact Jx7 _ _ _ hP hD hS (lv_sub hl [0, 1, 2, 3, 4] rfl)
      have hF := hRx6
      refine lv_if_ne (tgt := 48) hx hb dX5_floor_37 (by decide) (fun c16 => ?_) (fun c16 => ?_)
      · have hF := (if_neg c16).symm.trans hF
        have hF := Option.some.inj hF
        subst hF
        exact Jx6 _ _ _ hP hD hS (lv_sub hl [0, 1, 2, 4, 5] rfl)
      · have hF := (if_pos c16).symm.trans hF
        refine lv_iload hx hb dX5_floor_40 (lv_at hl 5 rfl) ?_
        refine lv_if_ge (tgt := 48) hx hb dX5_floor_42 (by decide) (fun c17 => ?_) (fun c17 => ?_)
        · have hF := (if_pos c17).symm.trans hF
          have hF := Option.some.inj hF
          subst hF
          exact Jx6 _ _ _ hP hD hS (lv_sub hl [0, 1, 2, 4, 5] rfl)
        · have hF := (if_neg c17).symm.trans hF
          refine lv_iconst (v := (4 : Int32)) hx hb dX5_floor_45 (by decide) ?_
          refine lv_istore (lv' := [(5, .int (4 : Int32)), (0, .ref (ad 0)), (1, .int a1), (2, .int a2), (3, .int a3), (4, .int a4)]) hx hb dX5_floor_46 hl (by decide) rfl (fun ls hl => ?_)
          have hF := Option.some.inj hF
          subst hF
          exact Jx6 _ _ _ hP hD hS (lv_sub hl [0, 1, 2, 4, 5] rfl)
    · have hF := (if_pos c4).symm.trans hF
      refine lv_bipush (v := (-2 : Int32)) hx hb dX5_floor_21 (by decide) ?_
      have hF := Option.some.inj hF
      subst hF
      exact hE _ _ _ _ _ hP hD hS dX5_floor_23 rfl rfl
  · have hF := (if_pos c2).symm.trans hF
    refine lv_iconst (v := (-1 : Int32)) hx hb dX5_floor_12 (by decide) ?_
    have hF := Option.some.inj hF
    subst hF
    exact hE _ _ _ _ _ hP hD hS dX5_floor_13 rfl rfl
theorem lk_X0_isSort : LK yX0_isSort cX0_isSort 2 (some .boolean) 1 := ⟨q254, q3, by decide +kernel⟩
def F_X0_isSort (a1 : Int32) (si : tSI) (sa : tSA) : Option Int32 :=
  (if a1 < 0 then some (0 : Int32) else (if (si 2) ≤ a1 then some (0 : Int32) else some (1 : Int32)))
set_option maxHeartbeats 4000000 in
set_option maxRecDepth 100000 in
theorem c_X0_isSort (l : Launch) (D : va_G) (cA : ClassId) (ad : Nat → Nat) (si : tSI) (sa : tSA) (a1 : Int32) (o : Int32) (hF : F_X0_isSort a1 si sa = some o) : CG l yX0_isSort cX0_isSort 2 (some .boolean) 0 0 D cA [.ref (ad 2), .int a1] (WX cA ad si sa) (WX cA ad si sa) (some (.int o)) := by
  refine CG.ofi (by decide) (Nat.le_of_ble_eq_true rfl) ?_
  intro p ee s m args below meth c A Q H0 ls C0 hA hP hD hS hl hE
  have hl : lv_has ls 2 [(0, .ref (ad 2)), (1, .int a1)] := hl
  obtain ⟨hx, hb, hml, hown, ht, hK⟩ := id C0
  unfold F_X0_isSort at hF
  refine lv_iload_n hx hb dX0_isSort_0 rfl (lv_at hl 1 rfl) ?_
  refine lv_if_lt (tgt := 16) hx hb dX0_isSort_1 (by decide) (fun c1 => ?_) (fun c1 => ?_)
  · have hF := (if_pos c1).symm.trans hF
    refine lv_iconst (v := (0 : Int32)) hx hb dX0_isSort_16 (by decide) ?_
    have hF := Option.some.inj hF
    exact hE _ _ _ _ _ hP hD hS dX0_isSort_17 rfl hF
  · have hF := (if_neg c1).symm.trans hF
    refine lv_iload_n hx hb dX0_isSort_4 rfl (lv_at hl 1 rfl) ?_
    refine lv_aload_n hx hb dX0_isSort_5 rfl (lv_at hl 0 rfl) ?_
    refine gX2_0 (v := (si 2)) C0 hP rfl q42 dX0_isSort_6 ?_
    refine lv_icmp_ge (tgt := 16) hx hb dX0_isSort_9 (by decide) (fun c2 => ?_) (fun c2 => ?_)
    · have hF := (if_pos c2).symm.trans hF
      refine lv_iconst (v := (0 : Int32)) hx hb dX0_isSort_16 (by decide) ?_
      have hF := Option.some.inj hF
      exact hE _ _ _ _ _ hP hD hS dX0_isSort_17 rfl hF
    · have hF := (if_neg c2).symm.trans hF
      refine lv_iconst (v := (1 : Int32)) hx hb dX0_isSort_12 (by decide) ?_
      refine lv_goto (tgt := 17) hx hb dX0_isSort_13 (by decide) ?_
      have hF := Option.some.inj hF
      exact hE _ _ _ _ _ hP hD hS dX0_isSort_17 rfl hF
theorem lk_X5_look : LK yX5_look cX5_look 2 (some .int) 2 := ⟨q257, q1, by decide +kernel⟩
def F_X5_look (a1 : Int32) (a2 : Int32) : Option Int32 :=
  (if a1 = 1 then some (a2 + (1 : Int32)) else (if a1 = 2 then some ((2 : Int32) * (a2 + (1 : Int32))) else some a2))
set_option maxHeartbeats 4000000 in
set_option maxRecDepth 100000 in
theorem c_X5_look (l : Launch) (D : va_G) (cA : ClassId) (ad : Nat → Nat) (si : tSI) (sa : tSA) (a1 : Int32) (a2 : Int32) (o : Int32) (hF : F_X5_look a1 a2 = some o) : CG l yX5_look cX5_look 2 (some .int) 0 0 D cA [.int a1, .int a2] (WX cA ad si sa) (WX cA ad si sa) (some (.int o)) := by
  refine CG.ofi (by decide) (Nat.le_of_ble_eq_true rfl) ?_
  intro p ee s m args below meth c A Q H0 ls C0 hA hP hD hS hl hE
  have hl : lv_has ls 2 [(0, .int a1), (1, .int a2)] := hl
  obtain ⟨hx, hb, hml, hown, ht, hK⟩ := id C0
  unfold F_X5_look at hF
  refine lv_iload_n hx hb dX5_look_0 rfl (lv_at hl 0 rfl) ?_
  rcases Decidable.em (a1 = 1) with c1 | c1
  · have hF := (if_pos c1).symm.trans hF
    refine lv_lookup (off := 33) (tgt := 34) hx hb dX5_look_1 (by decide) (by rw [c1]; decide) (by decide) ?_
    refine lv_iload_n hx hb dX5_look_34 rfl (lv_at hl 1 rfl) ?_
    refine lv_iconst (v := (1 : Int32)) hx hb dX5_look_35 (by decide) ?_
    refine lv_iadd hx hb dX5_look_36 ?_
    have hF := Option.some.inj hF
    exact hE _ _ _ _ _ hP hD hS dX5_look_37 rfl hF
  · have hF := (if_neg c1).symm.trans hF
    rcases Decidable.em (a1 = 2) with c2 | c2
    · have hF := (if_pos c2).symm.trans hF
      refine lv_lookup (off := 27) (tgt := 28) hx hb dX5_look_1 (by decide) (by rw [c2]; decide) (by decide) ?_
      refine lv_iconst (v := (2 : Int32)) hx hb dX5_look_28 (by decide) ?_
      refine lv_iload_n hx hb dX5_look_29 rfl (lv_at hl 1 rfl) ?_
      refine lv_iconst (v := (1 : Int32)) hx hb dX5_look_30 (by decide) ?_
      refine lv_iadd hx hb dX5_look_31 ?_
      refine lv_imul hx hb dX5_look_32 ?_
      have hF := Option.some.inj hF
      exact hE _ _ _ _ _ hP hD hS dX5_look_33 rfl hF
    · have hF := (if_neg c2).symm.trans hF
      have hc1 := ne_toIntk (1) (1) (by decide) c1
      have hc2 := ne_toIntk (2) (2) (by decide) c2
      refine lv_lookup (off := 37) (tgt := 38) hx hb dX5_look_1 (by decide) (by simp [Op.lookupswitch.offset, hc1, hc1.symm, hc2, hc2.symm]) (by decide) ?_
      refine lv_iload_n hx hb dX5_look_38 rfl (lv_at hl 1 rfl) ?_
      have hF := Option.some.inj hF
      exact hE _ _ _ _ _ hP hD hS dX5_look_39 rfl hF
theorem lk_X5_ofSort : LK yX5_ofSort cX5_ofSort 3 (some .int) 2 := ⟨q250, q1, by decide +kernel⟩
def F_X5_ofSort (a1 : Int32) (a2 : Int32) (si : tSI) (sa : tSA) : Option Int32 :=
  (F_X0_isSort a1 si sa).bind fun r1 => (if r1 = 0 then some (-1 : Int32) else (if a2 = 0 then ld a1 6 (some ((sa 4) (Int32.toNatClampNeg a1))) else (if a2 = 1 then ld a1 6 (some ((sa 5) (Int32.toNatClampNeg a1))) else (if a2 = 2 then ld a1 6 (some ((sa 6) (Int32.toNatClampNeg a1))) else (if a2 = 3 then ld a1 6 (some ((sa 7) (Int32.toNatClampNeg a1))) else (if a2 = 4 then ld a1 6 (ld a1 6 ((F_X5_look ((sa 4) (Int32.toNatClampNeg a1)) ((sa 6) (Int32.toNatClampNeg a1))).bind fun r8 => some r8)) else some (-2 : Int32)))))))
set_option maxHeartbeats 4000000 in
set_option maxRecDepth 100000 in
theorem c_X5_ofSort (l : Launch) (D : va_G) (cA : ClassId) (ad : Nat → Nat) (si : tSI) (sa : tSA) (a1 : Int32) (a2 : Int32) (o : Int32) (hF : F_X5_ofSort a1 a2 si sa = some o) : CG l yX5_ofSort cX5_ofSort 3 (some .int) 1 21 D cA [.ref (ad 0), .int a1, .int a2] (WX cA ad si sa) (WX cA ad si sa) (some (.int o)) := by
  refine CG.ofi (by decide) (Nat.le_of_ble_eq_true rfl) ?_
  intro p ee s m args below meth c A Q H0 ls C0 hA hP hD hS hl hE
  have hl : lv_has ls 3 [(0, .ref (ad 0)), (1, .int a1), (2, .int a2)] := hl
  obtain ⟨hx, hb, hml, hown, ht, hK⟩ := id C0
  unfold F_X5_ofSort at hF
  refine lv_aload_n hx hb dX5_ofSort_0 rfl (lv_at hl 0 rfl) ?_
  refine gX0_1 C0 hP q146 dX5_ofSort_1 ?_
  refine lv_iload_n hx hb dX5_ofSort_4 rfl (lv_at hl 1 rfl) ?_
  obtain ⟨r1, hr1, hF⟩ := bd_some hF
  refine kcV (As := [.int a1]) (rest := []) C0 hA hP hD hS (c_X0_isSort l D cA ad si sa a1 r1 hr1) lk_X0_isSort q252 q253 q251 2 0 rfl rfl hl.1 rfl rfl (Nat.le_of_ble_eq_true rfl) ⟨Nat.le_of_ble_eq_true rfl, Nat.le_of_ble_eq_true rfl⟩ ⟨Nat.le_refl _, Nat.le_refl _⟩ dX5_ofSort_5 (fun H locs hP hD hS => ?_)
  refine W.eq (g2 := F0 m 8 ls [.int r1]) rfl ?_
  refine lv_if_ne (tgt := 13) hx hb dX5_ofSort_8 (by decide) (fun c2 => ?_) (fun c2 => ?_)
  · have hF := (if_neg c2).symm.trans hF
    refine lv_iload_n hx hb dX5_ofSort_13 rfl (lv_at hl 2 rfl) ?_
    rcases Decidable.em (a2 = 0) with c3 | c3
    · have hF := (if_pos c3).symm.trans hF
      refine lv_tableIn (off := 34) (tgt := 48) hx hb dX5_ofSort_14 (by rw [c3]; decide) (by rw [c3]; decide) (by rw [c3]; rfl) (by decide) ?_
      refine lv_aload_n hx hb dX5_ofSort_48 rfl (lv_at hl 0 rfl) ?_
      refine gX0_1 C0 hP q146 dX5_ofSort_49 ?_
      refine gX2_3 C0 hP q50 dX5_ofSort_52 ?_
      refine lv_iload_n hx hb dX5_ofSort_55 rfl (lv_at hl 1 rfl) ?_
      obtain ⟨hin, hF⟩ := ld_some hF
      refine aXl4 (f := (sa 4)) C0 hP rfl hin dX5_ofSort_56 ?_
      have hF := Option.some.inj hF
      exact hE _ _ _ _ _ hP hD hS dX5_ofSort_57 rfl hF
    · have hF := (if_neg c3).symm.trans hF
      rcases Decidable.em (a2 = 1) with c4 | c4
      · have hF := (if_pos c4).symm.trans hF
        refine lv_tableIn (off := 44) (tgt := 58) hx hb dX5_ofSort_14 (by rw [c4]; decide) (by rw [c4]; decide) (by rw [c4]; rfl) (by decide) ?_
        refine lv_aload_n hx hb dX5_ofSort_58 rfl (lv_at hl 0 rfl) ?_
        refine gX0_1 C0 hP q146 dX5_ofSort_59 ?_
        refine gX2_4 C0 hP q52 dX5_ofSort_62 ?_
        refine lv_iload_n hx hb dX5_ofSort_65 rfl (lv_at hl 1 rfl) ?_
        obtain ⟨hin, hF⟩ := ld_some hF
        refine aXl5 (f := (sa 5)) C0 hP rfl hin dX5_ofSort_66 ?_
        have hF := Option.some.inj hF
        exact hE _ _ _ _ _ hP hD hS dX5_ofSort_67 rfl hF
      · have hF := (if_neg c4).symm.trans hF
        rcases Decidable.em (a2 = 2) with c5 | c5
        · have hF := (if_pos c5).symm.trans hF
          refine lv_tableIn (off := 54) (tgt := 68) hx hb dX5_ofSort_14 (by rw [c5]; decide) (by rw [c5]; decide) (by rw [c5]; rfl) (by decide) ?_
          refine lv_aload_n hx hb dX5_ofSort_68 rfl (lv_at hl 0 rfl) ?_
          refine gX0_1 C0 hP q146 dX5_ofSort_69 ?_
          refine gX2_5 C0 hP q54 dX5_ofSort_72 ?_
          refine lv_iload_n hx hb dX5_ofSort_75 rfl (lv_at hl 1 rfl) ?_
          obtain ⟨hin, hF⟩ := ld_some hF
          refine aXl6 (f := (sa 6)) C0 hP rfl hin dX5_ofSort_76 ?_
          have hF := Option.some.inj hF
          exact hE _ _ _ _ _ hP hD hS dX5_ofSort_77 rfl hF
        · have hF := (if_neg c5).symm.trans hF
          rcases Decidable.em (a2 = 3) with c6 | c6
          · have hF := (if_pos c6).symm.trans hF
            refine lv_tableIn (off := 64) (tgt := 78) hx hb dX5_ofSort_14 (by rw [c6]; decide) (by rw [c6]; decide) (by rw [c6]; rfl) (by decide) ?_
            refine lv_aload_n hx hb dX5_ofSort_78 rfl (lv_at hl 0 rfl) ?_
            refine gX0_1 C0 hP q146 dX5_ofSort_79 ?_
            refine gX2_6 C0 hP q56 dX5_ofSort_82 ?_
            refine lv_iload_n hx hb dX5_ofSort_85 rfl (lv_at hl 1 rfl) ?_
            obtain ⟨hin, hF⟩ := ld_some hF
            refine aXl7 (f := (sa 7)) C0 hP rfl hin dX5_ofSort_86 ?_
            have hF := Option.some.inj hF
            exact hE _ _ _ _ _ hP hD hS dX5_ofSort_87 rfl hF
          · have hF := (if_neg c6).symm.trans hF
            rcases Decidable.em (a2 = 4) with c7 | c7
            · have hF := (if_pos c7).symm.trans hF
              refine lv_tableIn (off := 74) (tgt := 88) hx hb dX5_ofSort_14 (by rw [c7]; decide) (by rw [c7]; decide) (by rw [c7]; rfl) (by decide) ?_
              refine lv_aload_n hx hb dX5_ofSort_88 rfl (lv_at hl 0 rfl) ?_
              refine gX0_1 C0 hP q146 dX5_ofSort_89 ?_
              refine gX2_3 C0 hP q50 dX5_ofSort_92 ?_
              refine lv_iload_n hx hb dX5_ofSort_95 rfl (lv_at hl 1 rfl) ?_
              obtain ⟨hin, hF⟩ := ld_some hF
              refine aXl4 (f := (sa 4)) C0 hP rfl hin dX5_ofSort_96 ?_
              refine lv_aload_n hx hb dX5_ofSort_97 rfl (lv_at hl 0 rfl) ?_
              refine gX0_1 C0 hP q146 dX5_ofSort_98 ?_
              refine gX2_5 C0 hP q54 dX5_ofSort_101 ?_
              refine lv_iload_n hx hb dX5_ofSort_104 rfl (lv_at hl 1 rfl) ?_
              obtain ⟨hin, hF⟩ := ld_some hF
              refine aXl6 (f := (sa 6)) C0 hP rfl hin dX5_ofSort_105 ?_
              obtain ⟨r8, hr8, hF⟩ := bd_some hF
              refine kcS (As := [.int ((sa 4) (Int32.toNatClampNeg a1)), .int ((sa 6) (Int32.toNatClampNeg a1))]) (rest := []) C0 hA hP hD hS (c_X5_look l D cA ad si sa ((sa 4) (Int32.toNatClampNeg a1)) ((sa 6) (Int32.toNatClampNeg a1)) r8 hr8) lk_X5_look q256 q255 hl.1 rfl rfl (Nat.le_of_ble_eq_true rfl) ⟨Nat.le_of_ble_eq_true rfl, Nat.le_of_ble_eq_true rfl⟩ ⟨Nat.le_refl _, Nat.le_refl _⟩ dX5_ofSort_106 (fun H locs hP hD hS => ?_)
              refine W.eq (g2 := F0 m 109 ls [.int r8]) rfl ?_
              have hF := Option.some.inj hF
              exact hE _ _ _ _ _ hP hD hS dX5_ofSort_109 rfl hF
            · have hF := (if_neg c7).symm.trans hF
              have hout : (Int32.toInt a2) < 0 ∨ 4 < (Int32.toInt a2) := by
                have hc3 := ne_toIntk (0) (0) (by decide) c3
                have hc4 := ne_toIntk (1) (1) (by decide) c4
                have hc5 := ne_toIntk (2) (2) (by decide) c5
                have hc6 := ne_toIntk (3) (3) (by decide) c6
                have hc7 := ne_toIntk (4) (4) (by decide) c7
                omega
              refine lv_tableOut (tgt := 110) hx hb dX5_ofSort_14 hout (by decide) ?_
              refine lv_bipush (v := (-2 : Int32)) hx hb dX5_ofSort_110 (by decide) ?_
              have hF := Option.some.inj hF
              exact hE _ _ _ _ _ hP hD hS dX5_ofSort_112 rfl hF
  · have hF := (if_pos c2).symm.trans hF
    refine lv_iconst (v := (-1 : Int32)) hx hb dX5_ofSort_11 (by decide) ?_
    have hF := Option.some.inj hF
    exact hE _ _ _ _ _ hP hD hS dX5_ofSort_12 rfl hF
theorem lk_X0_isSign : LK yX0_isSign cX0_isSign 2 (some .boolean) 1 := ⟨q265, q3, by decide +kernel⟩
def F_X0_isSign (a1 : Int32) (si : tSI) (sa : tSA) : Option Int32 :=
  (if a1 < 0 then some (0 : Int32) else (if (si 3) ≤ a1 then some (0 : Int32) else some (1 : Int32)))
set_option maxHeartbeats 4000000 in
set_option maxRecDepth 100000 in
theorem c_X0_isSign (l : Launch) (D : va_G) (cA : ClassId) (ad : Nat → Nat) (si : tSI) (sa : tSA) (a1 : Int32) (o : Int32) (hF : F_X0_isSign a1 si sa = some o) : CG l yX0_isSign cX0_isSign 2 (some .boolean) 0 0 D cA [.ref (ad 2), .int a1] (WX cA ad si sa) (WX cA ad si sa) (some (.int o)) := by
  refine CG.ofi (by decide) (Nat.le_of_ble_eq_true rfl) ?_
  intro p ee s m args below meth c A Q H0 ls C0 hA hP hD hS hl hE
  have hl : lv_has ls 2 [(0, .ref (ad 2)), (1, .int a1)] := hl
  obtain ⟨hx, hb, hml, hown, ht, hK⟩ := id C0
  unfold F_X0_isSign at hF
  refine lv_iload_n hx hb dX0_isSign_0 rfl (lv_at hl 1 rfl) ?_
  refine lv_if_lt (tgt := 16) hx hb dX0_isSign_1 (by decide) (fun c1 => ?_) (fun c1 => ?_)
  · have hF := (if_pos c1).symm.trans hF
    refine lv_iconst (v := (0 : Int32)) hx hb dX0_isSign_16 (by decide) ?_
    have hF := Option.some.inj hF
    exact hE _ _ _ _ _ hP hD hS dX0_isSign_17 rfl hF
  · have hF := (if_neg c1).symm.trans hF
    refine lv_iload_n hx hb dX0_isSign_4 rfl (lv_at hl 1 rfl) ?_
    refine lv_aload_n hx hb dX0_isSign_5 rfl (lv_at hl 0 rfl) ?_
    refine gX2_1 (v := (si 3)) C0 hP rfl q45 dX0_isSign_6 ?_
    refine lv_icmp_ge (tgt := 16) hx hb dX0_isSign_9 (by decide) (fun c2 => ?_) (fun c2 => ?_)
    · have hF := (if_pos c2).symm.trans hF
      refine lv_iconst (v := (0 : Int32)) hx hb dX0_isSign_16 (by decide) ?_
      have hF := Option.some.inj hF
      exact hE _ _ _ _ _ hP hD hS dX0_isSign_17 rfl hF
    · have hF := (if_neg c2).symm.trans hF
      refine lv_iconst (v := (1 : Int32)) hx hb dX0_isSign_12 (by decide) ?_
      refine lv_goto (tgt := 17) hx hb dX0_isSign_13 (by decide) ?_
      have hF := Option.some.inj hF
      exact hE _ _ _ _ _ hP hD hS dX0_isSign_17 rfl hF
theorem lk_X5_ofSign : LK yX5_ofSign cX5_ofSign 2 (some .int) 1 := ⟨q261, q1, by decide +kernel⟩
def F_X5_ofSign (a1 : Int32) (si : tSI) (sa : tSA) : Option Int32 :=
  (F_X0_isSign a1 si sa).bind fun r1 => (if r1 = 0 then some (-1 : Int32) else ld a1 5 (some ((sa 8) (Int32.toNatClampNeg a1))))
set_option maxHeartbeats 4000000 in
set_option maxRecDepth 100000 in
theorem c_X5_ofSign (l : Launch) (D : va_G) (cA : ClassId) (ad : Nat → Nat) (si : tSI) (sa : tSA) (a1 : Int32) (o : Int32) (hF : F_X5_ofSign a1 si sa = some o) : CG l yX5_ofSign cX5_ofSign 2 (some .int) 1 21 D cA [.ref (ad 0), .int a1] (WX cA ad si sa) (WX cA ad si sa) (some (.int o)) := by
  refine CG.ofi (by decide) (Nat.le_of_ble_eq_true rfl) ?_
  intro p ee s m args below meth c A Q H0 ls C0 hA hP hD hS hl hE
  have hl : lv_has ls 2 [(0, .ref (ad 0)), (1, .int a1)] := hl
  obtain ⟨hx, hb, hml, hown, ht, hK⟩ := id C0
  unfold F_X5_ofSign at hF
  refine lv_aload_n hx hb dX5_ofSign_0 rfl (lv_at hl 0 rfl) ?_
  refine gX0_1 C0 hP q146 dX5_ofSign_1 ?_
  refine lv_iload_n hx hb dX5_ofSign_4 rfl (lv_at hl 1 rfl) ?_
  obtain ⟨r1, hr1, hF⟩ := bd_some hF
  refine kcV (As := [.int a1]) (rest := []) C0 hA hP hD hS (c_X0_isSign l D cA ad si sa a1 r1 hr1) lk_X0_isSign q263 q264 q262 2 0 rfl rfl hl.1 rfl rfl (Nat.le_of_ble_eq_true rfl) ⟨Nat.le_of_ble_eq_true rfl, Nat.le_of_ble_eq_true rfl⟩ ⟨Nat.le_refl _, Nat.le_refl _⟩ dX5_ofSign_5 (fun H locs hP hD hS => ?_)
  refine W.eq (g2 := F0 m 8 ls [.int r1]) rfl ?_
  refine lv_if_eq (tgt := 23) hx hb dX5_ofSign_8 (by decide) (fun c2 => ?_) (fun c2 => ?_)
  · have hF := (if_pos c2).symm.trans hF
    refine lv_iconst (v := (-1 : Int32)) hx hb dX5_ofSign_23 (by decide) ?_
    have hF := Option.some.inj hF
    exact hE _ _ _ _ _ hP hD hS dX5_ofSign_24 rfl hF
  · have hF := (if_neg c2).symm.trans hF
    refine lv_aload_n hx hb dX5_ofSign_11 rfl (lv_at hl 0 rfl) ?_
    refine gX0_1 C0 hP q146 dX5_ofSign_12 ?_
    refine gX2_7 C0 hP q58 dX5_ofSign_15 ?_
    refine lv_iload_n hx hb dX5_ofSign_18 rfl (lv_at hl 1 rfl) ?_
    obtain ⟨hin, hF⟩ := ld_some hF
    refine aXl8 (f := (sa 8)) C0 hP rfl hin dX5_ofSign_19 ?_
    refine lv_goto (tgt := 24) hx hb dX5_ofSign_20 (by decide) ?_
    have hF := Option.some.inj hF
    exact hE _ _ _ _ _ hP hD hS dX5_ofSign_24 rfl hF
theorem lk_X5_lay : LK yX5_lay cX5_lay 4 (some .int) 2 := ⟨q269, q1, by decide +kernel⟩
def F_X5_lay (a1 : Int32) (a2 : Int32) (si : tSI) (sa : tSA) : Option (Int32 × tSI × tSA) :=
  (F_X0_isSort a1 si sa).bind fun r1 => (if r1 = 0 then some ((-1 : Int32), si, sa) else (if a2 < 0 then some ((-2 : Int32), si, sa) else (if a2 ≤ (9 : Int32) then ld a1 6 (ld a1 6 (some (((sa 5) (Int32.toNatClampNeg a1)), si, (va_up sa 5 (upd (sa 5) (Int32.toNatClampNeg a1) a2))))) else some ((-2 : Int32), si, sa))))
set_option maxHeartbeats 4000000 in
set_option maxRecDepth 100000 in
theorem c_X5_lay (l : Launch) (D : va_G) (cA : ClassId) (ad : Nat → Nat) (si : tSI) (sa : tSA) (a1 : Int32) (a2 : Int32) (o : (Int32 × tSI × tSA)) (hF : F_X5_lay a1 a2 si sa = some o) : CG l yX5_lay cX5_lay 4 (some .int) 1 21 D cA [.ref (ad 0), .int a1, .int a2] (WX cA ad si sa) (WX cA ad o.2.1 o.2.2) (some (.int o.1)) := by
  refine CG.ofi (by decide) (Nat.le_of_ble_eq_true rfl) ?_
  intro p ee s m args below meth c A Q H0 ls C0 hA hP hD hS hl hE
  have hl : lv_has ls 4 [(0, .ref (ad 0)), (1, .int a1), (2, .int a2)] := hl
  obtain ⟨hx, hb, hml, hown, ht, hK⟩ := id C0
  unfold F_X5_lay at hF
  refine lv_aload_n hx hb dX5_lay_0 rfl (lv_at hl 0 rfl) ?_
  refine gX0_1 C0 hP q146 dX5_lay_1 ?_
  refine lv_iload_n hx hb dX5_lay_4 rfl (lv_at hl 1 rfl) ?_
  obtain ⟨r1, hr1, hF⟩ := bd_some hF
  refine kcV (As := [.int a1]) (rest := []) C0 hA hP hD hS (c_X0_isSort l D cA ad si sa a1 r1 hr1) lk_X0_isSort q252 q253 q251 2 0 rfl rfl hl.1 rfl rfl (Nat.le_of_ble_eq_true rfl) ⟨Nat.le_of_ble_eq_true rfl, Nat.le_of_ble_eq_true rfl⟩ ⟨Nat.le_refl _, Nat.le_refl _⟩ dX5_lay_5 (fun H locs hP hD hS => ?_)
  refine W.eq (g2 := F0 m 8 ls [.int r1]) rfl ?_
  refine lv_if_ne (tgt := 13) hx hb dX5_lay_8 (by decide) (fun c2 => ?_) (fun c2 => ?_)
  · have hF := (if_neg c2).symm.trans hF
    refine lv_iload_n hx hb dX5_lay_13 rfl (lv_at hl 2 rfl) ?_
    refine lv_if_lt (tgt := 23) hx hb dX5_lay_14 (by decide) (fun c3 => ?_) (fun c3 => ?_)
    · have hF := (if_pos c3).symm.trans hF
      refine lv_bipush (v := (-2 : Int32)) hx hb dX5_lay_23 (by decide) ?_
      have hF := Option.some.inj hF
      subst hF
      exact hE _ _ _ _ _ hP hD hS dX5_lay_25 rfl rfl
    · have hF := (if_neg c3).symm.trans hF
      refine lv_iload_n hx hb dX5_lay_17 rfl (lv_at hl 2 rfl) ?_
      refine lv_bipush (v := (9 : Int32)) hx hb dX5_lay_18 (by decide) ?_
      refine lv_icmp_le (tgt := 26) hx hb dX5_lay_20 (by decide) (fun c4 => ?_) (fun c4 => ?_)
      · have hF := (if_pos c4).symm.trans hF
        refine lv_aload_n hx hb dX5_lay_26 rfl (lv_at hl 0 rfl) ?_
        refine gX0_1 C0 hP q146 dX5_lay_27 ?_
        refine gX2_4 C0 hP q52 dX5_lay_30 ?_
        refine lv_iload_n hx hb dX5_lay_33 rfl (lv_at hl 1 rfl) ?_
        obtain ⟨hin, hF⟩ := ld_some hF
        refine aXl5 (f := (sa 5)) C0 hP rfl hin dX5_lay_34 ?_
        refine lv_istore_n (lv' := [(3, .int ((sa 5) (Int32.toNatClampNeg a1))), (0, .ref (ad 0)), (1, .int a1), (2, .int a2)]) hx hb dX5_lay_35 rfl hl (by decide) rfl (fun ls hl => ?_)
        refine lv_aload_n hx hb dX5_lay_36 rfl (lv_at hl 1 rfl) ?_
        refine gX0_1 C0 hP q146 dX5_lay_37 ?_
        refine gX2_4 C0 hP q52 dX5_lay_40 ?_
        refine lv_iload_n hx hb dX5_lay_43 rfl (lv_at hl 2 rfl) ?_
        refine lv_iload_n hx hb dX5_lay_44 rfl (lv_at hl 3 rfl) ?_
        obtain ⟨hin, hF⟩ := ld_some hF
        refine aXs5 (f := (sa 5)) C0 hP hD hS rfl hin dX5_lay_45 (fun H locs hP hD hS => ?_)
        refine lv_iload_n hx hb dX5_lay_46 rfl (lv_at hl 0 rfl) ?_
        have hF := Option.some.inj hF
        subst hF
        exact hE _ _ _ _ _ hP hD hS dX5_lay_47 rfl rfl
      · have hF := (if_neg c4).symm.trans hF
        refine lv_bipush (v := (-2 : Int32)) hx hb dX5_lay_23 (by decide) ?_
        have hF := Option.some.inj hF
        subst hF
        exact hE _ _ _ _ _ hP hD hS dX5_lay_25 rfl rfl
  · have hF := (if_pos c2).symm.trans hF
    refine lv_iconst (v := (-1 : Int32)) hx hb dX5_lay_11 (by decide) ?_
    have hF := Option.some.inj hF
    subst hF
    exact hE _ _ _ _ _ hP hD hS dX5_lay_12 rfl rfl
theorem lk_X5_sign : LK yX5_sign cX5_sign 4 (some .int) 2 := ⟨q273, q1, by decide +kernel⟩
def F_X5_sign (a1 : Int32) (a2 : Int32) (si : tSI) (sa : tSA) : Option (Int32 × tSI × tSA) :=
  (F_X0_isSign a1 si sa).bind fun r1 => (if r1 = 0 then some ((-1 : Int32), si, sa) else (if a2 < 0 then some ((-2 : Int32), si, sa) else (if a2 ≤ (63 : Int32) then ld a1 5 ((F_X0_everySort si sa).bind fun r5 => ld a1 5 (some (((sa 8) (Int32.toNatClampNeg a1)), si, (va_up sa 8 (upd (sa 8) (Int32.toNatClampNeg a1) (a2 &&& r5)))))) else some ((-2 : Int32), si, sa))))
set_option maxHeartbeats 4000000 in
set_option maxRecDepth 100000 in
theorem c_X5_sign (l : Launch) (D : va_G) (cA : ClassId) (ad : Nat → Nat) (si : tSI) (sa : tSA) (a1 : Int32) (a2 : Int32) (o : (Int32 × tSI × tSA)) (hF : F_X5_sign a1 a2 si sa = some o) : CG l yX5_sign cX5_sign 4 (some .int) 1 21 D cA [.ref (ad 0), .int a1, .int a2] (WX cA ad si sa) (WX cA ad o.2.1 o.2.2) (some (.int o.1)) := by
  refine CG.ofi (by decide) (Nat.le_of_ble_eq_true rfl) ?_
  intro p ee s m args below meth c A Q H0 ls C0 hA hP hD hS hl hE
  have hl : lv_has ls 4 [(0, .ref (ad 0)), (1, .int a1), (2, .int a2)] := hl
  obtain ⟨hx, hb, hml, hown, ht, hK⟩ := id C0
  unfold F_X5_sign at hF
  refine lv_aload_n hx hb dX5_sign_0 rfl (lv_at hl 0 rfl) ?_
  refine gX0_1 C0 hP q146 dX5_sign_1 ?_
  refine lv_iload_n hx hb dX5_sign_4 rfl (lv_at hl 1 rfl) ?_
  obtain ⟨r1, hr1, hF⟩ := bd_some hF
  refine kcV (As := [.int a1]) (rest := []) C0 hA hP hD hS (c_X0_isSign l D cA ad si sa a1 r1 hr1) lk_X0_isSign q263 q264 q262 2 0 rfl rfl hl.1 rfl rfl (Nat.le_of_ble_eq_true rfl) ⟨Nat.le_of_ble_eq_true rfl, Nat.le_of_ble_eq_true rfl⟩ ⟨Nat.le_refl _, Nat.le_refl _⟩ dX5_sign_5 (fun H locs hP hD hS => ?_)
  refine W.eq (g2 := F0 m 8 ls [.int r1]) rfl ?_
  refine lv_if_ne (tgt := 13) hx hb dX5_sign_8 (by decide) (fun c2 => ?_) (fun c2 => ?_)
  · have hF := (if_neg c2).symm.trans hF
    refine lv_iload_n hx hb dX5_sign_13 rfl (lv_at hl 2 rfl) ?_
    refine lv_if_lt (tgt := 23) hx hb dX5_sign_14 (by decide) (fun c3 => ?_) (fun c3 => ?_)
    · have hF := (if_pos c3).symm.trans hF
      refine lv_bipush (v := (-2 : Int32)) hx hb dX5_sign_23 (by decide) ?_
      have hF := Option.some.inj hF
      subst hF
      exact hE _ _ _ _ _ hP hD hS dX5_sign_25 rfl rfl
    · have hF := (if_neg c3).symm.trans hF
      refine lv_iload_n hx hb dX5_sign_17 rfl (lv_at hl 2 rfl) ?_
      refine lv_bipush (v := (63 : Int32)) hx hb dX5_sign_18 (by decide) ?_
      refine lv_icmp_le (tgt := 26) hx hb dX5_sign_20 (by decide) (fun c4 => ?_) (fun c4 => ?_)
      · have hF := (if_pos c4).symm.trans hF
        refine lv_aload_n hx hb dX5_sign_26 rfl (lv_at hl 0 rfl) ?_
        refine gX0_1 C0 hP q146 dX5_sign_27 ?_
        refine gX2_7 C0 hP q58 dX5_sign_30 ?_
        refine lv_iload_n hx hb dX5_sign_33 rfl (lv_at hl 1 rfl) ?_
        obtain ⟨hin, hF⟩ := ld_some hF
        refine aXl8 (f := (sa 8)) C0 hP rfl hin dX5_sign_34 ?_
        refine lv_istore_n (lv' := [(3, .int ((sa 8) (Int32.toNatClampNeg a1))), (0, .ref (ad 0)), (1, .int a1), (2, .int a2)]) hx hb dX5_sign_35 rfl hl (by decide) rfl (fun ls hl => ?_)
        refine lv_aload_n hx hb dX5_sign_36 rfl (lv_at hl 1 rfl) ?_
        refine gX0_1 C0 hP q146 dX5_sign_37 ?_
        refine gX2_7 C0 hP q58 dX5_sign_40 ?_
        refine lv_iload_n hx hb dX5_sign_43 rfl (lv_at hl 2 rfl) ?_
        refine lv_iload_n hx hb dX5_sign_44 rfl (lv_at hl 3 rfl) ?_
        refine lv_aload_n hx hb dX5_sign_45 rfl (lv_at hl 1 rfl) ?_
        refine gX0_1 C0 hP q146 dX5_sign_46 ?_
        obtain ⟨r5, hr5, hF⟩ := bd_some hF
        refine kcV (As := []) (rest := [.int a2, .int a1, .ref (ad 14)]) C0 hA hP hD hS (c_X0_everySort l D cA ad si sa r5 hr5) lk_X0_everySort q244 q245 q274 2 0 rfl rfl hl.1 rfl rfl (Nat.le_of_ble_eq_true rfl) ⟨Nat.le_of_ble_eq_true rfl, Nat.le_of_ble_eq_true rfl⟩ ⟨Nat.le_refl _, Nat.le_refl _⟩ dX5_sign_49 (fun H locs hP hD hS => ?_)
        refine W.eq (g2 := F0 m 52 ls [.int r5, .int a2, .int a1, .ref (ad 14)]) rfl ?_
        refine lv_iand hx hb dX5_sign_52 ?_
        obtain ⟨hin, hF⟩ := ld_some hF
        refine aXs8 (f := (sa 8)) C0 hP hD hS rfl hin dX5_sign_53 (fun H locs hP hD hS => ?_)
        refine lv_iload_n hx hb dX5_sign_54 rfl (lv_at hl 0 rfl) ?_
        have hF := Option.some.inj hF
        subst hF
        exact hE _ _ _ _ _ hP hD hS dX5_sign_55 rfl rfl
      · have hF := (if_neg c4).symm.trans hF
        refine lv_bipush (v := (-2 : Int32)) hx hb dX5_sign_23 (by decide) ?_
        have hF := Option.some.inj hF
        subst hF
        exact hE _ _ _ _ _ hP hD hS dX5_sign_25 rfl rfl
  · have hF := (if_pos c2).symm.trans hF
    refine lv_iconst (v := (-1 : Int32)) hx hb dX5_sign_11 (by decide) ?_
    have hF := Option.some.inj hF
    subst hF
    exact hE _ _ _ _ _ hP hD hS dX5_sign_12 rfl rfl
theorem lk_X5_isOfPlans : LK yX5_isOfPlans cX5_isOfPlans 1 (some .boolean) 1 := ⟨q281, q1, by decide +kernel⟩
def F_X5_isOfPlans (a1 : Int32) : Option Int32 :=
  (if a1 < 0 then (if a1 < (10 : Int32) then (if a1 < (20 : Int32) then some (0 : Int32) else (if (25 : Int32) < a1 then some (0 : Int32) else some (1 : Int32))) else (if a1 ≤ (15 : Int32) then some (1 : Int32) else (if a1 < (20 : Int32) then some (0 : Int32) else (if (25 : Int32) < a1 then some (0 : Int32) else some (1 : Int32))))) else (if a1 ≤ (3 : Int32) then some (1 : Int32) else (if a1 < (10 : Int32) then (if a1 < (20 : Int32) then some (0 : Int32) else (if (25 : Int32) < a1 then some (0 : Int32) else some (1 : Int32))) else (if a1 ≤ (15 : Int32) then some (1 : Int32) else (if a1 < (20 : Int32) then some (0 : Int32) else (if (25 : Int32) < a1 then some (0 : Int32) else some (1 : Int32)))))))
set_option maxHeartbeats 4000000 in
set_option maxRecDepth 100000 in
theorem c_X5_isOfPlans (l : Launch) (D : va_G) (cA : ClassId) (ad : Nat → Nat) (si : tSI) (sa : tSA) (a1 : Int32) (o : Int32) (hF : F_X5_isOfPlans a1 = some o) : CG l yX5_isOfPlans cX5_isOfPlans 1 (some .boolean) 0 0 D cA [.int a1] (WX cA ad si sa) (WX cA ad si sa) (some (.int o)) := by
  refine CG.ofi (by decide) (Nat.le_of_ble_eq_true rfl) ?_
  intro p ee s m args below meth c A Q H0 ls C0 hA hP hD hS hl hE
  have hl : lv_has ls 1 [(0, .int a1)] := hl
  obtain ⟨hx, hb, hml, hown, ht, hK⟩ := id C0
  unfold F_X5_isOfPlans at hF
  refine lv_iload_n hx hb dX5_isOfPlans_0 rfl (lv_at hl 0 rfl) ?_
  refine lv_if_lt (tgt := 9) hx hb dX5_isOfPlans_1 (by decide) (fun c1 => ?_) (fun c1 => ?_)
  · have hF := (if_pos c1).symm.trans hF
    refine lv_iload_n hx hb dX5_isOfPlans_9 rfl (lv_at hl 0 rfl) ?_
    refine lv_bipush (v := (10 : Int32)) hx hb dX5_isOfPlans_10 (by decide) ?_
    refine lv_icmp_lt (tgt := 21) hx hb dX5_isOfPlans_12 (by decide) (fun c2 => ?_) (fun c2 => ?_)
    · have hF := (if_pos c2).symm.trans hF
      refine lv_iload_n hx hb dX5_isOfPlans_21 rfl (lv_at hl 0 rfl) ?_
      refine lv_bipush (v := (20 : Int32)) hx hb dX5_isOfPlans_22 (by decide) ?_
      refine lv_icmp_lt (tgt := 37) hx hb dX5_isOfPlans_24 (by decide) (fun c3 => ?_) (fun c3 => ?_)
      · have hF := (if_pos c3).symm.trans hF
        refine lv_iconst (v := (0 : Int32)) hx hb dX5_isOfPlans_37 (by decide) ?_
        have hF := Option.some.inj hF
        exact hE _ _ _ _ _ hP hD hS dX5_isOfPlans_38 rfl hF
      · have hF := (if_neg c3).symm.trans hF
        refine lv_iload_n hx hb dX5_isOfPlans_27 rfl (lv_at hl 0 rfl) ?_
        refine lv_bipush (v := (25 : Int32)) hx hb dX5_isOfPlans_28 (by decide) ?_
        refine lv_icmp_gt (tgt := 37) hx hb dX5_isOfPlans_30 (by decide) (fun c4 => ?_) (fun c4 => ?_)
        · have hF := (if_pos c4).symm.trans hF
          refine lv_iconst (v := (0 : Int32)) hx hb dX5_isOfPlans_37 (by decide) ?_
          have hF := Option.some.inj hF
          exact hE _ _ _ _ _ hP hD hS dX5_isOfPlans_38 rfl hF
        · have hF := (if_neg c4).symm.trans hF
          refine lv_iconst (v := (1 : Int32)) hx hb dX5_isOfPlans_33 (by decide) ?_
          refine lv_goto (tgt := 38) hx hb dX5_isOfPlans_34 (by decide) ?_
          have hF := Option.some.inj hF
          exact hE _ _ _ _ _ hP hD hS dX5_isOfPlans_38 rfl hF
    · have hF := (if_neg c2).symm.trans hF
      refine lv_iload_n hx hb dX5_isOfPlans_15 rfl (lv_at hl 0 rfl) ?_
      refine lv_bipush (v := (15 : Int32)) hx hb dX5_isOfPlans_16 (by decide) ?_
      refine lv_icmp_le (tgt := 33) hx hb dX5_isOfPlans_18 (by decide) (fun c5 => ?_) (fun c5 => ?_)
      · have hF := (if_pos c5).symm.trans hF
        refine lv_iconst (v := (1 : Int32)) hx hb dX5_isOfPlans_33 (by decide) ?_
        refine lv_goto (tgt := 38) hx hb dX5_isOfPlans_34 (by decide) ?_
        have hF := Option.some.inj hF
        exact hE _ _ _ _ _ hP hD hS dX5_isOfPlans_38 rfl hF
      · have hF := (if_neg c5).symm.trans hF
        refine lv_iload_n hx hb dX5_isOfPlans_21 rfl (lv_at hl 0 rfl) ?_
        refine lv_bipush (v := (20 : Int32)) hx hb dX5_isOfPlans_22 (by decide) ?_
        refine lv_icmp_lt (tgt := 37) hx hb dX5_isOfPlans_24 (by decide) (fun c6 => ?_) (fun c6 => ?_)
        · have hF := (if_pos c6).symm.trans hF
          refine lv_iconst (v := (0 : Int32)) hx hb dX5_isOfPlans_37 (by decide) ?_
          have hF := Option.some.inj hF
          exact hE _ _ _ _ _ hP hD hS dX5_isOfPlans_38 rfl hF
        · have hF := (if_neg c6).symm.trans hF
          refine lv_iload_n hx hb dX5_isOfPlans_27 rfl (lv_at hl 0 rfl) ?_
          refine lv_bipush (v := (25 : Int32)) hx hb dX5_isOfPlans_28 (by decide) ?_
          refine lv_icmp_gt (tgt := 37) hx hb dX5_isOfPlans_30 (by decide) (fun c7 => ?_) (fun c7 => ?_)
          · have hF := (if_pos c7).symm.trans hF
            refine lv_iconst (v := (0 : Int32)) hx hb dX5_isOfPlans_37 (by decide) ?_
            have hF := Option.some.inj hF
            exact hE _ _ _ _ _ hP hD hS dX5_isOfPlans_38 rfl hF
          · have hF := (if_neg c7).symm.trans hF
            refine lv_iconst (v := (1 : Int32)) hx hb dX5_isOfPlans_33 (by decide) ?_
            refine lv_goto (tgt := 38) hx hb dX5_isOfPlans_34 (by decide) ?_
            have hF := Option.some.inj hF
            exact hE _ _ _ _ _ hP hD hS dX5_isOfPlans_38 rfl hF
  · have hF := (if_neg c1).symm.trans hF
    refine lv_iload_n hx hb dX5_isOfPlans_4 rfl (lv_at hl 0 rfl) ?_
    refine lv_iconst (v := (3 : Int32)) hx hb dX5_isOfPlans_5 (by decide) ?_
    refine lv_icmp_le (tgt := 33) hx hb dX5_isOfPlans_6 (by decide) (fun c8 => ?_) (fun c8 => ?_)
    · have hF := (if_pos c8).symm.trans hF
      refine lv_iconst (v := (1 : Int32)) hx hb dX5_isOfPlans_33 (by decide) ?_
      refine lv_goto (tgt := 38) hx hb dX5_isOfPlans_34 (by decide) ?_
      have hF := Option.some.inj hF
      exact hE _ _ _ _ _ hP hD hS dX5_isOfPlans_38 rfl hF
    · have hF := (if_neg c8).symm.trans hF
      refine lv_iload_n hx hb dX5_isOfPlans_9 rfl (lv_at hl 0 rfl) ?_
      refine lv_bipush (v := (10 : Int32)) hx hb dX5_isOfPlans_10 (by decide) ?_
      refine lv_icmp_lt (tgt := 21) hx hb dX5_isOfPlans_12 (by decide) (fun c9 => ?_) (fun c9 => ?_)
      · have hF := (if_pos c9).symm.trans hF
        refine lv_iload_n hx hb dX5_isOfPlans_21 rfl (lv_at hl 0 rfl) ?_
        refine lv_bipush (v := (20 : Int32)) hx hb dX5_isOfPlans_22 (by decide) ?_
        refine lv_icmp_lt (tgt := 37) hx hb dX5_isOfPlans_24 (by decide) (fun c10 => ?_) (fun c10 => ?_)
        · have hF := (if_pos c10).symm.trans hF
          refine lv_iconst (v := (0 : Int32)) hx hb dX5_isOfPlans_37 (by decide) ?_
          have hF := Option.some.inj hF
          exact hE _ _ _ _ _ hP hD hS dX5_isOfPlans_38 rfl hF
        · have hF := (if_neg c10).symm.trans hF
          refine lv_iload_n hx hb dX5_isOfPlans_27 rfl (lv_at hl 0 rfl) ?_
          refine lv_bipush (v := (25 : Int32)) hx hb dX5_isOfPlans_28 (by decide) ?_
          refine lv_icmp_gt (tgt := 37) hx hb dX5_isOfPlans_30 (by decide) (fun c11 => ?_) (fun c11 => ?_)
          · have hF := (if_pos c11).symm.trans hF
            refine lv_iconst (v := (0 : Int32)) hx hb dX5_isOfPlans_37 (by decide) ?_
            have hF := Option.some.inj hF
            exact hE _ _ _ _ _ hP hD hS dX5_isOfPlans_38 rfl hF
          · have hF := (if_neg c11).symm.trans hF
            refine lv_iconst (v := (1 : Int32)) hx hb dX5_isOfPlans_33 (by decide) ?_
            refine lv_goto (tgt := 38) hx hb dX5_isOfPlans_34 (by decide) ?_
            have hF := Option.some.inj hF
            exact hE _ _ _ _ _ hP hD hS dX5_isOfPlans_38 rfl hF
      · have hF := (if_neg c9).symm.trans hF
        refine lv_iload_n hx hb dX5_isOfPlans_15 rfl (lv_at hl 0 rfl) ?_
        refine lv_bipush (v := (15 : Int32)) hx hb dX5_isOfPlans_16 (by decide) ?_
        refine lv_icmp_le (tgt := 33) hx hb dX5_isOfPlans_18 (by decide) (fun c12 => ?_) (fun c12 => ?_)
        · have hF := (if_pos c12).symm.trans hF
          refine lv_iconst (v := (1 : Int32)) hx hb dX5_isOfPlans_33 (by decide) ?_
          refine lv_goto (tgt := 38) hx hb dX5_isOfPlans_34 (by decide) ?_
          have hF := Option.some.inj hF
          exact hE _ _ _ _ _ hP hD hS dX5_isOfPlans_38 rfl hF
        · have hF := (if_neg c12).symm.trans hF
          refine lv_iload_n hx hb dX5_isOfPlans_21 rfl (lv_at hl 0 rfl) ?_
          refine lv_bipush (v := (20 : Int32)) hx hb dX5_isOfPlans_22 (by decide) ?_
          refine lv_icmp_lt (tgt := 37) hx hb dX5_isOfPlans_24 (by decide) (fun c13 => ?_) (fun c13 => ?_)
          · have hF := (if_pos c13).symm.trans hF
            refine lv_iconst (v := (0 : Int32)) hx hb dX5_isOfPlans_37 (by decide) ?_
            have hF := Option.some.inj hF
            exact hE _ _ _ _ _ hP hD hS dX5_isOfPlans_38 rfl hF
          · have hF := (if_neg c13).symm.trans hF
            refine lv_iload_n hx hb dX5_isOfPlans_27 rfl (lv_at hl 0 rfl) ?_
            refine lv_bipush (v := (25 : Int32)) hx hb dX5_isOfPlans_28 (by decide) ?_
            refine lv_icmp_gt (tgt := 37) hx hb dX5_isOfPlans_30 (by decide) (fun c14 => ?_) (fun c14 => ?_)
            · have hF := (if_pos c14).symm.trans hF
              refine lv_iconst (v := (0 : Int32)) hx hb dX5_isOfPlans_37 (by decide) ?_
              have hF := Option.some.inj hF
              exact hE _ _ _ _ _ hP hD hS dX5_isOfPlans_38 rfl hF
            · have hF := (if_neg c14).symm.trans hF
              refine lv_iconst (v := (1 : Int32)) hx hb dX5_isOfPlans_33 (by decide) ?_
              refine lv_goto (tgt := 38) hx hb dX5_isOfPlans_34 (by decide) ?_
              have hF := Option.some.inj hF
              exact hE _ _ _ _ _ hP hD hS dX5_isOfPlans_38 rfl hF
theorem lk_X0_isThere : LK yX0_isThere cX0_isThere 1 (some .boolean) 0 := ⟨q289, q3, by decide +kernel⟩
def F_X0_isThere (si : tSI) (sa : tSA) : Option Int32 :=
  (if (si 2) ≤ 0 then some (0 : Int32) else some (1 : Int32))
set_option maxHeartbeats 4000000 in
set_option maxRecDepth 100000 in
theorem c_X0_isThere (l : Launch) (D : va_G) (cA : ClassId) (ad : Nat → Nat) (si : tSI) (sa : tSA) (o : Int32) (hF : F_X0_isThere si sa = some o) : CG l yX0_isThere cX0_isThere 1 (some .boolean) 0 0 D cA [.ref (ad 2)] (WX cA ad si sa) (WX cA ad si sa) (some (.int o)) := by
  refine CG.ofi (by decide) (Nat.le_of_ble_eq_true rfl) ?_
  intro p ee s m args below meth c A Q H0 ls C0 hA hP hD hS hl hE
  have hl : lv_has ls 1 [(0, .ref (ad 2))] := hl
  obtain ⟨hx, hb, hml, hown, ht, hK⟩ := id C0
  unfold F_X0_isThere at hF
  refine lv_aload_n hx hb dX0_isThere_0 rfl (lv_at hl 0 rfl) ?_
  refine gX2_0 (v := (si 2)) C0 hP rfl q42 dX0_isThere_1 ?_
  refine lv_if_le (tgt := 11) hx hb dX0_isThere_4 (by decide) (fun c1 => ?_) (fun c1 => ?_)
  · have hF := (if_pos c1).symm.trans hF
    refine lv_iconst (v := (0 : Int32)) hx hb dX0_isThere_11 (by decide) ?_
    have hF := Option.some.inj hF
    exact hE _ _ _ _ _ hP hD hS dX0_isThere_12 rfl hF
  · have hF := (if_neg c1).symm.trans hF
    refine lv_iconst (v := (1 : Int32)) hx hb dX0_isThere_7 (by decide) ?_
    refine lv_goto (tgt := 12) hx hb dX0_isThere_8 (by decide) ?_
    have hF := Option.some.inj hF
    exact hE _ _ _ _ _ hP hD hS dX0_isThere_12 rfl hF
theorem lk_X5_refusalOfRow : LK yX5_refusalOfRow cX5_refusalOfRow 5 (some .int) 4 := ⟨q285, q1, by decide +kernel⟩
def F_X5_refusalOfRow (a1 : Int32) (a2 : Int32) (a3 : Int32) (a4 : Int32) (si : tSI) (sa : tSA) : Option Int32 :=
  (F_X2_isSheet a1).bind fun r1 => (if r1 = 0 then some (-1 : Int32) else (F_X2_isLane a2).bind fun r3 => (if r3 = 0 then some (-2 : Int32) else (if a3 < 0 then some (-2 : Int32) else (if a3 ≤ a4 then (F_X0_isThere si sa).bind fun r7 => (if r7 = 0 then some (-3 : Int32) else some (0 : Int32)) else some (-2 : Int32)))))
set_option maxHeartbeats 4000000 in
set_option maxRecDepth 100000 in
theorem c_X5_refusalOfRow (l : Launch) (D : va_G) (cA : ClassId) (ad : Nat → Nat) (si : tSI) (sa : tSA) (a1 : Int32) (a2 : Int32) (a3 : Int32) (a4 : Int32) (o : Int32) (hF : F_X5_refusalOfRow a1 a2 a3 a4 si sa = some o) : CG l yX5_refusalOfRow cX5_refusalOfRow 5 (some .int) 1 20 D cA [.ref (ad 0), .int a1, .int a2, .int a3, .int a4] (WX cA ad si sa) (WX cA ad si sa) (some (.int o)) := by
  refine CG.ofi (by decide) (Nat.le_of_ble_eq_true rfl) ?_
  intro p ee s m args below meth c A Q H0 ls C0 hA hP hD hS hl hE
  have hl : lv_has ls 5 [(0, .ref (ad 0)), (1, .int a1), (2, .int a2), (3, .int a3), (4, .int a4)] := hl
  obtain ⟨hx, hb, hml, hown, ht, hK⟩ := id C0
  unfold F_X5_refusalOfRow at hF
  refine lv_iload_n hx hb dX5_refusalOfRow_0 rfl (lv_at hl 1 rfl) ?_
  obtain ⟨r1, hr1, hF⟩ := bd_some hF
  refine kcS (As := [.int a1]) (rest := []) C0 hA hP hD hS (c_X2_isSheet l D cA ad si sa a1 r1 hr1) lk_X2_isSheet q175 q174 hl.1 rfl rfl (Nat.le_of_ble_eq_true rfl) ⟨Nat.le_of_ble_eq_true rfl, Nat.le_of_ble_eq_true rfl⟩ ⟨Nat.le_refl _, Nat.le_refl _⟩ dX5_refusalOfRow_1 (fun H locs hP hD hS => ?_)
  refine W.eq (g2 := F0 m 4 ls [.int r1]) rfl ?_
  refine lv_if_ne (tgt := 9) hx hb dX5_refusalOfRow_4 (by decide) (fun c2 => ?_) (fun c2 => ?_)
  · have hF := (if_neg c2).symm.trans hF
    refine lv_iload_n hx hb dX5_refusalOfRow_9 rfl (lv_at hl 2 rfl) ?_
    obtain ⟨r3, hr3, hF⟩ := bd_some hF
    refine kcS (As := [.int a2]) (rest := []) C0 hA hP hD hS (c_X2_isLane l D cA ad si sa a2 r3 hr3) lk_X2_isLane q178 q177 hl.1 rfl rfl (Nat.le_of_ble_eq_true rfl) ⟨Nat.le_of_ble_eq_true rfl, Nat.le_of_ble_eq_true rfl⟩ ⟨Nat.le_refl _, Nat.le_refl _⟩ dX5_refusalOfRow_10 (fun H locs hP hD hS => ?_)
    refine W.eq (g2 := F0 m 13 ls [.int r3]) rfl ?_
    refine lv_if_eq (tgt := 26) hx hb dX5_refusalOfRow_13 (by decide) (fun c4 => ?_) (fun c4 => ?_)
    · have hF := (if_pos c4).symm.trans hF
      refine lv_bipush (v := (-2 : Int32)) hx hb dX5_refusalOfRow_26 (by decide) ?_
      have hF := Option.some.inj hF
      exact hE _ _ _ _ _ hP hD hS dX5_refusalOfRow_28 rfl hF
    · have hF := (if_neg c4).symm.trans hF
      refine lv_iload_n hx hb dX5_refusalOfRow_16 rfl (lv_at hl 3 rfl) ?_
      refine lv_if_lt (tgt := 26) hx hb dX5_refusalOfRow_17 (by decide) (fun c5 => ?_) (fun c5 => ?_)
      · have hF := (if_pos c5).symm.trans hF
        refine lv_bipush (v := (-2 : Int32)) hx hb dX5_refusalOfRow_26 (by decide) ?_
        have hF := Option.some.inj hF
        exact hE _ _ _ _ _ hP hD hS dX5_refusalOfRow_28 rfl hF
      · have hF := (if_neg c5).symm.trans hF
        refine lv_iload_n hx hb dX5_refusalOfRow_20 rfl (lv_at hl 3 rfl) ?_
        refine lv_iload hx hb dX5_refusalOfRow_21 (lv_at hl 4 rfl) ?_
        refine lv_icmp_le (tgt := 29) hx hb dX5_refusalOfRow_23 (by decide) (fun c6 => ?_) (fun c6 => ?_)
        · have hF := (if_pos c6).symm.trans hF
          refine lv_aload_n hx hb dX5_refusalOfRow_29 rfl (lv_at hl 0 rfl) ?_
          refine gX0_1 C0 hP q146 dX5_refusalOfRow_30 ?_
          obtain ⟨r7, hr7, hF⟩ := bd_some hF
          refine kcV (As := []) (rest := []) C0 hA hP hD hS (c_X0_isThere l D cA ad si sa r7 hr7) lk_X0_isThere q287 q288 q286 2 0 rfl rfl hl.1 rfl rfl (Nat.le_of_ble_eq_true rfl) ⟨Nat.le_of_ble_eq_true rfl, Nat.le_of_ble_eq_true rfl⟩ ⟨Nat.le_refl _, Nat.le_refl _⟩ dX5_refusalOfRow_33 (fun H locs hP hD hS => ?_)
          refine W.eq (g2 := F0 m 36 ls [.int r7]) rfl ?_
          refine lv_if_eq (tgt := 43) hx hb dX5_refusalOfRow_36 (by decide) (fun c8 => ?_) (fun c8 => ?_)
          · have hF := (if_pos c8).symm.trans hF
            refine lv_bipush (v := (-3 : Int32)) hx hb dX5_refusalOfRow_43 (by decide) ?_
            have hF := Option.some.inj hF
            exact hE _ _ _ _ _ hP hD hS dX5_refusalOfRow_45 rfl hF
          · have hF := (if_neg c8).symm.trans hF
            refine lv_iconst (v := (0 : Int32)) hx hb dX5_refusalOfRow_39 (by decide) ?_
            refine lv_goto (tgt := 45) hx hb dX5_refusalOfRow_40 (by decide) ?_
            have hF := Option.some.inj hF
            exact hE _ _ _ _ _ hP hD hS dX5_refusalOfRow_45 rfl hF
        · have hF := (if_neg c6).symm.trans hF
          refine lv_bipush (v := (-2 : Int32)) hx hb dX5_refusalOfRow_26 (by decide) ?_
          have hF := Option.some.inj hF
          exact hE _ _ _ _ _ hP hD hS dX5_refusalOfRow_28 rfl hF
  · have hF := (if_pos c2).symm.trans hF
    refine lv_iconst (v := (-1 : Int32)) hx hb dX5_refusalOfRow_7 (by decide) ?_
    have hF := Option.some.inj hF
    exact hE _ _ _ _ _ hP hD hS dX5_refusalOfRow_8 rfl hF
def F_X2_take_r6 (a1 : Int32) (a2 : Int32) (a3 : Int32) (si : tSI) (sa : tSA) : Option (tSI × tSA) :=
  cpk ((a1 * (60 : Int32)) + a2) (0 : Int32) a3 240 60 (some (si, (va_up sa 0 (va_cpy (sa 1) (sa 0) (Int32.toNatClampNeg ((a1 * (60 : Int32)) + a2)) (Int32.toNatClampNeg (0 : Int32)) (Int32.toNatClampNeg a3)))))
set_option maxHeartbeats 4000000 in
set_option maxRecDepth 100000 in
theorem c_X2_take_r6 (l : Launch) (D : va_G) (cA : ClassId) (ad : Nat → Nat) (si : tSI) (sa : tSA) (a1 : Int32) (a2 : Int32) (a3 : Int32) (o : (tSI × tSA)) (hF : F_X2_take_r6 a1 a2 a3 si sa = some o) : CG l yX2_take cX2_take 5 none 1 60 D cA [.ref (ad 1), .int a1, .int a2, .int a3, .ref (ad 6)] (WX cA ad si sa) (WX cA ad o.1 o.2) none := by
  refine CG.ofv (by decide) (Nat.le_of_ble_eq_true rfl) ?_
  intro p ee s m args below meth c A Q H0 ls C0 hA hP hD hS hl hE
  have hl : lv_has ls 5 [(0, .ref (ad 1)), (1, .int a1), (2, .int a2), (3, .int a3), (4, .ref (ad 6))] := hl
  obtain ⟨hx, hb, hml, hown, ht, hK⟩ := id C0
  unfold F_X2_take_r6 at hF
  refine lv_aload_n hx hb dX2_take_0 rfl (lv_at hl 0 rfl) ?_
  refine gX1_0 C0 hP q25 dX2_take_1 ?_
  refine lv_iload_n hx hb dX2_take_4 rfl (lv_at hl 1 rfl) ?_
  refine lv_bipush (v := (60 : Int32)) hx hb dX2_take_5 (by decide) ?_
  refine lv_imul hx hb dX2_take_7 ?_
  refine lv_iload_n hx hb dX2_take_8 rfl (lv_at hl 2 rfl) ?_
  refine lv_iadd hx hb dX2_take_9 ?_
  refine lv_aload hx hb dX2_take_10 (lv_at hl 4 rfl) ?_
  refine lv_iconst (v := (0 : Int32)) hx hb dX2_take_12 (by decide) ?_
  refine lv_iload_n hx hb dX2_take_13 rfl (lv_at hl 3 rfl) ?_
  obtain ⟨h1, h2, h3, h4, h5, hF⟩ := cpk_some hF
  refine va_copyi (D := D) (f := (sa 1)) (g := (sa 0)) hx hb (hml.trans hl.1.symm) hown (ht _ q200) (ht _ q202) (ht _ q201) (ht _ q8) hK.1 hP hD hS 7 6 0 0 rfl rfl rfl rfl rfl h1 h2 h3 h4 h5 (fun _ _ => rfl) (Nat.le_of_ble_eq_true rfl) (Nat.le_of_ble_eq_true rfl) dX2_take_14 (fun H locs hP hD hS => ?_)
  have hP : va_P D vwCl (WX cA ad si (va_up sa 0 (va_cpy (sa 1) (sa 0) (Int32.toNatClampNeg ((a1 * (60 : Int32)) + a2)) (Int32.toNatClampNeg (0 : Int32)) (Int32.toNatClampNeg a3)))) H := hP
  have hD : va_D A (WX cA ad si (va_up sa 0 (va_cpy (sa 1) (sa 0) (Int32.toNatClampNeg ((a1 * (60 : Int32)) + a2)) (Int32.toNatClampNeg (0 : Int32)) (Int32.toNatClampNeg a3)))) := hD
  have hF := Option.some.inj hF
  subst hF
  exact hE _ _ _ _ hP hD hS dX2_take_17
theorem lk_X5_takeNumbers : LK yX5_takeNumbers cX5_takeNumbers 8 (some .int) 5 := ⟨q293, q1, by decide +kernel⟩
def S_X5_takeNumbers_59 (a4 : Int32) (r4 : (tSI × tSA)) (a5 : Int32) (rec5 : (Int32 → Option ((Int32 × tSI × tSA) ⊕ Unit))) (t5 : Int32) : Option ((Int32 × tSI × tSA) ⊕ Unit) :=
  (if a4 ≤ t5 then some (.inr ()) else ld t5 60 ((if ((r4.2 0) (Int32.toNatClampNeg t5)) < 0 then some (.inl ((-1 : Int32), r4.1, r4.2)) else ld t5 60 ((if ((r4.2 0) (Int32.toNatClampNeg t5)) < a5 then rec5 (t5 + 1) else some (.inl ((-1 : Int32), r4.1, r4.2)))))))
def F_X5_takeNumbers (a1 : Int32) (a2 : Int32) (a3 : Int32) (a4 : Int32) (a5 : Int32) (si : tSI) (sa : tSA) : Option (Int32 × tSI × tSA) :=
  (F_X2_faultAsRow a1 a2 si sa).bind fun r1 => ((if r1 = 0 then (F_X2_faultOfSpan a1 a3 a4 si sa).bind fun r12 => some r12 else some r1)).bind fun (x2 : Int32) => (if x2 = 0 then (F_X2_take_r6 a1 a3 a4 si sa).bind fun r4 => (lp (S_X5_takeNumbers_59 a4 r4 a5) 100 (0 : Int32)).bind (Sum.elim some fun (e6 : Unit) => some ((0 : Int32), r4.1, r4.2)) else (F_X5_failed x2 si sa).bind fun r10 => some (r10.1, r10.2.1, r10.2.2))
set_option maxHeartbeats 4000000 in
set_option maxRecDepth 100000 in
theorem c_X5_takeNumbers (l : Launch) (D : va_G) (cA : ClassId) (ad : Nat → Nat) (si : tSI) (sa : tSA) (a1 : Int32) (a2 : Int32) (a3 : Int32) (a4 : Int32) (a5 : Int32) (o : (Int32 × tSI × tSA)) (hF : F_X5_takeNumbers a1 a2 a3 a4 a5 si sa = some o) : CG l yX5_takeNumbers cX5_takeNumbers 8 (some .int) 2 84 D cA [.ref (ad 0), .int a1, .int a2, .int a3, .int a4, .int a5] (WX cA ad si sa) (WX cA ad o.2.1 o.2.2) (some (.int o.1)) := by
  refine CG.ofi (by decide) (Nat.le_of_ble_eq_true rfl) ?_
  intro p ee s m args below meth c A Q H0 ls C0 hA hP hD hS hl hE
  have hl : lv_has ls 8 [(0, .ref (ad 0)), (1, .int a1), (2, .int a2), (3, .int a3), (4, .int a4), (5, .int a5)] := hl
  obtain ⟨hx, hb, hml, hown, ht, hK⟩ := id C0
  unfold F_X5_takeNumbers at hF
  refine lv_aload_n hx hb dX5_takeNumbers_0 rfl (lv_at hl 0 rfl) ?_
  refine gX0_0 C0 hP q145 dX5_takeNumbers_1 ?_
  refine lv_iload_n hx hb dX5_takeNumbers_4 rfl (lv_at hl 1 rfl) ?_
  refine lv_iload_n hx hb dX5_takeNumbers_5 rfl (lv_at hl 2 rfl) ?_
  obtain ⟨r1, hr1, hF⟩ := bd_some hF
  refine kcV (As := [.int a1, .int a2]) (rest := []) C0 hA hP hD hS (c_X2_faultAsRow l D cA ad si sa a1 a2 r1 hr1) lk_X2_faultAsRow q181 q182 q180 1 2 rfl rfl hl.1 rfl rfl (Nat.le_of_ble_eq_true rfl) ⟨Nat.le_of_ble_eq_true rfl, Nat.le_of_ble_eq_true rfl⟩ ⟨Nat.le_refl _, Nat.le_refl _⟩ dX5_takeNumbers_6 (fun H locs hP hD hS => ?_)
  refine W.eq (g2 := F0 m 9 ls [.int r1]) rfl ?_
  refine lv_istore (lv' := [(6, .int r1), (0, .ref (ad 0)), (1, .int a1), (2, .int a2), (3, .int a3), (4, .int a4), (5, .int a5)]) hx hb dX5_takeNumbers_9 hl (by decide) rfl (fun ls hl => ?_)
  refine lv_iload hx hb dX5_takeNumbers_11 (lv_at hl 0 rfl) ?_
  obtain ⟨x2, hRx2, hF⟩ := bd_some hF
  have Jx2 : ∀ (H : Heap) (locs : List Loc) (ls : Array Slot), va_P D vwCl (WX cA ad si sa) H → va_D A (WX cA ad si sa) → va_S A H0 H locs → lv_has ls 8 [(6, .int x2), (0, .ref (ad 0)), (1, .int a1), (3, .int a3), (4, .int a4), (5, .int a5)] → W p l ee (rmx 2 84) s m args below meth c H locs 0 0 Q (F0 m 29 ls []) := by
    intro H locs ls hP hD hS hl
    refine lv_iload hx hb dX5_takeNumbers_29 (lv_at hl 0 rfl) ?_
    refine lv_if_eq (tgt := 41) hx hb dX5_takeNumbers_31 (by decide) (fun c3 => ?_) (fun c3 => ?_)
    · have hF := (if_pos c3).symm.trans hF
      refine lv_aload_n hx hb dX5_takeNumbers_41 rfl (lv_at hl 1 rfl) ?_
      refine gX0_0 C0 hP q145 dX5_takeNumbers_42 ?_
      refine lv_iload_n hx hb dX5_takeNumbers_45 rfl (lv_at hl 2 rfl) ?_
      refine lv_iload_n hx hb dX5_takeNumbers_46 rfl (lv_at hl 3 rfl) ?_
      refine lv_iload hx hb dX5_takeNumbers_47 (lv_at hl 4 rfl) ?_
      refine lv_aload_n hx hb dX5_takeNumbers_49 rfl (lv_at hl 1 rfl) ?_
      refine gX0_5 C0 hP q150 dX5_takeNumbers_50 ?_
      obtain ⟨r4, hr4, hF⟩ := bd_some hF
      refine kcV (As := [.int a1, .int a3, .int a4, .ref (ad 6)]) (rest := []) C0 hA hP hD hS (c_X2_take_r6 l D cA ad si sa a1 a3 a4 r4 hr4) lk_X2_take q197 q198 q196 1 2 rfl rfl hl.1 rfl rfl (Nat.le_of_ble_eq_true rfl) ⟨Nat.le_of_ble_eq_true rfl, Nat.le_of_ble_eq_true rfl⟩ ⟨Nat.le_refl _, Nat.le_refl _⟩ dX5_takeNumbers_53 (fun H locs hP hD hS => ?_)
      refine W.eq (g2 := F0 m 56 ls []) rfl ?_
      refine lv_iconst (v := (0 : Int32)) hx hb dX5_takeNumbers_56 (by decide) ?_
      refine lv_istore (lv' := [(7, .int (0 : Int32)), (6, .int x2), (0, .ref (ad 0)), (1, .int a1), (3, .int a3), (4, .int a4), (5, .int a5)]) hx hb dX5_takeNumbers_57 hl (by decide) rfl (fun ls hl => ?_)
      obtain ⟨ox5, hL5, hI5, hX5⟩ := bds_all hF
      have JE5 : ∀ (e6 : Unit), ox5 = .inr e6 → ∀ (H : Heap) (locs : List Loc) (ls : Array Slot), va_P D vwCl (WX cA ad r4.1 r4.2) H → va_D A (WX cA ad r4.1 r4.2) → va_S A H0 H locs → lv_has ls 8 [] → W p l ee (rmx 2 84) s m args below meth c H locs 0 0 Q (F0 m 96 ls []) := by
        intro e6 he H locs ls hP hD hS hl
        have hF := hX5 _ he
        refine lv_iconst (v := (0 : Int32)) hx hb dX5_takeNumbers_96 (by decide) ?_
        have hF := Option.some.inj hF
        subst hF
        exact hE _ _ _ _ _ hP hD hS dX5_takeNumbers_97 rfl rfl
      have LP5 : ∀ (k5 : Nat) (t5 : Int32), lp (S_X5_takeNumbers_59 a4 r4 a5) k5 t5 = some ox5 → ∀ (H : Heap) (locs : List Loc) (ls : Array Slot), va_P D vwCl (WX cA ad r4.1 r4.2) H → va_D A (WX cA ad r4.1 r4.2) → va_S A H0 H locs → lv_has ls 8 [(7, .int t5), (0, .ref (ad 0)), (4, .int a4), (5, .int a5)] → W p l ee (rmx 2 84) s m args below meth c H locs 0 0 Q (F0 m 59 ls []) := by
        intro k5
        induction k5 with
        | zero => intro t5 hF; exact (lp_no hF).elim
        | succ k5 ih5 =>
          intro t5 hF H locs ls hP hD hS hl
          change (S_X5_takeNumbers_59 a4 r4 a5) (lp (S_X5_takeNumbers_59 a4 r4 a5) k5) t5 = some ox5 at hF
          unfold S_X5_takeNumbers_59 at hF
          refine lv_iload hx hb dX5_takeNumbers_59 (lv_at hl 0 rfl) ?_
          refine lv_iload hx hb dX5_takeNumbers_61 (lv_at hl 2 rfl) ?_
          refine lv_icmp_ge (tgt := 96) hx hb dX5_takeNumbers_63 (by decide) (fun c7 => ?_) (fun c7 => ?_)
          · have hF := (if_pos c7).symm.trans hF
            exact JE5 _ (Option.some.inj hF).symm _ _ _ hP hD hS (lv_sub hl [] rfl)
          · have hF := (if_neg c7).symm.trans hF
            refine lv_aload_n hx hb dX5_takeNumbers_66 rfl (lv_at hl 1 rfl) ?_
            refine gX0_5 C0 hP q150 dX5_takeNumbers_67 ?_
            refine lv_iload hx hb dX5_takeNumbers_70 (lv_at hl 0 rfl) ?_
            obtain ⟨hin, hF⟩ := ld_some hF
            refine aXl0 (f := (r4.2 0)) C0 hP rfl hin dX5_takeNumbers_72 ?_
            refine lv_if_lt (tgt := 88) hx hb dX5_takeNumbers_73 (by decide) (fun c8 => ?_) (fun c8 => ?_)
            · have hF := (if_pos c8).symm.trans hF
              refine lv_iconst (v := (-1 : Int32)) hx hb dX5_takeNumbers_88 (by decide) ?_
              have hF := Option.some.inj hF
              subst hF
              have hF := hI5 _ rfl
              subst hF
              exact hE _ _ _ _ _ hP hD hS dX5_takeNumbers_89 rfl rfl
            · have hF := (if_neg c8).symm.trans hF
              refine lv_aload_n hx hb dX5_takeNumbers_76 rfl (lv_at hl 1 rfl) ?_
              refine gX0_5 C0 hP q150 dX5_takeNumbers_77 ?_
              refine lv_iload hx hb dX5_takeNumbers_80 (lv_at hl 0 rfl) ?_
              obtain ⟨hin, hF⟩ := ld_some hF
              refine aXl0 (f := (r4.2 0)) C0 hP rfl hin dX5_takeNumbers_82 ?_
              refine lv_iload hx hb dX5_takeNumbers_83 (lv_at hl 3 rfl) ?_
              refine lv_icmp_lt (tgt := 90) hx hb dX5_takeNumbers_85 (by decide) (fun c9 => ?_) (fun c9 => ?_)
              · have hF := (if_pos c9).symm.trans hF
                refine lv_iinc (v := (t5 + 1)) (lv' := [(7, .int (t5 + 1)), (0, .ref (ad 0)), (4, .int a4), (5, .int a5)]) hx hb dX5_takeNumbers_90 hl (k := 0) rfl rfl (by decide) rfl (fun ls hl => ?_)
                refine lv_goto (tgt := 59) hx hb dX5_takeNumbers_93 (by decide) ?_
                exact ih5 _ hF _ _ _ hP hD hS (lv_sub hl [0, 1, 2, 3] rfl)
              · have hF := (if_neg c9).symm.trans hF
                refine lv_iconst (v := (-1 : Int32)) hx hb dX5_takeNumbers_88 (by decide) ?_
                have hF := Option.some.inj hF
                subst hF
                have hF := hI5 _ rfl
                subst hF
                exact hE _ _ _ _ _ hP hD hS dX5_takeNumbers_89 rfl rfl
      exact LP5 _ _ hL5 _ _ _ hP hD hS (lv_sub hl [0, 2, 5, 6] rfl)
    · have hF := (if_neg c3).symm.trans hF
      refine lv_aload_n hx hb dX5_takeNumbers_34 rfl (lv_at hl 1 rfl) ?_
      refine lv_iload hx hb dX5_takeNumbers_35 (lv_at hl 0 rfl) ?_
      obtain ⟨r10, hr10, hF⟩ := bd_some hF
      refine kcV (As := [.int x2]) (rest := []) C0 hA hP hD hS (c_X5_failed l D cA ad si sa x2 r10 hr10) lk_X5_failed q194 s0 q192 0 5 rfl rfl hl.1 rfl rfl (Nat.le_of_ble_eq_true rfl) ⟨Nat.le_of_ble_eq_true rfl, Nat.le_of_ble_eq_true rfl⟩ ⟨Nat.le_refl _, Nat.le_refl _⟩ dX5_takeNumbers_37 (fun H locs hP hD hS => ?_)
      refine W.eq (g2 := F0 m 40 ls [.int r10.1]) rfl ?_
      have hF := Option.some.inj hF
      subst hF
      exact hE _ _ _ _ _ hP hD hS dX5_takeNumbers_40 rfl rfl
  have hF := hRx2
  refine lv_if_ne (tgt := 29) hx hb dX5_takeNumbers_13 (by decide) (fun c11 => ?_) (fun c11 => ?_)
  · have hF := (if_neg c11).symm.trans hF
    have hF := Option.some.inj hF
    subst hF
    exact Jx2 _ _ _ hP hD hS (lv_sub hl [0, 1, 2, 4, 5, 6] rfl)
  · have hF := (if_pos c11).symm.trans hF
    refine lv_aload_n hx hb dX5_takeNumbers_16 rfl (lv_at hl 1 rfl) ?_
    refine gX0_0 C0 hP q145 dX5_takeNumbers_17 ?_
    refine lv_iload_n hx hb dX5_takeNumbers_20 rfl (lv_at hl 2 rfl) ?_
    refine lv_iload_n hx hb dX5_takeNumbers_21 rfl (lv_at hl 4 rfl) ?_
    refine lv_iload hx hb dX5_takeNumbers_22 (lv_at hl 5 rfl) ?_
    obtain ⟨r12, hr12, hF⟩ := bd_some hF
    refine kcV (As := [.int a1, .int a3, .int a4]) (rest := []) C0 hA hP hD hS (c_X2_faultOfSpan l D cA ad si sa a1 a3 a4 r12 hr12) lk_X2_faultOfSpan q189 q190 q188 1 2 rfl rfl hl.1 rfl rfl (Nat.le_of_ble_eq_true rfl) ⟨Nat.le_of_ble_eq_true rfl, Nat.le_of_ble_eq_true rfl⟩ ⟨Nat.le_refl _, Nat.le_refl _⟩ dX5_takeNumbers_24 (fun H locs hP hD hS => ?_)
    refine W.eq (g2 := F0 m 27 ls [.int r12]) rfl ?_
    refine lv_istore (lv' := [(6, .int r12), (0, .ref (ad 0)), (1, .int a1), (2, .int a2), (3, .int a3), (4, .int a4), (5, .int a5)]) hx hb dX5_takeNumbers_27 hl (by decide) rfl (fun ls hl => ?_)
    have hF := Option.some.inj hF
    subst hF
    exact Jx2 _ _ _ hP hD hS (lv_sub hl [0, 1, 2, 4, 5, 6] rfl)
theorem lk_X5_holds : LK yX5_holds cX5_holds 2 (some .boolean) 2 := ⟨q312, q1, by decide +kernel⟩
def F_X5_holds (a1 : Int32) (a2 : Int32) : Option Int32 :=
  (if ((a1 >>> (a2 &&& 31)) &&& (1 : Int32)) = 0 then some (0 : Int32) else some (1 : Int32))
set_option maxHeartbeats 4000000 in
set_option maxRecDepth 100000 in
theorem c_X5_holds (l : Launch) (D : va_G) (cA : ClassId) (ad : Nat → Nat) (si : tSI) (sa : tSA) (a1 : Int32) (a2 : Int32) (o : Int32) (hF : F_X5_holds a1 a2 = some o) : CG l yX5_holds cX5_holds 2 (some .boolean) 0 0 D cA [.int a1, .int a2] (WX cA ad si sa) (WX cA ad si sa) (some (.int o)) := by
  refine CG.ofi (by decide) (Nat.le_of_ble_eq_true rfl) ?_
  intro p ee s m args below meth c A Q H0 ls C0 hA hP hD hS hl hE
  have hl : lv_has ls 2 [(0, .int a1), (1, .int a2)] := hl
  obtain ⟨hx, hb, hml, hown, ht, hK⟩ := id C0
  unfold F_X5_holds at hF
  refine lv_iload_n hx hb dX5_holds_0 rfl (lv_at hl 0 rfl) ?_
  refine lv_iload_n hx hb dX5_holds_1 rfl (lv_at hl 1 rfl) ?_
  refine lv_ishr hx hb dX5_holds_2 ?_
  refine lv_iconst (v := (1 : Int32)) hx hb dX5_holds_3 (by decide) ?_
  refine lv_iand hx hb dX5_holds_4 ?_
  refine lv_if_eq (tgt := 12) hx hb dX5_holds_5 (by decide) (fun c1 => ?_) (fun c1 => ?_)
  · have hF := (if_pos c1).symm.trans hF
    refine lv_iconst (v := (0 : Int32)) hx hb dX5_holds_12 (by decide) ?_
    have hF := Option.some.inj hF
    exact hE _ _ _ _ _ hP hD hS dX5_holds_13 rfl hF
  · have hF := (if_neg c1).symm.trans hF
    refine lv_iconst (v := (1 : Int32)) hx hb dX5_holds_8 (by decide) ?_
    refine lv_goto (tgt := 13) hx hb dX5_holds_9 (by decide) ?_
    have hF := Option.some.inj hF
    exact hE _ _ _ _ _ hP hD hS dX5_holds_13 rfl hF
theorem lk_X0_heapOf : LK yX0_heapOf cX0_heapOf 5 (some .int) 2 := ⟨q309, q3, by decide +kernel⟩
def S_X0_heapOf_8 (si : tSI) (a2 : Int32) (sa : tSA) (a1 : Int32) (rec2 : ((Int32 × Int32) → Option Int32)) (t2 : (Int32 × Int32)) : Option Int32 :=
  (if (si 3) ≤ t2.1 then some t2.2 else (F_X5_holds a2 t2.1).bind fun r5 => (if r5 = 0 then rec2 ((t2.1 + 1), t2.2) else ld t2.1 5 ((F_X5_holds ((sa 8) (Int32.toNatClampNeg t2.1)) a1).bind fun r7 => (if r7 = 0 then ld t2.1 5 (rec2 ((t2.1 + 1), (t2.2 &&& (((sa 8) (Int32.toNatClampNeg t2.1)) ^^^ (-1 : Int32))))) else ld t2.1 5 (rec2 ((t2.1 + 1), (t2.2 &&& ((sa 8) (Int32.toNatClampNeg t2.1)))))))))
def F_X0_heapOf (a1 : Int32) (a2 : Int32) (si : tSI) (sa : tSA) : Option Int32 :=
  (F_X0_everySort si sa).bind fun r1 => (lp (S_X0_heapOf_8 si a2 sa a1) 100 ((0 : Int32), r1)).bind fun (e3 : Int32) => some e3
set_option maxHeartbeats 4000000 in
set_option maxRecDepth 100000 in
theorem c_X0_heapOf (l : Launch) (D : va_G) (cA : ClassId) (ad : Nat → Nat) (si : tSI) (sa : tSA) (a1 : Int32) (a2 : Int32) (o : Int32) (hF : F_X0_heapOf a1 a2 si sa = some o) : CG l yX0_heapOf cX0_heapOf 5 (some .int) 1 21 D cA [.ref (ad 2), .int a1, .int a2] (WX cA ad si sa) (WX cA ad si sa) (some (.int o)) := by
  refine CG.ofi (by decide) (Nat.le_of_ble_eq_true rfl) ?_
  intro p ee s m args below meth c A Q H0 ls C0 hA hP hD hS hl hE
  have hl : lv_has ls 5 [(0, .ref (ad 2)), (1, .int a1), (2, .int a2)] := hl
  obtain ⟨hx, hb, hml, hown, ht, hK⟩ := id C0
  unfold F_X0_heapOf at hF
  refine lv_aload_n hx hb dX0_heapOf_0 rfl (lv_at hl 0 rfl) ?_
  obtain ⟨r1, hr1, hF⟩ := bd_some hF
  refine kcV (As := []) (rest := []) C0 hA hP hD hS (c_X0_everySort l D cA ad si sa r1 hr1) lk_X0_everySort q244 q245 q243 2 0 rfl rfl hl.1 rfl rfl (Nat.le_of_ble_eq_true rfl) ⟨Nat.le_of_ble_eq_true rfl, Nat.le_of_ble_eq_true rfl⟩ ⟨Nat.le_refl _, Nat.le_refl _⟩ dX0_heapOf_1 (fun H locs hP hD hS => ?_)
  refine W.eq (g2 := F0 m 4 ls [.int r1]) rfl ?_
  refine lv_istore_n (lv' := [(3, .int r1), (0, .ref (ad 2)), (1, .int a1), (2, .int a2)]) hx hb dX0_heapOf_4 rfl hl (by decide) rfl (fun ls hl => ?_)
  refine lv_iconst (v := (0 : Int32)) hx hb dX0_heapOf_5 (by decide) ?_
  refine lv_istore (lv' := [(4, .int (0 : Int32)), (3, .int r1), (0, .ref (ad 2)), (1, .int a1), (2, .int a2)]) hx hb dX0_heapOf_6 hl (by decide) rfl (fun ls hl => ?_)
  obtain ⟨ox2, hL2, hX2⟩ := bd_all hF
  have JE2 : ∀ (e3 : Int32), ox2 = e3 → ∀ (H : Heap) (locs : List Loc) (ls : Array Slot), va_P D vwCl (WX cA ad si sa) H → va_D A (WX cA ad si sa) → va_S A H0 H locs → lv_has ls 5 [(3, .int e3)] → W p l ee (rmx 1 21) s m args below meth c H locs 0 0 Q (F0 m 68 ls []) := by
    intro e3 he H locs ls hP hD hS hl
    have hF := hX2 _ he
    refine lv_iload_n hx hb dX0_heapOf_68 rfl (lv_at hl 0 rfl) ?_
    have hF := Option.some.inj hF
    exact hE _ _ _ _ _ hP hD hS dX0_heapOf_69 rfl hF
  have LP2 : ∀ (k2 : Nat) (t2 : (Int32 × Int32)), lp (S_X0_heapOf_8 si a2 sa a1) k2 t2 = some ox2 → ∀ (H : Heap) (locs : List Loc) (ls : Array Slot), va_P D vwCl (WX cA ad si sa) H → va_D A (WX cA ad si sa) → va_S A H0 H locs → lv_has ls 5 [(4, .int t2.1), (3, .int t2.2), (0, .ref (ad 2)), (1, .int a1), (2, .int a2)] → W p l ee (rmx 1 21) s m args below meth c H locs 0 0 Q (F0 m 8 ls []) := by
    intro k2
    induction k2 with
    | zero => intro t2 hF; exact (lp_no hF).elim
    | succ k2 ih2 =>
      intro t2 hF H locs ls hP hD hS hl
      change (S_X0_heapOf_8 si a2 sa a1) (lp (S_X0_heapOf_8 si a2 sa a1) k2) t2 = some ox2 at hF
      unfold S_X0_heapOf_8 at hF
      refine lv_iload hx hb dX0_heapOf_8 (lv_at hl 0 rfl) ?_
      refine lv_aload_n hx hb dX0_heapOf_10 rfl (lv_at hl 2 rfl) ?_
      refine gX2_1 (v := (si 3)) C0 hP rfl q45 dX0_heapOf_11 ?_
      refine lv_icmp_ge (tgt := 68) hx hb dX0_heapOf_14 (by decide) (fun c4 => ?_) (fun c4 => ?_)
      · have hF := (if_pos c4).symm.trans hF
        exact JE2 _ (Option.some.inj hF).symm _ _ _ hP hD hS (lv_sub hl [1] rfl)
      · have hF := (if_neg c4).symm.trans hF
        refine lv_iload_n hx hb dX0_heapOf_17 rfl (lv_at hl 4 rfl) ?_
        refine lv_iload hx hb dX0_heapOf_18 (lv_at hl 0 rfl) ?_
        obtain ⟨r5, hr5, hF⟩ := bd_some hF
        refine kcSN (As := [.int a2, .int t2.1]) (rest := []) C0 hA hP hD hS (c_X5_holds l D cA ad si sa a2 t2.1 r5 hr5) lk_X5_holds q311 (List.mem_of_getElem? (i := 4) rfl) hl.1 rfl rfl (Nat.le_of_ble_eq_true rfl) ⟨Nat.le_of_ble_eq_true rfl, Nat.le_of_ble_eq_true rfl⟩ ⟨Nat.le_refl _, Nat.le_refl _⟩ dX0_heapOf_20 (fun H locs hP hD hS => ?_)
        refine W.eq (g2 := F0 m 23 ls [.int r5]) rfl ?_
        refine lv_if_eq (tgt := 62) hx hb dX0_heapOf_23 (by decide) (fun c6 => ?_) (fun c6 => ?_)
        · have hF := (if_pos c6).symm.trans hF
          refine lv_iinc (v := (t2.1 + 1)) (lv' := [(4, .int (t2.1 + 1)), (3, .int t2.2), (0, .ref (ad 2)), (1, .int a1), (2, .int a2)]) hx hb dX0_heapOf_62 hl (k := 0) rfl rfl (by decide) rfl (fun ls hl => ?_)
          refine lv_goto (tgt := 8) hx hb dX0_heapOf_65 (by decide) ?_
          exact ih2 _ hF _ _ _ hP hD hS (lv_sub hl [0, 1, 2, 3, 4] rfl)
        · have hF := (if_neg c6).symm.trans hF
          refine lv_iload_n hx hb dX0_heapOf_26 rfl (lv_at hl 1 rfl) ?_
          refine lv_aload_n hx hb dX0_heapOf_27 rfl (lv_at hl 2 rfl) ?_
          refine gX2_7 C0 hP q57 dX0_heapOf_28 ?_
          refine lv_iload hx hb dX0_heapOf_31 (lv_at hl 0 rfl) ?_
          obtain ⟨hin, hF⟩ := ld_some hF
          refine aXl8 (f := (sa 8)) C0 hP rfl hin dX0_heapOf_33 ?_
          refine lv_iload_n hx hb dX0_heapOf_34 rfl (lv_at hl 3 rfl) ?_
          obtain ⟨r7, hr7, hF⟩ := bd_some hF
          refine kcSN (As := [.int ((sa 8) (Int32.toNatClampNeg t2.1)), .int a1]) (rest := [.int t2.2]) C0 hA hP hD hS (c_X5_holds l D cA ad si sa ((sa 8) (Int32.toNatClampNeg t2.1)) a1 r7 hr7) lk_X5_holds q311 (List.mem_of_getElem? (i := 4) rfl) hl.1 rfl rfl (Nat.le_of_ble_eq_true rfl) ⟨Nat.le_of_ble_eq_true rfl, Nat.le_of_ble_eq_true rfl⟩ ⟨Nat.le_refl _, Nat.le_refl _⟩ dX0_heapOf_35 (fun H locs hP hD hS => ?_)
          refine W.eq (g2 := F0 m 38 ls [.int r7, .int t2.2]) rfl ?_
          refine lv_if_eq (tgt := 51) hx hb dX0_heapOf_38 (by decide) (fun c8 => ?_) (fun c8 => ?_)
          · have hF := (if_pos c8).symm.trans hF
            refine lv_aload_n hx hb dX0_heapOf_51 rfl (lv_at hl 2 rfl) ?_
            refine gX2_7 C0 hP q57 dX0_heapOf_52 ?_
            refine lv_iload hx hb dX0_heapOf_55 (lv_at hl 0 rfl) ?_
            obtain ⟨hin, hF⟩ := ld_some hF
            refine aXl8 (f := (sa 8)) C0 hP rfl hin dX0_heapOf_57 ?_
            refine lv_iconst (v := (-1 : Int32)) hx hb dX0_heapOf_58 (by decide) ?_
            refine lv_ixor hx hb dX0_heapOf_59 ?_
            refine lv_iand hx hb dX0_heapOf_60 ?_
            refine lv_istore_n (lv' := [(3, .int (t2.2 &&& (((sa 8) (Int32.toNatClampNeg t2.1)) ^^^ (-1 : Int32)))), (4, .int t2.1), (0, .ref (ad 2)), (1, .int a1), (2, .int a2)]) hx hb dX0_heapOf_61 rfl hl (by decide) rfl (fun ls hl => ?_)
            refine lv_iinc (v := (t2.1 + 1)) (lv' := [(4, .int (t2.1 + 1)), (3, .int (t2.2 &&& (((sa 8) (Int32.toNatClampNeg t2.1)) ^^^ (-1 : Int32)))), (0, .ref (ad 2)), (1, .int a1), (2, .int a2)]) hx hb dX0_heapOf_62 hl (k := 1) rfl rfl (by decide) rfl (fun ls hl => ?_)
            refine lv_goto (tgt := 8) hx hb dX0_heapOf_65 (by decide) ?_
            exact ih2 _ hF _ _ _ hP hD hS (lv_sub hl [0, 1, 2, 3, 4] rfl)
          · have hF := (if_neg c8).symm.trans hF
            refine lv_aload_n hx hb dX0_heapOf_41 rfl (lv_at hl 2 rfl) ?_
            refine gX2_7 C0 hP q57 dX0_heapOf_42 ?_
            refine lv_iload hx hb dX0_heapOf_45 (lv_at hl 0 rfl) ?_
            obtain ⟨hin, hF⟩ := ld_some hF
            refine aXl8 (f := (sa 8)) C0 hP rfl hin dX0_heapOf_47 ?_
            refine lv_goto (tgt := 60) hx hb dX0_heapOf_48 (by decide) ?_
            refine lv_iand hx hb dX0_heapOf_60 ?_
            refine lv_istore_n (lv' := [(3, .int (t2.2 &&& ((sa 8) (Int32.toNatClampNeg t2.1)))), (4, .int t2.1), (0, .ref (ad 2)), (1, .int a1), (2, .int a2)]) hx hb dX0_heapOf_61 rfl hl (by decide) rfl (fun ls hl => ?_)
            refine lv_iinc (v := (t2.1 + 1)) (lv' := [(4, .int (t2.1 + 1)), (3, .int (t2.2 &&& ((sa 8) (Int32.toNatClampNeg t2.1)))), (0, .ref (ad 2)), (1, .int a1), (2, .int a2)]) hx hb dX0_heapOf_62 hl (k := 1) rfl rfl (by decide) rfl (fun ls hl => ?_)
            refine lv_goto (tgt := 8) hx hb dX0_heapOf_65 (by decide) ?_
            exact ih2 _ hF _ _ _ hP hD hS (lv_sub hl [0, 1, 2, 3, 4] rfl)
  exact LP2 _ _ hL2 _ _ _ hP hD hS (lv_sub hl [0, 1, 2, 3, 4] rfl)
theorem lk_X0_waiting : LK yX0_waiting cX0_waiting 4 (some .int) 1 := ⟨q305, q3, by decide +kernel⟩
def S_X0_waiting_4 (si : tSI) (a1 : Int32) (sa : tSA) (rec1 : ((Int32 × Int32) → Option Int32)) (t1 : (Int32 × Int32)) : Option Int32 :=
  (if (si 2) ≤ t1.1 then some t1.2 else (F_X0_heapOf t1.1 a1 si sa).bind fun r4 => (if r4 = ((1 : Int32) <<< (t1.1 &&& 31)) then rec1 ((t1.1 + 1), t1.2) else rec1 ((t1.1 + 1), (t1.2 ||| ((1 : Int32) <<< (t1.1 &&& 31))))))
def F_X0_waiting (a1 : Int32) (si : tSI) (sa : tSA) : Option Int32 :=
  (lp (S_X0_waiting_4 si a1 sa) 100 ((0 : Int32), (0 : Int32))).bind fun (e2 : Int32) => some e2
set_option maxHeartbeats 4000000 in
set_option maxRecDepth 100000 in
theorem c_X0_waiting (l : Launch) (D : va_G) (cA : ClassId) (ad : Nat → Nat) (si : tSI) (sa : tSA) (a1 : Int32) (o : Int32) (hF : F_X0_waiting a1 si sa = some o) : CG l yX0_waiting cX0_waiting 4 (some .int) 2 45 D cA [.ref (ad 2), .int a1] (WX cA ad si sa) (WX cA ad si sa) (some (.int o)) := by
  refine CG.ofi (by decide) (Nat.le_of_ble_eq_true rfl) ?_
  intro p ee s m args below meth c A Q H0 ls C0 hA hP hD hS hl hE
  have hl : lv_has ls 4 [(0, .ref (ad 2)), (1, .int a1)] := hl
  obtain ⟨hx, hb, hml, hown, ht, hK⟩ := id C0
  unfold F_X0_waiting at hF
  refine lv_iconst (v := (0 : Int32)) hx hb dX0_waiting_0 (by decide) ?_
  refine lv_istore_n (lv' := [(2, .int (0 : Int32)), (0, .ref (ad 2)), (1, .int a1)]) hx hb dX0_waiting_1 rfl hl (by decide) rfl (fun ls hl => ?_)
  refine lv_iconst (v := (0 : Int32)) hx hb dX0_waiting_2 (by decide) ?_
  refine lv_istore_n (lv' := [(3, .int (0 : Int32)), (2, .int (0 : Int32)), (0, .ref (ad 2)), (1, .int a1)]) hx hb dX0_waiting_3 rfl hl (by decide) rfl (fun ls hl => ?_)
  obtain ⟨ox1, hL1, hX1⟩ := bd_all hF
  have JE1 : ∀ (e2 : Int32), ox1 = e2 → ∀ (H : Heap) (locs : List Loc) (ls : Array Slot), va_P D vwCl (WX cA ad si sa) H → va_D A (WX cA ad si sa) → va_S A H0 H locs → lv_has ls 4 [(2, .int e2)] → W p l ee (rmx 2 45) s m args below meth c H locs 0 0 Q (F0 m 36 ls []) := by
    intro e2 he H locs ls hP hD hS hl
    have hF := hX1 _ he
    refine lv_iload_n hx hb dX0_waiting_36 rfl (lv_at hl 0 rfl) ?_
    have hF := Option.some.inj hF
    exact hE _ _ _ _ _ hP hD hS dX0_waiting_37 rfl hF
  have LP1 : ∀ (k1 : Nat) (t1 : (Int32 × Int32)), lp (S_X0_waiting_4 si a1 sa) k1 t1 = some ox1 → ∀ (H : Heap) (locs : List Loc) (ls : Array Slot), va_P D vwCl (WX cA ad si sa) H → va_D A (WX cA ad si sa) → va_S A H0 H locs → lv_has ls 4 [(3, .int t1.1), (2, .int t1.2), (0, .ref (ad 2)), (1, .int a1)] → W p l ee (rmx 2 45) s m args below meth c H locs 0 0 Q (F0 m 4 ls []) := by
    intro k1
    induction k1 with
    | zero => intro t1 hF; exact (lp_no hF).elim
    | succ k1 ih1 =>
      intro t1 hF H locs ls hP hD hS hl
      change (S_X0_waiting_4 si a1 sa) (lp (S_X0_waiting_4 si a1 sa) k1) t1 = some ox1 at hF
      unfold S_X0_waiting_4 at hF
      refine lv_iload_n hx hb dX0_waiting_4 rfl (lv_at hl 0 rfl) ?_
      refine lv_aload_n hx hb dX0_waiting_5 rfl (lv_at hl 2 rfl) ?_
      refine gX2_0 (v := (si 2)) C0 hP rfl q42 dX0_waiting_6 ?_
      refine lv_icmp_ge (tgt := 36) hx hb dX0_waiting_9 (by decide) (fun c3 => ?_) (fun c3 => ?_)
      · have hF := (if_pos c3).symm.trans hF
        exact JE1 _ (Option.some.inj hF).symm _ _ _ hP hD hS (lv_sub hl [1] rfl)
      · have hF := (if_neg c3).symm.trans hF
        refine lv_aload_n hx hb dX0_waiting_12 rfl (lv_at hl 2 rfl) ?_
        refine lv_iload_n hx hb dX0_waiting_13 rfl (lv_at hl 0 rfl) ?_
        refine lv_iload_n hx hb dX0_waiting_14 rfl (lv_at hl 3 rfl) ?_
        obtain ⟨r4, hr4, hF⟩ := bd_some hF
        refine kcV (As := [.int t1.1, .int a1]) (rest := []) C0 hA hP hD hS (c_X0_heapOf l D cA ad si sa t1.1 a1 r4 hr4) lk_X0_heapOf q307 q308 q306 2 0 rfl rfl hl.1 rfl rfl (Nat.le_of_ble_eq_true rfl) ⟨Nat.le_of_ble_eq_true rfl, Nat.le_of_ble_eq_true rfl⟩ ⟨Nat.le_refl _, Nat.le_refl _⟩ dX0_waiting_15 (fun H locs hP hD hS => ?_)
        refine W.eq (g2 := F0 m 18 ls [.int r4]) rfl ?_
        refine lv_iconst (v := (1 : Int32)) hx hb dX0_waiting_18 (by decide) ?_
        refine lv_iload_n hx hb dX0_waiting_19 rfl (lv_at hl 0 rfl) ?_
        refine lv_ishl hx hb dX0_waiting_20 ?_
        refine lv_icmp_eq (tgt := 30) hx hb dX0_waiting_21 (by decide) (fun c5 => ?_) (fun c5 => ?_)
        · have hF := (if_pos c5).symm.trans hF
          refine lv_iinc (v := (t1.1 + 1)) (lv' := [(3, .int (t1.1 + 1)), (2, .int t1.2), (0, .ref (ad 2)), (1, .int a1)]) hx hb dX0_waiting_30 hl (k := 0) rfl rfl (by decide) rfl (fun ls hl => ?_)
          refine lv_goto (tgt := 4) hx hb dX0_waiting_33 (by decide) ?_
          exact ih1 _ hF _ _ _ hP hD hS (lv_sub hl [0, 1, 2, 3] rfl)
        · have hF := (if_neg c5).symm.trans hF
          refine lv_iload_n hx hb dX0_waiting_24 rfl (lv_at hl 1 rfl) ?_
          refine lv_iconst (v := (1 : Int32)) hx hb dX0_waiting_25 (by decide) ?_
          refine lv_iload_n hx hb dX0_waiting_26 rfl (lv_at hl 0 rfl) ?_
          refine lv_ishl hx hb dX0_waiting_27 ?_
          refine lv_ior hx hb dX0_waiting_28 ?_
          refine lv_istore_n (lv' := [(2, .int (t1.2 ||| ((1 : Int32) <<< (t1.1 &&& 31)))), (3, .int t1.1), (0, .ref (ad 2)), (1, .int a1)]) hx hb dX0_waiting_29 rfl hl (by decide) rfl (fun ls hl => ?_)
          refine lv_iinc (v := (t1.1 + 1)) (lv' := [(3, .int (t1.1 + 1)), (2, .int (t1.2 ||| ((1 : Int32) <<< (t1.1 &&& 31)))), (0, .ref (ad 2)), (1, .int a1)]) hx hb dX0_waiting_30 hl (k := 1) rfl rfl (by decide) rfl (fun ls hl => ?_)
          refine lv_goto (tgt := 4) hx hb dX0_waiting_33 (by decide) ?_
          exact ih1 _ hF _ _ _ hP hD hS (lv_sub hl [0, 1, 2, 3] rfl)
  exact LP1 _ _ hL1 _ _ _ hP hD hS (lv_sub hl [0, 1, 2, 3] rfl)
theorem lk_X0_secondsFor : LK yX0_secondsFor cX0_secondsFor 4 (some .int) 1 := ⟨q316, q3, by decide +kernel⟩
def S_X0_secondsFor_4 (si : tSI) (a1 : Int32) (sa : tSA) (rec1 : ((Int32 × Int32) → Option Int32)) (t1 : (Int32 × Int32)) : Option Int32 :=
  (if (si 2) ≤ t1.1 then some t1.2 else (F_X5_holds a1 t1.1).bind fun r4 => (if r4 = 0 then rec1 ((t1.1 + 1), t1.2) else ld t1.1 6 (ld t1.1 6 (ld t1.1 6 ((F_X5_look ((sa 4) (Int32.toNatClampNeg t1.1)) ((sa 6) (Int32.toNatClampNeg t1.1))).bind fun r6 => rec1 ((t1.1 + 1), (t1.2 + (((sa 5) (Int32.toNatClampNeg t1.1)) * r6))))))))
def F_X0_secondsFor (a1 : Int32) (si : tSI) (sa : tSA) : Option Int32 :=
  (lp (S_X0_secondsFor_4 si a1 sa) 100 ((0 : Int32), (0 : Int32))).bind fun (e2 : Int32) => some e2
set_option maxHeartbeats 4000000 in
set_option maxRecDepth 100000 in
theorem c_X0_secondsFor (l : Launch) (D : va_G) (cA : ClassId) (ad : Nat → Nat) (si : tSI) (sa : tSA) (a1 : Int32) (o : Int32) (hF : F_X0_secondsFor a1 si sa = some o) : CG l yX0_secondsFor cX0_secondsFor 4 (some .int) 1 21 D cA [.ref (ad 2), .int a1] (WX cA ad si sa) (WX cA ad si sa) (some (.int o)) := by
  refine CG.ofi (by decide) (Nat.le_of_ble_eq_true rfl) ?_
  intro p ee s m args below meth c A Q H0 ls C0 hA hP hD hS hl hE
  have hl : lv_has ls 4 [(0, .ref (ad 2)), (1, .int a1)] := hl
  obtain ⟨hx, hb, hml, hown, ht, hK⟩ := id C0
  unfold F_X0_secondsFor at hF
  refine lv_iconst (v := (0 : Int32)) hx hb dX0_secondsFor_0 (by decide) ?_
  refine lv_istore_n (lv' := [(2, .int (0 : Int32)), (0, .ref (ad 2)), (1, .int a1)]) hx hb dX0_secondsFor_1 rfl hl (by decide) rfl (fun ls hl => ?_)
  refine lv_iconst (v := (0 : Int32)) hx hb dX0_secondsFor_2 (by decide) ?_
  refine lv_istore_n (lv' := [(3, .int (0 : Int32)), (2, .int (0 : Int32)), (0, .ref (ad 2)), (1, .int a1)]) hx hb dX0_secondsFor_3 rfl hl (by decide) rfl (fun ls hl => ?_)
  obtain ⟨ox1, hL1, hX1⟩ := bd_all hF
  have JE1 : ∀ (e2 : Int32), ox1 = e2 → ∀ (H : Heap) (locs : List Loc) (ls : Array Slot), va_P D vwCl (WX cA ad si sa) H → va_D A (WX cA ad si sa) → va_S A H0 H locs → lv_has ls 4 [(2, .int e2)] → W p l ee (rmx 1 21) s m args below meth c H locs 0 0 Q (F0 m 51 ls []) := by
    intro e2 he H locs ls hP hD hS hl
    have hF := hX1 _ he
    refine lv_iload_n hx hb dX0_secondsFor_51 rfl (lv_at hl 0 rfl) ?_
    have hF := Option.some.inj hF
    exact hE _ _ _ _ _ hP hD hS dX0_secondsFor_52 rfl hF
  have LP1 : ∀ (k1 : Nat) (t1 : (Int32 × Int32)), lp (S_X0_secondsFor_4 si a1 sa) k1 t1 = some ox1 → ∀ (H : Heap) (locs : List Loc) (ls : Array Slot), va_P D vwCl (WX cA ad si sa) H → va_D A (WX cA ad si sa) → va_S A H0 H locs → lv_has ls 4 [(3, .int t1.1), (2, .int t1.2), (0, .ref (ad 2)), (1, .int a1)] → W p l ee (rmx 1 21) s m args below meth c H locs 0 0 Q (F0 m 4 ls []) := by
    intro k1
    induction k1 with
    | zero => intro t1 hF; exact (lp_no hF).elim
    | succ k1 ih1 =>
      intro t1 hF H locs ls hP hD hS hl
      change (S_X0_secondsFor_4 si a1 sa) (lp (S_X0_secondsFor_4 si a1 sa) k1) t1 = some ox1 at hF
      unfold S_X0_secondsFor_4 at hF
      refine lv_iload_n hx hb dX0_secondsFor_4 rfl (lv_at hl 0 rfl) ?_
      refine lv_aload_n hx hb dX0_secondsFor_5 rfl (lv_at hl 2 rfl) ?_
      refine gX2_0 (v := (si 2)) C0 hP rfl q42 dX0_secondsFor_6 ?_
      refine lv_icmp_ge (tgt := 51) hx hb dX0_secondsFor_9 (by decide) (fun c3 => ?_) (fun c3 => ?_)
      · have hF := (if_pos c3).symm.trans hF
        exact JE1 _ (Option.some.inj hF).symm _ _ _ hP hD hS (lv_sub hl [1] rfl)
      · have hF := (if_neg c3).symm.trans hF
        refine lv_iload_n hx hb dX0_secondsFor_12 rfl (lv_at hl 3 rfl) ?_
        refine lv_iload_n hx hb dX0_secondsFor_13 rfl (lv_at hl 0 rfl) ?_
        obtain ⟨r4, hr4, hF⟩ := bd_some hF
        refine kcSN (As := [.int a1, .int t1.1]) (rest := []) C0 hA hP hD hS (c_X5_holds l D cA ad si sa a1 t1.1 r4 hr4) lk_X5_holds q311 (List.mem_of_getElem? (i := 4) rfl) hl.1 rfl rfl (Nat.le_of_ble_eq_true rfl) ⟨Nat.le_of_ble_eq_true rfl, Nat.le_of_ble_eq_true rfl⟩ ⟨Nat.le_refl _, Nat.le_refl _⟩ dX0_secondsFor_14 (fun H locs hP hD hS => ?_)
        refine W.eq (g2 := F0 m 17 ls [.int r4]) rfl ?_
        refine lv_if_eq (tgt := 45) hx hb dX0_secondsFor_17 (by decide) (fun c5 => ?_) (fun c5 => ?_)
        · have hF := (if_pos c5).symm.trans hF
          refine lv_iinc (v := (t1.1 + 1)) (lv' := [(3, .int (t1.1 + 1)), (2, .int t1.2), (0, .ref (ad 2)), (1, .int a1)]) hx hb dX0_secondsFor_45 hl (k := 0) rfl rfl (by decide) rfl (fun ls hl => ?_)
          refine lv_goto (tgt := 4) hx hb dX0_secondsFor_48 (by decide) ?_
          exact ih1 _ hF _ _ _ hP hD hS (lv_sub hl [0, 1, 2, 3] rfl)
        · have hF := (if_neg c5).symm.trans hF
          refine lv_iload_n hx hb dX0_secondsFor_20 rfl (lv_at hl 1 rfl) ?_
          refine lv_aload_n hx hb dX0_secondsFor_21 rfl (lv_at hl 2 rfl) ?_
          refine gX2_4 C0 hP q51 dX0_secondsFor_22 ?_
          refine lv_iload_n hx hb dX0_secondsFor_25 rfl (lv_at hl 0 rfl) ?_
          obtain ⟨hin, hF⟩ := ld_some hF
          refine aXl5 (f := (sa 5)) C0 hP rfl hin dX0_secondsFor_26 ?_
          refine lv_aload_n hx hb dX0_secondsFor_27 rfl (lv_at hl 2 rfl) ?_
          refine gX2_3 C0 hP q49 dX0_secondsFor_28 ?_
          refine lv_iload_n hx hb dX0_secondsFor_31 rfl (lv_at hl 0 rfl) ?_
          obtain ⟨hin, hF⟩ := ld_some hF
          refine aXl4 (f := (sa 4)) C0 hP rfl hin dX0_secondsFor_32 ?_
          refine lv_aload_n hx hb dX0_secondsFor_33 rfl (lv_at hl 2 rfl) ?_
          refine gX2_5 C0 hP q53 dX0_secondsFor_34 ?_
          refine lv_iload_n hx hb dX0_secondsFor_37 rfl (lv_at hl 0 rfl) ?_
          obtain ⟨hin, hF⟩ := ld_some hF
          refine aXl6 (f := (sa 6)) C0 hP rfl hin dX0_secondsFor_38 ?_
          obtain ⟨r6, hr6, hF⟩ := bd_some hF
          refine kcSN (As := [.int ((sa 4) (Int32.toNatClampNeg t1.1)), .int ((sa 6) (Int32.toNatClampNeg t1.1))]) (rest := [.int ((sa 5) (Int32.toNatClampNeg t1.1)), .int t1.2]) C0 hA hP hD hS (c_X5_look l D cA ad si sa ((sa 4) (Int32.toNatClampNeg t1.1)) ((sa 6) (Int32.toNatClampNeg t1.1)) r6 hr6) lk_X5_look q256 (List.mem_of_getElem? (i := 5) rfl) hl.1 rfl rfl (Nat.le_of_ble_eq_true rfl) ⟨Nat.le_of_ble_eq_true rfl, Nat.le_of_ble_eq_true rfl⟩ ⟨Nat.le_refl _, Nat.le_refl _⟩ dX0_secondsFor_39 (fun H locs hP hD hS => ?_)
          refine W.eq (g2 := F0 m 42 ls [.int r6, .int ((sa 5) (Int32.toNatClampNeg t1.1)), .int t1.2]) rfl ?_
          refine lv_imul hx hb dX0_secondsFor_42 ?_
          refine lv_iadd hx hb dX0_secondsFor_43 ?_
          refine lv_istore_n (lv' := [(2, .int (t1.2 + (((sa 5) (Int32.toNatClampNeg t1.1)) * r6))), (3, .int t1.1), (0, .ref (ad 2)), (1, .int a1)]) hx hb dX0_secondsFor_44 rfl hl (by decide) rfl (fun ls hl => ?_)
          refine lv_iinc (v := (t1.1 + 1)) (lv' := [(3, .int (t1.1 + 1)), (2, .int (t1.2 + (((sa 5) (Int32.toNatClampNeg t1.1)) * r6))), (0, .ref (ad 2)), (1, .int a1)]) hx hb dX0_secondsFor_45 hl (k := 1) rfl rfl (by decide) rfl (fun ls hl => ?_)
          refine lv_goto (tgt := 4) hx hb dX0_secondsFor_48 (by decide) ?_
          exact ih1 _ hF _ _ _ hP hD hS (lv_sub hl [0, 1, 2, 3] rfl)
  exact LP1 _ _ hL1 _ _ _ hP hD hS (lv_sub hl [0, 1, 2, 3] rfl)
theorem lk_X5_least : LK yX5_least cX5_least 2 (some .int) 1 := ⟨q324, q1, by decide +kernel⟩
def S_X5_least_2 (a1 : Int32) (rec1 : (Int32 → Option (Int32 ⊕ Unit))) (t1 : Int32) : Option (Int32 ⊕ Unit) :=
  (if (6 : Int32) ≤ t1 then some (.inr ()) else (F_X5_holds a1 t1).bind fun r4 => (if r4 = 0 then rec1 (t1 + 1) else some (.inl t1)))
def F_X5_least (a1 : Int32) : Option Int32 :=
  (lp (S_X5_least_2 a1) 100 (0 : Int32)).bind (Sum.elim some fun (e2 : Unit) => some (-9 : Int32))
set_option maxHeartbeats 4000000 in
set_option maxRecDepth 100000 in
theorem c_X5_least (l : Launch) (D : va_G) (cA : ClassId) (ad : Nat → Nat) (si : tSI) (sa : tSA) (a1 : Int32) (o : Int32) (hF : F_X5_least a1 = some o) : CG l yX5_least cX5_least 2 (some .int) 1 21 D cA [.int a1] (WX cA ad si sa) (WX cA ad si sa) (some (.int o)) := by
  refine CG.ofi (by decide) (Nat.le_of_ble_eq_true rfl) ?_
  intro p ee s m args below meth c A Q H0 ls C0 hA hP hD hS hl hE
  have hl : lv_has ls 2 [(0, .int a1)] := hl
  obtain ⟨hx, hb, hml, hown, ht, hK⟩ := id C0
  unfold F_X5_least at hF
  refine lv_iconst (v := (0 : Int32)) hx hb dX5_least_0 (by decide) ?_
  refine lv_istore_n (lv' := [(1, .int (0 : Int32)), (0, .int a1)]) hx hb dX5_least_1 rfl hl (by decide) rfl (fun ls hl => ?_)
  obtain ⟨ox1, hL1, hI1, hX1⟩ := bds_all hF
  have JE1 : ∀ (e2 : Unit), ox1 = .inr e2 → ∀ (H : Heap) (locs : List Loc) (ls : Array Slot), va_P D vwCl (WX cA ad si sa) H → va_D A (WX cA ad si sa) → va_S A H0 H locs → lv_has ls 2 [] → W p l ee (rmx 1 21) s m args below meth c H locs 0 0 Q (F0 m 24 ls []) := by
    intro e2 he H locs ls hP hD hS hl
    have hF := hX1 _ he
    refine lv_bipush (v := (-9 : Int32)) hx hb dX5_least_24 (by decide) ?_
    have hF := Option.some.inj hF
    exact hE _ _ _ _ _ hP hD hS dX5_least_26 rfl hF
  have LP1 : ∀ (k1 : Nat) (t1 : Int32), lp (S_X5_least_2 a1) k1 t1 = some ox1 → ∀ (H : Heap) (locs : List Loc) (ls : Array Slot), va_P D vwCl (WX cA ad si sa) H → va_D A (WX cA ad si sa) → va_S A H0 H locs → lv_has ls 2 [(1, .int t1), (0, .int a1)] → W p l ee (rmx 1 21) s m args below meth c H locs 0 0 Q (F0 m 2 ls []) := by
    intro k1
    induction k1 with
    | zero => intro t1 hF; exact (lp_no hF).elim
    | succ k1 ih1 =>
      intro t1 hF H locs ls hP hD hS hl
      change (S_X5_least_2 a1) (lp (S_X5_least_2 a1) k1) t1 = some ox1 at hF
      unfold S_X5_least_2 at hF
      refine lv_iload_n hx hb dX5_least_2 rfl (lv_at hl 0 rfl) ?_
      refine lv_bipush (v := (6 : Int32)) hx hb dX5_least_3 (by decide) ?_
      refine lv_icmp_ge (tgt := 24) hx hb dX5_least_5 (by decide) (fun c3 => ?_) (fun c3 => ?_)
      · have hF := (if_pos c3).symm.trans hF
        exact JE1 _ (Option.some.inj hF).symm _ _ _ hP hD hS (lv_sub hl [] rfl)
      · have hF := (if_neg c3).symm.trans hF
        refine lv_iload_n hx hb dX5_least_8 rfl (lv_at hl 1 rfl) ?_
        refine lv_iload_n hx hb dX5_least_9 rfl (lv_at hl 0 rfl) ?_
        obtain ⟨r4, hr4, hF⟩ := bd_some hF
        refine kcS (As := [.int a1, .int t1]) (rest := []) C0 hA hP hD hS (c_X5_holds l D cA ad si sa a1 t1 r4 hr4) lk_X5_holds q311 q325 hl.1 rfl rfl (Nat.le_of_ble_eq_true rfl) ⟨Nat.le_of_ble_eq_true rfl, Nat.le_of_ble_eq_true rfl⟩ ⟨Nat.le_refl _, Nat.le_refl _⟩ dX5_least_10 (fun H locs hP hD hS => ?_)
        refine W.eq (g2 := F0 m 13 ls [.int r4]) rfl ?_
        refine lv_if_eq (tgt := 18) hx hb dX5_least_13 (by decide) (fun c5 => ?_) (fun c5 => ?_)
        · have hF := (if_pos c5).symm.trans hF
          refine lv_iinc (v := (t1 + 1)) (lv' := [(1, .int (t1 + 1)), (0, .int a1)]) hx hb dX5_least_18 hl (k := 0) rfl rfl (by decide) rfl (fun ls hl => ?_)
          refine lv_goto (tgt := 2) hx hb dX5_least_21 (by decide) ?_
          exact ih1 _ hF _ _ _ hP hD hS (lv_sub hl [0, 1] rfl)
        · have hF := (if_neg c5).symm.trans hF
          refine lv_iload_n hx hb dX5_least_16 rfl (lv_at hl 0 rfl) ?_
          have hF := Option.some.inj hF
          subst hF
          have hF := hI1 _ rfl
          exact hE _ _ _ _ _ hP hD hS dX5_least_17 rfl hF
  exact LP1 _ _ hL1 _ _ _ hP hD hS (lv_sub hl [0, 1] rfl)
theorem lk_X0_heaps : LK yX0_heaps cX0_heaps 4 (some .int) 1 := ⟨q321, q3, by decide +kernel⟩
def S_X0_heaps_4 (si : tSI) (a1 : Int32) (sa : tSA) (rec1 : ((Int32 × Int32) → Option Int32)) (t1 : (Int32 × Int32)) : Option Int32 :=
  (if (si 2) ≤ t1.1 then some t1.2 else (F_X0_heapOf t1.1 a1 si sa).bind fun r4 => (F_X5_least r4).bind fun r5 => (if r5 = t1.1 then rec1 ((t1.1 + 1), (t1.2 + (1 : Int32))) else rec1 ((t1.1 + 1), (t1.2 + (0 : Int32)))))
def F_X0_heaps (a1 : Int32) (si : tSI) (sa : tSA) : Option Int32 :=
  (lp (S_X0_heaps_4 si a1 sa) 100 ((0 : Int32), (0 : Int32))).bind fun (e2 : Int32) => some e2
set_option maxHeartbeats 4000000 in
set_option maxRecDepth 100000 in
theorem c_X0_heaps (l : Launch) (D : va_G) (cA : ClassId) (ad : Nat → Nat) (si : tSI) (sa : tSA) (a1 : Int32) (o : Int32) (hF : F_X0_heaps a1 si sa = some o) : CG l yX0_heaps cX0_heaps 4 (some .int) 2 45 D cA [.ref (ad 2), .int a1] (WX cA ad si sa) (WX cA ad si sa) (some (.int o)) := by
  refine CG.ofi (by decide) (Nat.le_of_ble_eq_true rfl) ?_
  intro p ee s m args below meth c A Q H0 ls C0 hA hP hD hS hl hE
  have hl : lv_has ls 4 [(0, .ref (ad 2)), (1, .int a1)] := hl
  obtain ⟨hx, hb, hml, hown, ht, hK⟩ := id C0
  unfold F_X0_heaps at hF
  refine lv_iconst (v := (0 : Int32)) hx hb dX0_heaps_0 (by decide) ?_
  refine lv_istore_n (lv' := [(2, .int (0 : Int32)), (0, .ref (ad 2)), (1, .int a1)]) hx hb dX0_heaps_1 rfl hl (by decide) rfl (fun ls hl => ?_)
  refine lv_iconst (v := (0 : Int32)) hx hb dX0_heaps_2 (by decide) ?_
  refine lv_istore_n (lv' := [(3, .int (0 : Int32)), (2, .int (0 : Int32)), (0, .ref (ad 2)), (1, .int a1)]) hx hb dX0_heaps_3 rfl hl (by decide) rfl (fun ls hl => ?_)
  obtain ⟨ox1, hL1, hX1⟩ := bd_all hF
  have JE1 : ∀ (e2 : Int32), ox1 = e2 → ∀ (H : Heap) (locs : List Loc) (ls : Array Slot), va_P D vwCl (WX cA ad si sa) H → va_D A (WX cA ad si sa) → va_S A H0 H locs → lv_has ls 4 [(2, .int e2)] → W p l ee (rmx 2 45) s m args below meth c H locs 0 0 Q (F0 m 39 ls []) := by
    intro e2 he H locs ls hP hD hS hl
    have hF := hX1 _ he
    refine lv_iload_n hx hb dX0_heaps_39 rfl (lv_at hl 0 rfl) ?_
    have hF := Option.some.inj hF
    exact hE _ _ _ _ _ hP hD hS dX0_heaps_40 rfl hF
  have LP1 : ∀ (k1 : Nat) (t1 : (Int32 × Int32)), lp (S_X0_heaps_4 si a1 sa) k1 t1 = some ox1 → ∀ (H : Heap) (locs : List Loc) (ls : Array Slot), va_P D vwCl (WX cA ad si sa) H → va_D A (WX cA ad si sa) → va_S A H0 H locs → lv_has ls 4 [(3, .int t1.1), (2, .int t1.2), (0, .ref (ad 2)), (1, .int a1)] → W p l ee (rmx 2 45) s m args below meth c H locs 0 0 Q (F0 m 4 ls []) := by
    intro k1
    induction k1 with
    | zero => intro t1 hF; exact (lp_no hF).elim
    | succ k1 ih1 =>
      intro t1 hF H locs ls hP hD hS hl
      change (S_X0_heaps_4 si a1 sa) (lp (S_X0_heaps_4 si a1 sa) k1) t1 = some ox1 at hF
      unfold S_X0_heaps_4 at hF
      refine lv_iload_n hx hb dX0_heaps_4 rfl (lv_at hl 0 rfl) ?_
      refine lv_aload_n hx hb dX0_heaps_5 rfl (lv_at hl 2 rfl) ?_
      refine gX2_0 (v := (si 2)) C0 hP rfl q42 dX0_heaps_6 ?_
      refine lv_icmp_ge (tgt := 39) hx hb dX0_heaps_9 (by decide) (fun c3 => ?_) (fun c3 => ?_)
      · have hF := (if_pos c3).symm.trans hF
        exact JE1 _ (Option.some.inj hF).symm _ _ _ hP hD hS (lv_sub hl [1] rfl)
      · have hF := (if_neg c3).symm.trans hF
        refine lv_iload_n hx hb dX0_heaps_12 rfl (lv_at hl 1 rfl) ?_
        refine lv_aload_n hx hb dX0_heaps_13 rfl (lv_at hl 2 rfl) ?_
        refine lv_iload_n hx hb dX0_heaps_14 rfl (lv_at hl 0 rfl) ?_
        refine lv_iload_n hx hb dX0_heaps_15 rfl (lv_at hl 3 rfl) ?_
        obtain ⟨r4, hr4, hF⟩ := bd_some hF
        refine kcV (As := [.int t1.1, .int a1]) (rest := [.int t1.2]) C0 hA hP hD hS (c_X0_heapOf l D cA ad si sa t1.1 a1 r4 hr4) lk_X0_heapOf q307 q308 q306 2 0 rfl rfl hl.1 rfl rfl (Nat.le_of_ble_eq_true rfl) ⟨Nat.le_of_ble_eq_true rfl, Nat.le_of_ble_eq_true rfl⟩ ⟨Nat.le_refl _, Nat.le_refl _⟩ dX0_heaps_16 (fun H locs hP hD hS => ?_)
        refine W.eq (g2 := F0 m 19 ls [.int r4, .int t1.2]) rfl ?_
        obtain ⟨r5, hr5, hF⟩ := bd_some hF
        refine kcSN (As := [.int r4]) (rest := [.int t1.2]) C0 hA hP hD hS (c_X5_least l D cA ad si sa r4 r5 hr5) lk_X5_least q323 (List.mem_of_getElem? (i := 6) rfl) hl.1 rfl rfl (Nat.le_of_ble_eq_true rfl) ⟨Nat.le_of_ble_eq_true rfl, Nat.le_of_ble_eq_true rfl⟩ ⟨Nat.le_refl _, Nat.le_refl _⟩ dX0_heaps_19 (fun H locs hP hD hS => ?_)
        refine W.eq (g2 := F0 m 22 ls [.int r5, .int t1.2]) rfl ?_
        refine lv_iload_n hx hb dX0_heaps_22 rfl (lv_at hl 0 rfl) ?_
        refine lv_icmp_ne (tgt := 30) hx hb dX0_heaps_23 (by decide) (fun c6 => ?_) (fun c6 => ?_)
        · have hF := (if_neg c6).symm.trans hF
          refine lv_iconst (v := (0 : Int32)) hx hb dX0_heaps_30 (by decide) ?_
          refine lv_iadd hx hb dX0_heaps_31 ?_
          refine lv_istore_n (lv' := [(2, .int (t1.2 + (0 : Int32))), (3, .int t1.1), (0, .ref (ad 2)), (1, .int a1)]) hx hb dX0_heaps_32 rfl hl (by decide) rfl (fun ls hl => ?_)
          refine lv_iinc (v := (t1.1 + 1)) (lv' := [(3, .int (t1.1 + 1)), (2, .int (t1.2 + (0 : Int32))), (0, .ref (ad 2)), (1, .int a1)]) hx hb dX0_heaps_33 hl (k := 1) rfl rfl (by decide) rfl (fun ls hl => ?_)
          refine lv_goto (tgt := 4) hx hb dX0_heaps_36 (by decide) ?_
          exact ih1 _ hF _ _ _ hP hD hS (lv_sub hl [0, 1, 2, 3] rfl)
        · have hF := (if_pos c6).symm.trans hF
          refine lv_iconst (v := (1 : Int32)) hx hb dX0_heaps_26 (by decide) ?_
          refine lv_goto (tgt := 31) hx hb dX0_heaps_27 (by decide) ?_
          refine lv_iadd hx hb dX0_heaps_31 ?_
          refine lv_istore_n (lv' := [(2, .int (t1.2 + (1 : Int32))), (3, .int t1.1), (0, .ref (ad 2)), (1, .int a1)]) hx hb dX0_heaps_32 rfl hl (by decide) rfl (fun ls hl => ?_)
          refine lv_iinc (v := (t1.1 + 1)) (lv' := [(3, .int (t1.1 + 1)), (2, .int (t1.2 + (1 : Int32))), (0, .ref (ad 2)), (1, .int a1)]) hx hb dX0_heaps_33 hl (k := 1) rfl rfl (by decide) rfl (fun ls hl => ?_)
          refine lv_goto (tgt := 4) hx hb dX0_heaps_36 (by decide) ?_
          exact ih1 _ hF _ _ _ hP hD hS (lv_sub hl [0, 1, 2, 3] rfl)
  exact LP1 _ _ hL1 _ _ _ hP hD hS (lv_sub hl [0, 1, 2, 3] rfl)
theorem lk_X4_noteReady : LK yX4_noteReady cX4_noteReady 3 none 1 := ⟨q329, q5, by decide +kernel⟩
def S_X4_noteReady_2 (a1 : Int32) (rec1 : ((Int32 × tSI × tSA) → Option (tSI × tSA))) (t1 : (Int32 × tSI × tSA)) : Option (tSI × tSA) :=
  (if (6 : Int32) ≤ t1.1 then some (t1.2.1, t1.2.2) else (F_X5_holds a1 t1.1).bind fun r4 => (if r4 = 0 then rec1 ((t1.1 + 1), t1.2.1, t1.2.2) else ld t1.1 6 (rec1 ((t1.1 + 1), t1.2.1, (va_up t1.2.2 12 (upd (t1.2.2 12) (Int32.toNatClampNeg t1.1) (t1.2.1 9)))))))
def F_X4_noteReady (a1 : Int32) (si : tSI) (sa : tSA) : Option (tSI × tSA) :=
  (lp (S_X4_noteReady_2 a1) 100 ((0 : Int32), si, sa)).bind fun (e2 : (tSI × tSA)) => some (e2.1, e2.2)
set_option maxHeartbeats 4000000 in
set_option maxRecDepth 100000 in
theorem c_X4_noteReady (l : Launch) (D : va_G) (cA : ClassId) (ad : Nat → Nat) (si : tSI) (sa : tSA) (a1 : Int32) (o : (tSI × tSA)) (hF : F_X4_noteReady a1 si sa = some o) : CG l yX4_noteReady cX4_noteReady 3 none 1 21 D cA [.ref (ad 4), .int a1] (WX cA ad si sa) (WX cA ad o.1 o.2) none := by
  refine CG.ofv (by decide) (Nat.le_of_ble_eq_true rfl) ?_
  intro p ee s m args below meth c A Q H0 ls C0 hA hP hD hS hl hE
  have hl : lv_has ls 3 [(0, .ref (ad 4)), (1, .int a1)] := hl
  obtain ⟨hx, hb, hml, hown, ht, hK⟩ := id C0
  unfold F_X4_noteReady at hF
  refine lv_iconst (v := (0 : Int32)) hx hb dX4_noteReady_0 (by decide) ?_
  refine lv_istore_n (lv' := [(2, .int (0 : Int32)), (0, .ref (ad 4)), (1, .int a1)]) hx hb dX4_noteReady_1 rfl hl (by decide) rfl (fun ls hl => ?_)
  obtain ⟨ox1, hL1, hX1⟩ := bd_all hF
  have JE1 : ∀ (e2 : (tSI × tSA)), ox1 = e2 → ∀ (H : Heap) (locs : List Loc) (ls : Array Slot), va_P D vwCl (WX cA ad e2.1 e2.2) H → va_D A (WX cA ad e2.1 e2.2) → va_S A H0 H locs → lv_has ls 3 [] → W p l ee (rmx 1 21) s m args below meth c H locs 0 0 Q (F0 m 32 ls []) := by
    intro e2 he H locs ls hP hD hS hl
    have hF := hX1 _ he
    have hF := Option.some.inj hF
    subst hF
    exact hE _ _ _ _ hP hD hS dX4_noteReady_32
  have LP1 : ∀ (k1 : Nat) (t1 : (Int32 × tSI × tSA)), lp (S_X4_noteReady_2 a1) k1 t1 = some ox1 → ∀ (H : Heap) (locs : List Loc) (ls : Array Slot), va_P D vwCl (WX cA ad t1.2.1 t1.2.2) H → va_D A (WX cA ad t1.2.1 t1.2.2) → va_S A H0 H locs → lv_has ls 3 [(2, .int t1.1), (0, .ref (ad 4)), (1, .int a1)] → W p l ee (rmx 1 21) s m args below meth c H locs 0 0 Q (F0 m 2 ls []) := by
    intro k1
    induction k1 with
    | zero => intro t1 hF; exact (lp_no hF).elim
    | succ k1 ih1 =>
      intro t1 hF H locs ls hP hD hS hl
      change (S_X4_noteReady_2 a1) (lp (S_X4_noteReady_2 a1) k1) t1 = some ox1 at hF
      unfold S_X4_noteReady_2 at hF
      refine lv_iload_n hx hb dX4_noteReady_2 rfl (lv_at hl 0 rfl) ?_
      refine lv_bipush (v := (6 : Int32)) hx hb dX4_noteReady_3 (by decide) ?_
      refine lv_icmp_ge (tgt := 32) hx hb dX4_noteReady_5 (by decide) (fun c3 => ?_) (fun c3 => ?_)
      · have hF := (if_pos c3).symm.trans hF
        exact JE1 _ (Option.some.inj hF).symm _ _ _ hP hD hS (lv_sub hl [] rfl)
      · have hF := (if_neg c3).symm.trans hF
        refine lv_iload_n hx hb dX4_noteReady_8 rfl (lv_at hl 2 rfl) ?_
        refine lv_iload_n hx hb dX4_noteReady_9 rfl (lv_at hl 0 rfl) ?_
        obtain ⟨r4, hr4, hF⟩ := bd_some hF
        refine kcSN (As := [.int a1, .int t1.1]) (rest := []) C0 hA hP hD hS (c_X5_holds l D cA ad t1.2.1 t1.2.2 a1 t1.1 r4 hr4) lk_X5_holds q311 (List.mem_of_getElem? (i := 7) rfl) hl.1 rfl rfl (Nat.le_of_ble_eq_true rfl) ⟨Nat.le_of_ble_eq_true rfl, Nat.le_of_ble_eq_true rfl⟩ ⟨Nat.le_refl _, Nat.le_refl _⟩ dX4_noteReady_10 (fun H locs hP hD hS => ?_)
        refine W.eq (g2 := F0 m 13 ls [.int r4]) rfl ?_
        refine lv_if_eq (tgt := 26) hx hb dX4_noteReady_13 (by decide) (fun c5 => ?_) (fun c5 => ?_)
        · have hF := (if_pos c5).symm.trans hF
          refine lv_iinc (v := (t1.1 + 1)) (lv' := [(2, .int (t1.1 + 1)), (0, .ref (ad 4)), (1, .int a1)]) hx hb dX4_noteReady_26 hl (k := 0) rfl rfl (by decide) rfl (fun ls hl => ?_)
          refine lv_goto (tgt := 2) hx hb dX4_noteReady_29 (by decide) ?_
          exact ih1 _ hF _ _ _ hP hD hS (lv_sub hl [0, 1, 2] rfl)
        · have hF := (if_neg c5).symm.trans hF
          refine lv_aload_n hx hb dX4_noteReady_16 rfl (lv_at hl 1 rfl) ?_
          refine gX4_3 C0 hP q121 dX4_noteReady_17 ?_
          refine lv_iload_n hx hb dX4_noteReady_20 rfl (lv_at hl 0 rfl) ?_
          refine lv_aload_n hx hb dX4_noteReady_21 rfl (lv_at hl 1 rfl) ?_
          refine gX4_0 (v := (t1.2.1 9)) C0 hP rfl q115 dX4_noteReady_22 ?_
          obtain ⟨hin, hF⟩ := ld_some hF
          refine aXs12 (f := (t1.2.2 12)) C0 hP hD hS rfl hin dX4_noteReady_25 (fun H locs hP hD hS => ?_)
          refine lv_iinc (v := (t1.1 + 1)) (lv' := [(2, .int (t1.1 + 1)), (0, .ref (ad 4)), (1, .int a1)]) hx hb dX4_noteReady_26 hl (k := 0) rfl rfl (by decide) rfl (fun ls hl => ?_)
          refine lv_goto (tgt := 2) hx hb dX4_noteReady_29 (by decide) ?_
          exact ih1 _ hF _ _ _ hP hD hS (lv_sub hl [0, 1, 2] rfl)
  exact LP1 _ _ hL1 _ _ _ hP hD hS (lv_sub hl [0, 1, 2] rfl)
theorem lk_X4_passBy : LK yX4_passBy cX4_passBy 6 none 3 := ⟨q301, q5, by decide +kernel⟩
def F_X4_passBy_r2 (a2 : Int32) (a3 : Int32) (si : tSI) (sa : tSA) : Option (tSI × tSA) :=
  (F_X0_waiting (si 11) si sa).bind fun r1 => (F_X0_secondsFor r1 si sa).bind fun r2 => ((if (si 10) = (-9 : Int32) then (F_X0_heaps ((si 11) ||| ((1 : Int32) <<< (a2 &&& 31))) (upd si 9 ((si 9) + r2)) sa).bind fun r7 => (F_X0_heaps (si 11) (upd si 9 ((si 9) + r2)) sa).bind fun r8 => (if r7 = r8 then some (upd (upd si 9 ((si 9) + r2)) 10 a3) else some (upd si 9 ((si 9) + r2))) else some (upd si 9 ((si 9) + r2)))).bind fun (x3 : tSI) => (F_X0_waiting ((si 11) ||| ((1 : Int32) <<< (a2 &&& 31))) x3 sa).bind fun r4 => (F_X4_noteReady (r1 &&& (r4 ^^^ (-1 : Int32))) x3 sa).bind fun r5 => some ((upd r5.1 11 ((si 11) ||| ((1 : Int32) <<< (a2 &&& 31)))), r5.2)
set_option maxHeartbeats 4000000 in
set_option maxRecDepth 100000 in
theorem c_X4_passBy_r2 (l : Launch) (D : va_G) (cA : ClassId) (ad : Nat → Nat) (si : tSI) (sa : tSA) (a2 : Int32) (a3 : Int32) (o : (tSI × tSA)) (hF : F_X4_passBy_r2 a2 a3 si sa = some o) : CG l yX4_passBy cX4_passBy 6 none 3 68 D cA [.ref (ad 4), .ref (ad 2), .int a2, .int a3] (WX cA ad si sa) (WX cA ad o.1 o.2) none := by
  refine CG.ofv (by decide) (Nat.le_of_ble_eq_true rfl) ?_
  intro p ee s m args below meth c A Q H0 ls C0 hA hP hD hS hl hE
  have hl : lv_has ls 6 [(0, .ref (ad 4)), (1, .ref (ad 2)), (2, .int a2), (3, .int a3)] := hl
  obtain ⟨hx, hb, hml, hown, ht, hK⟩ := id C0
  unfold F_X4_passBy_r2 at hF
  refine lv_aload_n hx hb dX4_passBy_0 rfl (lv_at hl 0 rfl) ?_
  refine gX4_2 (v := (si 11)) C0 hP rfl q119 dX4_passBy_1 ?_
  refine lv_iconst (v := (1 : Int32)) hx hb dX4_passBy_4 (by decide) ?_
  refine lv_iload_n hx hb dX4_passBy_5 rfl (lv_at hl 2 rfl) ?_
  refine lv_ishl hx hb dX4_passBy_6 ?_
  refine lv_ior hx hb dX4_passBy_7 ?_
  refine lv_istore (lv' := [(4, .int ((si 11) ||| ((1 : Int32) <<< (a2 &&& 31)))), (0, .ref (ad 4)), (1, .ref (ad 2)), (2, .int a2), (3, .int a3)]) hx hb dX4_passBy_8 hl (by decide) rfl (fun ls hl => ?_)
  refine lv_aload_n hx hb dX4_passBy_10 rfl (lv_at hl 2 rfl) ?_
  refine lv_aload_n hx hb dX4_passBy_11 rfl (lv_at hl 1 rfl) ?_
  refine gX4_2 (v := (si 11)) C0 hP rfl q119 dX4_passBy_12 ?_
  obtain ⟨r1, hr1, hF⟩ := bd_some hF
  refine kcV (As := [.int (si 11)]) (rest := []) C0 hA hP hD hS (c_X0_waiting l D cA ad si sa (si 11) r1 hr1) lk_X0_waiting q303 q304 q302 2 0 rfl rfl hl.1 rfl rfl (Nat.le_of_ble_eq_true rfl) ⟨Nat.le_of_ble_eq_true rfl, Nat.le_of_ble_eq_true rfl⟩ ⟨Nat.le_refl _, Nat.le_refl _⟩ dX4_passBy_15 (fun H locs hP hD hS => ?_)
  refine W.eq (g2 := F0 m 18 ls [.int r1]) rfl ?_
  refine lv_istore (lv' := [(5, .int r1), (4, .int ((si 11) ||| ((1 : Int32) <<< (a2 &&& 31)))), (0, .ref (ad 4)), (1, .ref (ad 2)), (2, .int a2), (3, .int a3)]) hx hb dX4_passBy_18 hl (by decide) rfl (fun ls hl => ?_)
  refine lv_aload_n hx hb dX4_passBy_20 rfl (lv_at hl 2 rfl) ?_
  refine lv_dup hx hb dX4_passBy_21 rfl ?_
  refine gX4_0 (v := (si 9)) C0 hP rfl q115 dX4_passBy_22 ?_
  refine lv_aload_n hx hb dX4_passBy_25 rfl (lv_at hl 3 rfl) ?_
  refine lv_iload hx hb dX4_passBy_26 (lv_at hl 0 rfl) ?_
  obtain ⟨r2, hr2, hF⟩ := bd_some hF
  refine kcV (As := [.int r1]) (rest := [.int (si 9), .ref (ad 4)]) C0 hA hP hD hS (c_X0_secondsFor l D cA ad si sa r1 r2 hr2) lk_X0_secondsFor q314 q315 q313 2 0 rfl rfl hl.1 rfl rfl (Nat.le_of_ble_eq_true rfl) ⟨Nat.le_of_ble_eq_true rfl, Nat.le_of_ble_eq_true rfl⟩ ⟨Nat.le_refl _, Nat.le_refl _⟩ dX4_passBy_28 (fun H locs hP hD hS => ?_)
  refine W.eq (g2 := F0 m 31 ls [.int r2, .int (si 9), .ref (ad 4)]) rfl ?_
  refine lv_iadd hx hb dX4_passBy_31 ?_
  refine pX4_0 C0 hP hD hS q115 dX4_passBy_32 (fun H locs hP hD hS => ?_)
  refine lv_aload_n hx hb dX4_passBy_35 rfl (lv_at hl 2 rfl) ?_
  refine gX4_1 (v := (si 10)) C0 hP rfl q117 dX4_passBy_36 ?_
  refine lv_bipush (v := (-9 : Int32)) hx hb dX4_passBy_39 (by decide) ?_
  obtain ⟨x3, hRx3, hF⟩ := bd_some hF
  have Jx3 : ∀ (H : Heap) (locs : List Loc) (ls : Array Slot), va_P D vwCl (WX cA ad x3 sa) H → va_D A (WX cA ad x3 sa) → va_S A H0 H locs → lv_has ls 6 [(5, .int r1), (4, .int ((si 11) ||| ((1 : Int32) <<< (a2 &&& 31)))), (0, .ref (ad 4)), (1, .ref (ad 2))] → W p l ee (rmx 3 68) s m args below meth c H locs 0 0 Q (F0 m 66 ls []) := by
    intro H locs ls hP hD hS hl
    refine lv_aload_n hx hb dX4_passBy_66 rfl (lv_at hl 2 rfl) ?_
    refine lv_iload hx hb dX4_passBy_67 (lv_at hl 0 rfl) ?_
    refine lv_aload_n hx hb dX4_passBy_69 rfl (lv_at hl 3 rfl) ?_
    refine lv_iload hx hb dX4_passBy_70 (lv_at hl 1 rfl) ?_
    obtain ⟨r4, hr4, hF⟩ := bd_some hF
    refine kcV (As := [.int ((si 11) ||| ((1 : Int32) <<< (a2 &&& 31)))]) (rest := [.int r1, .ref (ad 4)]) C0 hA hP hD hS (c_X0_waiting l D cA ad x3 sa ((si 11) ||| ((1 : Int32) <<< (a2 &&& 31))) r4 hr4) lk_X0_waiting q303 q304 q302 2 0 rfl rfl hl.1 rfl rfl (Nat.le_of_ble_eq_true rfl) ⟨Nat.le_of_ble_eq_true rfl, Nat.le_of_ble_eq_true rfl⟩ ⟨Nat.le_refl _, Nat.le_refl _⟩ dX4_passBy_72 (fun H locs hP hD hS => ?_)
    refine W.eq (g2 := F0 m 75 ls [.int r4, .int r1, .ref (ad 4)]) rfl ?_
    refine lv_iconst (v := (-1 : Int32)) hx hb dX4_passBy_75 (by decide) ?_
    refine lv_ixor hx hb dX4_passBy_76 ?_
    refine lv_iand hx hb dX4_passBy_77 ?_
    obtain ⟨r5, hr5, hF⟩ := bd_some hF
    refine kcV (As := [.int (r1 &&& (r4 ^^^ (-1 : Int32)))]) (rest := []) C0 hA hP hD hS (c_X4_noteReady l D cA ad x3 sa (r1 &&& (r4 ^^^ (-1 : Int32))) r5 hr5) lk_X4_noteReady q328 s12 q326 4 4 rfl rfl hl.1 rfl rfl (Nat.le_of_ble_eq_true rfl) ⟨Nat.le_of_ble_eq_true rfl, Nat.le_of_ble_eq_true rfl⟩ ⟨Nat.le_refl _, Nat.le_refl _⟩ dX4_passBy_78 (fun H locs hP hD hS => ?_)
    refine W.eq (g2 := F0 m 81 ls []) rfl ?_
    refine lv_aload_n hx hb dX4_passBy_81 rfl (lv_at hl 2 rfl) ?_
    refine lv_iload hx hb dX4_passBy_82 (lv_at hl 1 rfl) ?_
    refine pX4_2 C0 hP hD hS q119 dX4_passBy_84 (fun H locs hP hD hS => ?_)
    have hF := Option.some.inj hF
    subst hF
    exact hE _ _ _ _ hP hD hS dX4_passBy_87
  have hF := hRx3
  refine lv_icmp_ne (tgt := 66) hx hb dX4_passBy_41 (by decide) (fun c6 => ?_) (fun c6 => ?_)
  · have hF := (if_neg c6).symm.trans hF
    have hF := Option.some.inj hF
    subst hF
    exact Jx3 _ _ _ hP hD hS (lv_sub hl [0, 1, 2, 3] rfl)
  · have hF := (if_pos c6).symm.trans hF
    refine lv_aload_n hx hb dX4_passBy_44 rfl (lv_at hl 3 rfl) ?_
    refine lv_iload hx hb dX4_passBy_45 (lv_at hl 1 rfl) ?_
    obtain ⟨r7, hr7, hF⟩ := bd_some hF
    refine kcV (As := [.int ((si 11) ||| ((1 : Int32) <<< (a2 &&& 31)))]) (rest := []) C0 hA hP hD hS (c_X0_heaps l D cA ad (upd si 9 ((si 9) + r2)) sa ((si 11) ||| ((1 : Int32) <<< (a2 &&& 31))) r7 hr7) lk_X0_heaps q319 q320 q318 2 0 rfl rfl hl.1 rfl rfl (Nat.le_of_ble_eq_true rfl) ⟨Nat.le_of_ble_eq_true rfl, Nat.le_of_ble_eq_true rfl⟩ ⟨Nat.le_refl _, Nat.le_refl _⟩ dX4_passBy_47 (fun H locs hP hD hS => ?_)
    refine W.eq (g2 := F0 m 50 ls [.int r7]) rfl ?_
    refine lv_aload_n hx hb dX4_passBy_50 rfl (lv_at hl 3 rfl) ?_
    refine lv_aload_n hx hb dX4_passBy_51 rfl (lv_at hl 2 rfl) ?_
    refine gX4_2 (v := (si 11)) C0 hP rfl q119 dX4_passBy_52 ?_
    obtain ⟨r8, hr8, hF⟩ := bd_some hF
    refine kcV (As := [.int (si 11)]) (rest := [.int r7]) C0 hA hP hD hS (c_X0_heaps l D cA ad (upd si 9 ((si 9) + r2)) sa (si 11) r8 hr8) lk_X0_heaps q319 q320 q318 2 0 rfl rfl hl.1 rfl rfl (Nat.le_of_ble_eq_true rfl) ⟨Nat.le_of_ble_eq_true rfl, Nat.le_of_ble_eq_true rfl⟩ ⟨Nat.le_refl _, Nat.le_refl _⟩ dX4_passBy_55 (fun H locs hP hD hS => ?_)
    refine W.eq (g2 := F0 m 58 ls [.int r8, .int r7]) rfl ?_
    refine lv_icmp_ne (tgt := 66) hx hb dX4_passBy_58 (by decide) (fun c9 => ?_) (fun c9 => ?_)
    · have hF := (if_neg c9).symm.trans hF
      have hF := Option.some.inj hF
      subst hF
      exact Jx3 _ _ _ hP hD hS (lv_sub hl [0, 1, 2, 3] rfl)
    · have hF := (if_pos c9).symm.trans hF
      refine lv_aload_n hx hb dX4_passBy_61 rfl (lv_at hl 2 rfl) ?_
      refine lv_iload_n hx hb dX4_passBy_62 rfl (lv_at hl 5 rfl) ?_
      refine pX4_1 C0 hP hD hS q117 dX4_passBy_63 (fun H locs hP hD hS => ?_)
      have hF := Option.some.inj hF
      subst hF
      exact Jx3 _ _ _ hP hD hS (lv_sub hl [0, 1, 2, 3] rfl)
theorem lk_X4_go : LK yX4_go cX4_go 5 none 3 := ⟨q297, q5, by decide +kernel⟩
def S_X4_go_r2_r6_44 (a3 : Int32) (rec3 : ((Int32 × tSI × tSA) → Option (tSI × tSA))) (t3 : (Int32 × tSI × tSA)) : Option (tSI × tSA) :=
  (if a3 ≤ t3.1 then some (t3.2.1, t3.2.2) else ld t3.1 60 ((F_X4_passBy_r2 ((t3.2.2 0) (Int32.toNatClampNeg t3.1)) t3.1 t3.2.1 t3.2.2).bind fun r6 => rec3 ((t3.1 + 1), r6.1, r6.2)))
def S_X4_go_r2_r6_19 (rec1 : ((Int32 × tSI × tSA) → Option (tSI × tSA))) (t1 : (Int32 × tSI × tSA)) : Option (tSI × tSA) :=
  (if (6 : Int32) ≤ t1.1 then some (t1.2.1, t1.2.2) else ld t1.1 6 (rec1 ((t1.1 + 1), t1.2.1, (va_up t1.2.2 12 (upd (t1.2.2 12) (Int32.toNatClampNeg t1.1) (-9 : Int32))))))
def F_X4_go_r2_r6 (a3 : Int32) (si : tSI) (sa : tSA) : Option (tSI × tSA) :=
  (lp S_X4_go_r2_r6_19 100 ((0 : Int32), (upd (upd (upd si 9 (0 : Int32)) 10 (-9 : Int32)) 11 (0 : Int32)), sa)).bind fun (e2 : (tSI × tSA)) => (lp (S_X4_go_r2_r6_44 a3) 100 ((0 : Int32), e2.1, e2.2)).bind fun (e4 : (tSI × tSA)) => some (e4.1, e4.2)
set_option maxHeartbeats 4000000 in
set_option maxRecDepth 100000 in
theorem c_X4_go_r2_r6 (l : Launch) (D : va_G) (cA : ClassId) (ad : Nat → Nat) (si : tSI) (sa : tSA) (a3 : Int32) (o : (tSI × tSA)) (hF : F_X4_go_r2_r6 a3 si sa = some o) : CG l yX4_go cX4_go 5 none 4 93 D cA [.ref (ad 4), .ref (ad 2), .ref (ad 6), .int a3] (WX cA ad si sa) (WX cA ad o.1 o.2) none := by
  refine CG.ofv (by decide) (Nat.le_of_ble_eq_true rfl) ?_
  intro p ee s m args below meth c A Q H0 ls C0 hA hP hD hS hl hE
  have hl : lv_has ls 5 [(0, .ref (ad 4)), (1, .ref (ad 2)), (2, .ref (ad 6)), (3, .int a3)] := hl
  obtain ⟨hx, hb, hml, hown, ht, hK⟩ := id C0
  unfold F_X4_go_r2_r6 at hF
  refine lv_aload_n hx hb dX4_go_0 rfl (lv_at hl 0 rfl) ?_
  refine lv_iconst (v := (0 : Int32)) hx hb dX4_go_1 (by decide) ?_
  refine pX4_0 C0 hP hD hS q115 dX4_go_2 (fun H locs hP hD hS => ?_)
  refine lv_aload_n hx hb dX4_go_5 rfl (lv_at hl 0 rfl) ?_
  refine lv_bipush (v := (-9 : Int32)) hx hb dX4_go_6 (by decide) ?_
  refine pX4_1 C0 hP hD hS q117 dX4_go_8 (fun H locs hP hD hS => ?_)
  refine lv_aload_n hx hb dX4_go_11 rfl (lv_at hl 0 rfl) ?_
  refine lv_iconst (v := (0 : Int32)) hx hb dX4_go_12 (by decide) ?_
  refine pX4_2 C0 hP hD hS q119 dX4_go_13 (fun H locs hP hD hS => ?_)
  refine lv_iconst (v := (0 : Int32)) hx hb dX4_go_16 (by decide) ?_
  refine lv_istore (lv' := [(4, .int (0 : Int32)), (0, .ref (ad 4)), (1, .ref (ad 2)), (2, .ref (ad 6)), (3, .int a3)]) hx hb dX4_go_17 hl (by decide) rfl (fun ls hl => ?_)
  obtain ⟨ox1, hL1, hX1⟩ := bd_all hF
  have JE1 : ∀ (e2 : (tSI × tSA)), ox1 = e2 → ∀ (H : Heap) (locs : List Loc) (ls : Array Slot), va_P D vwCl (WX cA ad e2.1 e2.2) H → va_D A (WX cA ad e2.1 e2.2) → va_S A H0 H locs → lv_has ls 5 [(0, .ref (ad 4)), (1, .ref (ad 2)), (2, .ref (ad 6)), (3, .int a3)] → W p l ee (rmx 4 93) s m args below meth c H locs 0 0 Q (F0 m 41 ls []) := by
    intro e2 he H locs ls hP hD hS hl
    have hF := hX1 _ he
    refine lv_iconst (v := (0 : Int32)) hx hb dX4_go_41 (by decide) ?_
    refine lv_istore (lv' := [(4, .int (0 : Int32)), (0, .ref (ad 4)), (1, .ref (ad 2)), (2, .ref (ad 6)), (3, .int a3)]) hx hb dX4_go_42 hl (by decide) rfl (fun ls hl => ?_)
    obtain ⟨ox3, hL3, hX3⟩ := bd_all hF
    have JE3 : ∀ (e4 : (tSI × tSA)), ox3 = e4 → ∀ (H : Heap) (locs : List Loc) (ls : Array Slot), va_P D vwCl (WX cA ad e4.1 e4.2) H → va_D A (WX cA ad e4.1 e4.2) → va_S A H0 H locs → lv_has ls 5 [] → W p l ee (rmx 4 93) s m args below meth c H locs 0 0 Q (F0 m 67 ls []) := by
      intro e4 he H locs ls hP hD hS hl
      have hF := hX3 _ he
      have hF := Option.some.inj hF
      subst hF
      exact hE _ _ _ _ hP hD hS dX4_go_67
    have LP3 : ∀ (k3 : Nat) (t3 : (Int32 × tSI × tSA)), lp (S_X4_go_r2_r6_44 a3) k3 t3 = some ox3 → ∀ (H : Heap) (locs : List Loc) (ls : Array Slot), va_P D vwCl (WX cA ad t3.2.1 t3.2.2) H → va_D A (WX cA ad t3.2.1 t3.2.2) → va_S A H0 H locs → lv_has ls 5 [(4, .int t3.1), (0, .ref (ad 4)), (1, .ref (ad 2)), (2, .ref (ad 6)), (3, .int a3)] → W p l ee (rmx 4 93) s m args below meth c H locs 0 0 Q (F0 m 44 ls []) := by
      intro k3
      induction k3 with
      | zero => intro t3 hF; exact (lp_no hF).elim
      | succ k3 ih3 =>
        intro t3 hF H locs ls hP hD hS hl
        change (S_X4_go_r2_r6_44 a3) (lp (S_X4_go_r2_r6_44 a3) k3) t3 = some ox3 at hF
        unfold S_X4_go_r2_r6_44 at hF
        refine lv_iload hx hb dX4_go_44 (lv_at hl 0 rfl) ?_
        refine lv_iload_n hx hb dX4_go_46 rfl (lv_at hl 4 rfl) ?_
        refine lv_icmp_ge (tgt := 67) hx hb dX4_go_47 (by decide) (fun c5 => ?_) (fun c5 => ?_)
        · have hF := (if_pos c5).symm.trans hF
          exact JE3 _ (Option.some.inj hF).symm _ _ _ hP hD hS (lv_sub hl [] rfl)
        · have hF := (if_neg c5).symm.trans hF
          refine lv_aload_n hx hb dX4_go_50 rfl (lv_at hl 1 rfl) ?_
          refine lv_aload_n hx hb dX4_go_51 rfl (lv_at hl 2 rfl) ?_
          refine lv_aload_n hx hb dX4_go_52 rfl (lv_at hl 3 rfl) ?_
          refine lv_iload hx hb dX4_go_53 (lv_at hl 0 rfl) ?_
          obtain ⟨hin, hF⟩ := ld_some hF
          refine aXl0 (f := (t3.2.2 0)) C0 hP rfl hin dX4_go_55 ?_
          refine lv_iload hx hb dX4_go_56 (lv_at hl 0 rfl) ?_
          obtain ⟨r6, hr6, hF⟩ := bd_some hF
          refine kcV (As := [.ref (ad 2), .int ((t3.2.2 0) (Int32.toNatClampNeg t3.1)), .int t3.1]) (rest := []) C0 hA hP hD hS (c_X4_passBy_r2 l D cA ad t3.2.1 t3.2.2 ((t3.2.2 0) (Int32.toNatClampNeg t3.1)) t3.1 r6 hr6) lk_X4_passBy q300 s11 q298 4 4 rfl rfl hl.1 rfl rfl (Nat.le_of_ble_eq_true rfl) ⟨Nat.le_of_ble_eq_true rfl, Nat.le_of_ble_eq_true rfl⟩ ⟨Nat.le_refl _, Nat.le_refl _⟩ dX4_go_58 (fun H locs hP hD hS => ?_)
          refine W.eq (g2 := F0 m 61 ls []) rfl ?_
          refine lv_iinc (v := (t3.1 + 1)) (lv' := [(4, .int (t3.1 + 1)), (0, .ref (ad 4)), (1, .ref (ad 2)), (2, .ref (ad 6)), (3, .int a3)]) hx hb dX4_go_61 hl (k := 0) rfl rfl (by decide) rfl (fun ls hl => ?_)
          refine lv_goto (tgt := 44) hx hb dX4_go_64 (by decide) ?_
          exact ih3 _ hF _ _ _ hP hD hS (lv_sub hl [0, 1, 2, 3, 4] rfl)
    exact LP3 _ _ hL3 _ _ _ hP hD hS (lv_sub hl [0, 1, 2, 3, 4] rfl)
  have LP1 : ∀ (k1 : Nat) (t1 : (Int32 × tSI × tSA)), lp S_X4_go_r2_r6_19 k1 t1 = some ox1 → ∀ (H : Heap) (locs : List Loc) (ls : Array Slot), va_P D vwCl (WX cA ad t1.2.1 t1.2.2) H → va_D A (WX cA ad t1.2.1 t1.2.2) → va_S A H0 H locs → lv_has ls 5 [(4, .int t1.1), (0, .ref (ad 4)), (1, .ref (ad 2)), (2, .ref (ad 6)), (3, .int a3)] → W p l ee (rmx 4 93) s m args below meth c H locs 0 0 Q (F0 m 19 ls []) := by
    intro k1
    induction k1 with
    | zero => intro t1 hF; exact (lp_no hF).elim
    | succ k1 ih1 =>
      intro t1 hF H locs ls hP hD hS hl
      change S_X4_go_r2_r6_19 (lp S_X4_go_r2_r6_19 k1) t1 = some ox1 at hF
      unfold S_X4_go_r2_r6_19 at hF
      refine lv_iload hx hb dX4_go_19 (lv_at hl 0 rfl) ?_
      refine lv_bipush (v := (6 : Int32)) hx hb dX4_go_21 (by decide) ?_
      refine lv_icmp_ge (tgt := 41) hx hb dX4_go_23 (by decide) (fun c7 => ?_) (fun c7 => ?_)
      · have hF := (if_pos c7).symm.trans hF
        exact JE1 _ (Option.some.inj hF).symm _ _ _ hP hD hS (lv_sub hl [1, 2, 3, 4] rfl)
      · have hF := (if_neg c7).symm.trans hF
        refine lv_aload_n hx hb dX4_go_26 rfl (lv_at hl 1 rfl) ?_
        refine gX4_3 C0 hP q121 dX4_go_27 ?_
        refine lv_iload hx hb dX4_go_30 (lv_at hl 0 rfl) ?_
        refine lv_bipush (v := (-9 : Int32)) hx hb dX4_go_32 (by decide) ?_
        obtain ⟨hin, hF⟩ := ld_some hF
        refine aXs12 (f := (t1.2.2 12)) C0 hP hD hS rfl hin dX4_go_34 (fun H locs hP hD hS => ?_)
        refine lv_iinc (v := (t1.1 + 1)) (lv' := [(4, .int (t1.1 + 1)), (0, .ref (ad 4)), (1, .ref (ad 2)), (2, .ref (ad 6)), (3, .int a3)]) hx hb dX4_go_35 hl (k := 0) rfl rfl (by decide) rfl (fun ls hl => ?_)
        refine lv_goto (tgt := 19) hx hb dX4_go_38 (by decide) ?_
        exact ih1 _ hF _ _ _ hP hD hS (lv_sub hl [0, 1, 2, 3, 4] rfl)
  exact LP1 _ _ hL1 _ _ _ hP hD hS (lv_sub hl [0, 1, 2, 3, 4] rfl)
theorem lk_X5_leastBeside : LK yX5_leastBeside cX5_leastBeside 2 (some .int) 1 := ⟨q340, q1, by decide +kernel⟩
def F_X5_leastBeside (a1 : Int32) (si : tSI) (sa : tSA) : Option Int32 :=
  (F_X0_isSort a1 si sa).bind fun r1 => (if r1 = 0 then some (-9 : Int32) else (F_X0_heapOf a1 (si 11) si sa).bind fun r3 => (F_X5_least r3).bind fun r4 => some r4)
set_option maxHeartbeats 4000000 in
set_option maxRecDepth 100000 in
theorem c_X5_leastBeside (l : Launch) (D : va_G) (cA : ClassId) (ad : Nat → Nat) (si : tSI) (sa : tSA) (a1 : Int32) (o : Int32) (hF : F_X5_leastBeside a1 si sa = some o) : CG l yX5_leastBeside cX5_leastBeside 2 (some .int) 2 45 D cA [.ref (ad 0), .int a1] (WX cA ad si sa) (WX cA ad si sa) (some (.int o)) := by
  refine CG.ofi (by decide) (Nat.le_of_ble_eq_true rfl) ?_
  intro p ee s m args below meth c A Q H0 ls C0 hA hP hD hS hl hE
  have hl : lv_has ls 2 [(0, .ref (ad 0)), (1, .int a1)] := hl
  obtain ⟨hx, hb, hml, hown, ht, hK⟩ := id C0
  unfold F_X5_leastBeside at hF
  refine lv_aload_n hx hb dX5_leastBeside_0 rfl (lv_at hl 0 rfl) ?_
  refine gX0_1 C0 hP q146 dX5_leastBeside_1 ?_
  refine lv_iload_n hx hb dX5_leastBeside_4 rfl (lv_at hl 1 rfl) ?_
  obtain ⟨r1, hr1, hF⟩ := bd_some hF
  refine kcV (As := [.int a1]) (rest := []) C0 hA hP hD hS (c_X0_isSort l D cA ad si sa a1 r1 hr1) lk_X0_isSort q252 q253 q251 2 0 rfl rfl hl.1 rfl rfl (Nat.le_of_ble_eq_true rfl) ⟨Nat.le_of_ble_eq_true rfl, Nat.le_of_ble_eq_true rfl⟩ ⟨Nat.le_refl _, Nat.le_refl _⟩ dX5_leastBeside_5 (fun H locs hP hD hS => ?_)
  refine W.eq (g2 := F0 m 8 ls [.int r1]) rfl ?_
  refine lv_if_eq (tgt := 32) hx hb dX5_leastBeside_8 (by decide) (fun c2 => ?_) (fun c2 => ?_)
  · have hF := (if_pos c2).symm.trans hF
    refine lv_bipush (v := (-9 : Int32)) hx hb dX5_leastBeside_32 (by decide) ?_
    have hF := Option.some.inj hF
    exact hE _ _ _ _ _ hP hD hS dX5_leastBeside_34 rfl hF
  · have hF := (if_neg c2).symm.trans hF
    refine lv_aload_n hx hb dX5_leastBeside_11 rfl (lv_at hl 0 rfl) ?_
    refine gX0_1 C0 hP q146 dX5_leastBeside_12 ?_
    refine lv_iload_n hx hb dX5_leastBeside_15 rfl (lv_at hl 1 rfl) ?_
    refine lv_aload_n hx hb dX5_leastBeside_16 rfl (lv_at hl 0 rfl) ?_
    refine gX0_3 C0 hP q148 dX5_leastBeside_17 ?_
    refine gX4_2 (v := (si 11)) C0 hP rfl q120 dX5_leastBeside_20 ?_
    obtain ⟨r3, hr3, hF⟩ := bd_some hF
    refine kcV (As := [.int a1, .int (si 11)]) (rest := []) C0 hA hP hD hS (c_X0_heapOf l D cA ad si sa a1 (si 11) r3 hr3) lk_X0_heapOf q307 q308 q341 2 0 rfl rfl hl.1 rfl rfl (Nat.le_of_ble_eq_true rfl) ⟨Nat.le_of_ble_eq_true rfl, Nat.le_of_ble_eq_true rfl⟩ ⟨Nat.le_refl _, Nat.le_refl _⟩ dX5_leastBeside_23 (fun H locs hP hD hS => ?_)
    refine W.eq (g2 := F0 m 26 ls [.int r3]) rfl ?_
    obtain ⟨r4, hr4, hF⟩ := bd_some hF
    refine kcS (As := [.int r3]) (rest := []) C0 hA hP hD hS (c_X5_least l D cA ad si sa r3 r4 hr4) lk_X5_least q323 q342 hl.1 rfl rfl (Nat.le_of_ble_eq_true rfl) ⟨Nat.le_of_ble_eq_true rfl, Nat.le_of_ble_eq_true rfl⟩ ⟨Nat.le_refl _, Nat.le_refl _⟩ dX5_leastBeside_26 (fun H locs hP hD hS => ?_)
    refine W.eq (g2 := F0 m 29 ls [.int r4]) rfl ?_
    refine lv_goto (tgt := 34) hx hb dX5_leastBeside_29 (by decide) ?_
    have hF := Option.some.inj hF
    exact hE _ _ _ _ _ hP hD hS dX5_leastBeside_34 rfl hF
theorem lk_X5_readyBehind : LK yX5_readyBehind cX5_readyBehind 2 (some .int) 1 := ⟨q336, q1, by decide +kernel⟩
def F_X5_readyBehind (a1 : Int32) (si : tSI) (sa : tSA) : Option Int32 :=
  (F_X0_isSort a1 si sa).bind fun r1 => (if r1 = 0 then some (-9 : Int32) else ld a1 6 (some ((sa 12) (Int32.toNatClampNeg a1))))
set_option maxHeartbeats 4000000 in
set_option maxRecDepth 100000 in
theorem c_X5_readyBehind (l : Launch) (D : va_G) (cA : ClassId) (ad : Nat → Nat) (si : tSI) (sa : tSA) (a1 : Int32) (o : Int32) (hF : F_X5_readyBehind a1 si sa = some o) : CG l yX5_readyBehind cX5_readyBehind 2 (some .int) 1 21 D cA [.ref (ad 0), .int a1] (WX cA ad si sa) (WX cA ad si sa) (some (.int o)) := by
  refine CG.ofi (by decide) (Nat.le_of_ble_eq_true rfl) ?_
  intro p ee s m args below meth c A Q H0 ls C0 hA hP hD hS hl hE
  have hl : lv_has ls 2 [(0, .ref (ad 0)), (1, .int a1)] := hl
  obtain ⟨hx, hb, hml, hown, ht, hK⟩ := id C0
  unfold F_X5_readyBehind at hF
  refine lv_aload_n hx hb dX5_readyBehind_0 rfl (lv_at hl 0 rfl) ?_
  refine gX0_1 C0 hP q146 dX5_readyBehind_1 ?_
  refine lv_iload_n hx hb dX5_readyBehind_4 rfl (lv_at hl 1 rfl) ?_
  obtain ⟨r1, hr1, hF⟩ := bd_some hF
  refine kcV (As := [.int a1]) (rest := []) C0 hA hP hD hS (c_X0_isSort l D cA ad si sa a1 r1 hr1) lk_X0_isSort q252 q253 q251 2 0 rfl rfl hl.1 rfl rfl (Nat.le_of_ble_eq_true rfl) ⟨Nat.le_of_ble_eq_true rfl, Nat.le_of_ble_eq_true rfl⟩ ⟨Nat.le_refl _, Nat.le_refl _⟩ dX5_readyBehind_5 (fun H locs hP hD hS => ?_)
  refine W.eq (g2 := F0 m 8 ls [.int r1]) rfl ?_
  refine lv_if_eq (tgt := 23) hx hb dX5_readyBehind_8 (by decide) (fun c2 => ?_) (fun c2 => ?_)
  · have hF := (if_pos c2).symm.trans hF
    refine lv_bipush (v := (-9 : Int32)) hx hb dX5_readyBehind_23 (by decide) ?_
    have hF := Option.some.inj hF
    exact hE _ _ _ _ _ hP hD hS dX5_readyBehind_25 rfl hF
  · have hF := (if_neg c2).symm.trans hF
    refine lv_aload_n hx hb dX5_readyBehind_11 rfl (lv_at hl 0 rfl) ?_
    refine gX0_3 C0 hP q148 dX5_readyBehind_12 ?_
    refine gX4_3 C0 hP q122 dX5_readyBehind_15 ?_
    refine lv_iload_n hx hb dX5_readyBehind_18 rfl (lv_at hl 1 rfl) ?_
    obtain ⟨hin, hF⟩ := ld_some hF
    refine aXl12 (f := (sa 12)) C0 hP rfl hin dX5_readyBehind_19 ?_
    refine lv_goto (tgt := 25) hx hb dX5_readyBehind_20 (by decide) ?_
    have hF := Option.some.inj hF
    exact hE _ _ _ _ _ hP hD hS dX5_readyBehind_25 rfl hF
