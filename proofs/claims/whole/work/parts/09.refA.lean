theorem lk_X6_in : LK yX6_in cX6_in 6 (some .boolean) 3 := ⟨q687, q7, by decide +kernel⟩
def F_X6_in (a1 : Int64) (a2 : Int64) (a3 : Int64) : Option Int32 :=
  (if (lg_cmp a1 a2) < 0 then some (0 : Int32) else (if 0 < (lg_cmp a1 a3) then some (0 : Int32) else some (1 : Int32)))
set_option maxHeartbeats 4000000 in
set_option maxRecDepth 100000 in
theorem c_X6_in (l : Launch) (D : va_G) (cA : ClassId) (ad : Nat → Nat) (si : tSI) (sa : tSA) (a1 : Int64) (a2 : Int64) (a3 : Int64) (o : Int32) (hF : F_X6_in a1 a2 a3 = some o) : CG l yX6_in cX6_in 6 (some .boolean) 0 0 D cA [.long a1, .long a2, .long a3] (WM cA ad si sa) (WM cA ad si sa) (some (.int o)) := by
  refine CG.ofi (by decide) (Nat.le_of_ble_eq_true rfl) ?_
  intro p ee s m args below meth c A Q H0 ls C0 hA hP hD hS hl hE
  have hl : lv_has ls 6 [(0, .long a1), (2, .long a2), (4, .long a3)] := hl
  obtain ⟨hx, hb, hml, hown, ht, hK⟩ := id C0
  unfold F_X6_in at hF
  refine lv_lload_n hx hb dX6_in_0 rfl (lv_at hl 0 rfl) ?_
  refine lv_lload_n hx hb dX6_in_1 rfl (lv_at hl 1 rfl) ?_
  refine W.lcmp hx hb dX6_in_2 ?_
  refine lv_if_lt (tgt := 17) hx hb dX6_in_3 (by decide) (fun c1 => ?_) (fun c1 => ?_)
  · have hF := (if_pos c1).symm.trans hF
    refine lv_iconst (v := (0 : Int32)) hx hb dX6_in_17 (by decide) ?_
    have hF := Option.some.inj hF
    exact hE _ _ _ _ _ hP hD hS dX6_in_18 rfl hF
  · have hF := (if_neg c1).symm.trans hF
    refine lv_lload_n hx hb dX6_in_6 rfl (lv_at hl 0 rfl) ?_
    refine lv_lload hx hb dX6_in_7 (lv_at hl 2 rfl) ?_
    refine W.lcmp hx hb dX6_in_9 ?_
    refine lv_if_gt (tgt := 17) hx hb dX6_in_10 (by decide) (fun c2 => ?_) (fun c2 => ?_)
    · have hF := (if_pos c2).symm.trans hF
      refine lv_iconst (v := (0 : Int32)) hx hb dX6_in_17 (by decide) ?_
      have hF := Option.some.inj hF
      exact hE _ _ _ _ _ hP hD hS dX6_in_18 rfl hF
    · have hF := (if_neg c2).symm.trans hF
      refine lv_iconst (v := (1 : Int32)) hx hb dX6_in_13 (by decide) ?_
      refine lv_goto (tgt := 18) hx hb dX6_in_14 (by decide) ?_
      have hF := Option.some.inj hF
      exact hE _ _ _ _ _ hP hD hS dX6_in_18 rfl hF
theorem lk_X6_lost : LK yX6_lost cX6_lost 0 (some .long) 0 := ⟨q839, q7, by decide +kernel⟩
def F_X6_lost : Option Int64 :=
  some (-9223372036854775808 : Int64)
set_option maxHeartbeats 4000000 in
set_option maxRecDepth 100000 in
theorem c_X6_lost (l : Launch) (D : va_G) (cA : ClassId) (ad : Nat → Nat) (si : tSI) (sa : tSA) (o : Int64) (hF : F_X6_lost = some o) : CG l yX6_lost cX6_lost 0 (some .long) 0 0 D cA [] (WM cA ad si sa) (WM cA ad si sa) (some (.long o)) := by
  refine CG.ofl (by decide) (Nat.le_of_ble_eq_true rfl) ?_
  intro p ee s m args below meth c A Q H0 ls C0 hA hP hD hS hl hE
  have hl : lv_has ls 0 [] := hl
  obtain ⟨hx, hb, hml, hown, ht, hK⟩ := id C0
  unfold F_X6_lost at hF
  refine lv_ldc2 (v := (-9223372036854775808 : Int64)) hx hb hown (ht _ q840) dX6_lost_0 ?_
  have hF := Option.some.inj hF
  exact hE _ _ _ _ _ hP hD hS dX6_lost_3 hF
theorem lk_X6_isIn : LK yX6_isIn cX6_isIn 2 (some .boolean) 2 := ⟨q788, q7, by decide +kernel⟩
def F_X6_isIn (a1 : Int32) (a2 : Int32) : Option Int32 :=
  (if ((a1 >>> (a2 &&& 31)) &&& (1 : Int32)) = (1 : Int32) then some (1 : Int32) else some (0 : Int32))
set_option maxHeartbeats 4000000 in
set_option maxRecDepth 100000 in
theorem c_X6_isIn (l : Launch) (D : va_G) (cA : ClassId) (ad : Nat → Nat) (si : tSI) (sa : tSA) (a1 : Int32) (a2 : Int32) (o : Int32) (hF : F_X6_isIn a1 a2 = some o) : CG l yX6_isIn cX6_isIn 2 (some .boolean) 0 0 D cA [.int a1, .int a2] (WM cA ad si sa) (WM cA ad si sa) (some (.int o)) := by
  refine CG.ofi (by decide) (Nat.le_of_ble_eq_true rfl) ?_
  intro p ee s m args below meth c A Q H0 ls C0 hA hP hD hS hl hE
  have hl : lv_has ls 2 [(0, .int a1), (1, .int a2)] := hl
  obtain ⟨hx, hb, hml, hown, ht, hK⟩ := id C0
  unfold F_X6_isIn at hF
  refine lv_iload_n hx hb dX6_isIn_0 rfl (lv_at hl 0 rfl) ?_
  refine lv_iload_n hx hb dX6_isIn_1 rfl (lv_at hl 1 rfl) ?_
  refine lv_ishr hx hb dX6_isIn_2 ?_
  refine lv_iconst (v := (1 : Int32)) hx hb dX6_isIn_3 (by decide) ?_
  refine lv_iand hx hb dX6_isIn_4 ?_
  refine lv_iconst (v := (1 : Int32)) hx hb dX6_isIn_5 (by decide) ?_
  refine lv_icmp_ne (tgt := 13) hx hb dX6_isIn_6 (by decide) (fun c1 => ?_) (fun c1 => ?_)
  · have hF := (if_neg c1).symm.trans hF
    refine lv_iconst (v := (0 : Int32)) hx hb dX6_isIn_13 (by decide) ?_
    have hF := Option.some.inj hF
    exact hE _ _ _ _ _ hP hD hS dX6_isIn_14 rfl hF
  · have hF := (if_pos c1).symm.trans hF
    refine lv_iconst (v := (1 : Int32)) hx hb dX6_isIn_9 (by decide) ?_
    refine lv_goto (tgt := 14) hx hb dX6_isIn_10 (by decide) ?_
    have hF := Option.some.inj hF
    exact hE _ _ _ _ _ hP hD hS dX6_isIn_14 rfl hF
theorem lk_X6_share : LK yX6_share cX6_share 11 (some .long) 3 := ⟨q843, q7, by decide +kernel⟩
def S_X6_share_6 (rec1 : ((Int64 × Int64) → Option Int64)) (t1 : (Int64 × Int64)) : Option Int64 :=
  (if (lg_cmp t1.1 (0 : Int64)) = 0 then some t1.2 else dzl t1.1 (rec1 ((t1.2 - t1.2 / t1.1 * t1.1), t1.1)))
def F_X6_share (a1 : Int64) (a2 : Int64) (a3 : Int32) : Option Int64 :=
  (lp S_X6_share_6 100 (a2, a1)).bind fun (e2 : Int64) => (if a3 = 0 then dzl e2 (some (a1 / e2)) else dzl e2 (some (a2 / e2)))
set_option maxHeartbeats 4000000 in
set_option maxRecDepth 100000 in
theorem c_X6_share (l : Launch) (D : va_G) (cA : ClassId) (ad : Nat → Nat) (si : tSI) (sa : tSA) (a1 : Int64) (a2 : Int64) (a3 : Int32) (o : Int64) (hF : F_X6_share a1 a2 a3 = some o) : CG l yX6_share cX6_share 11 (some .long) 0 0 D cA [.long a1, .long a2, .int a3] (WM cA ad si sa) (WM cA ad si sa) (some (.long o)) := by
  refine CG.ofl (by decide) (Nat.le_of_ble_eq_true rfl) ?_
  intro p ee s m args below meth c A Q H0 ls C0 hA hP hD hS hl hE
  have hl : lv_has ls 11 [(0, .long a1), (2, .long a2), (4, .int a3)] := hl
  obtain ⟨hx, hb, hml, hown, ht, hK⟩ := id C0
  unfold F_X6_share at hF
  refine lv_lload_n hx hb dX6_share_0 rfl (lv_at hl 0 rfl) ?_
  refine lv_lstore (lv' := [(5, .long a1), (0, .long a1), (2, .long a2), (4, .int a3)]) hx hb dX6_share_1 hl (by decide) rfl (fun ls hl => ?_)
  refine lv_lload_n hx hb dX6_share_3 rfl (lv_at hl 2 rfl) ?_
  refine lv_lstore (lv' := [(7, .long a2), (5, .long a1), (0, .long a1), (2, .long a2), (4, .int a3)]) hx hb dX6_share_4 hl (by decide) rfl (fun ls hl => ?_)
  obtain ⟨ox1, hL1, hX1⟩ := bd_all hF
  have JE1 : ∀ (e2 : Int64), ox1 = e2 → ∀ (H : Heap) (locs : List Loc) (ls : Array Slot), va_P D vwCl (WM cA ad si sa) H → va_D A (WM cA ad si sa) → va_S A H0 H locs → lv_has ls 11 [(5, .long e2), (0, .long a1), (2, .long a2), (4, .int a3)] → W p l ee (rmx 0 0) s m args below meth c H locs 0 0 Q (F0 m 31 ls []) := by
    intro e2 he H locs ls hP hD hS hl
    have hF := hX1 _ he
    refine lv_iload hx hb dX6_share_31 (lv_at hl 3 rfl) ?_
    refine lv_if_ne (tgt := 40) hx hb dX6_share_33 (by decide) (fun c3 => ?_) (fun c3 => ?_)
    · have hF := (if_neg c3).symm.trans hF
      refine lv_lload_n hx hb dX6_share_40 rfl (lv_at hl 2 rfl) ?_
      refine lv_lload hx hb dX6_share_41 (lv_at hl 0 rfl) ?_
      obtain ⟨hdz, hF⟩ := dzl_some hF
      refine lv_ldiv hx hb dX6_share_43 hdz ?_
      have hF := Option.some.inj hF
      exact hE _ _ _ _ _ hP hD hS dX6_share_44 hF
    · have hF := (if_pos c3).symm.trans hF
      refine lv_lload_n hx hb dX6_share_36 rfl (lv_at hl 1 rfl) ?_
      refine lv_goto (tgt := 41) hx hb dX6_share_37 (by decide) ?_
      refine lv_lload hx hb dX6_share_41 (lv_at hl 0 rfl) ?_
      obtain ⟨hdz, hF⟩ := dzl_some hF
      refine lv_ldiv hx hb dX6_share_43 hdz ?_
      have hF := Option.some.inj hF
      exact hE _ _ _ _ _ hP hD hS dX6_share_44 hF
  have LP1 : ∀ (k1 : Nat) (t1 : (Int64 × Int64)), lp S_X6_share_6 k1 t1 = some ox1 → ∀ (H : Heap) (locs : List Loc) (ls : Array Slot), va_P D vwCl (WM cA ad si sa) H → va_D A (WM cA ad si sa) → va_S A H0 H locs → lv_has ls 11 [(7, .long t1.1), (5, .long t1.2), (0, .long a1), (2, .long a2), (4, .int a3)] → W p l ee (rmx 0 0) s m args below meth c H locs 0 0 Q (F0 m 6 ls []) := by
    intro k1
    induction k1 with
    | zero => intro t1 hF; exact (lp_no hF).elim
    | succ k1 ih1 =>
      intro t1 hF H locs ls hP hD hS hl
      change S_X6_share_6 (lp S_X6_share_6 k1) t1 = some ox1 at hF
      unfold S_X6_share_6 at hF
      refine lv_lload hx hb dX6_share_6 (lv_at hl 0 rfl) ?_
      refine lv_lconst (v := (0 : Int64)) hx hb dX6_share_8 (by decide) ?_
      refine W.lcmp hx hb dX6_share_9 ?_
      refine lv_if_eq (tgt := 31) hx hb dX6_share_10 (by decide) (fun c4 => ?_) (fun c4 => ?_)
      · have hF := (if_pos c4).symm.trans hF
        exact JE1 _ (Option.some.inj hF).symm _ _ _ hP hD hS (lv_sub hl [1, 2, 3, 4] rfl)
      · have hF := (if_neg c4).symm.trans hF
        refine lv_lload hx hb dX6_share_13 (lv_at hl 1 rfl) ?_
        refine lv_lload hx hb dX6_share_15 (lv_at hl 0 rfl) ?_
        obtain ⟨hdz, hF⟩ := dzl_some hF
        refine lv_lrem hx hb dX6_share_17 hdz ?_
        refine lv_lstore (lv' := [(9, .long (t1.2 - t1.2 / t1.1 * t1.1)), (7, .long t1.1), (5, .long t1.2), (0, .long a1), (2, .long a2), (4, .int a3)]) hx hb dX6_share_18 hl (by decide) rfl (fun ls hl => ?_)
        refine lv_lload hx hb dX6_share_20 (lv_at hl 1 rfl) ?_
        refine lv_lstore (lv' := [(5, .long t1.1), (9, .long (t1.2 - t1.2 / t1.1 * t1.1)), (7, .long t1.1), (0, .long a1), (2, .long a2), (4, .int a3)]) hx hb dX6_share_22 hl (by decide) rfl (fun ls hl => ?_)
        refine lv_lload hx hb dX6_share_24 (lv_at hl 1 rfl) ?_
        refine lv_lstore (lv' := [(7, .long (t1.2 - t1.2 / t1.1 * t1.1)), (5, .long t1.1), (9, .long (t1.2 - t1.2 / t1.1 * t1.1)), (0, .long a1), (2, .long a2), (4, .int a3)]) hx hb dX6_share_26 hl (by decide) rfl (fun ls hl => ?_)
        refine lv_goto (tgt := 6) hx hb dX6_share_28 (by decide) ?_
        exact ih1 _ hF _ _ _ hP hD hS (lv_sub hl [0, 1, 3, 4, 5] rfl)
  exact LP1 _ _ hL1 _ _ _ hP hD hS (lv_sub hl [0, 1, 2, 3, 4] rfl)
theorem lk_X6_refused : LK yX6_refused cX6_refused 2 (some .int) 1 := ⟨q691, q7, by decide +kernel⟩
def F_X6_refused (a1 : Int32) (si : tSI) (sa : tSA) : Option (Int32 × tSI × tSA) :=
  some (a1, (upd si 0 (0 : Int32)), sa)
set_option maxHeartbeats 4000000 in
set_option maxRecDepth 100000 in
theorem c_X6_refused (l : Launch) (D : va_G) (cA : ClassId) (ad : Nat → Nat) (si : tSI) (sa : tSA) (a1 : Int32) (o : (Int32 × tSI × tSA)) (hF : F_X6_refused a1 si sa = some o) : CG l yX6_refused cX6_refused 2 (some .int) 0 0 D cA [.ref (ad 0), .int a1] (WM cA ad si sa) (WM cA ad o.2.1 o.2.2) (some (.int o.1)) := by
  refine CG.ofi (by decide) (Nat.le_of_ble_eq_true rfl) ?_
  intro p ee s m args below meth c A Q H0 ls C0 hA hP hD hS hl hE
  have hl : lv_has ls 2 [(0, .ref (ad 0)), (1, .int a1)] := hl
  obtain ⟨hx, hb, hml, hown, ht, hK⟩ := id C0
  unfold F_X6_refused at hF
  refine lv_aload_n hx hb dX6_refused_0 rfl (lv_at hl 0 rfl) ?_
  refine lv_iconst (v := (0 : Int32)) hx hb dX6_refused_1 (by decide) ?_
  refine pM0_0 C0 hP hD hS q580 dX6_refused_2 (fun H locs hP hD hS => ?_)
  refine lv_iload_n hx hb dX6_refused_5 rfl (lv_at hl 1 rfl) ?_
  have hF := Option.some.inj hF
  subst hF
  exact hE _ _ _ _ _ hP hD hS dX6_refused_6 rfl rfl
theorem lk_X6_failed : LK yX6_failed cX6_failed 2 (some .int) 1 := ⟨q700, q7, by decide +kernel⟩
def F_X6_failed (a1 : Int32) (si : tSI) (sa : tSA) : Option (Int32 × tSI × tSA) :=
  some (((-10 : Int32) - a1), (upd si 0 a1), sa)
set_option maxHeartbeats 4000000 in
set_option maxRecDepth 100000 in
theorem c_X6_failed (l : Launch) (D : va_G) (cA : ClassId) (ad : Nat → Nat) (si : tSI) (sa : tSA) (a1 : Int32) (o : (Int32 × tSI × tSA)) (hF : F_X6_failed a1 si sa = some o) : CG l yX6_failed cX6_failed 2 (some .int) 0 0 D cA [.ref (ad 0), .int a1] (WM cA ad si sa) (WM cA ad o.2.1 o.2.2) (some (.int o.1)) := by
  refine CG.ofi (by decide) (Nat.le_of_ble_eq_true rfl) ?_
  intro p ee s m args below meth c A Q H0 ls C0 hA hP hD hS hl hE
  have hl : lv_has ls 2 [(0, .ref (ad 0)), (1, .int a1)] := hl
  obtain ⟨hx, hb, hml, hown, ht, hK⟩ := id C0
  unfold F_X6_failed at hF
  refine lv_aload_n hx hb dX6_failed_0 rfl (lv_at hl 0 rfl) ?_
  refine lv_iload_n hx hb dX6_failed_1 rfl (lv_at hl 1 rfl) ?_
  refine pM0_0 C0 hP hD hS q580 dX6_failed_2 (fun H locs hP hD hS => ?_)
  refine lv_bipush (v := (-10 : Int32)) hx hb dX6_failed_5 (by decide) ?_
  refine lv_iload_n hx hb dX6_failed_7 rfl (lv_at hl 1 rfl) ?_
  refine lv_isub hx hb dX6_failed_8 ?_
  have hF := Option.some.inj hF
  subst hF
  exact hE _ _ _ _ _ hP hD hS dX6_failed_9 rfl rfl
theorem lk_X6_failedLong : LK yX6_failedLong cX6_failedLong 2 (some .long) 1 := ⟨q892, q7, by decide +kernel⟩
def F_X6_failedLong (a1 : Int32) (si : tSI) (sa : tSA) : Option (Int64 × tSI × tSA) :=
  (F_X6_lost).bind fun r1 => some (r1, (upd si 0 a1), sa)
set_option maxHeartbeats 4000000 in
set_option maxRecDepth 100000 in
theorem c_X6_failedLong (l : Launch) (D : va_G) (cA : ClassId) (ad : Nat → Nat) (si : tSI) (sa : tSA) (a1 : Int32) (o : (Int64 × tSI × tSA)) (hF : F_X6_failedLong a1 si sa = some o) : CG l yX6_failedLong cX6_failedLong 2 (some .long) 1 19 D cA [.ref (ad 0), .int a1] (WM cA ad si sa) (WM cA ad o.2.1 o.2.2) (some (.long o.1)) := by
  refine CG.ofl (by decide) (Nat.le_of_ble_eq_true rfl) ?_
  intro p ee s m args below meth c A Q H0 ls C0 hA hP hD hS hl hE
  have hl : lv_has ls 2 [(0, .ref (ad 0)), (1, .int a1)] := hl
  obtain ⟨hx, hb, hml, hown, ht, hK⟩ := id C0
  unfold F_X6_failedLong at hF
  refine lv_aload_n hx hb dX6_failedLong_0 rfl (lv_at hl 0 rfl) ?_
  refine lv_iload_n hx hb dX6_failedLong_1 rfl (lv_at hl 1 rfl) ?_
  refine pM0_0 C0 hP hD hS q580 dX6_failedLong_2 (fun H locs hP hD hS => ?_)
  obtain ⟨r1, hr1, hF⟩ := bd_some hF
  refine kcS (As := []) (rest := []) C0 hA hP hD hS (c_X6_lost l D cA ad (upd si 0 a1) sa r1 hr1) lk_X6_lost q838 q837 hl.1 rfl rfl (Nat.le_of_ble_eq_true rfl) ⟨Nat.le_of_ble_eq_true rfl, Nat.le_of_ble_eq_true rfl⟩ ⟨Nat.le_refl _, Nat.le_refl _⟩ dX6_failedLong_5 (fun H locs hP hD hS => ?_)
  refine W.eq (g2 := F0 m 8 ls [.long r1]) rfl ?_
  have hF := Option.some.inj hF
  subst hF
  exact hE _ _ _ _ _ hP hD hS dX6_failedLong_8 rfl
theorem lk_X6_noSort : LK yX6_noSort cX6_noSort 2 (some .boolean) 1 := ⟨q731, q7, by decide +kernel⟩
def F_X6_noSort (a1 : Int32) (si : tSI) (sa : tSA) : Option Int32 :=
  (F_X6_in (Int32.toInt64 a1) (0 : Int64) ((Int32.toInt64 (si 1)) - (1 : Int64))).bind fun r1 => (if r1 = 0 then some (1 : Int32) else some (0 : Int32))
set_option maxHeartbeats 4000000 in
set_option maxRecDepth 100000 in
theorem c_X6_noSort (l : Launch) (D : va_G) (cA : ClassId) (ad : Nat → Nat) (si : tSI) (sa : tSA) (a1 : Int32) (o : Int32) (hF : F_X6_noSort a1 si sa = some o) : CG l yX6_noSort cX6_noSort 2 (some .boolean) 1 25 D cA [.ref (ad 0), .int a1] (WM cA ad si sa) (WM cA ad si sa) (some (.int o)) := by
  refine CG.ofi (by decide) (Nat.le_of_ble_eq_true rfl) ?_
  intro p ee s m args below meth c A Q H0 ls C0 hA hP hD hS hl hE
  have hl : lv_has ls 2 [(0, .ref (ad 0)), (1, .int a1)] := hl
  obtain ⟨hx, hb, hml, hown, ht, hK⟩ := id C0
  unfold F_X6_noSort at hF
  refine lv_iload_n hx hb dX6_noSort_0 rfl (lv_at hl 1 rfl) ?_
  refine lv_i2l hx hb dX6_noSort_1 rfl ?_
  refine lv_lconst (v := (0 : Int64)) hx hb dX6_noSort_2 (by decide) ?_
  refine lv_aload_n hx hb dX6_noSort_3 rfl (lv_at hl 0 rfl) ?_
  refine gM0_1 (v := (si 1)) C0 hP rfl q581 dX6_noSort_4 ?_
  refine lv_i2l hx hb dX6_noSort_7 rfl ?_
  refine lv_lconst (v := (1 : Int64)) hx hb dX6_noSort_8 (by decide) ?_
  refine lv_lsub hx hb dX6_noSort_9 ?_
  obtain ⟨r1, hr1, hF⟩ := bd_some hF
  refine kcS (As := [.long (Int32.toInt64 a1), .long (0 : Int64), .long ((Int32.toInt64 (si 1)) - (1 : Int64))]) (rest := []) C0 hA hP hD hS (c_X6_in l D cA ad si sa (Int32.toInt64 a1) (0 : Int64) ((Int32.toInt64 (si 1)) - (1 : Int64)) r1 hr1) lk_X6_in q686 q685 hl.1 rfl rfl (Nat.le_of_ble_eq_true rfl) ⟨Nat.le_of_ble_eq_true rfl, Nat.le_of_ble_eq_true rfl⟩ ⟨Nat.le_refl _, Nat.le_refl _⟩ dX6_noSort_10 (fun H locs hP hD hS => ?_)
  refine W.eq (g2 := F0 m 13 ls [.int r1]) rfl ?_
  refine lv_if_ne (tgt := 20) hx hb dX6_noSort_13 (by decide) (fun c2 => ?_) (fun c2 => ?_)
  · have hF := (if_neg c2).symm.trans hF
    refine lv_iconst (v := (0 : Int32)) hx hb dX6_noSort_20 (by decide) ?_
    have hF := Option.some.inj hF
    exact hE _ _ _ _ _ hP hD hS dX6_noSort_21 rfl hF
  · have hF := (if_pos c2).symm.trans hF
    refine lv_iconst (v := (1 : Int32)) hx hb dX6_noSort_16 (by decide) ?_
    refine lv_goto (tgt := 21) hx hb dX6_noSort_17 (by decide) ?_
    have hF := Option.some.inj hF
    exact hE _ _ _ _ _ hP hD hS dX6_noSort_21 rfl hF
theorem lk_X6_noSign : LK yX6_noSign cX6_noSign 2 (some .boolean) 1 := ⟨q743, q7, by decide +kernel⟩
def F_X6_noSign (a1 : Int32) (si : tSI) (sa : tSA) : Option Int32 :=
  (F_X6_in (Int32.toInt64 a1) (0 : Int64) ((Int32.toInt64 (si 2)) - (1 : Int64))).bind fun r1 => (if r1 = 0 then some (1 : Int32) else some (0 : Int32))
set_option maxHeartbeats 4000000 in
set_option maxRecDepth 100000 in
theorem c_X6_noSign (l : Launch) (D : va_G) (cA : ClassId) (ad : Nat → Nat) (si : tSI) (sa : tSA) (a1 : Int32) (o : Int32) (hF : F_X6_noSign a1 si sa = some o) : CG l yX6_noSign cX6_noSign 2 (some .boolean) 1 25 D cA [.ref (ad 0), .int a1] (WM cA ad si sa) (WM cA ad si sa) (some (.int o)) := by
  refine CG.ofi (by decide) (Nat.le_of_ble_eq_true rfl) ?_
  intro p ee s m args below meth c A Q H0 ls C0 hA hP hD hS hl hE
  have hl : lv_has ls 2 [(0, .ref (ad 0)), (1, .int a1)] := hl
  obtain ⟨hx, hb, hml, hown, ht, hK⟩ := id C0
  unfold F_X6_noSign at hF
  refine lv_iload_n hx hb dX6_noSign_0 rfl (lv_at hl 1 rfl) ?_
  refine lv_i2l hx hb dX6_noSign_1 rfl ?_
  refine lv_lconst (v := (0 : Int64)) hx hb dX6_noSign_2 (by decide) ?_
  refine lv_aload_n hx hb dX6_noSign_3 rfl (lv_at hl 0 rfl) ?_
  refine gM0_6 (v := (si 2)) C0 hP rfl q586 dX6_noSign_4 ?_
  refine lv_i2l hx hb dX6_noSign_7 rfl ?_
  refine lv_lconst (v := (1 : Int64)) hx hb dX6_noSign_8 (by decide) ?_
  refine lv_lsub hx hb dX6_noSign_9 ?_
  obtain ⟨r1, hr1, hF⟩ := bd_some hF
  refine kcS (As := [.long (Int32.toInt64 a1), .long (0 : Int64), .long ((Int32.toInt64 (si 2)) - (1 : Int64))]) (rest := []) C0 hA hP hD hS (c_X6_in l D cA ad si sa (Int32.toInt64 a1) (0 : Int64) ((Int32.toInt64 (si 2)) - (1 : Int64)) r1 hr1) lk_X6_in q686 q685 hl.1 rfl rfl (Nat.le_of_ble_eq_true rfl) ⟨Nat.le_of_ble_eq_true rfl, Nat.le_of_ble_eq_true rfl⟩ ⟨Nat.le_refl _, Nat.le_refl _⟩ dX6_noSign_10 (fun H locs hP hD hS => ?_)
  refine W.eq (g2 := F0 m 13 ls [.int r1]) rfl ?_
  refine lv_if_ne (tgt := 20) hx hb dX6_noSign_13 (by decide) (fun c2 => ?_) (fun c2 => ?_)
  · have hF := (if_neg c2).symm.trans hF
    refine lv_iconst (v := (0 : Int32)) hx hb dX6_noSign_20 (by decide) ?_
    have hF := Option.some.inj hF
    exact hE _ _ _ _ _ hP hD hS dX6_noSign_21 rfl hF
  · have hF := (if_pos c2).symm.trans hF
    refine lv_iconst (v := (1 : Int32)) hx hb dX6_noSign_16 (by decide) ?_
    refine lv_goto (tgt := 21) hx hb dX6_noSign_17 (by decide) ?_
    have hF := Option.some.inj hF
    exact hE _ _ _ _ _ hP hD hS dX6_noSign_21 rfl hF
theorem lk_X6_all : LK yX6_all cX6_all 1 (some .int) 0 := ⟨q747, q7, by decide +kernel⟩
def F_X6_all (si : tSI) (sa : tSA) : Option Int32 :=
  some (((1 : Int32) <<< ((si 1) &&& 31)) - (1 : Int32))
set_option maxHeartbeats 4000000 in
set_option maxRecDepth 100000 in
theorem c_X6_all (l : Launch) (D : va_G) (cA : ClassId) (ad : Nat → Nat) (si : tSI) (sa : tSA) (o : Int32) (hF : F_X6_all si sa = some o) : CG l yX6_all cX6_all 1 (some .int) 0 0 D cA [.ref (ad 0)] (WM cA ad si sa) (WM cA ad si sa) (some (.int o)) := by
  refine CG.ofi (by decide) (Nat.le_of_ble_eq_true rfl) ?_
  intro p ee s m args below meth c A Q H0 ls C0 hA hP hD hS hl hE
  have hl : lv_has ls 1 [(0, .ref (ad 0))] := hl
  obtain ⟨hx, hb, hml, hown, ht, hK⟩ := id C0
  unfold F_X6_all at hF
  refine lv_iconst (v := (1 : Int32)) hx hb dX6_all_0 (by decide) ?_
  refine lv_aload_n hx hb dX6_all_1 rfl (lv_at hl 0 rfl) ?_
  refine gM0_1 (v := (si 1)) C0 hP rfl q581 dX6_all_2 ?_
  refine lv_ishl hx hb dX6_all_5 ?_
  refine lv_iconst (v := (1 : Int32)) hx hb dX6_all_6 (by decide) ?_
  refine lv_isub hx hb dX6_all_7 ?_
  have hF := Option.some.inj hF
  exact hE _ _ _ _ _ hP hD hS dX6_all_8 rfl hF
theorem lk_X6_codeAt : LK yX6_codeAt cX6_codeAt 3 (some .int) 2 := ⟨q711, q7, by decide +kernel⟩
def F_X6_codeAt (a1 : Int32) (a2 : Int32) (si : tSI) (sa : tSA) : Option Int32 :=
  (if a2 ≤ (si 3) then some (-9 : Int32) else ld (a1 + (si 3)) 240 (some ((sa 20) (Int32.toNatClampNeg (a1 + (si 3))))))
set_option maxHeartbeats 4000000 in
set_option maxRecDepth 100000 in
theorem c_X6_codeAt (l : Launch) (D : va_G) (cA : ClassId) (ad : Nat → Nat) (si : tSI) (sa : tSA) (a1 : Int32) (a2 : Int32) (o : Int32) (hF : F_X6_codeAt a1 a2 si sa = some o) : CG l yX6_codeAt cX6_codeAt 3 (some .int) 0 0 D cA [.ref (ad 0), .int a1, .int a2] (WM cA ad si sa) (WM cA ad si sa) (some (.int o)) := by
  refine CG.ofi (by decide) (Nat.le_of_ble_eq_true rfl) ?_
  intro p ee s m args below meth c A Q H0 ls C0 hA hP hD hS hl hE
  have hl : lv_has ls 3 [(0, .ref (ad 0)), (1, .int a1), (2, .int a2)] := hl
  obtain ⟨hx, hb, hml, hown, ht, hK⟩ := id C0
  unfold F_X6_codeAt at hF
  refine lv_aload_n hx hb dX6_codeAt_0 rfl (lv_at hl 0 rfl) ?_
  refine gM0_8 (v := (si 3)) C0 hP rfl q588 dX6_codeAt_1 ?_
  refine lv_iload_n hx hb dX6_codeAt_4 rfl (lv_at hl 2 rfl) ?_
  refine lv_icmp_ge (tgt := 22) hx hb dX6_codeAt_5 (by decide) (fun c1 => ?_) (fun c1 => ?_)
  · have hF := (if_pos c1).symm.trans hF
    refine lv_bipush (v := (-9 : Int32)) hx hb dX6_codeAt_22 (by decide) ?_
    have hF := Option.some.inj hF
    exact hE _ _ _ _ _ hP hD hS dX6_codeAt_24 rfl hF
  · have hF := (if_neg c1).symm.trans hF
    refine lv_aload_n hx hb dX6_codeAt_8 rfl (lv_at hl 0 rfl) ?_
    refine gM0_29 C0 hP q609 dX6_codeAt_9 ?_
    refine lv_iload_n hx hb dX6_codeAt_12 rfl (lv_at hl 1 rfl) ?_
    refine lv_aload_n hx hb dX6_codeAt_13 rfl (lv_at hl 0 rfl) ?_
    refine gM0_8 (v := (si 3)) C0 hP rfl q588 dX6_codeAt_14 ?_
    refine lv_iadd hx hb dX6_codeAt_17 ?_
    obtain ⟨hin, hF⟩ := ld_some hF
    refine aMl20 (f := (sa 20)) C0 hP rfl hin dX6_codeAt_18 ?_
    refine lv_goto (tgt := 24) hx hb dX6_codeAt_19 (by decide) ?_
    have hF := Option.some.inj hF
    exact hE _ _ _ _ _ hP hD hS dX6_codeAt_24 rfl hF
theorem lk_X6_figure : LK yX6_figure cX6_figure 7 (some .int) 4 := ⟨q719, q7, by decide +kernel⟩
def F_X6_figure (a1 : Int32) (a2 : Int32) (a3 : Int32) (a4 : Int32) (si : tSI) (sa : tSA) : Option (Int32 × tSI × tSA) :=
  (F_X6_codeAt a1 a2 si sa).bind fun r1 => (F_X6_in (Int32.toInt64 (r1 - (48 : Int32))) (Int32.toInt64 a3) (Int32.toInt64 a4)).bind fun r2 => ((if r2 = 0 then some (0 : Int32) else some (1 : Int32))).bind fun (x3 : Int32) => (if r2 = 0 then some ((-9 : Int32), (upd si 3 ((si 3) + x3)), sa) else some ((r1 - (48 : Int32)), (upd si 3 ((si 3) + x3)), sa))
set_option maxHeartbeats 4000000 in
set_option maxRecDepth 100000 in
theorem c_X6_figure (l : Launch) (D : va_G) (cA : ClassId) (ad : Nat → Nat) (si : tSI) (sa : tSA) (a1 : Int32) (a2 : Int32) (a3 : Int32) (a4 : Int32) (o : (Int32 × tSI × tSA)) (hF : F_X6_figure a1 a2 a3 a4 si sa = some o) : CG l yX6_figure cX6_figure 7 (some .int) 1 25 D cA [.ref (ad 0), .int a1, .int a2, .int a3, .int a4] (WM cA ad si sa) (WM cA ad o.2.1 o.2.2) (some (.int o.1)) := by
  refine CG.ofi (by decide) (Nat.le_of_ble_eq_true rfl) ?_
  intro p ee s m args below meth c A Q H0 ls C0 hA hP hD hS hl hE
  have hl : lv_has ls 7 [(0, .ref (ad 0)), (1, .int a1), (2, .int a2), (3, .int a3), (4, .int a4)] := hl
  obtain ⟨hx, hb, hml, hown, ht, hK⟩ := id C0
  unfold F_X6_figure at hF
  refine lv_aload_n hx hb dX6_figure_0 rfl (lv_at hl 0 rfl) ?_
  refine lv_iload_n hx hb dX6_figure_1 rfl (lv_at hl 1 rfl) ?_
  refine lv_iload_n hx hb dX6_figure_2 rfl (lv_at hl 2 rfl) ?_
  obtain ⟨r1, hr1, hF⟩ := bd_some hF
  refine kcV (As := [.int a1, .int a2]) (rest := []) C0 hA hP hD hS (c_X6_codeAt l D cA ad si sa a1 a2 r1 hr1) lk_X6_codeAt q710 s29 q708 0 6 rfl rfl hl.1 rfl rfl (Nat.le_of_ble_eq_true rfl) ⟨Nat.le_of_ble_eq_true rfl, Nat.le_of_ble_eq_true rfl⟩ ⟨Nat.le_refl _, Nat.le_refl _⟩ dX6_figure_3 (fun H locs hP hD hS => ?_)
  refine W.eq (g2 := F0 m 6 ls [.int r1]) rfl ?_
  refine lv_bipush (v := (48 : Int32)) hx hb dX6_figure_6 (by decide) ?_
  refine lv_isub hx hb dX6_figure_8 ?_
  refine lv_istore (lv' := [(5, .int (r1 - (48 : Int32))), (0, .ref (ad 0)), (1, .int a1), (2, .int a2), (3, .int a3), (4, .int a4)]) hx hb dX6_figure_9 hl (by decide) rfl (fun ls hl => ?_)
  refine lv_iload hx hb dX6_figure_11 (lv_at hl 0 rfl) ?_
  refine lv_i2l hx hb dX6_figure_13 rfl ?_
  refine lv_iload_n hx hb dX6_figure_14 rfl (lv_at hl 4 rfl) ?_
  refine lv_i2l hx hb dX6_figure_15 rfl ?_
  refine lv_iload hx hb dX6_figure_16 (lv_at hl 5 rfl) ?_
  refine lv_i2l hx hb dX6_figure_18 rfl ?_
  obtain ⟨r2, hr2, hF⟩ := bd_some hF
  refine kcS (As := [.long (Int32.toInt64 (r1 - (48 : Int32))), .long (Int32.toInt64 a3), .long (Int32.toInt64 a4)]) (rest := []) C0 hA hP hD hS (c_X6_in l D cA ad si sa (Int32.toInt64 (r1 - (48 : Int32))) (Int32.toInt64 a3) (Int32.toInt64 a4) r2 hr2) lk_X6_in q686 q685 hl.1 rfl rfl (Nat.le_of_ble_eq_true rfl) ⟨Nat.le_of_ble_eq_true rfl, Nat.le_of_ble_eq_true rfl⟩ ⟨Nat.le_refl _, Nat.le_refl _⟩ dX6_figure_19 (fun H locs hP hD hS => ?_)
  refine W.eq (g2 := F0 m 22 ls [.int r2]) rfl ?_
  refine lv_istore (lv' := [(6, .int r2), (5, .int (r1 - (48 : Int32))), (0, .ref (ad 0)), (1, .int a1), (2, .int a2), (3, .int a3), (4, .int a4)]) hx hb dX6_figure_22 hl (by decide) rfl (fun ls hl => ?_)
  refine lv_aload_n hx hb dX6_figure_24 rfl (lv_at hl 2 rfl) ?_
  refine lv_dup hx hb dX6_figure_25 rfl ?_
  refine gM0_8 (v := (si 3)) C0 hP rfl q588 dX6_figure_26 ?_
  refine lv_iload hx hb dX6_figure_29 (lv_at hl 0 rfl) ?_
  obtain ⟨x3, hRx3, hF⟩ := bd_some hF
  have Jx3 : ∀ (H : Heap) (locs : List Loc) (ls : Array Slot), va_P D vwCl (WM cA ad si sa) H → va_D A (WM cA ad si sa) → va_S A H0 H locs → lv_has ls 7 [(6, .int r2), (5, .int (r1 - (48 : Int32)))] → W p l ee (rmx 1 25) s m args below meth c H locs 0 0 Q (F0 m 39 ls [.int x3, .int (si 3), .ref (ad 0)]) := by
    intro H locs ls hP hD hS hl
    refine lv_iadd hx hb dX6_figure_39 ?_
    refine pM0_8 C0 hP hD hS q588 dX6_figure_40 (fun H locs hP hD hS => ?_)
    refine lv_iload hx hb dX6_figure_43 (lv_at hl 0 rfl) ?_
    refine lv_if_eq (tgt := 53) hx hb dX6_figure_45 (by decide) (fun c4 => ?_) (fun c4 => ?_)
    · have hF := (if_pos c4).symm.trans hF
      refine lv_bipush (v := (-9 : Int32)) hx hb dX6_figure_53 (by decide) ?_
      have hF := Option.some.inj hF
      subst hF
      exact hE _ _ _ _ _ hP hD hS dX6_figure_55 rfl rfl
    · have hF := (if_neg c4).symm.trans hF
      refine lv_iload hx hb dX6_figure_48 (lv_at hl 1 rfl) ?_
      refine lv_goto (tgt := 55) hx hb dX6_figure_50 (by decide) ?_
      have hF := Option.some.inj hF
      subst hF
      exact hE _ _ _ _ _ hP hD hS dX6_figure_55 rfl rfl
  have hF := hRx3
  refine lv_if_eq (tgt := 38) hx hb dX6_figure_31 (by decide) (fun c5 => ?_) (fun c5 => ?_)
  · have hF := (if_pos c5).symm.trans hF
    refine lv_iconst (v := (0 : Int32)) hx hb dX6_figure_38 (by decide) ?_
    have hF := Option.some.inj hF
    subst hF
    exact Jx3 _ _ _ hP hD hS (lv_sub hl [0, 1] rfl)
  · have hF := (if_neg c5).symm.trans hF
    refine lv_iconst (v := (1 : Int32)) hx hb dX6_figure_34 (by decide) ?_
    refine lv_goto (tgt := 39) hx hb dX6_figure_35 (by decide) ?_
    have hF := Option.some.inj hF
    subst hF
    exact Jx3 _ _ _ hP hD hS (lv_sub hl [0, 1] rfl)
theorem lk_X6_readsSort : LK yX6_readsSort cX6_readsSort 7 (some .boolean) 2 := ⟨q715, q7, by decide +kernel⟩
def K_X6_readsSort_59 (a1 : Int32) (a2 : Int32) (si : tSI) (sa : tSA) (r4 : Int32) : Option (Int32 × tSI × tSA) :=
  (F_X6_figure a1 a2 (0 : Int32) (9 : Int32) (upd (upd si 3 ((si 3) + (1 : Int32))) 3 (((si 3) + (1 : Int32)) + (1 : Int32))) sa).bind fun r6 => ((if 0 ≤ r6.1 then (F_X6_figure a1 a2 (1 : Int32) (9 : Int32) r6.2.1 r6.2.2).bind fun r16 => some (r16.1, r16.2.1, r16.2.2) else some ((-9 : Int32), r6.2.1, r6.2.2))).bind fun (x7 : (Int32 × tSI × tSA)) => ((if 0 ≤ x7.1 then (F_X6_figure a1 a2 (0 : Int32) (5 : Int32) x7.2.1 x7.2.2).bind fun r14 => some (r14.1, r14.2.1, r14.2.2) else some ((-9 : Int32), x7.2.1, x7.2.2))).bind fun (x8 : (Int32 × tSI × tSA)) => (if 0 ≤ x8.1 then ((if r4 = (112 : Int32) then some (0 : Int32) else (if r4 = (115 : Int32) then some (1 : Int32) else some (2 : Int32)))).bind fun (x10 : Int32) => ld (x8.2.1 4) 6 (ld (x8.2.1 4) 6 (ld (x8.2.1 4) 6 (ld (x8.2.1 4) 6 (some ((1 : Int32), (upd x8.2.1 4 ((x8.2.1 4) + (1 : Int32))), (va_up (va_up (va_up (va_up x8.2.2 5 (upd (x8.2.2 5) (Int32.toNatClampNeg (x8.2.1 4)) x10)) 6 (upd (x8.2.2 6) (Int32.toNatClampNeg (x8.2.1 4)) r6.1)) 7 (upd (x8.2.2 7) (Int32.toNatClampNeg (x8.2.1 4)) x7.1)) 8 (upd (x8.2.2 8) (Int32.toNatClampNeg (x8.2.1 4)) x8.1))))))) else some ((0 : Int32), x8.2.1, x8.2.2))
def F_X6_readsSort (a1 : Int32) (a2 : Int32) (si : tSI) (sa : tSA) : Option (Int32 × tSI × tSA) :=
  (if (si 4) = (6 : Int32) then some ((0 : Int32), si, sa) else (F_X6_codeAt a1 a2 si sa).bind fun r2 => (if r2 = (59 : Int32) then (F_X6_codeAt a1 a2 (upd si 3 ((si 3) + (1 : Int32))) sa).bind fun r4 => (if r4 = (112 : Int32) then K_X6_readsSort_59 a1 a2 si sa r4 else (if r4 = (115 : Int32) then K_X6_readsSort_59 a1 a2 si sa r4 else (if r4 = (100 : Int32) then K_X6_readsSort_59 a1 a2 si sa r4 else some ((0 : Int32), (upd si 3 ((si 3) + (1 : Int32))), sa)))) else some ((0 : Int32), si, sa)))
set_option maxHeartbeats 4000000 in
set_option maxRecDepth 100000 in
theorem c_X6_readsSort (l : Launch) (D : va_G) (cA : ClassId) (ad : Nat → Nat) (si : tSI) (sa : tSA) (a1 : Int32) (a2 : Int32) (o : (Int32 × tSI × tSA)) (hF : F_X6_readsSort a1 a2 si sa = some o) : CG l yX6_readsSort cX6_readsSort 7 (some .boolean) 2 51 D cA [.ref (ad 0), .int a1, .int a2] (WM cA ad si sa) (WM cA ad o.2.1 o.2.2) (some (.int o.1)) := by
  refine CG.ofi (by decide) (Nat.le_of_ble_eq_true rfl) ?_
  intro p ee s m args below meth c A Q H0 ls C0 hA hP hD hS hl hE
  have hl : lv_has ls 7 [(0, .ref (ad 0)), (1, .int a1), (2, .int a2)] := hl
  obtain ⟨hx, hb, hml, hown, ht, hK⟩ := id C0
  unfold F_X6_readsSort at hF
  refine lv_aload_n hx hb dX6_readsSort_0 rfl (lv_at hl 0 rfl) ?_
  refine gM0_9 (v := (si 4)) C0 hP rfl q589 dX6_readsSort_1 ?_
  refine lv_bipush (v := (6 : Int32)) hx hb dX6_readsSort_4 (by decide) ?_
  refine lv_icmp_eq (tgt := 20) hx hb dX6_readsSort_6 (by decide) (fun c1 => ?_) (fun c1 => ?_)
  · have hF := (if_pos c1).symm.trans hF
    refine lv_iconst (v := (0 : Int32)) hx hb dX6_readsSort_20 (by decide) ?_
    have hF := Option.some.inj hF
    subst hF
    exact hE _ _ _ _ _ hP hD hS dX6_readsSort_21 rfl rfl
  · have hF := (if_neg c1).symm.trans hF
    refine lv_aload_n hx hb dX6_readsSort_9 rfl (lv_at hl 0 rfl) ?_
    refine lv_iload_n hx hb dX6_readsSort_10 rfl (lv_at hl 1 rfl) ?_
    refine lv_iload_n hx hb dX6_readsSort_11 rfl (lv_at hl 2 rfl) ?_
    obtain ⟨r2, hr2, hF⟩ := bd_some hF
    refine kcV (As := [.int a1, .int a2]) (rest := []) C0 hA hP hD hS (c_X6_codeAt l D cA ad si sa a1 a2 r2 hr2) lk_X6_codeAt q710 s29 q708 0 6 rfl rfl hl.1 rfl rfl (Nat.le_of_ble_eq_true rfl) ⟨Nat.le_of_ble_eq_true rfl, Nat.le_of_ble_eq_true rfl⟩ ⟨Nat.le_refl _, Nat.le_refl _⟩ dX6_readsSort_12 (fun H locs hP hD hS => ?_)
    refine W.eq (g2 := F0 m 15 ls [.int r2]) rfl ?_
    refine lv_bipush (v := (59 : Int32)) hx hb dX6_readsSort_15 (by decide) ?_
    refine lv_icmp_eq (tgt := 22) hx hb dX6_readsSort_17 (by decide) (fun c3 => ?_) (fun c3 => ?_)
    · have hF := (if_pos c3).symm.trans hF
      refine lv_aload_n hx hb dX6_readsSort_22 rfl (lv_at hl 0 rfl) ?_
      refine lv_dup hx hb dX6_readsSort_23 rfl ?_
      refine gM0_8 (v := (si 3)) C0 hP rfl q588 dX6_readsSort_24 ?_
      refine lv_iconst (v := (1 : Int32)) hx hb dX6_readsSort_27 (by decide) ?_
      refine lv_iadd hx hb dX6_readsSort_28 ?_
      refine pM0_8 C0 hP hD hS q588 dX6_readsSort_29 (fun H locs hP hD hS => ?_)
      refine lv_aload_n hx hb dX6_readsSort_32 rfl (lv_at hl 0 rfl) ?_
      refine lv_iload_n hx hb dX6_readsSort_33 rfl (lv_at hl 1 rfl) ?_
      refine lv_iload_n hx hb dX6_readsSort_34 rfl (lv_at hl 2 rfl) ?_
      obtain ⟨r4, hr4, hF⟩ := bd_some hF
      refine kcV (As := [.int a1, .int a2]) (rest := []) C0 hA hP hD hS (c_X6_codeAt l D cA ad (upd si 3 ((si 3) + (1 : Int32))) sa a1 a2 r4 hr4) lk_X6_codeAt q710 s29 q708 0 6 rfl rfl hl.1 rfl rfl (Nat.le_of_ble_eq_true rfl) ⟨Nat.le_of_ble_eq_true rfl, Nat.le_of_ble_eq_true rfl⟩ ⟨Nat.le_refl _, Nat.le_refl _⟩ dX6_readsSort_35 (fun H locs hP hD hS => ?_)
      refine W.eq (g2 := F0 m 38 ls [.int r4]) rfl ?_
      refine lv_istore_n (lv' := [(3, .int r4), (0, .ref (ad 0)), (1, .int a1), (2, .int a2)]) hx hb dX6_readsSort_38 rfl hl (by decide) rfl (fun ls hl => ?_)
      refine lv_iload_n hx hb dX6_readsSort_39 rfl (lv_at hl 0 rfl) ?_
      refine lv_bipush (v := (112 : Int32)) hx hb dX6_readsSort_40 (by decide) ?_
      have Jx5 : ∀ (H : Heap) (locs : List Loc) (ls : Array Slot), K_X6_readsSort_59 a1 a2 si sa r4 = some o → va_P D vwCl (WM cA ad (upd si 3 ((si 3) + (1 : Int32))) sa) H → va_D A (WM cA ad (upd si 3 ((si 3) + (1 : Int32))) sa) → va_S A H0 H locs → lv_has ls 7 [(3, .int r4), (0, .ref (ad 0)), (1, .int a1), (2, .int a2)] → W p l ee (rmx 2 51) s m args below meth c H locs 0 0 Q (F0 m 59 ls []) := by
        intro H locs ls hF hP hD hS hl
        unfold K_X6_readsSort_59 at hF
        refine lv_aload_n hx hb dX6_readsSort_59 rfl (lv_at hl 1 rfl) ?_
        refine lv_dup hx hb dX6_readsSort_60 rfl ?_
        refine gM0_8 (v := ((si 3) + (1 : Int32))) C0 hP rfl q588 dX6_readsSort_61 ?_
        refine lv_iconst (v := (1 : Int32)) hx hb dX6_readsSort_64 (by decide) ?_
        refine lv_iadd hx hb dX6_readsSort_65 ?_
        refine pM0_8 C0 hP hD hS q588 dX6_readsSort_66 (fun H locs hP hD hS => ?_)
        refine lv_aload_n hx hb dX6_readsSort_69 rfl (lv_at hl 1 rfl) ?_
        refine lv_iload_n hx hb dX6_readsSort_70 rfl (lv_at hl 2 rfl) ?_
        refine lv_iload_n hx hb dX6_readsSort_71 rfl (lv_at hl 3 rfl) ?_
        refine lv_iconst (v := (0 : Int32)) hx hb dX6_readsSort_72 (by decide) ?_
        refine lv_bipush (v := (9 : Int32)) hx hb dX6_readsSort_73 (by decide) ?_
        obtain ⟨r6, hr6, hF⟩ := bd_some hF
        refine kcV (As := [.int a1, .int a2, .int (0 : Int32), .int (9 : Int32)]) (rest := []) C0 hA hP hD hS (c_X6_figure l D cA ad (upd (upd si 3 ((si 3) + (1 : Int32))) 3 (((si 3) + (1 : Int32)) + (1 : Int32))) sa a1 a2 (0 : Int32) (9 : Int32) r6 hr6) lk_X6_figure q718 s31 q716 0 6 rfl rfl hl.1 rfl rfl (Nat.le_of_ble_eq_true rfl) ⟨Nat.le_of_ble_eq_true rfl, Nat.le_of_ble_eq_true rfl⟩ ⟨Nat.le_refl _, Nat.le_refl _⟩ dX6_readsSort_75 (fun H locs hP hD hS => ?_)
        refine W.eq (g2 := F0 m 78 ls [.int r6.1]) rfl ?_
        refine lv_istore (lv' := [(4, .int r6.1), (3, .int r4), (0, .ref (ad 0)), (1, .int a1), (2, .int a2)]) hx hb dX6_readsSort_78 hl (by decide) rfl (fun ls hl => ?_)
        refine lv_iload hx hb dX6_readsSort_80 (lv_at hl 0 rfl) ?_
        obtain ⟨x7, hRx7, hF⟩ := bd_some hF
        have Jx7 : ∀ (H : Heap) (locs : List Loc) (ls : Array Slot), va_P D vwCl (WM cA ad x7.2.1 x7.2.2) H → va_D A (WM cA ad x7.2.1 x7.2.2) → va_S A H0 H locs → lv_has ls 7 [(4, .int r6.1), (3, .int r4), (0, .ref (ad 0)), (1, .int a1), (2, .int a2)] → W p l ee (rmx 2 51) s m args below meth c H locs 0 0 Q (F0 m 99 ls [.int x7.1]) := by
          intro H locs ls hP hD hS hl
          refine lv_istore (lv' := [(5, .int x7.1), (4, .int r6.1), (3, .int r4), (0, .ref (ad 0)), (1, .int a1), (2, .int a2)]) hx hb dX6_readsSort_99 hl (by decide) rfl (fun ls hl => ?_)
          refine lv_iload hx hb dX6_readsSort_101 (lv_at hl 0 rfl) ?_
          obtain ⟨x8, hRx8, hF⟩ := bd_some hF
          have Jx8 : ∀ (H : Heap) (locs : List Loc) (ls : Array Slot), va_P D vwCl (WM cA ad x8.2.1 x8.2.2) H → va_D A (WM cA ad x8.2.1 x8.2.2) → va_S A H0 H locs → lv_has ls 7 [(5, .int x7.1), (4, .int r6.1), (3, .int r4), (0, .ref (ad 0))] → W p l ee (rmx 2 51) s m args below meth c H locs 0 0 Q (F0 m 119 ls [.int x8.1]) := by
            intro H locs ls hP hD hS hl
            refine lv_istore (lv' := [(6, .int x8.1), (5, .int x7.1), (4, .int r6.1), (3, .int r4), (0, .ref (ad 0))]) hx hb dX6_readsSort_119 hl (by decide) rfl (fun ls hl => ?_)
            refine lv_iload hx hb dX6_readsSort_121 (lv_at hl 0 rfl) ?_
            refine lv_if_ge (tgt := 128) hx hb dX6_readsSort_123 (by decide) (fun c9 => ?_) (fun c9 => ?_)
            · have hF := (if_pos c9).symm.trans hF
              refine lv_aload_n hx hb dX6_readsSort_128 rfl (lv_at hl 4 rfl) ?_
              refine gM0_11 C0 hP q591 dX6_readsSort_129 ?_
              refine lv_aload_n hx hb dX6_readsSort_132 rfl (lv_at hl 4 rfl) ?_
              refine gM0_9 (v := (x8.2.1 4)) C0 hP rfl q589 dX6_readsSort_133 ?_
              refine lv_iload_n hx hb dX6_readsSort_136 rfl (lv_at hl 3 rfl) ?_
              refine lv_bipush (v := (112 : Int32)) hx hb dX6_readsSort_137 (by decide) ?_
              obtain ⟨x10, hRx10, hF⟩ := bd_some hF
              have Jx10 : ∀ (H : Heap) (locs : List Loc) (ls : Array Slot), va_P D vwCl (WM cA ad x8.2.1 x8.2.2) H → va_D A (WM cA ad x8.2.1 x8.2.2) → va_S A H0 H locs → lv_has ls 7 [(6, .int x8.1), (5, .int x7.1), (4, .int r6.1), (0, .ref (ad 0))] → W p l ee (rmx 2 51) s m args below meth c H locs 0 0 Q (F0 m 157 ls [.int x10, .int (x8.2.1 4), .ref (ad 6)]) := by
                intro H locs ls hP hD hS hl
                obtain ⟨hin, hF⟩ := ld_some hF
                refine aMs5 (f := (x8.2.2 5)) C0 hP hD hS rfl hin dX6_readsSort_157 (fun H locs hP hD hS => ?_)
                refine lv_aload_n hx hb dX6_readsSort_158 rfl (lv_at hl 3 rfl) ?_
                refine gM0_12 C0 hP q592 dX6_readsSort_159 ?_
                refine lv_aload_n hx hb dX6_readsSort_162 rfl (lv_at hl 3 rfl) ?_
                refine gM0_9 (v := (x8.2.1 4)) C0 hP rfl q589 dX6_readsSort_163 ?_
                refine lv_iload hx hb dX6_readsSort_166 (lv_at hl 2 rfl) ?_
                obtain ⟨hin, hF⟩ := ld_some hF
                refine aMs6 (f := (x8.2.2 6)) C0 hP hD hS rfl hin dX6_readsSort_168 (fun H locs hP hD hS => ?_)
                refine lv_aload_n hx hb dX6_readsSort_169 rfl (lv_at hl 3 rfl) ?_
                refine gM0_13 C0 hP q593 dX6_readsSort_170 ?_
                refine lv_aload_n hx hb dX6_readsSort_173 rfl (lv_at hl 3 rfl) ?_
                refine gM0_9 (v := (x8.2.1 4)) C0 hP rfl q589 dX6_readsSort_174 ?_
                refine lv_iload hx hb dX6_readsSort_177 (lv_at hl 1 rfl) ?_
                obtain ⟨hin, hF⟩ := ld_some hF
                refine aMs7 (f := (x8.2.2 7)) C0 hP hD hS rfl hin dX6_readsSort_179 (fun H locs hP hD hS => ?_)
                refine lv_aload_n hx hb dX6_readsSort_180 rfl (lv_at hl 3 rfl) ?_
                refine gM0_14 C0 hP q594 dX6_readsSort_181 ?_
                refine lv_aload_n hx hb dX6_readsSort_184 rfl (lv_at hl 3 rfl) ?_
                refine gM0_9 (v := (x8.2.1 4)) C0 hP rfl q589 dX6_readsSort_185 ?_
                refine lv_iload hx hb dX6_readsSort_188 (lv_at hl 0 rfl) ?_
                obtain ⟨hin, hF⟩ := ld_some hF
                refine aMs8 (f := (x8.2.2 8)) C0 hP hD hS rfl hin dX6_readsSort_190 (fun H locs hP hD hS => ?_)
                refine lv_aload_n hx hb dX6_readsSort_191 rfl (lv_at hl 3 rfl) ?_
                refine lv_dup hx hb dX6_readsSort_192 rfl ?_
                refine gM0_9 (v := (x8.2.1 4)) C0 hP rfl q589 dX6_readsSort_193 ?_
                refine lv_iconst (v := (1 : Int32)) hx hb dX6_readsSort_196 (by decide) ?_
                refine lv_iadd hx hb dX6_readsSort_197 ?_
                refine pM0_9 C0 hP hD hS q589 dX6_readsSort_198 (fun H locs hP hD hS => ?_)
                refine lv_iconst (v := (1 : Int32)) hx hb dX6_readsSort_201 (by decide) ?_
                have hF := Option.some.inj hF
                subst hF
                exact hE _ _ _ _ _ hP hD hS dX6_readsSort_202 rfl rfl
              have hF := hRx10
              refine lv_icmp_ne (tgt := 146) hx hb dX6_readsSort_139 (by decide) (fun c11 => ?_) (fun c11 => ?_)
              · have hF := (if_neg c11).symm.trans hF
                refine lv_iload_n hx hb dX6_readsSort_146 rfl (lv_at hl 3 rfl) ?_
                refine lv_bipush (v := (115 : Int32)) hx hb dX6_readsSort_147 (by decide) ?_
                refine lv_icmp_ne (tgt := 156) hx hb dX6_readsSort_149 (by decide) (fun c12 => ?_) (fun c12 => ?_)
                · have hF := (if_neg c12).symm.trans hF
                  refine lv_iconst (v := (2 : Int32)) hx hb dX6_readsSort_156 (by decide) ?_
                  have hF := Option.some.inj hF
                  subst hF
                  exact Jx10 _ _ _ hP hD hS (lv_sub hl [0, 1, 2, 4] rfl)
                · have hF := (if_pos c12).symm.trans hF
                  refine lv_iconst (v := (1 : Int32)) hx hb dX6_readsSort_152 (by decide) ?_
                  refine lv_goto (tgt := 157) hx hb dX6_readsSort_153 (by decide) ?_
                  have hF := Option.some.inj hF
                  subst hF
                  exact Jx10 _ _ _ hP hD hS (lv_sub hl [0, 1, 2, 4] rfl)
              · have hF := (if_pos c11).symm.trans hF
                refine lv_iconst (v := (0 : Int32)) hx hb dX6_readsSort_142 (by decide) ?_
                refine lv_goto (tgt := 157) hx hb dX6_readsSort_143 (by decide) ?_
                have hF := Option.some.inj hF
                subst hF
                exact Jx10 _ _ _ hP hD hS (lv_sub hl [0, 1, 2, 4] rfl)
            · have hF := (if_neg c9).symm.trans hF
              refine lv_iconst (v := (0 : Int32)) hx hb dX6_readsSort_126 (by decide) ?_
              have hF := Option.some.inj hF
              subst hF
              exact hE _ _ _ _ _ hP hD hS dX6_readsSort_127 rfl rfl
          have hF := hRx8
          refine lv_if_ge (tgt := 111) hx hb dX6_readsSort_103 (by decide) (fun c13 => ?_) (fun c13 => ?_)
          · have hF := (if_pos c13).symm.trans hF
            refine lv_aload_n hx hb dX6_readsSort_111 rfl (lv_at hl 3 rfl) ?_
            refine lv_iload_n hx hb dX6_readsSort_112 rfl (lv_at hl 4 rfl) ?_
            refine lv_iload_n hx hb dX6_readsSort_113 rfl (lv_at hl 5 rfl) ?_
            refine lv_iconst (v := (0 : Int32)) hx hb dX6_readsSort_114 (by decide) ?_
            refine lv_iconst (v := (5 : Int32)) hx hb dX6_readsSort_115 (by decide) ?_
            obtain ⟨r14, hr14, hF⟩ := bd_some hF
            refine kcV (As := [.int a1, .int a2, .int (0 : Int32), .int (5 : Int32)]) (rest := []) C0 hA hP hD hS (c_X6_figure l D cA ad x7.2.1 x7.2.2 a1 a2 (0 : Int32) (5 : Int32) r14 hr14) lk_X6_figure q718 s31 q716 0 6 rfl rfl hl.1 rfl rfl (Nat.le_of_ble_eq_true rfl) ⟨Nat.le_of_ble_eq_true rfl, Nat.le_of_ble_eq_true rfl⟩ ⟨Nat.le_refl _, Nat.le_refl _⟩ dX6_readsSort_116 (fun H locs hP hD hS => ?_)
            refine W.eq (g2 := F0 m 119 ls [.int r14.1]) rfl ?_
            have hF := Option.some.inj hF
            subst hF
            exact Jx8 _ _ _ hP hD hS (lv_sub hl [0, 1, 2, 3] rfl)
          · have hF := (if_neg c13).symm.trans hF
            refine lv_bipush (v := (-9 : Int32)) hx hb dX6_readsSort_106 (by decide) ?_
            refine lv_goto (tgt := 119) hx hb dX6_readsSort_108 (by decide) ?_
            have hF := Option.some.inj hF
            subst hF
            exact Jx8 _ _ _ hP hD hS (lv_sub hl [0, 1, 2, 3] rfl)
        have hF := hRx7
        refine lv_if_ge (tgt := 90) hx hb dX6_readsSort_82 (by decide) (fun c15 => ?_) (fun c15 => ?_)
        · have hF := (if_pos c15).symm.trans hF
          refine lv_aload_n hx hb dX6_readsSort_90 rfl (lv_at hl 2 rfl) ?_
          refine lv_iload_n hx hb dX6_readsSort_91 rfl (lv_at hl 3 rfl) ?_
          refine lv_iload_n hx hb dX6_readsSort_92 rfl (lv_at hl 4 rfl) ?_
          refine lv_iconst (v := (1 : Int32)) hx hb dX6_readsSort_93 (by decide) ?_
          refine lv_bipush (v := (9 : Int32)) hx hb dX6_readsSort_94 (by decide) ?_
          obtain ⟨r16, hr16, hF⟩ := bd_some hF
          refine kcV (As := [.int a1, .int a2, .int (1 : Int32), .int (9 : Int32)]) (rest := []) C0 hA hP hD hS (c_X6_figure l D cA ad r6.2.1 r6.2.2 a1 a2 (1 : Int32) (9 : Int32) r16 hr16) lk_X6_figure q718 s31 q716 0 6 rfl rfl hl.1 rfl rfl (Nat.le_of_ble_eq_true rfl) ⟨Nat.le_of_ble_eq_true rfl, Nat.le_of_ble_eq_true rfl⟩ ⟨Nat.le_refl _, Nat.le_refl _⟩ dX6_readsSort_96 (fun H locs hP hD hS => ?_)
          refine W.eq (g2 := F0 m 99 ls [.int r16.1]) rfl ?_
          have hF := Option.some.inj hF
          subst hF
          exact Jx7 _ _ _ hP hD hS (lv_sub hl [0, 1, 2, 3, 4] rfl)
        · have hF := (if_neg c15).symm.trans hF
          refine lv_bipush (v := (-9 : Int32)) hx hb dX6_readsSort_85 (by decide) ?_
          refine lv_goto (tgt := 99) hx hb dX6_readsSort_87 (by decide) ?_
          have hF := Option.some.inj hF
          subst hF
          exact Jx7 _ _ _ hP hD hS (lv_sub hl [0, 1, 2, 3, 4] rfl)
      refine lv_icmp_eq (tgt := 59) hx hb dX6_readsSort_42 (by decide) (fun c17 => ?_) (fun c17 => ?_)
      · have hF := (if_pos c17).symm.trans hF
        exact Jx5 _ _ _ hF hP hD hS (lv_sub hl [0, 1, 2, 3] rfl)
      · have hF := (if_neg c17).symm.trans hF
        refine lv_iload_n hx hb dX6_readsSort_45 rfl (lv_at hl 0 rfl) ?_
        refine lv_bipush (v := (115 : Int32)) hx hb dX6_readsSort_46 (by decide) ?_
        refine lv_icmp_eq (tgt := 59) hx hb dX6_readsSort_48 (by decide) (fun c18 => ?_) (fun c18 => ?_)
        · have hF := (if_pos c18).symm.trans hF
          exact Jx5 _ _ _ hF hP hD hS (lv_sub hl [0, 1, 2, 3] rfl)
        · have hF := (if_neg c18).symm.trans hF
          refine lv_iload_n hx hb dX6_readsSort_51 rfl (lv_at hl 0 rfl) ?_
          refine lv_bipush (v := (100 : Int32)) hx hb dX6_readsSort_52 (by decide) ?_
          refine lv_icmp_eq (tgt := 59) hx hb dX6_readsSort_54 (by decide) (fun c19 => ?_) (fun c19 => ?_)
          · have hF := (if_pos c19).symm.trans hF
            exact Jx5 _ _ _ hF hP hD hS (lv_sub hl [0, 1, 2, 3] rfl)
          · have hF := (if_neg c19).symm.trans hF
            refine lv_iconst (v := (0 : Int32)) hx hb dX6_readsSort_57 (by decide) ?_
            have hF := Option.some.inj hF
            subst hF
            exact hE _ _ _ _ _ hP hD hS dX6_readsSort_58 rfl rfl
    · have hF := (if_neg c3).symm.trans hF
      refine lv_iconst (v := (0 : Int32)) hx hb dX6_readsSort_20 (by decide) ?_
      have hF := Option.some.inj hF
      subst hF
      exact hE _ _ _ _ _ hP hD hS dX6_readsSort_21 rfl rfl
theorem lk_X6_readsSign : LK yX6_readsSign cX6_readsSign 5 (some .boolean) 2 := ⟨q723, q7, by decide +kernel⟩
def F_X6_readsSign (a1 : Int32) (a2 : Int32) (si : tSI) (sa : tSA) : Option (Int32 × tSI × tSA) :=
  (if (si 5) = (5 : Int32) then some ((0 : Int32), si, sa) else (F_X6_codeAt a1 a2 si sa).bind fun r2 => (if r2 = (47 : Int32) then (F_X6_figure a1 a2 (0 : Int32) (6 : Int32) (upd si 3 ((si 3) + (1 : Int32))) sa).bind fun r4 => ((if 0 ≤ r4.1 then (if r4.1 = (6 : Int32) then (F_X6_figure a1 a2 (0 : Int32) (3 : Int32) r4.2.1 r4.2.2).bind fun r10 => some (r10.1, r10.2.1, r10.2.2) else (F_X6_figure a1 a2 (0 : Int32) (9 : Int32) r4.2.1 r4.2.2).bind fun r9 => some (r9.1, r9.2.1, r9.2.2)) else some ((-9 : Int32), r4.2.1, r4.2.2))).bind fun (x5 : (Int32 × tSI × tSA)) => (if 0 ≤ x5.1 then ld (x5.2.1 5) 5 (some ((1 : Int32), (upd x5.2.1 5 ((x5.2.1 5) + (1 : Int32))), (va_up x5.2.2 9 (upd (x5.2.2 9) (Int32.toNatClampNeg (x5.2.1 5)) (((10 : Int32) * r4.1) + x5.1))))) else some ((0 : Int32), x5.2.1, x5.2.2)) else some ((0 : Int32), si, sa)))
set_option maxHeartbeats 4000000 in
set_option maxRecDepth 100000 in
theorem c_X6_readsSign (l : Launch) (D : va_G) (cA : ClassId) (ad : Nat → Nat) (si : tSI) (sa : tSA) (a1 : Int32) (a2 : Int32) (o : (Int32 × tSI × tSA)) (hF : F_X6_readsSign a1 a2 si sa = some o) : CG l yX6_readsSign cX6_readsSign 5 (some .boolean) 2 51 D cA [.ref (ad 0), .int a1, .int a2] (WM cA ad si sa) (WM cA ad o.2.1 o.2.2) (some (.int o.1)) := by
  refine CG.ofi (by decide) (Nat.le_of_ble_eq_true rfl) ?_
  intro p ee s m args below meth c A Q H0 ls C0 hA hP hD hS hl hE
  have hl : lv_has ls 5 [(0, .ref (ad 0)), (1, .int a1), (2, .int a2)] := hl
  obtain ⟨hx, hb, hml, hown, ht, hK⟩ := id C0
  unfold F_X6_readsSign at hF
  refine lv_aload_n hx hb dX6_readsSign_0 rfl (lv_at hl 0 rfl) ?_
  refine gM0_10 (v := (si 5)) C0 hP rfl q590 dX6_readsSign_1 ?_
  refine lv_iconst (v := (5 : Int32)) hx hb dX6_readsSign_4 (by decide) ?_
  refine lv_icmp_eq (tgt := 19) hx hb dX6_readsSign_5 (by decide) (fun c1 => ?_) (fun c1 => ?_)
  · have hF := (if_pos c1).symm.trans hF
    refine lv_iconst (v := (0 : Int32)) hx hb dX6_readsSign_19 (by decide) ?_
    have hF := Option.some.inj hF
    subst hF
    exact hE _ _ _ _ _ hP hD hS dX6_readsSign_20 rfl rfl
  · have hF := (if_neg c1).symm.trans hF
    refine lv_aload_n hx hb dX6_readsSign_8 rfl (lv_at hl 0 rfl) ?_
    refine lv_iload_n hx hb dX6_readsSign_9 rfl (lv_at hl 1 rfl) ?_
    refine lv_iload_n hx hb dX6_readsSign_10 rfl (lv_at hl 2 rfl) ?_
    obtain ⟨r2, hr2, hF⟩ := bd_some hF
    refine kcV (As := [.int a1, .int a2]) (rest := []) C0 hA hP hD hS (c_X6_codeAt l D cA ad si sa a1 a2 r2 hr2) lk_X6_codeAt q710 s29 q708 0 6 rfl rfl hl.1 rfl rfl (Nat.le_of_ble_eq_true rfl) ⟨Nat.le_of_ble_eq_true rfl, Nat.le_of_ble_eq_true rfl⟩ ⟨Nat.le_refl _, Nat.le_refl _⟩ dX6_readsSign_11 (fun H locs hP hD hS => ?_)
    refine W.eq (g2 := F0 m 14 ls [.int r2]) rfl ?_
    refine lv_bipush (v := (47 : Int32)) hx hb dX6_readsSign_14 (by decide) ?_
    refine lv_icmp_eq (tgt := 21) hx hb dX6_readsSign_16 (by decide) (fun c3 => ?_) (fun c3 => ?_)
    · have hF := (if_pos c3).symm.trans hF
      refine lv_aload_n hx hb dX6_readsSign_21 rfl (lv_at hl 0 rfl) ?_
      refine lv_dup hx hb dX6_readsSign_22 rfl ?_
      refine gM0_8 (v := (si 3)) C0 hP rfl q588 dX6_readsSign_23 ?_
      refine lv_iconst (v := (1 : Int32)) hx hb dX6_readsSign_26 (by decide) ?_
      refine lv_iadd hx hb dX6_readsSign_27 ?_
      refine pM0_8 C0 hP hD hS q588 dX6_readsSign_28 (fun H locs hP hD hS => ?_)
      refine lv_aload_n hx hb dX6_readsSign_31 rfl (lv_at hl 0 rfl) ?_
      refine lv_iload_n hx hb dX6_readsSign_32 rfl (lv_at hl 1 rfl) ?_
      refine lv_iload_n hx hb dX6_readsSign_33 rfl (lv_at hl 2 rfl) ?_
      refine lv_iconst (v := (0 : Int32)) hx hb dX6_readsSign_34 (by decide) ?_
      refine lv_bipush (v := (6 : Int32)) hx hb dX6_readsSign_35 (by decide) ?_
      obtain ⟨r4, hr4, hF⟩ := bd_some hF
      refine kcV (As := [.int a1, .int a2, .int (0 : Int32), .int (6 : Int32)]) (rest := []) C0 hA hP hD hS (c_X6_figure l D cA ad (upd si 3 ((si 3) + (1 : Int32))) sa a1 a2 (0 : Int32) (6 : Int32) r4 hr4) lk_X6_figure q718 s31 q716 0 6 rfl rfl hl.1 rfl rfl (Nat.le_of_ble_eq_true rfl) ⟨Nat.le_of_ble_eq_true rfl, Nat.le_of_ble_eq_true rfl⟩ ⟨Nat.le_refl _, Nat.le_refl _⟩ dX6_readsSign_37 (fun H locs hP hD hS => ?_)
      refine W.eq (g2 := F0 m 40 ls [.int r4.1]) rfl ?_
      refine lv_istore_n (lv' := [(3, .int r4.1), (0, .ref (ad 0)), (1, .int a1), (2, .int a2)]) hx hb dX6_readsSign_40 rfl hl (by decide) rfl (fun ls hl => ?_)
      refine lv_iload_n hx hb dX6_readsSign_41 rfl (lv_at hl 0 rfl) ?_
      obtain ⟨x5, hRx5, hF⟩ := bd_some hF
      have Jx5 : ∀ (H : Heap) (locs : List Loc) (ls : Array Slot), va_P D vwCl (WM cA ad x5.2.1 x5.2.2) H → va_D A (WM cA ad x5.2.1 x5.2.2) → va_S A H0 H locs → lv_has ls 5 [(3, .int r4.1), (0, .ref (ad 0))] → W p l ee (rmx 2 51) s m args below meth c H locs 0 0 Q (F0 m 69 ls [.int x5.1]) := by
        intro H locs ls hP hD hS hl
        refine lv_istore (lv' := [(4, .int x5.1), (3, .int r4.1), (0, .ref (ad 0))]) hx hb dX6_readsSign_69 hl (by decide) rfl (fun ls hl => ?_)
        refine lv_iload hx hb dX6_readsSign_71 (lv_at hl 0 rfl) ?_
        refine lv_if_ge (tgt := 78) hx hb dX6_readsSign_73 (by decide) (fun c6 => ?_) (fun c6 => ?_)
        · have hF := (if_pos c6).symm.trans hF
          refine lv_aload_n hx hb dX6_readsSign_78 rfl (lv_at hl 2 rfl) ?_
          refine gM0_15 C0 hP q595 dX6_readsSign_79 ?_
          refine lv_aload_n hx hb dX6_readsSign_82 rfl (lv_at hl 2 rfl) ?_
          refine gM0_10 (v := (x5.2.1 5)) C0 hP rfl q590 dX6_readsSign_83 ?_
          refine lv_bipush (v := (10 : Int32)) hx hb dX6_readsSign_86 (by decide) ?_
          refine lv_iload_n hx hb dX6_readsSign_88 rfl (lv_at hl 1 rfl) ?_
          refine lv_imul hx hb dX6_readsSign_89 ?_
          refine lv_iload hx hb dX6_readsSign_90 (lv_at hl 0 rfl) ?_
          refine lv_iadd hx hb dX6_readsSign_92 ?_
          obtain ⟨hin, hF⟩ := ld_some hF
          refine aMs9 (f := (x5.2.2 9)) C0 hP hD hS rfl hin dX6_readsSign_93 (fun H locs hP hD hS => ?_)
          refine lv_aload_n hx hb dX6_readsSign_94 rfl (lv_at hl 2 rfl) ?_
          refine lv_dup hx hb dX6_readsSign_95 rfl ?_
          refine gM0_10 (v := (x5.2.1 5)) C0 hP rfl q590 dX6_readsSign_96 ?_
          refine lv_iconst (v := (1 : Int32)) hx hb dX6_readsSign_99 (by decide) ?_
          refine lv_iadd hx hb dX6_readsSign_100 ?_
          refine pM0_10 C0 hP hD hS q590 dX6_readsSign_101 (fun H locs hP hD hS => ?_)
          refine lv_iconst (v := (1 : Int32)) hx hb dX6_readsSign_104 (by decide) ?_
          have hF := Option.some.inj hF
          subst hF
          exact hE _ _ _ _ _ hP hD hS dX6_readsSign_105 rfl rfl
        · have hF := (if_neg c6).symm.trans hF
          refine lv_iconst (v := (0 : Int32)) hx hb dX6_readsSign_76 (by decide) ?_
          have hF := Option.some.inj hF
          subst hF
          exact hE _ _ _ _ _ hP hD hS dX6_readsSign_77 rfl rfl
      have hF := hRx5
      refine lv_if_ge (tgt := 50) hx hb dX6_readsSign_42 (by decide) (fun c7 => ?_) (fun c7 => ?_)
      · have hF := (if_pos c7).symm.trans hF
        refine lv_aload_n hx hb dX6_readsSign_50 rfl (lv_at hl 1 rfl) ?_
        refine lv_iload_n hx hb dX6_readsSign_51 rfl (lv_at hl 2 rfl) ?_
        refine lv_iload_n hx hb dX6_readsSign_52 rfl (lv_at hl 3 rfl) ?_
        refine lv_iconst (v := (0 : Int32)) hx hb dX6_readsSign_53 (by decide) ?_
        refine lv_iload_n hx hb dX6_readsSign_54 rfl (lv_at hl 0 rfl) ?_
        refine lv_bipush (v := (6 : Int32)) hx hb dX6_readsSign_55 (by decide) ?_
        refine lv_icmp_ne (tgt := 64) hx hb dX6_readsSign_57 (by decide) (fun c8 => ?_) (fun c8 => ?_)
        · have hF := (if_neg c8).symm.trans hF
          refine lv_bipush (v := (9 : Int32)) hx hb dX6_readsSign_64 (by decide) ?_
          obtain ⟨r9, hr9, hF⟩ := bd_some hF
          refine kcV (As := [.int a1, .int a2, .int (0 : Int32), .int (9 : Int32)]) (rest := []) C0 hA hP hD hS (c_X6_figure l D cA ad r4.2.1 r4.2.2 a1 a2 (0 : Int32) (9 : Int32) r9 hr9) lk_X6_figure q718 s31 q716 0 6 rfl rfl hl.1 rfl rfl (Nat.le_of_ble_eq_true rfl) ⟨Nat.le_of_ble_eq_true rfl, Nat.le_of_ble_eq_true rfl⟩ ⟨Nat.le_refl _, Nat.le_refl _⟩ dX6_readsSign_66 (fun H locs hP hD hS => ?_)
          refine W.eq (g2 := F0 m 69 ls [.int r9.1]) rfl ?_
          have hF := Option.some.inj hF
          subst hF
          exact Jx5 _ _ _ hP hD hS (lv_sub hl [0, 1] rfl)
        · have hF := (if_pos c8).symm.trans hF
          refine lv_iconst (v := (3 : Int32)) hx hb dX6_readsSign_60 (by decide) ?_
          refine lv_goto (tgt := 66) hx hb dX6_readsSign_61 (by decide) ?_
          obtain ⟨r10, hr10, hF⟩ := bd_some hF
          refine kcV (As := [.int a1, .int a2, .int (0 : Int32), .int (3 : Int32)]) (rest := []) C0 hA hP hD hS (c_X6_figure l D cA ad r4.2.1 r4.2.2 a1 a2 (0 : Int32) (3 : Int32) r10 hr10) lk_X6_figure q718 s31 q716 0 6 rfl rfl hl.1 rfl rfl (Nat.le_of_ble_eq_true rfl) ⟨Nat.le_of_ble_eq_true rfl, Nat.le_of_ble_eq_true rfl⟩ ⟨Nat.le_refl _, Nat.le_refl _⟩ dX6_readsSign_66 (fun H locs hP hD hS => ?_)
          refine W.eq (g2 := F0 m 69 ls [.int r10.1]) rfl ?_
          have hF := Option.some.inj hF
          subst hF
          exact Jx5 _ _ _ hP hD hS (lv_sub hl [0, 1] rfl)
      · have hF := (if_neg c7).symm.trans hF
        refine lv_bipush (v := (-9 : Int32)) hx hb dX6_readsSign_45 (by decide) ?_
        refine lv_goto (tgt := 69) hx hb dX6_readsSign_47 (by decide) ?_
        have hF := Option.some.inj hF
        subst hF
        exact Jx5 _ _ _ hP hD hS (lv_sub hl [0, 1] rfl)
    · have hF := (if_neg c3).symm.trans hF
      refine lv_iconst (v := (0 : Int32)) hx hb dX6_readsSign_19 (by decide) ?_
      have hF := Option.some.inj hF
      subst hF
      exact hE _ _ _ _ _ hP hD hS dX6_readsSign_20 rfl rfl
theorem lk_X6_readsFloor : LK yX6_readsFloor cX6_readsFloor 4 (some .boolean) 2 := ⟨q707, q7, by decide +kernel⟩
def S_X6_readsFloor_83 (a1 : Int32) (a2 : Int32) (rec6 : ((Int32 × tSI × tSA) → Option (Int32 × tSI × tSA))) (t6 : (Int32 × tSI × tSA)) : Option (Int32 × tSI × tSA) :=
  (if t6.1 = 0 then some (t6.1, t6.2.1, t6.2.2) else (if (t6.2.1 5) = 0 then (F_X6_readsSign a1 a2 t6.2.1 t6.2.2).bind fun r10 => rec6 (r10.1, r10.2.1, r10.2.2) else (if a2 ≤ (t6.2.1 3) then some (t6.1, t6.2.1, t6.2.2) else (F_X6_readsSign a1 a2 t6.2.1 t6.2.2).bind fun r12 => rec6 (r12.1, r12.2.1, r12.2.2))))
def S_X6_readsFloor_50 (a1 : Int32) (a2 : Int32) (rec4 : ((Int32 × tSI × tSA) → Option (Int32 × tSI × tSA))) (t4 : (Int32 × tSI × tSA)) : Option (Int32 × tSI × tSA) :=
  (if t4.1 = 0 then some (t4.1, t4.2.1, t4.2.2) else (if (t4.2.1 4) < (2 : Int32) then (F_X6_readsSort a1 a2 t4.2.1 t4.2.2).bind fun r15 => rec4 (r15.1, r15.2.1, r15.2.2) else (F_X6_codeAt a1 a2 t4.2.1 t4.2.2).bind fun r16 => (if r16 = (59 : Int32) then (F_X6_readsSort a1 a2 t4.2.1 t4.2.2).bind fun r18 => rec4 (r18.1, r18.2.1, r18.2.2) else some (t4.1, t4.2.1, t4.2.2))))
def F_X6_readsFloor (a1 : Int32) (a2 : Int32) (si : tSI) (sa : tSA) : Option (Int32 × tSI × tSA) :=
  (F_X6_codeAt a1 a2 (upd (upd (upd si 3 (0 : Int32)) 4 (0 : Int32)) 5 (0 : Int32)) sa).bind fun r1 => ((if r1 = (116 : Int32) then some (1 : Int32) else some (0 : Int32))).bind fun (x2 : Int32) => ((if x2 = 0 then some (0 : Int32) else some (1 : Int32))).bind fun (x3 : Int32) => (lp (S_X6_readsFloor_50 a1 a2) 100 (x2, (upd (upd (upd (upd si 3 (0 : Int32)) 4 (0 : Int32)) 5 (0 : Int32)) 3 ((0 : Int32) + x3)), sa)).bind fun (e5 : (Int32 × tSI × tSA)) => (lp (S_X6_readsFloor_83 a1 a2) 100 (e5.1, e5.2.1, e5.2.2)).bind fun (e7 : (Int32 × tSI × tSA)) => zb e7.1 (some (e7.1, e7.2.1, e7.2.2))
set_option maxHeartbeats 4000000 in
set_option maxRecDepth 100000 in
theorem c_X6_readsFloor (l : Launch) (D : va_G) (cA : ClassId) (ad : Nat → Nat) (si : tSI) (sa : tSA) (a1 : Int32) (a2 : Int32) (o : (Int32 × tSI × tSA)) (hF : F_X6_readsFloor a1 a2 si sa = some o) : CG l yX6_readsFloor cX6_readsFloor 4 (some .boolean) 3 77 D cA [.ref (ad 0), .int a1, .int a2] (WM cA ad si sa) (WM cA ad o.2.1 o.2.2) (some (.int o.1)) := by
  refine CG.ofi (by decide) (Nat.le_of_ble_eq_true rfl) ?_
  intro p ee s m args below meth c A Q H0 ls C0 hA hP hD hS hl hE
  have hl : lv_has ls 4 [(0, .ref (ad 0)), (1, .int a1), (2, .int a2)] := hl
  obtain ⟨hx, hb, hml, hown, ht, hK⟩ := id C0
  unfold F_X6_readsFloor at hF
  refine lv_aload_n hx hb dX6_readsFloor_0 rfl (lv_at hl 0 rfl) ?_
  refine lv_iconst (v := (0 : Int32)) hx hb dX6_readsFloor_1 (by decide) ?_
  refine pM0_8 C0 hP hD hS q588 dX6_readsFloor_2 (fun H locs hP hD hS => ?_)
  refine lv_aload_n hx hb dX6_readsFloor_5 rfl (lv_at hl 0 rfl) ?_
  refine lv_iconst (v := (0 : Int32)) hx hb dX6_readsFloor_6 (by decide) ?_
  refine pM0_9 C0 hP hD hS q589 dX6_readsFloor_7 (fun H locs hP hD hS => ?_)
  refine lv_aload_n hx hb dX6_readsFloor_10 rfl (lv_at hl 0 rfl) ?_
  refine lv_iconst (v := (0 : Int32)) hx hb dX6_readsFloor_11 (by decide) ?_
  refine pM0_10 C0 hP hD hS q590 dX6_readsFloor_12 (fun H locs hP hD hS => ?_)
  refine lv_aload_n hx hb dX6_readsFloor_15 rfl (lv_at hl 0 rfl) ?_
  refine lv_iload_n hx hb dX6_readsFloor_16 rfl (lv_at hl 1 rfl) ?_
  refine lv_iload_n hx hb dX6_readsFloor_17 rfl (lv_at hl 2 rfl) ?_
  obtain ⟨r1, hr1, hF⟩ := bd_some hF
  refine kcV (As := [.int a1, .int a2]) (rest := []) C0 hA hP hD hS (c_X6_codeAt l D cA ad (upd (upd (upd si 3 (0 : Int32)) 4 (0 : Int32)) 5 (0 : Int32)) sa a1 a2 r1 hr1) lk_X6_codeAt q710 s29 q708 0 6 rfl rfl hl.1 rfl rfl (Nat.le_of_ble_eq_true rfl) ⟨Nat.le_of_ble_eq_true rfl, Nat.le_of_ble_eq_true rfl⟩ ⟨Nat.le_refl _, Nat.le_refl _⟩ dX6_readsFloor_18 (fun H locs hP hD hS => ?_)
  refine W.eq (g2 := F0 m 21 ls [.int r1]) rfl ?_
  refine lv_bipush (v := (116 : Int32)) hx hb dX6_readsFloor_21 (by decide) ?_
  obtain ⟨x2, hRx2, hF⟩ := bd_some hF
  have Jx2 : ∀ (H : Heap) (locs : List Loc) (ls : Array Slot), va_P D vwCl (WM cA ad (upd (upd (upd si 3 (0 : Int32)) 4 (0 : Int32)) 5 (0 : Int32)) sa) H → va_D A (WM cA ad (upd (upd (upd si 3 (0 : Int32)) 4 (0 : Int32)) 5 (0 : Int32)) sa) → va_S A H0 H locs → lv_has ls 4 [(0, .ref (ad 0)), (1, .int a1), (2, .int a2)] → W p l ee (rmx 3 77) s m args below meth c H locs 0 0 Q (F0 m 31 ls [.int x2]) := by
    intro H locs ls hP hD hS hl
    refine lv_istore_n (lv' := [(3, .int x2), (0, .ref (ad 0)), (1, .int a1), (2, .int a2)]) hx hb dX6_readsFloor_31 rfl hl (by decide) rfl (fun ls hl => ?_)
    refine lv_aload_n hx hb dX6_readsFloor_32 rfl (lv_at hl 1 rfl) ?_
    refine lv_dup hx hb dX6_readsFloor_33 rfl ?_
    refine gM0_8 (v := (0 : Int32)) C0 hP rfl q588 dX6_readsFloor_34 ?_
    refine lv_iload_n hx hb dX6_readsFloor_37 rfl (lv_at hl 0 rfl) ?_
    obtain ⟨x3, hRx3, hF⟩ := bd_some hF
    have Jx3 : ∀ (H : Heap) (locs : List Loc) (ls : Array Slot), va_P D vwCl (WM cA ad (upd (upd (upd si 3 (0 : Int32)) 4 (0 : Int32)) 5 (0 : Int32)) sa) H → va_D A (WM cA ad (upd (upd (upd si 3 (0 : Int32)) 4 (0 : Int32)) 5 (0 : Int32)) sa) → va_S A H0 H locs → lv_has ls 4 [(3, .int x2), (0, .ref (ad 0)), (1, .int a1), (2, .int a2)] → W p l ee (rmx 3 77) s m args below meth c H locs 0 0 Q (F0 m 46 ls [.int x3, .int (0 : Int32), .ref (ad 0)]) := by
      intro H locs ls hP hD hS hl
      refine lv_iadd hx hb dX6_readsFloor_46 ?_
      refine pM0_8 C0 hP hD hS q588 dX6_readsFloor_47 (fun H locs hP hD hS => ?_)
      obtain ⟨ox4, hL4, hX4⟩ := bd_all hF
      have JE4 : ∀ (e5 : (Int32 × tSI × tSA)), ox4 = e5 → ∀ (H : Heap) (locs : List Loc) (ls : Array Slot), va_P D vwCl (WM cA ad e5.2.1 e5.2.2) H → va_D A (WM cA ad e5.2.1 e5.2.2) → va_S A H0 H locs → lv_has ls 4 [(3, .int e5.1), (0, .ref (ad 0)), (1, .int a1), (2, .int a2)] → W p l ee (rmx 3 77) s m args below meth c H locs 0 0 Q (F0 m 83 ls []) := by
        intro e5 he H locs ls hP hD hS hl
        have hF := hX4 _ he
        obtain ⟨ox6, hL6, hX6⟩ := bd_all hF
        have JE6 : ∀ (e7 : (Int32 × tSI × tSA)), ox6 = e7 → ∀ (H : Heap) (locs : List Loc) (ls : Array Slot), va_P D vwCl (WM cA ad e7.2.1 e7.2.2) H → va_D A (WM cA ad e7.2.1 e7.2.2) → va_S A H0 H locs → lv_has ls 4 [(3, .int e7.1)] → W p l ee (rmx 3 77) s m args below meth c H locs 0 0 Q (F0 m 112 ls []) := by
          intro e7 he H locs ls hP hD hS hl
          have hF := hX6 _ he
          refine lv_iload_n hx hb dX6_readsFloor_112 rfl (lv_at hl 0 rfl) ?_
          obtain ⟨hz, hF⟩ := zb_some hF
          have hF := Option.some.inj hF
          subst hF
          exact hE _ _ _ _ _ hP hD hS dX6_readsFloor_113 hz rfl
        have LP6 : ∀ (k6 : Nat) (t6 : (Int32 × tSI × tSA)), lp (S_X6_readsFloor_83 a1 a2) k6 t6 = some ox6 → ∀ (H : Heap) (locs : List Loc) (ls : Array Slot), va_P D vwCl (WM cA ad t6.2.1 t6.2.2) H → va_D A (WM cA ad t6.2.1 t6.2.2) → va_S A H0 H locs → lv_has ls 4 [(3, .int t6.1), (0, .ref (ad 0)), (1, .int a1), (2, .int a2)] → W p l ee (rmx 3 77) s m args below meth c H locs 0 0 Q (F0 m 83 ls []) := by
          intro k6
          induction k6 with
          | zero => intro t6 hF; exact (lp_no hF).elim
          | succ k6 ih6 =>
            intro t6 hF H locs ls hP hD hS hl
            change (S_X6_readsFloor_83 a1 a2) (lp (S_X6_readsFloor_83 a1 a2) k6) t6 = some ox6 at hF
            unfold S_X6_readsFloor_83 at hF
            refine lv_iload_n hx hb dX6_readsFloor_83 rfl (lv_at hl 0 rfl) ?_
            refine lv_if_eq (tgt := 112) hx hb dX6_readsFloor_84 (by decide) (fun c8 => ?_) (fun c8 => ?_)
            · have hF := (if_pos c8).symm.trans hF
              exact JE6 _ (Option.some.inj hF).symm _ _ _ hP hD hS (lv_sub hl [0] rfl)
            · have hF := (if_neg c8).symm.trans hF
              refine lv_aload_n hx hb dX6_readsFloor_87 rfl (lv_at hl 1 rfl) ?_
              refine gM0_10 (v := (t6.2.1 5)) C0 hP rfl q590 dX6_readsFloor_88 ?_
              refine lv_if_eq (tgt := 102) hx hb dX6_readsFloor_91 (by decide) (fun c9 => ?_) (fun c9 => ?_)
              · have hF := (if_pos c9).symm.trans hF
                refine lv_aload_n hx hb dX6_readsFloor_102 rfl (lv_at hl 1 rfl) ?_
                refine lv_iload_n hx hb dX6_readsFloor_103 rfl (lv_at hl 2 rfl) ?_
                refine lv_iload_n hx hb dX6_readsFloor_104 rfl (lv_at hl 3 rfl) ?_
                obtain ⟨r10, hr10, hF⟩ := bd_some hF
                refine kcV (As := [.int a1, .int a2]) (rest := []) C0 hA hP hD hS (c_X6_readsSign l D cA ad t6.2.1 t6.2.2 a1 a2 r10 hr10) lk_X6_readsSign q722 s32 q720 0 6 rfl rfl hl.1 rfl rfl (Nat.le_of_ble_eq_true rfl) ⟨Nat.le_of_ble_eq_true rfl, Nat.le_of_ble_eq_true rfl⟩ ⟨Nat.le_refl _, Nat.le_refl _⟩ dX6_readsFloor_105 (fun H locs hP hD hS => ?_)
                refine W.eq (g2 := F0 m 108 ls [.int r10.1]) rfl ?_
                refine lv_istore_n (lv' := [(3, .int r10.1), (0, .ref (ad 0)), (1, .int a1), (2, .int a2)]) hx hb dX6_readsFloor_108 rfl hl (by decide) rfl (fun ls hl => ?_)
                refine lv_goto (tgt := 83) hx hb dX6_readsFloor_109 (by decide) ?_
                exact ih6 _ hF _ _ _ hP hD hS (lv_sub hl [0, 1, 2, 3] rfl)
              · have hF := (if_neg c9).symm.trans hF
                refine lv_aload_n hx hb dX6_readsFloor_94 rfl (lv_at hl 1 rfl) ?_
                refine gM0_8 (v := (t6.2.1 3)) C0 hP rfl q588 dX6_readsFloor_95 ?_
                refine lv_iload_n hx hb dX6_readsFloor_98 rfl (lv_at hl 3 rfl) ?_
                refine lv_icmp_ge (tgt := 112) hx hb dX6_readsFloor_99 (by decide) (fun c11 => ?_) (fun c11 => ?_)
                · have hF := (if_pos c11).symm.trans hF
                  exact JE6 _ (Option.some.inj hF).symm _ _ _ hP hD hS (lv_sub hl [0] rfl)
                · have hF := (if_neg c11).symm.trans hF
                  refine lv_aload_n hx hb dX6_readsFloor_102 rfl (lv_at hl 1 rfl) ?_
                  refine lv_iload_n hx hb dX6_readsFloor_103 rfl (lv_at hl 2 rfl) ?_
                  refine lv_iload_n hx hb dX6_readsFloor_104 rfl (lv_at hl 3 rfl) ?_
                  obtain ⟨r12, hr12, hF⟩ := bd_some hF
                  refine kcV (As := [.int a1, .int a2]) (rest := []) C0 hA hP hD hS (c_X6_readsSign l D cA ad t6.2.1 t6.2.2 a1 a2 r12 hr12) lk_X6_readsSign q722 s32 q720 0 6 rfl rfl hl.1 rfl rfl (Nat.le_of_ble_eq_true rfl) ⟨Nat.le_of_ble_eq_true rfl, Nat.le_of_ble_eq_true rfl⟩ ⟨Nat.le_refl _, Nat.le_refl _⟩ dX6_readsFloor_105 (fun H locs hP hD hS => ?_)
                  refine W.eq (g2 := F0 m 108 ls [.int r12.1]) rfl ?_
                  refine lv_istore_n (lv' := [(3, .int r12.1), (0, .ref (ad 0)), (1, .int a1), (2, .int a2)]) hx hb dX6_readsFloor_108 rfl hl (by decide) rfl (fun ls hl => ?_)
                  refine lv_goto (tgt := 83) hx hb dX6_readsFloor_109 (by decide) ?_
                  exact ih6 _ hF _ _ _ hP hD hS (lv_sub hl [0, 1, 2, 3] rfl)
        exact LP6 _ _ hL6 _ _ _ hP hD hS (lv_sub hl [0, 1, 2, 3] rfl)
      have LP4 : ∀ (k4 : Nat) (t4 : (Int32 × tSI × tSA)), lp (S_X6_readsFloor_50 a1 a2) k4 t4 = some ox4 → ∀ (H : Heap) (locs : List Loc) (ls : Array Slot), va_P D vwCl (WM cA ad t4.2.1 t4.2.2) H → va_D A (WM cA ad t4.2.1 t4.2.2) → va_S A H0 H locs → lv_has ls 4 [(3, .int t4.1), (0, .ref (ad 0)), (1, .int a1), (2, .int a2)] → W p l ee (rmx 3 77) s m args below meth c H locs 0 0 Q (F0 m 50 ls []) := by
        intro k4
        induction k4 with
        | zero => intro t4 hF; exact (lp_no hF).elim
        | succ k4 ih4 =>
          intro t4 hF H locs ls hP hD hS hl
          change (S_X6_readsFloor_50 a1 a2) (lp (S_X6_readsFloor_50 a1 a2) k4) t4 = some ox4 at hF
          unfold S_X6_readsFloor_50 at hF
          refine lv_iload_n hx hb dX6_readsFloor_50 rfl (lv_at hl 0 rfl) ?_
          refine lv_if_eq (tgt := 83) hx hb dX6_readsFloor_51 (by decide) (fun c13 => ?_) (fun c13 => ?_)
          · have hF := (if_pos c13).symm.trans hF
            exact JE4 _ (Option.some.inj hF).symm _ _ _ hP hD hS (lv_sub hl [0, 1, 2, 3] rfl)
          · have hF := (if_neg c13).symm.trans hF
            refine lv_aload_n hx hb dX6_readsFloor_54 rfl (lv_at hl 1 rfl) ?_
            refine gM0_9 (v := (t4.2.1 4)) C0 hP rfl q589 dX6_readsFloor_55 ?_
            refine lv_iconst (v := (2 : Int32)) hx hb dX6_readsFloor_58 (by decide) ?_
            refine lv_icmp_lt (tgt := 73) hx hb dX6_readsFloor_59 (by decide) (fun c14 => ?_) (fun c14 => ?_)
            · have hF := (if_pos c14).symm.trans hF
              refine lv_aload_n hx hb dX6_readsFloor_73 rfl (lv_at hl 1 rfl) ?_
              refine lv_iload_n hx hb dX6_readsFloor_74 rfl (lv_at hl 2 rfl) ?_
              refine lv_iload_n hx hb dX6_readsFloor_75 rfl (lv_at hl 3 rfl) ?_
              obtain ⟨r15, hr15, hF⟩ := bd_some hF
              refine kcV (As := [.int a1, .int a2]) (rest := []) C0 hA hP hD hS (c_X6_readsSort l D cA ad t4.2.1 t4.2.2 a1 a2 r15 hr15) lk_X6_readsSort q714 s30 q712 0 6 rfl rfl hl.1 rfl rfl (Nat.le_of_ble_eq_true rfl) ⟨Nat.le_of_ble_eq_true rfl, Nat.le_of_ble_eq_true rfl⟩ ⟨Nat.le_refl _, Nat.le_refl _⟩ dX6_readsFloor_76 (fun H locs hP hD hS => ?_)
              refine W.eq (g2 := F0 m 79 ls [.int r15.1]) rfl ?_
              refine lv_istore_n (lv' := [(3, .int r15.1), (0, .ref (ad 0)), (1, .int a1), (2, .int a2)]) hx hb dX6_readsFloor_79 rfl hl (by decide) rfl (fun ls hl => ?_)
              refine lv_goto (tgt := 50) hx hb dX6_readsFloor_80 (by decide) ?_
              exact ih4 _ hF _ _ _ hP hD hS (lv_sub hl [0, 1, 2, 3] rfl)
            · have hF := (if_neg c14).symm.trans hF
              refine lv_aload_n hx hb dX6_readsFloor_62 rfl (lv_at hl 1 rfl) ?_
              refine lv_iload_n hx hb dX6_readsFloor_63 rfl (lv_at hl 2 rfl) ?_
              refine lv_iload_n hx hb dX6_readsFloor_64 rfl (lv_at hl 3 rfl) ?_
              obtain ⟨r16, hr16, hF⟩ := bd_some hF
              refine kcV (As := [.int a1, .int a2]) (rest := []) C0 hA hP hD hS (c_X6_codeAt l D cA ad t4.2.1 t4.2.2 a1 a2 r16 hr16) lk_X6_codeAt q710 s29 q708 0 6 rfl rfl hl.1 rfl rfl (Nat.le_of_ble_eq_true rfl) ⟨Nat.le_of_ble_eq_true rfl, Nat.le_of_ble_eq_true rfl⟩ ⟨Nat.le_refl _, Nat.le_refl _⟩ dX6_readsFloor_65 (fun H locs hP hD hS => ?_)
              refine W.eq (g2 := F0 m 68 ls [.int r16]) rfl ?_
              refine lv_bipush (v := (59 : Int32)) hx hb dX6_readsFloor_68 (by decide) ?_
              refine lv_icmp_ne (tgt := 83) hx hb dX6_readsFloor_70 (by decide) (fun c17 => ?_) (fun c17 => ?_)
              · have hF := (if_neg c17).symm.trans hF
                exact JE4 _ (Option.some.inj hF).symm _ _ _ hP hD hS (lv_sub hl [0, 1, 2, 3] rfl)
              · have hF := (if_pos c17).symm.trans hF
                refine lv_aload_n hx hb dX6_readsFloor_73 rfl (lv_at hl 1 rfl) ?_
                refine lv_iload_n hx hb dX6_readsFloor_74 rfl (lv_at hl 2 rfl) ?_
                refine lv_iload_n hx hb dX6_readsFloor_75 rfl (lv_at hl 3 rfl) ?_
                obtain ⟨r18, hr18, hF⟩ := bd_some hF
                refine kcV (As := [.int a1, .int a2]) (rest := []) C0 hA hP hD hS (c_X6_readsSort l D cA ad t4.2.1 t4.2.2 a1 a2 r18 hr18) lk_X6_readsSort q714 s30 q712 0 6 rfl rfl hl.1 rfl rfl (Nat.le_of_ble_eq_true rfl) ⟨Nat.le_of_ble_eq_true rfl, Nat.le_of_ble_eq_true rfl⟩ ⟨Nat.le_refl _, Nat.le_refl _⟩ dX6_readsFloor_76 (fun H locs hP hD hS => ?_)
                refine W.eq (g2 := F0 m 79 ls [.int r18.1]) rfl ?_
                refine lv_istore_n (lv' := [(3, .int r18.1), (0, .ref (ad 0)), (1, .int a1), (2, .int a2)]) hx hb dX6_readsFloor_79 rfl hl (by decide) rfl (fun ls hl => ?_)
                refine lv_goto (tgt := 50) hx hb dX6_readsFloor_80 (by decide) ?_
                exact ih4 _ hF _ _ _ hP hD hS (lv_sub hl [0, 1, 2, 3] rfl)
      exact LP4 _ _ hL4 _ _ _ hP hD hS (lv_sub hl [0, 1, 2, 3] rfl)
    have hF := hRx3
    refine lv_if_eq (tgt := 45) hx hb dX6_readsFloor_38 (by decide) (fun c19 => ?_) (fun c19 => ?_)
    · have hF := (if_pos c19).symm.trans hF
      refine lv_iconst (v := (0 : Int32)) hx hb dX6_readsFloor_45 (by decide) ?_
      have hF := Option.some.inj hF
      subst hF
      exact Jx3 _ _ _ hP hD hS (lv_sub hl [0, 1, 2, 3] rfl)
    · have hF := (if_neg c19).symm.trans hF
      refine lv_iconst (v := (1 : Int32)) hx hb dX6_readsFloor_41 (by decide) ?_
      refine lv_goto (tgt := 46) hx hb dX6_readsFloor_42 (by decide) ?_
      have hF := Option.some.inj hF
      subst hF
      exact Jx3 _ _ _ hP hD hS (lv_sub hl [0, 1, 2, 3] rfl)
  have hF := hRx2
  refine lv_icmp_ne (tgt := 30) hx hb dX6_readsFloor_23 (by decide) (fun c20 => ?_) (fun c20 => ?_)
  · have hF := (if_neg c20).symm.trans hF
    refine lv_iconst (v := (0 : Int32)) hx hb dX6_readsFloor_30 (by decide) ?_
    have hF := Option.some.inj hF
    subst hF
    exact Jx2 _ _ _ hP hD hS (lv_sub hl [0, 1, 2] rfl)
  · have hF := (if_pos c20).symm.trans hF
    refine lv_iconst (v := (1 : Int32)) hx hb dX6_readsFloor_26 (by decide) ?_
    refine lv_goto (tgt := 31) hx hb dX6_readsFloor_27 (by decide) ?_
    have hF := Option.some.inj hF
    subst hF
    exact Jx2 _ _ _ hP hD hS (lv_sub hl [0, 1, 2] rfl)
theorem lk_X6_isBeyond : LK yX6_isBeyond cX6_isBeyond 4 (some .boolean) 3 := ⟨q703, q7, by decide +kernel⟩
def F_X6_isBeyond (a1 : Int32) (a2 : Int64) (a3 : Int32) : Option Int32 :=
  (if a1 < 0 then some (1 : Int32) else (if (lg_cmp a2 (0 : Int64)) < 0 then some (1 : Int32) else (if (lg_cmp ((Int32.toInt64 a1) + a2) (Int32.toInt64 a3)) ≤ 0 then some (0 : Int32) else some (1 : Int32))))
set_option maxHeartbeats 4000000 in
set_option maxRecDepth 100000 in
theorem c_X6_isBeyond (l : Launch) (D : va_G) (cA : ClassId) (ad : Nat → Nat) (si : tSI) (sa : tSA) (a1 : Int32) (a2 : Int64) (a3 : Int32) (o : Int32) (hF : F_X6_isBeyond a1 a2 a3 = some o) : CG l yX6_isBeyond cX6_isBeyond 4 (some .boolean) 0 0 D cA [.int a1, .long a2, .int a3] (WM cA ad si sa) (WM cA ad si sa) (some (.int o)) := by
  refine CG.ofi (by decide) (Nat.le_of_ble_eq_true rfl) ?_
  intro p ee s m args below meth c A Q H0 ls C0 hA hP hD hS hl hE
  have hl : lv_has ls 4 [(0, .int a1), (1, .long a2), (3, .int a3)] := hl
  obtain ⟨hx, hb, hml, hown, ht, hK⟩ := id C0
  unfold F_X6_isBeyond at hF
  refine lv_iload_n hx hb dX6_isBeyond_0 rfl (lv_at hl 0 rfl) ?_
  refine lv_if_lt (tgt := 20) hx hb dX6_isBeyond_1 (by decide) (fun c1 => ?_) (fun c1 => ?_)
  · have hF := (if_pos c1).symm.trans hF
    refine lv_iconst (v := (1 : Int32)) hx hb dX6_isBeyond_20 (by decide) ?_
    refine lv_goto (tgt := 25) hx hb dX6_isBeyond_21 (by decide) ?_
    have hF := Option.some.inj hF
    exact hE _ _ _ _ _ hP hD hS dX6_isBeyond_25 rfl hF
  · have hF := (if_neg c1).symm.trans hF
    refine lv_lload_n hx hb dX6_isBeyond_4 rfl (lv_at hl 1 rfl) ?_
    refine lv_lconst (v := (0 : Int64)) hx hb dX6_isBeyond_5 (by decide) ?_
    refine W.lcmp hx hb dX6_isBeyond_6 ?_
    refine lv_if_lt (tgt := 20) hx hb dX6_isBeyond_7 (by decide) (fun c2 => ?_) (fun c2 => ?_)
    · have hF := (if_pos c2).symm.trans hF
      refine lv_iconst (v := (1 : Int32)) hx hb dX6_isBeyond_20 (by decide) ?_
      refine lv_goto (tgt := 25) hx hb dX6_isBeyond_21 (by decide) ?_
      have hF := Option.some.inj hF
      exact hE _ _ _ _ _ hP hD hS dX6_isBeyond_25 rfl hF
    · have hF := (if_neg c2).symm.trans hF
      refine lv_iload_n hx hb dX6_isBeyond_10 rfl (lv_at hl 0 rfl) ?_
      refine lv_i2l hx hb dX6_isBeyond_11 rfl ?_
      refine lv_lload_n hx hb dX6_isBeyond_12 rfl (lv_at hl 1 rfl) ?_
      refine lv_ladd hx hb dX6_isBeyond_13 ?_
      refine lv_iload_n hx hb dX6_isBeyond_14 rfl (lv_at hl 2 rfl) ?_
      refine lv_i2l hx hb dX6_isBeyond_15 rfl ?_
      refine W.lcmp hx hb dX6_isBeyond_16 ?_
      refine lv_if_le (tgt := 24) hx hb dX6_isBeyond_17 (by decide) (fun c3 => ?_) (fun c3 => ?_)
      · have hF := (if_pos c3).symm.trans hF
        refine lv_iconst (v := (0 : Int32)) hx hb dX6_isBeyond_24 (by decide) ?_
        have hF := Option.some.inj hF
        exact hE _ _ _ _ _ hP hD hS dX6_isBeyond_25 rfl hF
      · have hF := (if_neg c3).symm.trans hF
        refine lv_iconst (v := (1 : Int32)) hx hb dX6_isBeyond_20 (by decide) ?_
        refine lv_goto (tgt := 25) hx hb dX6_isBeyond_21 (by decide) ?_
        have hF := Option.some.inj hF
        exact hE _ _ _ _ _ hP hD hS dX6_isBeyond_25 rfl hF
theorem lk_X6_cellsBarred : LK yX6_cellsBarred cX6_cellsBarred 6 (some .int) 4 := ⟨q696, q7, by decide +kernel⟩
def K_X6_cellsBarred_25 (a1 : Int32) (sa : tSA) (a4 : Int64) (a3 : Int32) (si : tSI) : Option (Int32 × tSI × tSA) :=
  ld a1 4 ((if 0 ≤ ((sa 18) (Int32.toNatClampNeg a1)) then (if 0 ≤ (lg_cmp a4 (0 : Int64)) then ld a1 4 ((F_X6_isBeyond a3 a4 ((sa 18) (Int32.toNatClampNeg a1))).bind fun r4 => (if r4 = 0 then some ((0 : Int32), si, sa) else (F_X6_failed (3 : Int32) si sa).bind fun r6 => some (r6.1, r6.2.1, r6.2.2))) else (F_X6_failed (4 : Int32) si sa).bind fun r7 => some (r7.1, r7.2.1, r7.2.2)) else (F_X6_failed (1 : Int32) si sa).bind fun r8 => some (r8.1, r8.2.1, r8.2.2)))
def F_X6_cellsBarred (a1 : Int32) (a2 : Int32) (a3 : Int32) (a4 : Int64) (si : tSI) (sa : tSA) : Option (Int32 × tSI × tSA) :=
  ld a1 4 ((if ((sa 18) (Int32.toNatClampNeg a1)) < 0 then K_X6_cellsBarred_25 a1 sa a4 a3 si else ld a1 4 ((if ((sa 19) (Int32.toNatClampNeg a1)) = a2 then K_X6_cellsBarred_25 a1 sa a4 a3 si else (F_X6_failed (2 : Int32) si sa).bind fun r11 => some (r11.1, r11.2.1, r11.2.2)))))
set_option maxHeartbeats 4000000 in
set_option maxRecDepth 100000 in
theorem c_X6_cellsBarred (l : Launch) (D : va_G) (cA : ClassId) (ad : Nat → Nat) (si : tSI) (sa : tSA) (a1 : Int32) (a2 : Int32) (a3 : Int32) (a4 : Int64) (o : (Int32 × tSI × tSA)) (hF : F_X6_cellsBarred a1 a2 a3 a4 si sa = some o) : CG l yX6_cellsBarred cX6_cellsBarred 6 (some .int) 1 23 D cA [.ref (ad 0), .int a1, .int a2, .int a3, .long a4] (WM cA ad si sa) (WM cA ad o.2.1 o.2.2) (some (.int o.1)) := by
  refine CG.ofi (by decide) (Nat.le_of_ble_eq_true rfl) ?_
  intro p ee s m args below meth c A Q H0 ls C0 hA hP hD hS hl hE
  have hl : lv_has ls 6 [(0, .ref (ad 0)), (1, .int a1), (2, .int a2), (3, .int a3), (4, .long a4)] := hl
  obtain ⟨hx, hb, hml, hown, ht, hK⟩ := id C0
  unfold F_X6_cellsBarred at hF
  refine lv_aload_n hx hb dX6_cellsBarred_0 rfl (lv_at hl 0 rfl) ?_
  refine gM0_27 C0 hP q607 dX6_cellsBarred_1 ?_
  refine lv_iload_n hx hb dX6_cellsBarred_4 rfl (lv_at hl 1 rfl) ?_
  obtain ⟨hin, hF⟩ := ld_some hF
  refine aMl18 (f := (sa 18)) C0 hP rfl hin dX6_cellsBarred_5 ?_
  have Jx1 : ∀ (H : Heap) (locs : List Loc) (ls : Array Slot), K_X6_cellsBarred_25 a1 sa a4 a3 si = some o → va_P D vwCl (WM cA ad si sa) H → va_D A (WM cA ad si sa) → va_S A H0 H locs → lv_has ls 6 [(0, .ref (ad 0)), (1, .int a1), (3, .int a3), (4, .long a4)] → W p l ee (rmx 1 23) s m args below meth c H locs 0 0 Q (F0 m 25 ls []) := by
    intro H locs ls hF hP hD hS hl
    unfold K_X6_cellsBarred_25 at hF
    refine lv_aload_n hx hb dX6_cellsBarred_25 rfl (lv_at hl 0 rfl) ?_
    refine gM0_27 C0 hP q607 dX6_cellsBarred_26 ?_
    refine lv_iload_n hx hb dX6_cellsBarred_29 rfl (lv_at hl 1 rfl) ?_
    obtain ⟨hin, hF⟩ := ld_some hF
    refine aMl18 (f := (sa 18)) C0 hP rfl hin dX6_cellsBarred_30 ?_
    refine lv_if_ge (tgt := 40) hx hb dX6_cellsBarred_31 (by decide) (fun c2 => ?_) (fun c2 => ?_)
    · have hF := (if_pos c2).symm.trans hF
      refine lv_lload hx hb dX6_cellsBarred_40 (lv_at hl 3 rfl) ?_
      refine lv_lconst (v := (0 : Int64)) hx hb dX6_cellsBarred_42 (by decide) ?_
      refine W.lcmp hx hb dX6_cellsBarred_43 ?_
      refine lv_if_ge (tgt := 53) hx hb dX6_cellsBarred_44 (by decide) (fun c3 => ?_) (fun c3 => ?_)
      · have hF := (if_pos c3).symm.trans hF
        refine lv_iload_n hx hb dX6_cellsBarred_53 rfl (lv_at hl 2 rfl) ?_
        refine lv_lload hx hb dX6_cellsBarred_54 (lv_at hl 3 rfl) ?_
        refine lv_aload_n hx hb dX6_cellsBarred_56 rfl (lv_at hl 0 rfl) ?_
        refine gM0_27 C0 hP q607 dX6_cellsBarred_57 ?_
        refine lv_iload_n hx hb dX6_cellsBarred_60 rfl (lv_at hl 1 rfl) ?_
        obtain ⟨hin, hF⟩ := ld_some hF
        refine aMl18 (f := (sa 18)) C0 hP rfl hin dX6_cellsBarred_61 ?_
        obtain ⟨r4, hr4, hF⟩ := bd_some hF
        refine kcS (As := [.int a3, .long a4, .int ((sa 18) (Int32.toNatClampNeg a1))]) (rest := []) C0 hA hP hD hS (c_X6_isBeyond l D cA ad si sa a3 a4 ((sa 18) (Int32.toNatClampNeg a1)) r4 hr4) lk_X6_isBeyond q702 q701 hl.1 rfl rfl (Nat.le_of_ble_eq_true rfl) ⟨Nat.le_of_ble_eq_true rfl, Nat.le_of_ble_eq_true rfl⟩ ⟨Nat.le_refl _, Nat.le_refl _⟩ dX6_cellsBarred_62 (fun H locs hP hD hS => ?_)
        refine W.eq (g2 := F0 m 65 ls [.int r4]) rfl ?_
        refine lv_if_eq (tgt := 76) hx hb dX6_cellsBarred_65 (by decide) (fun c5 => ?_) (fun c5 => ?_)
        · have hF := (if_pos c5).symm.trans hF
          refine lv_iconst (v := (0 : Int32)) hx hb dX6_cellsBarred_76 (by decide) ?_
          have hF := Option.some.inj hF
          subst hF
          exact hE _ _ _ _ _ hP hD hS dX6_cellsBarred_77 rfl rfl
        · have hF := (if_neg c5).symm.trans hF
          refine lv_aload_n hx hb dX6_cellsBarred_68 rfl (lv_at hl 0 rfl) ?_
          refine lv_iconst (v := (3 : Int32)) hx hb dX6_cellsBarred_69 (by decide) ?_
          obtain ⟨r6, hr6, hF⟩ := bd_some hF
          refine kcV (As := [.int (3 : Int32)]) (rest := []) C0 hA hP hD hS (c_X6_failed l D cA ad si sa (3 : Int32) r6 hr6) lk_X6_failed q699 s27 q697 0 6 rfl rfl hl.1 rfl rfl (Nat.le_of_ble_eq_true rfl) ⟨Nat.le_of_ble_eq_true rfl, Nat.le_of_ble_eq_true rfl⟩ ⟨Nat.le_refl _, Nat.le_refl _⟩ dX6_cellsBarred_70 (fun H locs hP hD hS => ?_)
          refine W.eq (g2 := F0 m 73 ls [.int r6.1]) rfl ?_
          refine lv_goto (tgt := 77) hx hb dX6_cellsBarred_73 (by decide) ?_
          have hF := Option.some.inj hF
          subst hF
          exact hE _ _ _ _ _ hP hD hS dX6_cellsBarred_77 rfl rfl
      · have hF := (if_neg c3).symm.trans hF
        refine lv_aload_n hx hb dX6_cellsBarred_47 rfl (lv_at hl 0 rfl) ?_
        refine lv_iconst (v := (4 : Int32)) hx hb dX6_cellsBarred_48 (by decide) ?_
        obtain ⟨r7, hr7, hF⟩ := bd_some hF
        refine kcV (As := [.int (4 : Int32)]) (rest := []) C0 hA hP hD hS (c_X6_failed l D cA ad si sa (4 : Int32) r7 hr7) lk_X6_failed q699 s27 q697 0 6 rfl rfl hl.1 rfl rfl (Nat.le_of_ble_eq_true rfl) ⟨Nat.le_of_ble_eq_true rfl, Nat.le_of_ble_eq_true rfl⟩ ⟨Nat.le_refl _, Nat.le_refl _⟩ dX6_cellsBarred_49 (fun H locs hP hD hS => ?_)
        refine W.eq (g2 := F0 m 52 ls [.int r7.1]) rfl ?_
        have hF := Option.some.inj hF
        subst hF
        exact hE _ _ _ _ _ hP hD hS dX6_cellsBarred_52 rfl rfl
    · have hF := (if_neg c2).symm.trans hF
      refine lv_aload_n hx hb dX6_cellsBarred_34 rfl (lv_at hl 0 rfl) ?_
      refine lv_iconst (v := (1 : Int32)) hx hb dX6_cellsBarred_35 (by decide) ?_
      obtain ⟨r8, hr8, hF⟩ := bd_some hF
      refine kcV (As := [.int (1 : Int32)]) (rest := []) C0 hA hP hD hS (c_X6_failed l D cA ad si sa (1 : Int32) r8 hr8) lk_X6_failed q699 s27 q697 0 6 rfl rfl hl.1 rfl rfl (Nat.le_of_ble_eq_true rfl) ⟨Nat.le_of_ble_eq_true rfl, Nat.le_of_ble_eq_true rfl⟩ ⟨Nat.le_refl _, Nat.le_refl _⟩ dX6_cellsBarred_36 (fun H locs hP hD hS => ?_)
      refine W.eq (g2 := F0 m 39 ls [.int r8.1]) rfl ?_
      have hF := Option.some.inj hF
      subst hF
      exact hE _ _ _ _ _ hP hD hS dX6_cellsBarred_39 rfl rfl
  refine lv_if_lt (tgt := 25) hx hb dX6_cellsBarred_6 (by decide) (fun c9 => ?_) (fun c9 => ?_)
  · have hF := (if_pos c9).symm.trans hF
    exact Jx1 _ _ _ hF hP hD hS (lv_sub hl [0, 1, 3, 4] rfl)
  · have hF := (if_neg c9).symm.trans hF
    refine lv_aload_n hx hb dX6_cellsBarred_9 rfl (lv_at hl 0 rfl) ?_
    refine gM0_28 C0 hP q608 dX6_cellsBarred_10 ?_
    refine lv_iload_n hx hb dX6_cellsBarred_13 rfl (lv_at hl 1 rfl) ?_
    obtain ⟨hin, hF⟩ := ld_some hF
    refine aMl19 (f := (sa 19)) C0 hP rfl hin dX6_cellsBarred_14 ?_
    refine lv_iload_n hx hb dX6_cellsBarred_15 rfl (lv_at hl 2 rfl) ?_
    refine lv_icmp_eq (tgt := 25) hx hb dX6_cellsBarred_16 (by decide) (fun c10 => ?_) (fun c10 => ?_)
    · have hF := (if_pos c10).symm.trans hF
      exact Jx1 _ _ _ hF hP hD hS (lv_sub hl [0, 1, 3, 4] rfl)
    · have hF := (if_neg c10).symm.trans hF
      refine lv_aload_n hx hb dX6_cellsBarred_19 rfl (lv_at hl 0 rfl) ?_
      refine lv_iconst (v := (2 : Int32)) hx hb dX6_cellsBarred_20 (by decide) ?_
      obtain ⟨r11, hr11, hF⟩ := bd_some hF
      refine kcV (As := [.int (2 : Int32)]) (rest := []) C0 hA hP hD hS (c_X6_failed l D cA ad si sa (2 : Int32) r11 hr11) lk_X6_failed q699 s27 q697 0 6 rfl rfl hl.1 rfl rfl (Nat.le_of_ble_eq_true rfl) ⟨Nat.le_of_ble_eq_true rfl, Nat.le_of_ble_eq_true rfl⟩ ⟨Nat.le_refl _, Nat.le_refl _⟩ dX6_cellsBarred_21 (fun H locs hP hD hS => ?_)
      refine W.eq (g2 := F0 m 24 ls [.int r11.1]) rfl ?_
      have hF := Option.some.inj hF
      subst hF
      exact hE _ _ _ _ _ hP hD hS dX6_cellsBarred_24 rfl rfl
theorem lk_X6_noSheet : LK yX6_noSheet cX6_noSheet 1 (some .boolean) 1 := ⟨q683, q7, by decide +kernel⟩
def F_X6_noSheet (a1 : Int32) : Option Int32 :=
  (F_X6_in (Int32.toInt64 a1) (0 : Int64) (3 : Int64)).bind fun r1 => (if r1 = 0 then some (1 : Int32) else some (0 : Int32))
set_option maxHeartbeats 4000000 in
set_option maxRecDepth 100000 in
theorem c_X6_noSheet (l : Launch) (D : va_G) (cA : ClassId) (ad : Nat → Nat) (si : tSI) (sa : tSA) (a1 : Int32) (o : Int32) (hF : F_X6_noSheet a1 = some o) : CG l yX6_noSheet cX6_noSheet 1 (some .boolean) 1 25 D cA [.int a1] (WM cA ad si sa) (WM cA ad si sa) (some (.int o)) := by
  refine CG.ofi (by decide) (Nat.le_of_ble_eq_true rfl) ?_
  intro p ee s m args below meth c A Q H0 ls C0 hA hP hD hS hl hE
  have hl : lv_has ls 1 [(0, .int a1)] := hl
  obtain ⟨hx, hb, hml, hown, ht, hK⟩ := id C0
  unfold F_X6_noSheet at hF
  refine lv_iload_n hx hb dX6_noSheet_0 rfl (lv_at hl 0 rfl) ?_
  refine lv_i2l hx hb dX6_noSheet_1 rfl ?_
  refine lv_lconst (v := (0 : Int64)) hx hb dX6_noSheet_2 (by decide) ?_
  refine lv_ldc2 (v := (3 : Int64)) hx hb hown (ht _ q684) dX6_noSheet_3 ?_
  obtain ⟨r1, hr1, hF⟩ := bd_some hF
  refine kcS (As := [.long (Int32.toInt64 a1), .long (0 : Int64), .long (3 : Int64)]) (rest := []) C0 hA hP hD hS (c_X6_in l D cA ad si sa (Int32.toInt64 a1) (0 : Int64) (3 : Int64) r1 hr1) lk_X6_in q686 q685 hl.1 rfl rfl (Nat.le_of_ble_eq_true rfl) ⟨Nat.le_of_ble_eq_true rfl, Nat.le_of_ble_eq_true rfl⟩ ⟨Nat.le_refl _, Nat.le_refl _⟩ dX6_noSheet_6 (fun H locs hP hD hS => ?_)
  refine W.eq (g2 := F0 m 9 ls [.int r1]) rfl ?_
  refine lv_if_ne (tgt := 16) hx hb dX6_noSheet_9 (by decide) (fun c2 => ?_) (fun c2 => ?_)
  · have hF := (if_neg c2).symm.trans hF
    refine lv_iconst (v := (0 : Int32)) hx hb dX6_noSheet_16 (by decide) ?_
    have hF := Option.some.inj hF
    exact hE _ _ _ _ _ hP hD hS dX6_noSheet_17 rfl hF
  · have hF := (if_pos c2).symm.trans hF
    refine lv_iconst (v := (1 : Int32)) hx hb dX6_noSheet_12 (by decide) ?_
    refine lv_goto (tgt := 17) hx hb dX6_noSheet_13 (by decide) ?_
    have hF := Option.some.inj hF
    exact hE _ _ _ _ _ hP hD hS dX6_noSheet_17 rfl hF
theorem lk_X6_floor : LK yX6_floor cX6_floor 7 (some .int) 4 := ⟨q680, q7, by decide +kernel⟩
def S_X6_floor_172 (rec11 : ((Int32 × tSI × tSA) → Option (tSI × tSA))) (t11 : (Int32 × tSI × tSA)) : Option (tSI × tSA) :=
  (if (t11.2.1 2) ≤ t11.1 then some (t11.2.1, t11.2.2) else ld t11.1 5 (ld t11.1 5 (rec11 ((t11.1 + 1), t11.2.1, (va_up t11.2.2 4 (upd (t11.2.2 4) (Int32.toNatClampNeg t11.1) ((t11.2.2 9) (Int32.toNatClampNeg t11.1))))))))
def S_X6_floor_98 (rec9 : ((Int32 × tSI × tSA) → Option (tSI × tSA))) (t9 : (Int32 × tSI × tSA)) : Option (tSI × tSA) :=
  (if (t9.2.1 1) ≤ t9.1 then some (t9.2.1, t9.2.2) else ld t9.1 6 (ld t9.1 6 (ld t9.1 6 (ld t9.1 6 (ld t9.1 6 (ld t9.1 6 (ld t9.1 6 (ld t9.1 6 (rec9 ((t9.1 + 1), t9.2.1, (va_up (va_up (va_up (va_up t9.2.2 0 (upd (t9.2.2 0) (Int32.toNatClampNeg t9.1) ((t9.2.2 5) (Int32.toNatClampNeg t9.1)))) 1 (upd (t9.2.2 1) (Int32.toNatClampNeg t9.1) ((t9.2.2 6) (Int32.toNatClampNeg t9.1)))) 2 (upd (t9.2.2 2) (Int32.toNatClampNeg t9.1) ((t9.2.2 7) (Int32.toNatClampNeg t9.1)))) 3 (upd (t9.2.2 3) (Int32.toNatClampNeg t9.1) ((t9.2.2 8) (Int32.toNatClampNeg t9.1))))))))))))))
def F_X6_floor (a1 : Int32) (a2 : Int32) (a3 : Int32) (a4 : Int32) (si : tSI) (sa : tSA) : Option (Int32 × tSI × tSA) :=
  (F_X6_noSheet a1).bind fun r1 => (if r1 = 0 then (F_X6_in (Int32.toInt64 a2) (0 : Int64) (2 : Int64)).bind fun r3 => (if r3 = 0 then (F_X6_refused (-2 : Int32) si sa).bind fun r17 => some (r17.1, r17.2.1, r17.2.2) else (F_X6_cellsBarred a1 a2 a3 (Int32.toInt64 a4) si sa).bind fun r5 => (if 0 ≤ r5.1 then (F_X6_readsFloor (((60 : Int32) * a1) + a3) a4 r5.2.1 r5.2.2).bind fun r7 => (if r7.1 = 0 then (F_X6_refused ((-100 : Int32) - (r7.2.1 3)) r7.2.1 r7.2.2).bind fun r16 => some (r16.1, r16.2.1, r16.2.2) else (lp S_X6_floor_98 100 ((0 : Int32), (upd (upd r7.2.1 1 (r7.2.1 4)) 2 (r7.2.1 5)), r7.2.2)).bind fun (e10 : (tSI × tSA)) => (lp S_X6_floor_172 100 ((0 : Int32), e10.1, e10.2)).bind fun (e12 : (tSI × tSA)) => (F_X6_refused (e12.1 1) (upd e12.1 8 (0 : Int32)) e12.2).bind fun r13 => some (r13.1, r13.2.1, r13.2.2)) else some (r5.1, r5.2.1, r5.2.2))) else (F_X6_refused (-1 : Int32) si sa).bind fun r18 => some (r18.1, r18.2.1, r18.2.2))
set_option maxHeartbeats 4000000 in
set_option maxRecDepth 100000 in
theorem c_X6_floor (l : Launch) (D : va_G) (cA : ClassId) (ad : Nat → Nat) (si : tSI) (sa : tSA) (a1 : Int32) (a2 : Int32) (a3 : Int32) (a4 : Int32) (o : (Int32 × tSI × tSA)) (hF : F_X6_floor a1 a2 a3 a4 si sa = some o) : CG l yX6_floor cX6_floor 7 (some .int) 4 100 D cA [.ref (ad 0), .int a1, .int a2, .int a3, .int a4] (WM cA ad si sa) (WM cA ad o.2.1 o.2.2) (some (.int o.1)) := by
  refine CG.ofi (by decide) (Nat.le_of_ble_eq_true rfl) ?_
  intro p ee s m args below meth c A Q H0 ls C0 hA hP hD hS hl hE
  have hl : lv_has ls 7 [(0, .ref (ad 0)), (1, .int a1), (2, .int a2), (3, .int a3), (4, .int a4)] := hl
  obtain ⟨hx, hb, hml, hown, ht, hK⟩ := id C0
  unfold F_X6_floor at hF
  refine lv_iload_n hx hb dX6_floor_0 rfl (lv_at hl 1 rfl) ?_
  obtain ⟨r1, hr1, hF⟩ := bd_some hF
  refine kcS (As := [.int a1]) (rest := []) C0 hA hP hD hS (c_X6_noSheet l D cA ad si sa a1 r1 hr1) lk_X6_noSheet q682 q681 hl.1 rfl rfl (Nat.le_of_ble_eq_true rfl) ⟨Nat.le_of_ble_eq_true rfl, Nat.le_of_ble_eq_true rfl⟩ ⟨Nat.le_refl _, Nat.le_refl _⟩ dX6_floor_1 (fun H locs hP hD hS => ?_)
  refine W.eq (g2 := F0 m 4 ls [.int r1]) rfl ?_
  refine lv_if_eq (tgt := 13) hx hb dX6_floor_4 (by decide) (fun c2 => ?_) (fun c2 => ?_)
  · have hF := (if_pos c2).symm.trans hF
    refine lv_iload_n hx hb dX6_floor_13 rfl (lv_at hl 2 rfl) ?_
    refine lv_i2l hx hb dX6_floor_14 rfl ?_
    refine lv_lconst (v := (0 : Int64)) hx hb dX6_floor_15 (by decide) ?_
    refine lv_ldc2 (v := (2 : Int64)) hx hb hown (ht _ q692) dX6_floor_16 ?_
    obtain ⟨r3, hr3, hF⟩ := bd_some hF
    refine kcS (As := [.long (Int32.toInt64 a2), .long (0 : Int64), .long (2 : Int64)]) (rest := []) C0 hA hP hD hS (c_X6_in l D cA ad si sa (Int32.toInt64 a2) (0 : Int64) (2 : Int64) r3 hr3) lk_X6_in q686 q685 hl.1 rfl rfl (Nat.le_of_ble_eq_true rfl) ⟨Nat.le_of_ble_eq_true rfl, Nat.le_of_ble_eq_true rfl⟩ ⟨Nat.le_refl _, Nat.le_refl _⟩ dX6_floor_19 (fun H locs hP hD hS => ?_)
    refine W.eq (g2 := F0 m 22 ls [.int r3]) rfl ?_
    refine lv_if_ne (tgt := 32) hx hb dX6_floor_22 (by decide) (fun c4 => ?_) (fun c4 => ?_)
    · have hF := (if_neg c4).symm.trans hF
      refine lv_aload_n hx hb dX6_floor_32 rfl (lv_at hl 0 rfl) ?_
      refine lv_iload_n hx hb dX6_floor_33 rfl (lv_at hl 1 rfl) ?_
      refine lv_iload_n hx hb dX6_floor_34 rfl (lv_at hl 2 rfl) ?_
      refine lv_iload_n hx hb dX6_floor_35 rfl (lv_at hl 3 rfl) ?_
      refine lv_iload hx hb dX6_floor_36 (lv_at hl 4 rfl) ?_
      refine lv_i2l hx hb dX6_floor_38 rfl ?_
      obtain ⟨r5, hr5, hF⟩ := bd_some hF
      refine kcV (As := [.int a1, .int a2, .int a3, .long (Int32.toInt64 a4)]) (rest := []) C0 hA hP hD hS (c_X6_cellsBarred l D cA ad si sa a1 a2 a3 (Int32.toInt64 a4) r5 hr5) lk_X6_cellsBarred q695 s26 q693 0 6 rfl rfl hl.1 rfl rfl (Nat.le_of_ble_eq_true rfl) ⟨Nat.le_of_ble_eq_true rfl, Nat.le_of_ble_eq_true rfl⟩ ⟨Nat.le_refl _, Nat.le_refl _⟩ dX6_floor_39 (fun H locs hP hD hS => ?_)
      refine W.eq (g2 := F0 m 42 ls [.int r5.1]) rfl ?_
      refine lv_istore (lv' := [(5, .int r5.1), (0, .ref (ad 0)), (1, .int a1), (2, .int a2), (3, .int a3), (4, .int a4)]) hx hb dX6_floor_42 hl (by decide) rfl (fun ls hl => ?_)
      refine lv_iload hx hb dX6_floor_44 (lv_at hl 0 rfl) ?_
      refine lv_if_ge (tgt := 52) hx hb dX6_floor_46 (by decide) (fun c6 => ?_) (fun c6 => ?_)
      · have hF := (if_pos c6).symm.trans hF
        refine lv_aload_n hx hb dX6_floor_52 rfl (lv_at hl 1 rfl) ?_
        refine lv_bipush (v := (60 : Int32)) hx hb dX6_floor_53 (by decide) ?_
        refine lv_iload_n hx hb dX6_floor_55 rfl (lv_at hl 2 rfl) ?_
        refine lv_imul hx hb dX6_floor_56 ?_
        refine lv_iload_n hx hb dX6_floor_57 rfl (lv_at hl 4 rfl) ?_
        refine lv_iadd hx hb dX6_floor_58 ?_
        refine lv_iload hx hb dX6_floor_59 (lv_at hl 5 rfl) ?_
        obtain ⟨r7, hr7, hF⟩ := bd_some hF
        refine kcV (As := [.int (((60 : Int32) * a1) + a3), .int a4]) (rest := []) C0 hA hP hD hS (c_X6_readsFloor l D cA ad r5.2.1 r5.2.2 (((60 : Int32) * a1) + a3) a4 r7 hr7) lk_X6_readsFloor q706 s28 q704 0 6 rfl rfl hl.1 rfl rfl (Nat.le_of_ble_eq_true rfl) ⟨Nat.le_of_ble_eq_true rfl, Nat.le_of_ble_eq_true rfl⟩ ⟨Nat.le_refl _, Nat.le_refl _⟩ dX6_floor_61 (fun H locs hP hD hS => ?_)
        refine W.eq (g2 := F0 m 64 ls [.int r7.1]) rfl ?_
        refine lv_if_ne (tgt := 79) hx hb dX6_floor_64 (by decide) (fun c8 => ?_) (fun c8 => ?_)
        · have hF := (if_neg c8).symm.trans hF
          refine lv_aload_n hx hb dX6_floor_79 rfl (lv_at hl 1 rfl) ?_
          refine lv_aload_n hx hb dX6_floor_80 rfl (lv_at hl 1 rfl) ?_
          refine gM0_9 (v := (r7.2.1 4)) C0 hP rfl q589 dX6_floor_81 ?_
          refine pM0_1 C0 hP hD hS q581 dX6_floor_84 (fun H locs hP hD hS => ?_)
          refine lv_aload_n hx hb dX6_floor_87 rfl (lv_at hl 1 rfl) ?_
          refine lv_aload_n hx hb dX6_floor_88 rfl (lv_at hl 1 rfl) ?_
          refine gM0_10 (v := (r7.2.1 5)) C0 hP rfl q590 dX6_floor_89 ?_
          refine pM0_6 C0 hP hD hS q586 dX6_floor_92 (fun H locs hP hD hS => ?_)
          refine lv_iconst (v := (0 : Int32)) hx hb dX6_floor_95 (by decide) ?_
          refine lv_istore (lv' := [(6, .int (0 : Int32)), (5, .int r5.1), (0, .ref (ad 0)), (1, .int a1), (2, .int a2), (3, .int a3), (4, .int a4)]) hx hb dX6_floor_96 hl (by decide) rfl (fun ls hl => ?_)
          obtain ⟨ox9, hL9, hX9⟩ := bd_all hF
          have JE9 : ∀ (e10 : (tSI × tSA)), ox9 = e10 → ∀ (H : Heap) (locs : List Loc) (ls : Array Slot), va_P D vwCl (WM cA ad e10.1 e10.2) H → va_D A (WM cA ad e10.1 e10.2) → va_S A H0 H locs → lv_has ls 7 [(0, .ref (ad 0))] → W p l ee (rmx 4 100) s m args below meth c H locs 0 0 Q (F0 m 169 ls []) := by
            intro e10 he H locs ls hP hD hS hl
            have hF := hX9 _ he
            refine lv_iconst (v := (0 : Int32)) hx hb dX6_floor_169 (by decide) ?_
            refine lv_istore (lv' := [(6, .int (0 : Int32)), (0, .ref (ad 0))]) hx hb dX6_floor_170 hl (by decide) rfl (fun ls hl => ?_)
            obtain ⟨ox11, hL11, hX11⟩ := bd_all hF
            have JE11 : ∀ (e12 : (tSI × tSA)), ox11 = e12 → ∀ (H : Heap) (locs : List Loc) (ls : Array Slot), va_P D vwCl (WM cA ad e12.1 e12.2) H → va_D A (WM cA ad e12.1 e12.2) → va_S A H0 H locs → lv_has ls 7 [(0, .ref (ad 0))] → W p l ee (rmx 4 100) s m args below meth c H locs 0 0 Q (F0 m 201 ls []) := by
              intro e12 he H locs ls hP hD hS hl
              have hF := hX11 _ he
              refine lv_aload_n hx hb dX6_floor_201 rfl (lv_at hl 0 rfl) ?_
              refine lv_iconst (v := (0 : Int32)) hx hb dX6_floor_202 (by decide) ?_
              refine pM0_24 C0 hP hD hS q604 dX6_floor_203 (fun H locs hP hD hS => ?_)
              refine lv_aload_n hx hb dX6_floor_206 rfl (lv_at hl 0 rfl) ?_
              refine lv_aload_n hx hb dX6_floor_207 rfl (lv_at hl 0 rfl) ?_
              refine gM0_1 (v := (e12.1 1)) C0 hP rfl q581 dX6_floor_208 ?_
              obtain ⟨r13, hr13, hF⟩ := bd_some hF
              refine kcV (As := [.int (e12.1 1)]) (rest := []) C0 hA hP hD hS (c_X6_refused l D cA ad (upd e12.1 8 (0 : Int32)) e12.2 (e12.1 1) r13 hr13) lk_X6_refused q690 s25 q688 0 6 rfl rfl hl.1 rfl rfl (Nat.le_of_ble_eq_true rfl) ⟨Nat.le_of_ble_eq_true rfl, Nat.le_of_ble_eq_true rfl⟩ ⟨Nat.le_refl _, Nat.le_refl _⟩ dX6_floor_211 (fun H locs hP hD hS => ?_)
              refine W.eq (g2 := F0 m 214 ls [.int r13.1]) rfl ?_
              have hF := Option.some.inj hF
              subst hF
              exact hE _ _ _ _ _ hP hD hS dX6_floor_214 rfl rfl
            have LP11 : ∀ (k11 : Nat) (t11 : (Int32 × tSI × tSA)), lp S_X6_floor_172 k11 t11 = some ox11 → ∀ (H : Heap) (locs : List Loc) (ls : Array Slot), va_P D vwCl (WM cA ad t11.2.1 t11.2.2) H → va_D A (WM cA ad t11.2.1 t11.2.2) → va_S A H0 H locs → lv_has ls 7 [(6, .int t11.1), (0, .ref (ad 0))] → W p l ee (rmx 4 100) s m args below meth c H locs 0 0 Q (F0 m 172 ls []) := by
              intro k11
              induction k11 with
              | zero => intro t11 hF; exact (lp_no hF).elim
              | succ k11 ih11 =>
                intro t11 hF H locs ls hP hD hS hl
                change S_X6_floor_172 (lp S_X6_floor_172 k11) t11 = some ox11 at hF
                unfold S_X6_floor_172 at hF
                refine lv_iload hx hb dX6_floor_172 (lv_at hl 0 rfl) ?_
                refine lv_aload_n hx hb dX6_floor_174 rfl (lv_at hl 1 rfl) ?_
                refine gM0_6 (v := (t11.2.1 2)) C0 hP rfl q586 dX6_floor_175 ?_
                refine lv_icmp_ge (tgt := 201) hx hb dX6_floor_178 (by decide) (fun c14 => ?_) (fun c14 => ?_)
                · have hF := (if_pos c14).symm.trans hF
                  exact JE11 _ (Option.some.inj hF).symm _ _ _ hP hD hS (lv_sub hl [1] rfl)
                · have hF := (if_neg c14).symm.trans hF
                  refine lv_aload_n hx hb dX6_floor_181 rfl (lv_at hl 1 rfl) ?_
                  refine gM0_7 C0 hP q587 dX6_floor_182 ?_
                  refine lv_iload hx hb dX6_floor_185 (lv_at hl 0 rfl) ?_
                  refine lv_aload_n hx hb dX6_floor_187 rfl (lv_at hl 1 rfl) ?_
                  refine gM0_15 C0 hP q595 dX6_floor_188 ?_
                  refine lv_iload hx hb dX6_floor_191 (lv_at hl 0 rfl) ?_
                  obtain ⟨hin, hF⟩ := ld_some hF
                  refine aMl9 (f := (t11.2.2 9)) C0 hP rfl hin dX6_floor_193 ?_
                  obtain ⟨hin, hF⟩ := ld_some hF
                  refine aMs4 (f := (t11.2.2 4)) C0 hP hD hS rfl hin dX6_floor_194 (fun H locs hP hD hS => ?_)
                  refine lv_iinc (v := (t11.1 + 1)) (lv' := [(6, .int (t11.1 + 1)), (0, .ref (ad 0))]) hx hb dX6_floor_195 hl (k := 0) rfl rfl (by decide) rfl (fun ls hl => ?_)
                  refine lv_goto (tgt := 172) hx hb dX6_floor_198 (by decide) ?_
                  exact ih11 _ hF _ _ _ hP hD hS (lv_sub hl [0, 1] rfl)
            exact LP11 _ _ hL11 _ _ _ hP hD hS (lv_sub hl [0, 1] rfl)
          have LP9 : ∀ (k9 : Nat) (t9 : (Int32 × tSI × tSA)), lp S_X6_floor_98 k9 t9 = some ox9 → ∀ (H : Heap) (locs : List Loc) (ls : Array Slot), va_P D vwCl (WM cA ad t9.2.1 t9.2.2) H → va_D A (WM cA ad t9.2.1 t9.2.2) → va_S A H0 H locs → lv_has ls 7 [(6, .int t9.1), (0, .ref (ad 0))] → W p l ee (rmx 4 100) s m args below meth c H locs 0 0 Q (F0 m 98 ls []) := by
            intro k9
            induction k9 with
            | zero => intro t9 hF; exact (lp_no hF).elim
            | succ k9 ih9 =>
              intro t9 hF H locs ls hP hD hS hl
              change S_X6_floor_98 (lp S_X6_floor_98 k9) t9 = some ox9 at hF
              unfold S_X6_floor_98 at hF
              refine lv_iload hx hb dX6_floor_98 (lv_at hl 0 rfl) ?_
              refine lv_aload_n hx hb dX6_floor_100 rfl (lv_at hl 1 rfl) ?_
              refine gM0_1 (v := (t9.2.1 1)) C0 hP rfl q581 dX6_floor_101 ?_
              refine lv_icmp_ge (tgt := 169) hx hb dX6_floor_104 (by decide) (fun c15 => ?_) (fun c15 => ?_)
              · have hF := (if_pos c15).symm.trans hF
                exact JE9 _ (Option.some.inj hF).symm _ _ _ hP hD hS (lv_sub hl [1] rfl)
              · have hF := (if_neg c15).symm.trans hF
                refine lv_aload_n hx hb dX6_floor_107 rfl (lv_at hl 1 rfl) ?_
                refine gM0_2 C0 hP q582 dX6_floor_108 ?_
                refine lv_iload hx hb dX6_floor_111 (lv_at hl 0 rfl) ?_
                refine lv_aload_n hx hb dX6_floor_113 rfl (lv_at hl 1 rfl) ?_
                refine gM0_11 C0 hP q591 dX6_floor_114 ?_
                refine lv_iload hx hb dX6_floor_117 (lv_at hl 0 rfl) ?_
                obtain ⟨hin, hF⟩ := ld_some hF
                refine aMl5 (f := (t9.2.2 5)) C0 hP rfl hin dX6_floor_119 ?_
                obtain ⟨hin, hF⟩ := ld_some hF
                refine aMs0 (f := (t9.2.2 0)) C0 hP hD hS rfl hin dX6_floor_120 (fun H locs hP hD hS => ?_)
                refine lv_aload_n hx hb dX6_floor_121 rfl (lv_at hl 1 rfl) ?_
                refine gM0_3 C0 hP q583 dX6_floor_122 ?_
                refine lv_iload hx hb dX6_floor_125 (lv_at hl 0 rfl) ?_
                refine lv_aload_n hx hb dX6_floor_127 rfl (lv_at hl 1 rfl) ?_
                refine gM0_12 C0 hP q592 dX6_floor_128 ?_
                refine lv_iload hx hb dX6_floor_131 (lv_at hl 0 rfl) ?_
                obtain ⟨hin, hF⟩ := ld_some hF
                refine aMl6 (f := (t9.2.2 6)) C0 hP rfl hin dX6_floor_133 ?_
                obtain ⟨hin, hF⟩ := ld_some hF
                refine aMs1 (f := (t9.2.2 1)) C0 hP hD hS rfl hin dX6_floor_134 (fun H locs hP hD hS => ?_)
                refine lv_aload_n hx hb dX6_floor_135 rfl (lv_at hl 1 rfl) ?_
                refine gM0_4 C0 hP q584 dX6_floor_136 ?_
                refine lv_iload hx hb dX6_floor_139 (lv_at hl 0 rfl) ?_
                refine lv_aload_n hx hb dX6_floor_141 rfl (lv_at hl 1 rfl) ?_
                refine gM0_13 C0 hP q593 dX6_floor_142 ?_
                refine lv_iload hx hb dX6_floor_145 (lv_at hl 0 rfl) ?_
                obtain ⟨hin, hF⟩ := ld_some hF
                refine aMl7 (f := (t9.2.2 7)) C0 hP rfl hin dX6_floor_147 ?_
                obtain ⟨hin, hF⟩ := ld_some hF
                refine aMs2 (f := (t9.2.2 2)) C0 hP hD hS rfl hin dX6_floor_148 (fun H locs hP hD hS => ?_)
                refine lv_aload_n hx hb dX6_floor_149 rfl (lv_at hl 1 rfl) ?_
                refine gM0_5 C0 hP q585 dX6_floor_150 ?_
                refine lv_iload hx hb dX6_floor_153 (lv_at hl 0 rfl) ?_
                refine lv_aload_n hx hb dX6_floor_155 rfl (lv_at hl 1 rfl) ?_
                refine gM0_14 C0 hP q594 dX6_floor_156 ?_
                refine lv_iload hx hb dX6_floor_159 (lv_at hl 0 rfl) ?_
                obtain ⟨hin, hF⟩ := ld_some hF
                refine aMl8 (f := (t9.2.2 8)) C0 hP rfl hin dX6_floor_161 ?_
                obtain ⟨hin, hF⟩ := ld_some hF
                refine aMs3 (f := (t9.2.2 3)) C0 hP hD hS rfl hin dX6_floor_162 (fun H locs hP hD hS => ?_)
                refine lv_iinc (v := (t9.1 + 1)) (lv' := [(6, .int (t9.1 + 1)), (0, .ref (ad 0))]) hx hb dX6_floor_163 hl (k := 0) rfl rfl (by decide) rfl (fun ls hl => ?_)
                refine lv_goto (tgt := 98) hx hb dX6_floor_166 (by decide) ?_
                exact ih9 _ hF _ _ _ hP hD hS (lv_sub hl [0, 1] rfl)
          exact LP9 _ _ hL9 _ _ _ hP hD hS (lv_sub hl [0, 2] rfl)
        · have hF := (if_pos c8).symm.trans hF
          refine lv_aload_n hx hb dX6_floor_67 rfl (lv_at hl 1 rfl) ?_
          refine lv_bipush (v := (-100 : Int32)) hx hb dX6_floor_68 (by decide) ?_
          refine lv_aload_n hx hb dX6_floor_70 rfl (lv_at hl 1 rfl) ?_
          refine gM0_8 (v := (r7.2.1 3)) C0 hP rfl q588 dX6_floor_71 ?_
          refine lv_isub hx hb dX6_floor_74 ?_
          obtain ⟨r16, hr16, hF⟩ := bd_some hF
          refine kcV (As := [.int ((-100 : Int32) - (r7.2.1 3))]) (rest := []) C0 hA hP hD hS (c_X6_refused l D cA ad r7.2.1 r7.2.2 ((-100 : Int32) - (r7.2.1 3)) r16 hr16) lk_X6_refused q690 s25 q688 0 6 rfl rfl hl.1 rfl rfl (Nat.le_of_ble_eq_true rfl) ⟨Nat.le_of_ble_eq_true rfl, Nat.le_of_ble_eq_true rfl⟩ ⟨Nat.le_refl _, Nat.le_refl _⟩ dX6_floor_75 (fun H locs hP hD hS => ?_)
          refine W.eq (g2 := F0 m 78 ls [.int r16.1]) rfl ?_
          have hF := Option.some.inj hF
          subst hF
          exact hE _ _ _ _ _ hP hD hS dX6_floor_78 rfl rfl
      · have hF := (if_neg c6).symm.trans hF
        refine lv_iload hx hb dX6_floor_49 (lv_at hl 0 rfl) ?_
        have hF := Option.some.inj hF
        subst hF
        exact hE _ _ _ _ _ hP hD hS dX6_floor_51 rfl rfl
    · have hF := (if_pos c4).symm.trans hF
      refine lv_aload_n hx hb dX6_floor_25 rfl (lv_at hl 0 rfl) ?_
      refine lv_bipush (v := (-2 : Int32)) hx hb dX6_floor_26 (by decide) ?_
      obtain ⟨r17, hr17, hF⟩ := bd_some hF
      refine kcV (As := [.int (-2 : Int32)]) (rest := []) C0 hA hP hD hS (c_X6_refused l D cA ad si sa (-2 : Int32) r17 hr17) lk_X6_refused q690 s25 q688 0 6 rfl rfl hl.1 rfl rfl (Nat.le_of_ble_eq_true rfl) ⟨Nat.le_of_ble_eq_true rfl, Nat.le_of_ble_eq_true rfl⟩ ⟨Nat.le_refl _, Nat.le_refl _⟩ dX6_floor_28 (fun H locs hP hD hS => ?_)
      refine W.eq (g2 := F0 m 31 ls [.int r17.1]) rfl ?_
      have hF := Option.some.inj hF
      subst hF
      exact hE _ _ _ _ _ hP hD hS dX6_floor_31 rfl rfl
  · have hF := (if_neg c2).symm.trans hF
    refine lv_aload_n hx hb dX6_floor_7 rfl (lv_at hl 0 rfl) ?_
    refine lv_iconst (v := (-1 : Int32)) hx hb dX6_floor_8 (by decide) ?_
    obtain ⟨r18, hr18, hF⟩ := bd_some hF
    refine kcV (As := [.int (-1 : Int32)]) (rest := []) C0 hA hP hD hS (c_X6_refused l D cA ad si sa (-1 : Int32) r18 hr18) lk_X6_refused q690 s25 q688 0 6 rfl rfl hl.1 rfl rfl (Nat.le_of_ble_eq_true rfl) ⟨Nat.le_of_ble_eq_true rfl, Nat.le_of_ble_eq_true rfl⟩ ⟨Nat.le_refl _, Nat.le_refl _⟩ dX6_floor_9 (fun H locs hP hD hS => ?_)
    refine W.eq (g2 := F0 m 12 ls [.int r18.1]) rfl ?_
    have hF := Option.some.inj hF
    subst hF
    exact hE _ _ _ _ _ hP hD hS dX6_floor_12 rfl rfl
theorem lk_X6_lookOf : LK yX6_lookOf cX6_lookOf 3 (some .int) 1 := ⟨q735, q7, by decide +kernel⟩
def F_X6_lookOf (a1 : Int32) (si : tSI) (sa : tSA) : Option Int32 :=
  ld a1 6 (ld a1 6 ((if ((sa 0) (Int32.toNatClampNeg a1)) = 0 then some ((sa 2) (Int32.toNatClampNeg a1)) else ld a1 6 ((if ((sa 0) (Int32.toNatClampNeg a1)) = (1 : Int32) then some (((sa 2) (Int32.toNatClampNeg a1)) + (1 : Int32)) else some ((2 : Int32) * (((sa 2) (Int32.toNatClampNeg a1)) + (1 : Int32))))))))
set_option maxHeartbeats 4000000 in
set_option maxRecDepth 100000 in
theorem c_X6_lookOf (l : Launch) (D : va_G) (cA : ClassId) (ad : Nat → Nat) (si : tSI) (sa : tSA) (a1 : Int32) (o : Int32) (hF : F_X6_lookOf a1 si sa = some o) : CG l yX6_lookOf cX6_lookOf 3 (some .int) 0 0 D cA [.ref (ad 0), .int a1] (WM cA ad si sa) (WM cA ad si sa) (some (.int o)) := by
  refine CG.ofi (by decide) (Nat.le_of_ble_eq_true rfl) ?_
  intro p ee s m args below meth c A Q H0 ls C0 hA hP hD hS hl hE
  have hl : lv_has ls 3 [(0, .ref (ad 0)), (1, .int a1)] := hl
  obtain ⟨hx, hb, hml, hown, ht, hK⟩ := id C0
  unfold F_X6_lookOf at hF
  refine lv_aload_n hx hb dX6_lookOf_0 rfl (lv_at hl 0 rfl) ?_
  refine gM0_4 C0 hP q584 dX6_lookOf_1 ?_
  refine lv_iload_n hx hb dX6_lookOf_4 rfl (lv_at hl 1 rfl) ?_
  obtain ⟨hin, hF⟩ := ld_some hF
  refine aMl2 (f := (sa 2)) C0 hP rfl hin dX6_lookOf_5 ?_
  refine lv_istore_n (lv' := [(2, .int ((sa 2) (Int32.toNatClampNeg a1))), (0, .ref (ad 0)), (1, .int a1)]) hx hb dX6_lookOf_6 rfl hl (by decide) rfl (fun ls hl => ?_)
  refine lv_aload_n hx hb dX6_lookOf_7 rfl (lv_at hl 1 rfl) ?_
  refine gM0_2 C0 hP q582 dX6_lookOf_8 ?_
  refine lv_iload_n hx hb dX6_lookOf_11 rfl (lv_at hl 2 rfl) ?_
  obtain ⟨hin, hF⟩ := ld_some hF
  refine aMl0 (f := (sa 0)) C0 hP rfl hin dX6_lookOf_12 ?_
  refine lv_if_ne (tgt := 20) hx hb dX6_lookOf_13 (by decide) (fun c1 => ?_) (fun c1 => ?_)
  · have hF := (if_neg c1).symm.trans hF
    refine lv_aload_n hx hb dX6_lookOf_20 rfl (lv_at hl 1 rfl) ?_
    refine gM0_2 C0 hP q582 dX6_lookOf_21 ?_
    refine lv_iload_n hx hb dX6_lookOf_24 rfl (lv_at hl 2 rfl) ?_
    obtain ⟨hin, hF⟩ := ld_some hF
    refine aMl0 (f := (sa 0)) C0 hP rfl hin dX6_lookOf_25 ?_
    refine lv_iconst (v := (1 : Int32)) hx hb dX6_lookOf_26 (by decide) ?_
    refine lv_icmp_ne (tgt := 36) hx hb dX6_lookOf_27 (by decide) (fun c2 => ?_) (fun c2 => ?_)
    · have hF := (if_neg c2).symm.trans hF
      refine lv_iconst (v := (2 : Int32)) hx hb dX6_lookOf_36 (by decide) ?_
      refine lv_iload_n hx hb dX6_lookOf_37 rfl (lv_at hl 0 rfl) ?_
      refine lv_iconst (v := (1 : Int32)) hx hb dX6_lookOf_38 (by decide) ?_
      refine lv_iadd hx hb dX6_lookOf_39 ?_
      refine lv_imul hx hb dX6_lookOf_40 ?_
      have hF := Option.some.inj hF
      exact hE _ _ _ _ _ hP hD hS dX6_lookOf_41 rfl hF
    · have hF := (if_pos c2).symm.trans hF
      refine lv_iload_n hx hb dX6_lookOf_30 rfl (lv_at hl 0 rfl) ?_
      refine lv_iconst (v := (1 : Int32)) hx hb dX6_lookOf_31 (by decide) ?_
      refine lv_iadd hx hb dX6_lookOf_32 ?_
      refine lv_goto (tgt := 41) hx hb dX6_lookOf_33 (by decide) ?_
      have hF := Option.some.inj hF
      exact hE _ _ _ _ _ hP hD hS dX6_lookOf_41 rfl hF
  · have hF := (if_pos c1).symm.trans hF
    refine lv_iload_n hx hb dX6_lookOf_16 rfl (lv_at hl 0 rfl) ?_
    refine lv_goto (tgt := 41) hx hb dX6_lookOf_17 (by decide) ?_
    have hF := Option.some.inj hF
    exact hE _ _ _ _ _ hP hD hS dX6_lookOf_41 rfl hF
theorem lk_X6_looksOf : LK yX6_looksOf cX6_looksOf 4 (some .int) 1 := ⟨q792, q7, by decide +kernel⟩
def S_X6_looksOf_4 (si : tSI) (a1 : Int32) (sa : tSA) (rec1 : ((Int32 × Int32) → Option Int32)) (t1 : (Int32 × Int32)) : Option Int32 :=
  (if (si 1) ≤ t1.1 then some t1.2 else (F_X6_isIn a1 t1.1).bind fun r4 => (if r4 = 0 then rec1 ((t1.1 + 1), (t1.2 + (0 : Int32))) else ld t1.1 6 ((F_X6_lookOf t1.1 si sa).bind fun r6 => rec1 ((t1.1 + 1), (t1.2 + (((sa 1) (Int32.toNatClampNeg t1.1)) * r6))))))
def F_X6_looksOf (a1 : Int32) (si : tSI) (sa : tSA) : Option Int32 :=
  (lp (S_X6_looksOf_4 si a1 sa) 100 ((0 : Int32), (0 : Int32))).bind fun (e2 : Int32) => some e2
set_option maxHeartbeats 4000000 in
set_option maxRecDepth 100000 in
theorem c_X6_looksOf (l : Launch) (D : va_G) (cA : ClassId) (ad : Nat → Nat) (si : tSI) (sa : tSA) (a1 : Int32) (o : Int32) (hF : F_X6_looksOf a1 si sa = some o) : CG l yX6_looksOf cX6_looksOf 4 (some .int) 1 22 D cA [.ref (ad 0), .int a1] (WM cA ad si sa) (WM cA ad si sa) (some (.int o)) := by
  refine CG.ofi (by decide) (Nat.le_of_ble_eq_true rfl) ?_
  intro p ee s m args below meth c A Q H0 ls C0 hA hP hD hS hl hE
  have hl : lv_has ls 4 [(0, .ref (ad 0)), (1, .int a1)] := hl
  obtain ⟨hx, hb, hml, hown, ht, hK⟩ := id C0
  unfold F_X6_looksOf at hF
  refine lv_iconst (v := (0 : Int32)) hx hb dX6_looksOf_0 (by decide) ?_
  refine lv_istore_n (lv' := [(2, .int (0 : Int32)), (0, .ref (ad 0)), (1, .int a1)]) hx hb dX6_looksOf_1 rfl hl (by decide) rfl (fun ls hl => ?_)
  refine lv_iconst (v := (0 : Int32)) hx hb dX6_looksOf_2 (by decide) ?_
  refine lv_istore_n (lv' := [(3, .int (0 : Int32)), (2, .int (0 : Int32)), (0, .ref (ad 0)), (1, .int a1)]) hx hb dX6_looksOf_3 rfl hl (by decide) rfl (fun ls hl => ?_)
  obtain ⟨ox1, hL1, hX1⟩ := bd_all hF
  have JE1 : ∀ (e2 : Int32), ox1 = e2 → ∀ (H : Heap) (locs : List Loc) (ls : Array Slot), va_P D vwCl (WM cA ad si sa) H → va_D A (WM cA ad si sa) → va_S A H0 H locs → lv_has ls 4 [(2, .int e2)] → W p l ee (rmx 1 22) s m args below meth c H locs 0 0 Q (F0 m 45 ls []) := by
    intro e2 he H locs ls hP hD hS hl
    have hF := hX1 _ he
    refine lv_iload_n hx hb dX6_looksOf_45 rfl (lv_at hl 0 rfl) ?_
    have hF := Option.some.inj hF
    exact hE _ _ _ _ _ hP hD hS dX6_looksOf_46 rfl hF
  have LP1 : ∀ (k1 : Nat) (t1 : (Int32 × Int32)), lp (S_X6_looksOf_4 si a1 sa) k1 t1 = some ox1 → ∀ (H : Heap) (locs : List Loc) (ls : Array Slot), va_P D vwCl (WM cA ad si sa) H → va_D A (WM cA ad si sa) → va_S A H0 H locs → lv_has ls 4 [(3, .int t1.1), (2, .int t1.2), (0, .ref (ad 0)), (1, .int a1)] → W p l ee (rmx 1 22) s m args below meth c H locs 0 0 Q (F0 m 4 ls []) := by
    intro k1
    induction k1 with
    | zero => intro t1 hF; exact (lp_no hF).elim
    | succ k1 ih1 =>
      intro t1 hF H locs ls hP hD hS hl
      change (S_X6_looksOf_4 si a1 sa) (lp (S_X6_looksOf_4 si a1 sa) k1) t1 = some ox1 at hF
      unfold S_X6_looksOf_4 at hF
      refine lv_iload_n hx hb dX6_looksOf_4 rfl (lv_at hl 0 rfl) ?_
      refine lv_aload_n hx hb dX6_looksOf_5 rfl (lv_at hl 2 rfl) ?_
      refine gM0_1 (v := (si 1)) C0 hP rfl q581 dX6_looksOf_6 ?_
      refine lv_icmp_ge (tgt := 45) hx hb dX6_looksOf_9 (by decide) (fun c3 => ?_) (fun c3 => ?_)
      · have hF := (if_pos c3).symm.trans hF
        exact JE1 _ (Option.some.inj hF).symm _ _ _ hP hD hS (lv_sub hl [1] rfl)
      · have hF := (if_neg c3).symm.trans hF
        refine lv_iload_n hx hb dX6_looksOf_12 rfl (lv_at hl 1 rfl) ?_
        refine lv_iload_n hx hb dX6_looksOf_13 rfl (lv_at hl 3 rfl) ?_
        refine lv_iload_n hx hb dX6_looksOf_14 rfl (lv_at hl 0 rfl) ?_
        obtain ⟨r4, hr4, hF⟩ := bd_some hF
        refine kcS (As := [.int a1, .int t1.1]) (rest := [.int t1.2]) C0 hA hP hD hS (c_X6_isIn l D cA ad si sa a1 t1.1 r4 hr4) lk_X6_isIn q787 q786 hl.1 rfl rfl (Nat.le_of_ble_eq_true rfl) ⟨Nat.le_of_ble_eq_true rfl, Nat.le_of_ble_eq_true rfl⟩ ⟨Nat.le_refl _, Nat.le_refl _⟩ dX6_looksOf_15 (fun H locs hP hD hS => ?_)
        refine W.eq (g2 := F0 m 18 ls [.int r4, .int t1.2]) rfl ?_
        refine lv_if_eq (tgt := 36) hx hb dX6_looksOf_18 (by decide) (fun c5 => ?_) (fun c5 => ?_)
        · have hF := (if_pos c5).symm.trans hF
          refine lv_iconst (v := (0 : Int32)) hx hb dX6_looksOf_36 (by decide) ?_
          refine lv_iadd hx hb dX6_looksOf_37 ?_
          refine lv_istore_n (lv' := [(2, .int (t1.2 + (0 : Int32))), (3, .int t1.1), (0, .ref (ad 0)), (1, .int a1)]) hx hb dX6_looksOf_38 rfl hl (by decide) rfl (fun ls hl => ?_)
          refine lv_iinc (v := (t1.1 + 1)) (lv' := [(3, .int (t1.1 + 1)), (2, .int (t1.2 + (0 : Int32))), (0, .ref (ad 0)), (1, .int a1)]) hx hb dX6_looksOf_39 hl (k := 1) rfl rfl (by decide) rfl (fun ls hl => ?_)
          refine lv_goto (tgt := 4) hx hb dX6_looksOf_42 (by decide) ?_
          exact ih1 _ hF _ _ _ hP hD hS (lv_sub hl [0, 1, 2, 3] rfl)
        · have hF := (if_neg c5).symm.trans hF
          refine lv_aload_n hx hb dX6_looksOf_21 rfl (lv_at hl 2 rfl) ?_
          refine gM0_3 C0 hP q583 dX6_looksOf_22 ?_
          refine lv_iload_n hx hb dX6_looksOf_25 rfl (lv_at hl 0 rfl) ?_
          obtain ⟨hin, hF⟩ := ld_some hF
          refine aMl1 (f := (sa 1)) C0 hP rfl hin dX6_looksOf_26 ?_
          refine lv_aload_n hx hb dX6_looksOf_27 rfl (lv_at hl 2 rfl) ?_
          refine lv_iload_n hx hb dX6_looksOf_28 rfl (lv_at hl 0 rfl) ?_
          obtain ⟨r6, hr6, hF⟩ := bd_some hF
          refine kcV (As := [.int t1.1]) (rest := [.int ((sa 1) (Int32.toNatClampNeg t1.1)), .int t1.2]) C0 hA hP hD hS (c_X6_lookOf l D cA ad si sa t1.1 r6 hr6) lk_X6_lookOf q734 s34 q732 0 6 rfl rfl hl.1 rfl rfl (Nat.le_of_ble_eq_true rfl) ⟨Nat.le_of_ble_eq_true rfl, Nat.le_of_ble_eq_true rfl⟩ ⟨Nat.le_refl _, Nat.le_refl _⟩ dX6_looksOf_29 (fun H locs hP hD hS => ?_)
          refine W.eq (g2 := F0 m 32 ls [.int r6, .int ((sa 1) (Int32.toNatClampNeg t1.1)), .int t1.2]) rfl ?_
          refine lv_imul hx hb dX6_looksOf_32 ?_
          refine lv_goto (tgt := 37) hx hb dX6_looksOf_33 (by decide) ?_
          refine lv_iadd hx hb dX6_looksOf_37 ?_
          refine lv_istore_n (lv' := [(2, .int (t1.2 + (((sa 1) (Int32.toNatClampNeg t1.1)) * r6))), (3, .int t1.1), (0, .ref (ad 0)), (1, .int a1)]) hx hb dX6_looksOf_38 rfl hl (by decide) rfl (fun ls hl => ?_)
          refine lv_iinc (v := (t1.1 + 1)) (lv' := [(3, .int (t1.1 + 1)), (2, .int (t1.2 + (((sa 1) (Int32.toNatClampNeg t1.1)) * r6))), (0, .ref (ad 0)), (1, .int a1)]) hx hb dX6_looksOf_39 hl (k := 1) rfl rfl (by decide) rfl (fun ls hl => ?_)
          refine lv_goto (tgt := 4) hx hb dX6_looksOf_42 (by decide) ?_
          exact ih1 _ hF _ _ _ hP hD hS (lv_sub hl [0, 1, 2, 3] rfl)
  exact LP1 _ _ hL1 _ _ _ hP hD hS (lv_sub hl [0, 1, 2, 3] rfl)
theorem lk_X6_ofSort : LK yX6_ofSort cX6_ofSort 3 (some .int) 2 := ⟨q727, q7, by decide +kernel⟩
def F_X6_ofSort (a1 : Int32) (a2 : Int32) (si : tSI) (sa : tSA) : Option Int32 :=
  (F_X6_noSort a1 si sa).bind fun r1 => (if r1 = 0 then (if a2 = 0 then ld a1 6 (some ((sa 0) (Int32.toNatClampNeg a1))) else (if a2 = 1 then ld a1 6 (some ((sa 1) (Int32.toNatClampNeg a1))) else (if a2 = 2 then ld a1 6 (some ((sa 2) (Int32.toNatClampNeg a1))) else (if a2 = 3 then ld a1 6 (some ((sa 3) (Int32.toNatClampNeg a1))) else (if a2 = 4 then (F_X6_lookOf a1 si sa).bind fun r8 => some r8 else some (-2 : Int32)))))) else some (-1 : Int32))
set_option maxHeartbeats 4000000 in
set_option maxRecDepth 100000 in
theorem c_X6_ofSort (l : Launch) (D : va_G) (cA : ClassId) (ad : Nat → Nat) (si : tSI) (sa : tSA) (a1 : Int32) (a2 : Int32) (o : Int32) (hF : F_X6_ofSort a1 a2 si sa = some o) : CG l yX6_ofSort cX6_ofSort 3 (some .int) 2 46 D cA [.ref (ad 0), .int a1, .int a2] (WM cA ad si sa) (WM cA ad si sa) (some (.int o)) := by
  refine CG.ofi (by decide) (Nat.le_of_ble_eq_true rfl) ?_
  intro p ee s m args below meth c A Q H0 ls C0 hA hP hD hS hl hE
  have hl : lv_has ls 3 [(0, .ref (ad 0)), (1, .int a1), (2, .int a2)] := hl
  obtain ⟨hx, hb, hml, hown, ht, hK⟩ := id C0
  unfold F_X6_ofSort at hF
  refine lv_aload_n hx hb dX6_ofSort_0 rfl (lv_at hl 0 rfl) ?_
  refine lv_iload_n hx hb dX6_ofSort_1 rfl (lv_at hl 1 rfl) ?_
  obtain ⟨r1, hr1, hF⟩ := bd_some hF
  refine kcV (As := [.int a1]) (rest := []) C0 hA hP hD hS (c_X6_noSort l D cA ad si sa a1 r1 hr1) lk_X6_noSort q730 s33 q728 0 6 rfl rfl hl.1 rfl rfl (Nat.le_of_ble_eq_true rfl) ⟨Nat.le_of_ble_eq_true rfl, Nat.le_of_ble_eq_true rfl⟩ ⟨Nat.le_refl _, Nat.le_refl _⟩ dX6_ofSort_2 (fun H locs hP hD hS => ?_)
  refine W.eq (g2 := F0 m 5 ls [.int r1]) rfl ?_
  refine lv_if_eq (tgt := 10) hx hb dX6_ofSort_5 (by decide) (fun c2 => ?_) (fun c2 => ?_)
  · have hF := (if_pos c2).symm.trans hF
    refine lv_iload_n hx hb dX6_ofSort_10 rfl (lv_at hl 2 rfl) ?_
    rcases Decidable.em (a2 = 0) with c3 | c3
    · have hF := (if_pos c3).symm.trans hF
      refine lv_tableIn (off := 33) (tgt := 44) hx hb dX6_ofSort_11 (by rw [c3]; decide) (by rw [c3]; decide) (by rw [c3]; rfl) (by decide) ?_
      refine lv_aload_n hx hb dX6_ofSort_44 rfl (lv_at hl 0 rfl) ?_
      refine gM0_2 C0 hP q582 dX6_ofSort_45 ?_
      refine lv_iload_n hx hb dX6_ofSort_48 rfl (lv_at hl 1 rfl) ?_
      obtain ⟨hin, hF⟩ := ld_some hF
      refine aMl0 (f := (sa 0)) C0 hP rfl hin dX6_ofSort_49 ?_
      have hF := Option.some.inj hF
      exact hE _ _ _ _ _ hP hD hS dX6_ofSort_50 rfl hF
    · have hF := (if_neg c3).symm.trans hF
      rcases Decidable.em (a2 = 1) with c4 | c4
      · have hF := (if_pos c4).symm.trans hF
        refine lv_tableIn (off := 40) (tgt := 51) hx hb dX6_ofSort_11 (by rw [c4]; decide) (by rw [c4]; decide) (by rw [c4]; rfl) (by decide) ?_
        refine lv_aload_n hx hb dX6_ofSort_51 rfl (lv_at hl 0 rfl) ?_
        refine gM0_3 C0 hP q583 dX6_ofSort_52 ?_
        refine lv_iload_n hx hb dX6_ofSort_55 rfl (lv_at hl 1 rfl) ?_
        obtain ⟨hin, hF⟩ := ld_some hF
        refine aMl1 (f := (sa 1)) C0 hP rfl hin dX6_ofSort_56 ?_
        have hF := Option.some.inj hF
        exact hE _ _ _ _ _ hP hD hS dX6_ofSort_57 rfl hF
      · have hF := (if_neg c4).symm.trans hF
        rcases Decidable.em (a2 = 2) with c5 | c5
        · have hF := (if_pos c5).symm.trans hF
          refine lv_tableIn (off := 47) (tgt := 58) hx hb dX6_ofSort_11 (by rw [c5]; decide) (by rw [c5]; decide) (by rw [c5]; rfl) (by decide) ?_
          refine lv_aload_n hx hb dX6_ofSort_58 rfl (lv_at hl 0 rfl) ?_
          refine gM0_4 C0 hP q584 dX6_ofSort_59 ?_
          refine lv_iload_n hx hb dX6_ofSort_62 rfl (lv_at hl 1 rfl) ?_
          obtain ⟨hin, hF⟩ := ld_some hF
          refine aMl2 (f := (sa 2)) C0 hP rfl hin dX6_ofSort_63 ?_
          have hF := Option.some.inj hF
          exact hE _ _ _ _ _ hP hD hS dX6_ofSort_64 rfl hF
        · have hF := (if_neg c5).symm.trans hF
          rcases Decidable.em (a2 = 3) with c6 | c6
          · have hF := (if_pos c6).symm.trans hF
            refine lv_tableIn (off := 54) (tgt := 65) hx hb dX6_ofSort_11 (by rw [c6]; decide) (by rw [c6]; decide) (by rw [c6]; rfl) (by decide) ?_
            refine lv_aload_n hx hb dX6_ofSort_65 rfl (lv_at hl 0 rfl) ?_
            refine gM0_5 C0 hP q585 dX6_ofSort_66 ?_
            refine lv_iload_n hx hb dX6_ofSort_69 rfl (lv_at hl 1 rfl) ?_
            obtain ⟨hin, hF⟩ := ld_some hF
            refine aMl3 (f := (sa 3)) C0 hP rfl hin dX6_ofSort_70 ?_
            have hF := Option.some.inj hF
            exact hE _ _ _ _ _ hP hD hS dX6_ofSort_71 rfl hF
          · have hF := (if_neg c6).symm.trans hF
            rcases Decidable.em (a2 = 4) with c7 | c7
            · have hF := (if_pos c7).symm.trans hF
              refine lv_tableIn (off := 61) (tgt := 72) hx hb dX6_ofSort_11 (by rw [c7]; decide) (by rw [c7]; decide) (by rw [c7]; rfl) (by decide) ?_
              refine lv_aload_n hx hb dX6_ofSort_72 rfl (lv_at hl 0 rfl) ?_
              refine lv_iload_n hx hb dX6_ofSort_73 rfl (lv_at hl 1 rfl) ?_
              obtain ⟨r8, hr8, hF⟩ := bd_some hF
              refine kcV (As := [.int a1]) (rest := []) C0 hA hP hD hS (c_X6_lookOf l D cA ad si sa a1 r8 hr8) lk_X6_lookOf q734 s34 q732 0 6 rfl rfl hl.1 rfl rfl (Nat.le_of_ble_eq_true rfl) ⟨Nat.le_of_ble_eq_true rfl, Nat.le_of_ble_eq_true rfl⟩ ⟨Nat.le_refl _, Nat.le_refl _⟩ dX6_ofSort_74 (fun H locs hP hD hS => ?_)
              refine W.eq (g2 := F0 m 77 ls [.int r8]) rfl ?_
              have hF := Option.some.inj hF
              exact hE _ _ _ _ _ hP hD hS dX6_ofSort_77 rfl hF
            · have hF := (if_neg c7).symm.trans hF
              have hout : (Int32.toInt a2) < 0 ∨ 4 < (Int32.toInt a2) := by
                have hc3 := ne_toIntk (0) (0) (by decide) c3
                have hc4 := ne_toIntk (1) (1) (by decide) c4
                have hc5 := ne_toIntk (2) (2) (by decide) c5
                have hc6 := ne_toIntk (3) (3) (by decide) c6
                have hc7 := ne_toIntk (4) (4) (by decide) c7
                omega
              refine lv_tableOut (tgt := 78) hx hb dX6_ofSort_11 hout (by decide) ?_
              refine lv_bipush (v := (-2 : Int32)) hx hb dX6_ofSort_78 (by decide) ?_
              have hF := Option.some.inj hF
              exact hE _ _ _ _ _ hP hD hS dX6_ofSort_80 rfl hF
  · have hF := (if_neg c2).symm.trans hF
    refine lv_iconst (v := (-1 : Int32)) hx hb dX6_ofSort_8 (by decide) ?_
    have hF := Option.some.inj hF
    exact hE _ _ _ _ _ hP hD hS dX6_ofSort_9 rfl hF
theorem lk_X6_ofSign : LK yX6_ofSign cX6_ofSign 2 (some .int) 1 := ⟨q739, q7, by decide +kernel⟩
def F_X6_ofSign (a1 : Int32) (si : tSI) (sa : tSA) : Option Int32 :=
  (F_X6_noSign a1 si sa).bind fun r1 => (if r1 = 0 then ld a1 5 ((F_X6_all si sa).bind fun r3 => some (((sa 4) (Int32.toNatClampNeg a1)) &&& r3)) else some (-1 : Int32))
set_option maxHeartbeats 4000000 in
set_option maxRecDepth 100000 in
theorem c_X6_ofSign (l : Launch) (D : va_G) (cA : ClassId) (ad : Nat → Nat) (si : tSI) (sa : tSA) (a1 : Int32) (o : Int32) (hF : F_X6_ofSign a1 si sa = some o) : CG l yX6_ofSign cX6_ofSign 2 (some .int) 2 46 D cA [.ref (ad 0), .int a1] (WM cA ad si sa) (WM cA ad si sa) (some (.int o)) := by
  refine CG.ofi (by decide) (Nat.le_of_ble_eq_true rfl) ?_
  intro p ee s m args below meth c A Q H0 ls C0 hA hP hD hS hl hE
  have hl : lv_has ls 2 [(0, .ref (ad 0)), (1, .int a1)] := hl
  obtain ⟨hx, hb, hml, hown, ht, hK⟩ := id C0
  unfold F_X6_ofSign at hF
  refine lv_aload_n hx hb dX6_ofSign_0 rfl (lv_at hl 0 rfl) ?_
  refine lv_iload_n hx hb dX6_ofSign_1 rfl (lv_at hl 1 rfl) ?_
  obtain ⟨r1, hr1, hF⟩ := bd_some hF
  refine kcV (As := [.int a1]) (rest := []) C0 hA hP hD hS (c_X6_noSign l D cA ad si sa a1 r1 hr1) lk_X6_noSign q742 s35 q740 0 6 rfl rfl hl.1 rfl rfl (Nat.le_of_ble_eq_true rfl) ⟨Nat.le_of_ble_eq_true rfl, Nat.le_of_ble_eq_true rfl⟩ ⟨Nat.le_refl _, Nat.le_refl _⟩ dX6_ofSign_2 (fun H locs hP hD hS => ?_)
  refine W.eq (g2 := F0 m 5 ls [.int r1]) rfl ?_
  refine lv_if_eq (tgt := 12) hx hb dX6_ofSign_5 (by decide) (fun c2 => ?_) (fun c2 => ?_)
  · have hF := (if_pos c2).symm.trans hF
    refine lv_aload_n hx hb dX6_ofSign_12 rfl (lv_at hl 0 rfl) ?_
    refine gM0_7 C0 hP q587 dX6_ofSign_13 ?_
    refine lv_iload_n hx hb dX6_ofSign_16 rfl (lv_at hl 1 rfl) ?_
    obtain ⟨hin, hF⟩ := ld_some hF
    refine aMl4 (f := (sa 4)) C0 hP rfl hin dX6_ofSign_17 ?_
    refine lv_aload_n hx hb dX6_ofSign_18 rfl (lv_at hl 0 rfl) ?_
    obtain ⟨r3, hr3, hF⟩ := bd_some hF
    refine kcV (As := []) (rest := [.int ((sa 4) (Int32.toNatClampNeg a1))]) C0 hA hP hD hS (c_X6_all l D cA ad si sa r3 hr3) lk_X6_all q746 s36 q744 0 6 rfl rfl hl.1 rfl rfl (Nat.le_of_ble_eq_true rfl) ⟨Nat.le_of_ble_eq_true rfl, Nat.le_of_ble_eq_true rfl⟩ ⟨Nat.le_refl _, Nat.le_refl _⟩ dX6_ofSign_19 (fun H locs hP hD hS => ?_)
    refine W.eq (g2 := F0 m 22 ls [.int r3, .int ((sa 4) (Int32.toNatClampNeg a1))]) rfl ?_
    refine lv_iand hx hb dX6_ofSign_22 ?_
    have hF := Option.some.inj hF
    exact hE _ _ _ _ _ hP hD hS dX6_ofSign_23 rfl hF
  · have hF := (if_neg c2).symm.trans hF
    refine lv_iconst (v := (-1 : Int32)) hx hb dX6_ofSign_8 (by decide) ?_
    refine lv_goto (tgt := 23) hx hb dX6_ofSign_9 (by decide) ?_
    have hF := Option.some.inj hF
    exact hE _ _ _ _ _ hP hD hS dX6_ofSign_23 rfl hF
theorem lk_X6_lay : LK yX6_lay cX6_lay 4 (some .int) 2 := ⟨q751, q7, by decide +kernel⟩
def F_X6_lay (a1 : Int32) (a2 : Int32) (si : tSI) (sa : tSA) : Option (Int32 × tSI × tSA) :=
  (F_X6_noSort a1 si sa).bind fun r1 => (if r1 = 0 then (F_X6_in (Int32.toInt64 a2) (0 : Int64) (9 : Int64)).bind fun r3 => (if r3 = 0 then some ((-2 : Int32), si, sa) else ld a1 6 (ld a1 6 (some (((sa 1) (Int32.toNatClampNeg a1)), si, (va_up sa 1 (upd (sa 1) (Int32.toNatClampNeg a1) a2)))))) else some ((-1 : Int32), si, sa))
set_option maxHeartbeats 4000000 in
set_option maxRecDepth 100000 in
theorem c_X6_lay (l : Launch) (D : va_G) (cA : ClassId) (ad : Nat → Nat) (si : tSI) (sa : tSA) (a1 : Int32) (a2 : Int32) (o : (Int32 × tSI × tSA)) (hF : F_X6_lay a1 a2 si sa = some o) : CG l yX6_lay cX6_lay 4 (some .int) 2 46 D cA [.ref (ad 0), .int a1, .int a2] (WM cA ad si sa) (WM cA ad o.2.1 o.2.2) (some (.int o.1)) := by
  refine CG.ofi (by decide) (Nat.le_of_ble_eq_true rfl) ?_
  intro p ee s m args below meth c A Q H0 ls C0 hA hP hD hS hl hE
  have hl : lv_has ls 4 [(0, .ref (ad 0)), (1, .int a1), (2, .int a2)] := hl
  obtain ⟨hx, hb, hml, hown, ht, hK⟩ := id C0
  unfold F_X6_lay at hF
  refine lv_aload_n hx hb dX6_lay_0 rfl (lv_at hl 0 rfl) ?_
  refine lv_iload_n hx hb dX6_lay_1 rfl (lv_at hl 1 rfl) ?_
  obtain ⟨r1, hr1, hF⟩ := bd_some hF
  refine kcV (As := [.int a1]) (rest := []) C0 hA hP hD hS (c_X6_noSort l D cA ad si sa a1 r1 hr1) lk_X6_noSort q730 s33 q728 0 6 rfl rfl hl.1 rfl rfl (Nat.le_of_ble_eq_true rfl) ⟨Nat.le_of_ble_eq_true rfl, Nat.le_of_ble_eq_true rfl⟩ ⟨Nat.le_refl _, Nat.le_refl _⟩ dX6_lay_2 (fun H locs hP hD hS => ?_)
  refine W.eq (g2 := F0 m 5 ls [.int r1]) rfl ?_
  refine lv_if_eq (tgt := 10) hx hb dX6_lay_5 (by decide) (fun c2 => ?_) (fun c2 => ?_)
  · have hF := (if_pos c2).symm.trans hF
    refine lv_iload_n hx hb dX6_lay_10 rfl (lv_at hl 2 rfl) ?_
    refine lv_i2l hx hb dX6_lay_11 rfl ?_
    refine lv_lconst (v := (0 : Int64)) hx hb dX6_lay_12 (by decide) ?_
    refine lv_ldc2 (v := (9 : Int64)) hx hb hown (ht _ q752) dX6_lay_13 ?_
    obtain ⟨r3, hr3, hF⟩ := bd_some hF
    refine kcS (As := [.long (Int32.toInt64 a2), .long (0 : Int64), .long (9 : Int64)]) (rest := []) C0 hA hP hD hS (c_X6_in l D cA ad si sa (Int32.toInt64 a2) (0 : Int64) (9 : Int64) r3 hr3) lk_X6_in q686 q685 hl.1 rfl rfl (Nat.le_of_ble_eq_true rfl) ⟨Nat.le_of_ble_eq_true rfl, Nat.le_of_ble_eq_true rfl⟩ ⟨Nat.le_refl _, Nat.le_refl _⟩ dX6_lay_16 (fun H locs hP hD hS => ?_)
    refine W.eq (g2 := F0 m 19 ls [.int r3]) rfl ?_
    refine lv_if_ne (tgt := 25) hx hb dX6_lay_19 (by decide) (fun c4 => ?_) (fun c4 => ?_)
    · have hF := (if_neg c4).symm.trans hF
      refine lv_aload_n hx hb dX6_lay_25 rfl (lv_at hl 0 rfl) ?_
      refine gM0_3 C0 hP q583 dX6_lay_26 ?_
      refine lv_iload_n hx hb dX6_lay_29 rfl (lv_at hl 1 rfl) ?_
      obtain ⟨hin, hF⟩ := ld_some hF
      refine aMl1 (f := (sa 1)) C0 hP rfl hin dX6_lay_30 ?_
      refine lv_istore_n (lv' := [(3, .int ((sa 1) (Int32.toNatClampNeg a1))), (0, .ref (ad 0)), (1, .int a1), (2, .int a2)]) hx hb dX6_lay_31 rfl hl (by decide) rfl (fun ls hl => ?_)
      refine lv_aload_n hx hb dX6_lay_32 rfl (lv_at hl 1 rfl) ?_
      refine gM0_3 C0 hP q583 dX6_lay_33 ?_
      refine lv_iload_n hx hb dX6_lay_36 rfl (lv_at hl 2 rfl) ?_
      refine lv_iload_n hx hb dX6_lay_37 rfl (lv_at hl 3 rfl) ?_
      obtain ⟨hin, hF⟩ := ld_some hF
      refine aMs1 (f := (sa 1)) C0 hP hD hS rfl hin dX6_lay_38 (fun H locs hP hD hS => ?_)
      refine lv_iload_n hx hb dX6_lay_39 rfl (lv_at hl 0 rfl) ?_
      have hF := Option.some.inj hF
      subst hF
      exact hE _ _ _ _ _ hP hD hS dX6_lay_40 rfl rfl
    · have hF := (if_pos c4).symm.trans hF
      refine lv_bipush (v := (-2 : Int32)) hx hb dX6_lay_22 (by decide) ?_
      have hF := Option.some.inj hF
      subst hF
      exact hE _ _ _ _ _ hP hD hS dX6_lay_24 rfl rfl
  · have hF := (if_neg c2).symm.trans hF
    refine lv_iconst (v := (-1 : Int32)) hx hb dX6_lay_8 (by decide) ?_
    have hF := Option.some.inj hF
    subst hF
    exact hE _ _ _ _ _ hP hD hS dX6_lay_9 rfl rfl
theorem lk_X6_sign : LK yX6_sign cX6_sign 4 (some .int) 2 := ⟨q756, q7, by decide +kernel⟩
def F_X6_sign (a1 : Int32) (a2 : Int32) (si : tSI) (sa : tSA) : Option (Int32 × tSI × tSA) :=
  (F_X6_noSign a1 si sa).bind fun r1 => (if r1 = 0 then (F_X6_in (Int32.toInt64 a2) (0 : Int64) (63 : Int64)).bind fun r3 => (if r3 = 0 then some ((-2 : Int32), si, sa) else ld a1 5 ((F_X6_all si sa).bind fun r5 => ld a1 5 (some ((((sa 4) (Int32.toNatClampNeg a1)) &&& r5), si, (va_up sa 4 (upd (sa 4) (Int32.toNatClampNeg a1) a2)))))) else some ((-1 : Int32), si, sa))
set_option maxHeartbeats 4000000 in
set_option maxRecDepth 100000 in
theorem c_X6_sign (l : Launch) (D : va_G) (cA : ClassId) (ad : Nat → Nat) (si : tSI) (sa : tSA) (a1 : Int32) (a2 : Int32) (o : (Int32 × tSI × tSA)) (hF : F_X6_sign a1 a2 si sa = some o) : CG l yX6_sign cX6_sign 4 (some .int) 2 46 D cA [.ref (ad 0), .int a1, .int a2] (WM cA ad si sa) (WM cA ad o.2.1 o.2.2) (some (.int o.1)) := by
  refine CG.ofi (by decide) (Nat.le_of_ble_eq_true rfl) ?_
  intro p ee s m args below meth c A Q H0 ls C0 hA hP hD hS hl hE
  have hl : lv_has ls 4 [(0, .ref (ad 0)), (1, .int a1), (2, .int a2)] := hl
  obtain ⟨hx, hb, hml, hown, ht, hK⟩ := id C0
  unfold F_X6_sign at hF
  refine lv_aload_n hx hb dX6_sign_0 rfl (lv_at hl 0 rfl) ?_
  refine lv_iload_n hx hb dX6_sign_1 rfl (lv_at hl 1 rfl) ?_
  obtain ⟨r1, hr1, hF⟩ := bd_some hF
  refine kcV (As := [.int a1]) (rest := []) C0 hA hP hD hS (c_X6_noSign l D cA ad si sa a1 r1 hr1) lk_X6_noSign q742 s35 q740 0 6 rfl rfl hl.1 rfl rfl (Nat.le_of_ble_eq_true rfl) ⟨Nat.le_of_ble_eq_true rfl, Nat.le_of_ble_eq_true rfl⟩ ⟨Nat.le_refl _, Nat.le_refl _⟩ dX6_sign_2 (fun H locs hP hD hS => ?_)
  refine W.eq (g2 := F0 m 5 ls [.int r1]) rfl ?_
  refine lv_if_eq (tgt := 10) hx hb dX6_sign_5 (by decide) (fun c2 => ?_) (fun c2 => ?_)
  · have hF := (if_pos c2).symm.trans hF
    refine lv_iload_n hx hb dX6_sign_10 rfl (lv_at hl 2 rfl) ?_
    refine lv_i2l hx hb dX6_sign_11 rfl ?_
    refine lv_lconst (v := (0 : Int64)) hx hb dX6_sign_12 (by decide) ?_
    refine lv_ldc2 (v := (63 : Int64)) hx hb hown (ht _ q757) dX6_sign_13 ?_
    obtain ⟨r3, hr3, hF⟩ := bd_some hF
    refine kcS (As := [.long (Int32.toInt64 a2), .long (0 : Int64), .long (63 : Int64)]) (rest := []) C0 hA hP hD hS (c_X6_in l D cA ad si sa (Int32.toInt64 a2) (0 : Int64) (63 : Int64) r3 hr3) lk_X6_in q686 q685 hl.1 rfl rfl (Nat.le_of_ble_eq_true rfl) ⟨Nat.le_of_ble_eq_true rfl, Nat.le_of_ble_eq_true rfl⟩ ⟨Nat.le_refl _, Nat.le_refl _⟩ dX6_sign_16 (fun H locs hP hD hS => ?_)
    refine W.eq (g2 := F0 m 19 ls [.int r3]) rfl ?_
    refine lv_if_ne (tgt := 25) hx hb dX6_sign_19 (by decide) (fun c4 => ?_) (fun c4 => ?_)
    · have hF := (if_neg c4).symm.trans hF
      refine lv_aload_n hx hb dX6_sign_25 rfl (lv_at hl 0 rfl) ?_
      refine gM0_7 C0 hP q587 dX6_sign_26 ?_
      refine lv_iload_n hx hb dX6_sign_29 rfl (lv_at hl 1 rfl) ?_
      obtain ⟨hin, hF⟩ := ld_some hF
      refine aMl4 (f := (sa 4)) C0 hP rfl hin dX6_sign_30 ?_
      refine lv_aload_n hx hb dX6_sign_31 rfl (lv_at hl 0 rfl) ?_
      obtain ⟨r5, hr5, hF⟩ := bd_some hF
      refine kcV (As := []) (rest := [.int ((sa 4) (Int32.toNatClampNeg a1))]) C0 hA hP hD hS (c_X6_all l D cA ad si sa r5 hr5) lk_X6_all q746 s36 q744 0 6 rfl rfl hl.1 rfl rfl (Nat.le_of_ble_eq_true rfl) ⟨Nat.le_of_ble_eq_true rfl, Nat.le_of_ble_eq_true rfl⟩ ⟨Nat.le_refl _, Nat.le_refl _⟩ dX6_sign_32 (fun H locs hP hD hS => ?_)
      refine W.eq (g2 := F0 m 35 ls [.int r5, .int ((sa 4) (Int32.toNatClampNeg a1))]) rfl ?_
      refine lv_iand hx hb dX6_sign_35 ?_
      refine lv_istore_n (lv' := [(3, .int (((sa 4) (Int32.toNatClampNeg a1)) &&& r5)), (0, .ref (ad 0)), (1, .int a1), (2, .int a2)]) hx hb dX6_sign_36 rfl hl (by decide) rfl (fun ls hl => ?_)
      refine lv_aload_n hx hb dX6_sign_37 rfl (lv_at hl 1 rfl) ?_
      refine gM0_7 C0 hP q587 dX6_sign_38 ?_
      refine lv_iload_n hx hb dX6_sign_41 rfl (lv_at hl 2 rfl) ?_
      refine lv_iload_n hx hb dX6_sign_42 rfl (lv_at hl 3 rfl) ?_
      obtain ⟨hin, hF⟩ := ld_some hF
      refine aMs4 (f := (sa 4)) C0 hP hD hS rfl hin dX6_sign_43 (fun H locs hP hD hS => ?_)
      refine lv_iload_n hx hb dX6_sign_44 rfl (lv_at hl 0 rfl) ?_
      have hF := Option.some.inj hF
      subst hF
      exact hE _ _ _ _ _ hP hD hS dX6_sign_45 rfl rfl
    · have hF := (if_pos c4).symm.trans hF
      refine lv_bipush (v := (-2 : Int32)) hx hb dX6_sign_22 (by decide) ?_
      have hF := Option.some.inj hF
      subst hF
      exact hE _ _ _ _ _ hP hD hS dX6_sign_24 rfl rfl
  · have hF := (if_neg c2).symm.trans hF
    refine lv_iconst (v := (-1 : Int32)) hx hb dX6_sign_8 (by decide) ?_
    have hF := Option.some.inj hF
    subst hF
    exact hE _ _ _ _ _ hP hD hS dX6_sign_9 rfl rfl
theorem lk_X6_begin : LK yX6_begin cX6_begin 2 none 0 := ⟨q777, q7, by decide +kernel⟩
def S_X6_begin_2 (rec1 : ((Int32 × tSI × tSA) → Option (tSI × tSA))) (t1 : (Int32 × tSI × tSA)) : Option (tSI × tSA) :=
  (if (t1.2.1 1) ≤ t1.1 then some (t1.2.1, t1.2.2) else (F_X6_all t1.2.1 t1.2.2).bind fun r4 => ld t1.1 6 (ld t1.1 6 (rec1 ((t1.1 + 1), t1.2.1, (va_up (va_up t1.2.2 10 (upd (t1.2.2 10) (Int32.toNatClampNeg t1.1) r4)) 11 (upd (t1.2.2 11) (Int32.toNatClampNeg t1.1) (-9 : Int32)))))))
def F_X6_begin (si : tSI) (sa : tSA) : Option (tSI × tSA) :=
  (lp S_X6_begin_2 100 ((0 : Int32), si, sa)).bind fun (e2 : (tSI × tSA)) => some ((upd (upd e2.1 6 (0 : Int32)) 7 (-9 : Int32)), e2.2)
set_option maxHeartbeats 4000000 in
set_option maxRecDepth 100000 in
theorem c_X6_begin (l : Launch) (D : va_G) (cA : ClassId) (ad : Nat → Nat) (si : tSI) (sa : tSA) (o : (tSI × tSA)) (hF : F_X6_begin si sa = some o) : CG l yX6_begin cX6_begin 2 none 1 20 D cA [.ref (ad 0)] (WM cA ad si sa) (WM cA ad o.1 o.2) none := by
  refine CG.ofv (by decide) (Nat.le_of_ble_eq_true rfl) ?_
  intro p ee s m args below meth c A Q H0 ls C0 hA hP hD hS hl hE
  have hl : lv_has ls 2 [(0, .ref (ad 0))] := hl
  obtain ⟨hx, hb, hml, hown, ht, hK⟩ := id C0
  unfold F_X6_begin at hF
  refine lv_iconst (v := (0 : Int32)) hx hb dX6_begin_0 (by decide) ?_
  refine lv_istore_n (lv' := [(1, .int (0 : Int32)), (0, .ref (ad 0))]) hx hb dX6_begin_1 rfl hl (by decide) rfl (fun ls hl => ?_)
  obtain ⟨ox1, hL1, hX1⟩ := bd_all hF
  have JE1 : ∀ (e2 : (tSI × tSA)), ox1 = e2 → ∀ (H : Heap) (locs : List Loc) (ls : Array Slot), va_P D vwCl (WM cA ad e2.1 e2.2) H → va_D A (WM cA ad e2.1 e2.2) → va_S A H0 H locs → lv_has ls 2 [(0, .ref (ad 0))] → W p l ee (rmx 1 20) s m args below meth c H locs 0 0 Q (F0 m 34 ls []) := by
    intro e2 he H locs ls hP hD hS hl
    have hF := hX1 _ he
    refine lv_aload_n hx hb dX6_begin_34 rfl (lv_at hl 0 rfl) ?_
    refine lv_iconst (v := (0 : Int32)) hx hb dX6_begin_35 (by decide) ?_
    refine pM0_18 C0 hP hD hS q598 dX6_begin_36 (fun H locs hP hD hS => ?_)
    refine lv_aload_n hx hb dX6_begin_39 rfl (lv_at hl 0 rfl) ?_
    refine lv_bipush (v := (-9 : Int32)) hx hb dX6_begin_40 (by decide) ?_
    refine pM0_19 C0 hP hD hS q599 dX6_begin_42 (fun H locs hP hD hS => ?_)
    have hF := Option.some.inj hF
    subst hF
    exact hE _ _ _ _ hP hD hS dX6_begin_45
  have LP1 : ∀ (k1 : Nat) (t1 : (Int32 × tSI × tSA)), lp S_X6_begin_2 k1 t1 = some ox1 → ∀ (H : Heap) (locs : List Loc) (ls : Array Slot), va_P D vwCl (WM cA ad t1.2.1 t1.2.2) H → va_D A (WM cA ad t1.2.1 t1.2.2) → va_S A H0 H locs → lv_has ls 2 [(1, .int t1.1), (0, .ref (ad 0))] → W p l ee (rmx 1 20) s m args below meth c H locs 0 0 Q (F0 m 2 ls []) := by
    intro k1
    induction k1 with
    | zero => intro t1 hF; exact (lp_no hF).elim
    | succ k1 ih1 =>
      intro t1 hF H locs ls hP hD hS hl
      change S_X6_begin_2 (lp S_X6_begin_2 k1) t1 = some ox1 at hF
      unfold S_X6_begin_2 at hF
      refine lv_iload_n hx hb dX6_begin_2 rfl (lv_at hl 0 rfl) ?_
      refine lv_aload_n hx hb dX6_begin_3 rfl (lv_at hl 1 rfl) ?_
      refine gM0_1 (v := (t1.2.1 1)) C0 hP rfl q581 dX6_begin_4 ?_
      refine lv_icmp_ge (tgt := 34) hx hb dX6_begin_7 (by decide) (fun c3 => ?_) (fun c3 => ?_)
      · have hF := (if_pos c3).symm.trans hF
        exact JE1 _ (Option.some.inj hF).symm _ _ _ hP hD hS (lv_sub hl [1] rfl)
      · have hF := (if_neg c3).symm.trans hF
        refine lv_aload_n hx hb dX6_begin_10 rfl (lv_at hl 1 rfl) ?_
        refine gM0_16 C0 hP q596 dX6_begin_11 ?_
        refine lv_iload_n hx hb dX6_begin_14 rfl (lv_at hl 0 rfl) ?_
        refine lv_aload_n hx hb dX6_begin_15 rfl (lv_at hl 1 rfl) ?_
        obtain ⟨r4, hr4, hF⟩ := bd_some hF
        refine kcV (As := []) (rest := [.int t1.1, .ref (ad 11)]) C0 hA hP hD hS (c_X6_all l D cA ad t1.2.1 t1.2.2 r4 hr4) lk_X6_all q746 s36 q744 0 6 rfl rfl hl.1 rfl rfl (Nat.le_of_ble_eq_true rfl) ⟨Nat.le_of_ble_eq_true rfl, Nat.le_of_ble_eq_true rfl⟩ ⟨Nat.le_refl _, Nat.le_refl _⟩ dX6_begin_16 (fun H locs hP hD hS => ?_)
        refine W.eq (g2 := F0 m 19 ls [.int r4, .int t1.1, .ref (ad 11)]) rfl ?_
        obtain ⟨hin, hF⟩ := ld_some hF
        refine aMs10 (f := (t1.2.2 10)) C0 hP hD hS rfl hin dX6_begin_19 (fun H locs hP hD hS => ?_)
        refine lv_aload_n hx hb dX6_begin_20 rfl (lv_at hl 1 rfl) ?_
        refine gM0_17 C0 hP q597 dX6_begin_21 ?_
        refine lv_iload_n hx hb dX6_begin_24 rfl (lv_at hl 0 rfl) ?_
        refine lv_bipush (v := (-9 : Int32)) hx hb dX6_begin_25 (by decide) ?_
        obtain ⟨hin, hF⟩ := ld_some hF
        refine aMs11 (f := (t1.2.2 11)) C0 hP hD hS rfl hin dX6_begin_27 (fun H locs hP hD hS => ?_)
        refine lv_iinc (v := (t1.1 + 1)) (lv' := [(1, .int (t1.1 + 1)), (0, .ref (ad 0))]) hx hb dX6_begin_28 hl (k := 0) rfl rfl (by decide) rfl (fun ls hl => ?_)
        refine lv_goto (tgt := 2) hx hb dX6_begin_31 (by decide) ?_
        exact ih1 _ hF _ _ _ hP hD hS (lv_sub hl [0, 1] rfl)
  exact LP1 _ _ hL1 _ _ _ hP hD hS (lv_sub hl [0, 1] rfl)
theorem lk_X6_isAlone : LK yX6_isAlone cX6_isAlone 2 (some .boolean) 1 := ⟨q785, q7, by decide +kernel⟩
def F_X6_isAlone (a1 : Int32) (si : tSI) (sa : tSA) : Option Int32 :=
  ld a1 6 ((if ((sa 10) (Int32.toNatClampNeg a1)) = ((1 : Int32) <<< (a1 &&& 31)) then some (1 : Int32) else some (0 : Int32)))
set_option maxHeartbeats 4000000 in
set_option maxRecDepth 100000 in
theorem c_X6_isAlone (l : Launch) (D : va_G) (cA : ClassId) (ad : Nat → Nat) (si : tSI) (sa : tSA) (a1 : Int32) (o : Int32) (hF : F_X6_isAlone a1 si sa = some o) : CG l yX6_isAlone cX6_isAlone 2 (some .boolean) 0 0 D cA [.ref (ad 0), .int a1] (WM cA ad si sa) (WM cA ad si sa) (some (.int o)) := by
  refine CG.ofi (by decide) (Nat.le_of_ble_eq_true rfl) ?_
  intro p ee s m args below meth c A Q H0 ls C0 hA hP hD hS hl hE
  have hl : lv_has ls 2 [(0, .ref (ad 0)), (1, .int a1)] := hl
  obtain ⟨hx, hb, hml, hown, ht, hK⟩ := id C0
  unfold F_X6_isAlone at hF
  refine lv_aload_n hx hb dX6_isAlone_0 rfl (lv_at hl 0 rfl) ?_
  refine gM0_16 C0 hP q596 dX6_isAlone_1 ?_
  refine lv_iload_n hx hb dX6_isAlone_4 rfl (lv_at hl 1 rfl) ?_
  obtain ⟨hin, hF⟩ := ld_some hF
  refine aMl10 (f := (sa 10)) C0 hP rfl hin dX6_isAlone_5 ?_
  refine lv_iconst (v := (1 : Int32)) hx hb dX6_isAlone_6 (by decide) ?_
  refine lv_iload_n hx hb dX6_isAlone_7 rfl (lv_at hl 1 rfl) ?_
  refine lv_ishl hx hb dX6_isAlone_8 ?_
  refine lv_icmp_ne (tgt := 16) hx hb dX6_isAlone_9 (by decide) (fun c1 => ?_) (fun c1 => ?_)
  · have hF := (if_neg c1).symm.trans hF
    refine lv_iconst (v := (0 : Int32)) hx hb dX6_isAlone_16 (by decide) ?_
    have hF := Option.some.inj hF
    exact hE _ _ _ _ _ hP hD hS dX6_isAlone_17 rfl hF
  · have hF := (if_pos c1).symm.trans hF
    refine lv_iconst (v := (1 : Int32)) hx hb dX6_isAlone_12 (by decide) ?_
    refine lv_goto (tgt := 17) hx hb dX6_isAlone_13 (by decide) ?_
    have hF := Option.some.inj hF
    exact hE _ _ _ _ _ hP hD hS dX6_isAlone_17 rfl hF
theorem lk_X6_goPass : LK yX6_goPass cX6_goPass 7 none 2 := ⟨q781, q7, by decide +kernel⟩
def S_X6_goPass_161 (rec6 : ((Int32 × tSI × tSA) → Option (tSI × tSA))) (t6 : (Int32 × tSI × tSA)) : Option (tSI × tSA) :=
  (if (t6.2.1 1) ≤ t6.1 then some (t6.2.1, t6.2.2) else ld t6.1 6 ((if 0 ≤ ((t6.2.2 11) (Int32.toNatClampNeg t6.1)) then ld t6.1 6 (ld t6.1 6 (rec6 ((t6.1 + 1), t6.2.1, (va_up t6.2.2 11 (upd (t6.2.2 11) (Int32.toNatClampNeg t6.1) ((t6.2.2 11) (Int32.toNatClampNeg t6.1))))))) else (F_X6_isAlone t6.1 t6.2.1 t6.2.2).bind fun r12 => (if r12 = 0 then ld t6.1 6 (ld t6.1 6 (rec6 ((t6.1 + 1), t6.2.1, (va_up t6.2.2 11 (upd (t6.2.2 11) (Int32.toNatClampNeg t6.1) ((t6.2.2 11) (Int32.toNatClampNeg t6.1))))))) else ld t6.1 6 (rec6 ((t6.1 + 1), t6.2.1, (va_up t6.2.2 11 (upd (t6.2.2 11) (Int32.toNatClampNeg t6.1) (t6.2.1 6)))))))))
def S_X6_goPass_48 (a1 : Int32) (rec3 : ((Int32 × Int32 × tSI × tSA) → Option (Int32 × tSI × tSA))) (t3 : (Int32 × Int32 × tSI × tSA)) : Option (Int32 × tSI × tSA) :=
  (if (t3.2.2.1 1) ≤ t3.1 then some (t3.2.1, t3.2.2.1, t3.2.2.2) else ld a1 5 ((F_X6_isIn ((t3.2.2.2 4) (Int32.toNatClampNeg a1)) t3.1).bind fun r15 => ((if r15 = 0 then ld t3.1 6 (ld a1 5 (some (((t3.2.2.2 10) (Int32.toNatClampNeg t3.1)) &&& (((t3.2.2.2 4) (Int32.toNatClampNeg a1)) ^^^ (-1 : Int32))))) else ld t3.1 6 (ld a1 5 (some (((t3.2.2.2 10) (Int32.toNatClampNeg t3.1)) &&& ((t3.2.2.2 4) (Int32.toNatClampNeg a1))))))).bind fun (x16 : Int32) => ((if t3.2.1 = 0 then ld t3.1 6 ((if x16 = ((t3.2.2.2 10) (Int32.toNatClampNeg t3.1)) then some (0 : Int32) else some (1 : Int32))) else some (1 : Int32))).bind fun (x17 : Int32) => ld t3.1 6 (rec3 ((t3.1 + 1), x17, t3.2.2.1, (va_up t3.2.2.2 10 (upd (t3.2.2.2 10) (Int32.toNatClampNeg t3.1) x16))))))
def S_X6_goPass_8 (si : tSI) (sa : tSA) (rec1 : ((Int32 × Int32) → Option Int32)) (t1 : (Int32 × Int32)) : Option Int32 :=
  (if (si 1) ≤ t1.1 then some t1.2 else (F_X6_isAlone t1.1 si sa).bind fun r22 => (if r22 = 0 then rec1 ((t1.1 + 1), (t1.2 ||| ((1 : Int32) <<< (t1.1 &&& 31)))) else rec1 ((t1.1 + 1), (t1.2 ||| (0 : Int32)))))
def F_X6_goPass (a1 : Int32) (a2 : Int32) (si : tSI) (sa : tSA) : Option (tSI × tSA) :=
  (lp (S_X6_goPass_8 si sa) 100 ((0 : Int32), (0 : Int32))).bind fun (e2 : Int32) => (lp (S_X6_goPass_48 a1) 100 ((0 : Int32), (0 : Int32), si, sa)).bind fun (e4 : (Int32 × tSI × tSA)) => (F_X6_looksOf e2 e4.2.1 e4.2.2).bind fun r5 => (lp S_X6_goPass_161 100 ((0 : Int32), (upd e4.2.1 6 ((e4.2.1 6) + r5)), e4.2.2)).bind fun (e7 : (tSI × tSA)) => (if 0 ≤ (e7.1 7) then some ((upd e7.1 7 (e7.1 7)), e7.2) else (if e4.1 = 0 then some ((upd e7.1 7 a2), e7.2) else some ((upd e7.1 7 (e7.1 7)), e7.2)))
set_option maxHeartbeats 4000000 in
set_option maxRecDepth 100000 in
theorem c_X6_goPass (l : Launch) (D : va_G) (cA : ClassId) (ad : Nat → Nat) (si : tSI) (sa : tSA) (a1 : Int32) (a2 : Int32) (o : (tSI × tSA)) (hF : F_X6_goPass a1 a2 si sa = some o) : CG l yX6_goPass cX6_goPass 7 none 2 45 D cA [.ref (ad 0), .int a1, .int a2] (WM cA ad si sa) (WM cA ad o.1 o.2) none := by
  refine CG.ofv (by decide) (Nat.le_of_ble_eq_true rfl) ?_
  intro p ee s m args below meth c A Q H0 ls C0 hA hP hD hS hl hE
  have hl : lv_has ls 7 [(0, .ref (ad 0)), (1, .int a1), (2, .int a2)] := hl
  obtain ⟨hx, hb, hml, hown, ht, hK⟩ := id C0
  unfold F_X6_goPass at hF
  refine lv_iconst (v := (0 : Int32)) hx hb dX6_goPass_0 (by decide) ?_
  refine lv_istore_n (lv' := [(3, .int (0 : Int32)), (0, .ref (ad 0)), (1, .int a1), (2, .int a2)]) hx hb dX6_goPass_1 rfl hl (by decide) rfl (fun ls hl => ?_)
  refine lv_iconst (v := (0 : Int32)) hx hb dX6_goPass_2 (by decide) ?_
  refine lv_istore (lv' := [(4, .int (0 : Int32)), (3, .int (0 : Int32)), (0, .ref (ad 0)), (1, .int a1), (2, .int a2)]) hx hb dX6_goPass_3 hl (by decide) rfl (fun ls hl => ?_)
  refine lv_iconst (v := (0 : Int32)) hx hb dX6_goPass_5 (by decide) ?_
  refine lv_istore (lv' := [(5, .int (0 : Int32)), (4, .int (0 : Int32)), (3, .int (0 : Int32)), (0, .ref (ad 0)), (1, .int a1), (2, .int a2)]) hx hb dX6_goPass_6 hl (by decide) rfl (fun ls hl => ?_)
  obtain ⟨ox1, hL1, hX1⟩ := bd_all hF
  have JE1 : ∀ (e2 : Int32), ox1 = e2 → ∀ (H : Heap) (locs : List Loc) (ls : Array Slot), va_P D vwCl (WM cA ad si sa) H → va_D A (WM cA ad si sa) → va_S A H0 H locs → lv_has ls 7 [(4, .int e2), (3, .int (0 : Int32)), (0, .ref (ad 0)), (1, .int a1), (2, .int a2)] → W p l ee (rmx 2 45) s m args below meth c H locs 0 0 Q (F0 m 45 ls []) := by
    intro e2 he H locs ls hP hD hS hl
    have hF := hX1 _ he
    refine lv_iconst (v := (0 : Int32)) hx hb dX6_goPass_45 (by decide) ?_
    refine lv_istore (lv' := [(5, .int (0 : Int32)), (4, .int e2), (3, .int (0 : Int32)), (0, .ref (ad 0)), (1, .int a1), (2, .int a2)]) hx hb dX6_goPass_46 hl (by decide) rfl (fun ls hl => ?_)
    obtain ⟨ox3, hL3, hX3⟩ := bd_all hF
    have JE3 : ∀ (e4 : (Int32 × tSI × tSA)), ox3 = e4 → ∀ (H : Heap) (locs : List Loc) (ls : Array Slot), va_P D vwCl (WM cA ad e4.2.1 e4.2.2) H → va_D A (WM cA ad e4.2.1 e4.2.2) → va_S A H0 H locs → lv_has ls 7 [(4, .int e2), (3, .int e4.1), (0, .ref (ad 0)), (2, .int a2)] → W p l ee (rmx 2 45) s m args below meth c H locs 0 0 Q (F0 m 143 ls []) := by
      intro e4 he H locs ls hP hD hS hl
      have hF := hX3 _ he
      refine lv_aload_n hx hb dX6_goPass_143 rfl (lv_at hl 2 rfl) ?_
      refine lv_dup hx hb dX6_goPass_144 rfl ?_
      refine gM0_18 (v := (e4.2.1 6)) C0 hP rfl q598 dX6_goPass_145 ?_
      refine lv_aload_n hx hb dX6_goPass_148 rfl (lv_at hl 2 rfl) ?_
      refine lv_iload hx hb dX6_goPass_149 (lv_at hl 0 rfl) ?_
      obtain ⟨r5, hr5, hF⟩ := bd_some hF
      refine kcV (As := [.int e2]) (rest := [.int (e4.2.1 6), .ref (ad 0)]) C0 hA hP hD hS (c_X6_looksOf l D cA ad e4.2.1 e4.2.2 e2 r5 hr5) lk_X6_looksOf q791 s42 q789 0 6 rfl rfl hl.1 rfl rfl (Nat.le_of_ble_eq_true rfl) ⟨Nat.le_of_ble_eq_true rfl, Nat.le_of_ble_eq_true rfl⟩ ⟨Nat.le_refl _, Nat.le_refl _⟩ dX6_goPass_151 (fun H locs hP hD hS => ?_)
      refine W.eq (g2 := F0 m 154 ls [.int r5, .int (e4.2.1 6), .ref (ad 0)]) rfl ?_
      refine lv_iadd hx hb dX6_goPass_154 ?_
      refine pM0_18 C0 hP hD hS q598 dX6_goPass_155 (fun H locs hP hD hS => ?_)
      refine lv_iconst (v := (0 : Int32)) hx hb dX6_goPass_158 (by decide) ?_
      refine lv_istore (lv' := [(5, .int (0 : Int32)), (4, .int e2), (3, .int e4.1), (0, .ref (ad 0)), (2, .int a2)]) hx hb dX6_goPass_159 hl (by decide) rfl (fun ls hl => ?_)
      obtain ⟨ox6, hL6, hX6⟩ := bd_all hF
      have JE6 : ∀ (e7 : (tSI × tSA)), ox6 = e7 → ∀ (H : Heap) (locs : List Loc) (ls : Array Slot), va_P D vwCl (WM cA ad e7.1 e7.2) H → va_D A (WM cA ad e7.1 e7.2) → va_S A H0 H locs → lv_has ls 7 [(3, .int e4.1), (0, .ref (ad 0)), (2, .int a2)] → W p l ee (rmx 2 45) s m args below meth c H locs 0 0 Q (F0 m 216 ls []) := by
        intro e7 he H locs ls hP hD hS hl
        have hF := hX6 _ he
        refine lv_aload_n hx hb dX6_goPass_216 rfl (lv_at hl 1 rfl) ?_
        refine lv_aload_n hx hb dX6_goPass_217 rfl (lv_at hl 1 rfl) ?_
        refine gM0_19 (v := (e7.1 7)) C0 hP rfl q599 dX6_goPass_218 ?_
        refine lv_if_ge (tgt := 232) hx hb dX6_goPass_221 (by decide) (fun c8 => ?_) (fun c8 => ?_)
        · have hF := (if_pos c8).symm.trans hF
          refine lv_aload_n hx hb dX6_goPass_232 rfl (lv_at hl 1 rfl) ?_
          refine gM0_19 (v := (e7.1 7)) C0 hP rfl q599 dX6_goPass_233 ?_
          refine pM0_19 C0 hP hD hS q599 dX6_goPass_236 (fun H locs hP hD hS => ?_)
          have hF := Option.some.inj hF
          subst hF
          exact hE _ _ _ _ hP hD hS dX6_goPass_239
        · have hF := (if_neg c8).symm.trans hF
          refine lv_iload_n hx hb dX6_goPass_224 rfl (lv_at hl 0 rfl) ?_
          refine lv_if_ne (tgt := 232) hx hb dX6_goPass_225 (by decide) (fun c9 => ?_) (fun c9 => ?_)
          · have hF := (if_neg c9).symm.trans hF
            refine lv_aload_n hx hb dX6_goPass_232 rfl (lv_at hl 1 rfl) ?_
            refine gM0_19 (v := (e7.1 7)) C0 hP rfl q599 dX6_goPass_233 ?_
            refine pM0_19 C0 hP hD hS q599 dX6_goPass_236 (fun H locs hP hD hS => ?_)
            have hF := Option.some.inj hF
            subst hF
            exact hE _ _ _ _ hP hD hS dX6_goPass_239
          · have hF := (if_pos c9).symm.trans hF
            refine lv_iload_n hx hb dX6_goPass_228 rfl (lv_at hl 2 rfl) ?_
            refine lv_goto (tgt := 236) hx hb dX6_goPass_229 (by decide) ?_
            refine pM0_19 C0 hP hD hS q599 dX6_goPass_236 (fun H locs hP hD hS => ?_)
            have hF := Option.some.inj hF
            subst hF
            exact hE _ _ _ _ hP hD hS dX6_goPass_239
      have LP6 : ∀ (k6 : Nat) (t6 : (Int32 × tSI × tSA)), lp S_X6_goPass_161 k6 t6 = some ox6 → ∀ (H : Heap) (locs : List Loc) (ls : Array Slot), va_P D vwCl (WM cA ad t6.2.1 t6.2.2) H → va_D A (WM cA ad t6.2.1 t6.2.2) → va_S A H0 H locs → lv_has ls 7 [(5, .int t6.1), (3, .int e4.1), (0, .ref (ad 0)), (2, .int a2)] → W p l ee (rmx 2 45) s m args below meth c H locs 0 0 Q (F0 m 161 ls []) := by
        intro k6
        induction k6 with
        | zero => intro t6 hF; exact (lp_no hF).elim
        | succ k6 ih6 =>
          intro t6 hF H locs ls hP hD hS hl
          change S_X6_goPass_161 (lp S_X6_goPass_161 k6) t6 = some ox6 at hF
          unfold S_X6_goPass_161 at hF
          refine lv_iload hx hb dX6_goPass_161 (lv_at hl 0 rfl) ?_
          refine lv_aload_n hx hb dX6_goPass_163 rfl (lv_at hl 2 rfl) ?_
          refine gM0_1 (v := (t6.2.1 1)) C0 hP rfl q581 dX6_goPass_164 ?_
          refine lv_icmp_ge (tgt := 216) hx hb dX6_goPass_167 (by decide) (fun c10 => ?_) (fun c10 => ?_)
          · have hF := (if_pos c10).symm.trans hF
            exact JE6 _ (Option.some.inj hF).symm _ _ _ hP hD hS (lv_sub hl [1, 2, 3] rfl)
          · have hF := (if_neg c10).symm.trans hF
            refine lv_aload_n hx hb dX6_goPass_170 rfl (lv_at hl 2 rfl) ?_
            refine gM0_17 C0 hP q597 dX6_goPass_171 ?_
            refine lv_iload hx hb dX6_goPass_174 (lv_at hl 0 rfl) ?_
            refine lv_aload_n hx hb dX6_goPass_176 rfl (lv_at hl 2 rfl) ?_
            refine gM0_17 C0 hP q597 dX6_goPass_177 ?_
            refine lv_iload hx hb dX6_goPass_180 (lv_at hl 0 rfl) ?_
            obtain ⟨hin, hF⟩ := ld_some hF
            refine aMl11 (f := (t6.2.2 11)) C0 hP rfl hin dX6_goPass_182 ?_
            refine lv_if_ge (tgt := 202) hx hb dX6_goPass_183 (by decide) (fun c11 => ?_) (fun c11 => ?_)
            · have hF := (if_pos c11).symm.trans hF
              refine lv_aload_n hx hb dX6_goPass_202 rfl (lv_at hl 2 rfl) ?_
              refine gM0_17 C0 hP q597 dX6_goPass_203 ?_
              refine lv_iload hx hb dX6_goPass_206 (lv_at hl 0 rfl) ?_
              obtain ⟨hin, hF⟩ := ld_some hF
              refine aMl11 (f := (t6.2.2 11)) C0 hP rfl hin dX6_goPass_208 ?_
              obtain ⟨hin, hF⟩ := ld_some hF
              refine aMs11 (f := (t6.2.2 11)) C0 hP hD hS rfl hin dX6_goPass_209 (fun H locs hP hD hS => ?_)
              refine lv_iinc (v := (t6.1 + 1)) (lv' := [(5, .int (t6.1 + 1)), (3, .int e4.1), (0, .ref (ad 0)), (2, .int a2)]) hx hb dX6_goPass_210 hl (k := 0) rfl rfl (by decide) rfl (fun ls hl => ?_)
              refine lv_goto (tgt := 161) hx hb dX6_goPass_213 (by decide) ?_
              exact ih6 _ hF _ _ _ hP hD hS (lv_sub hl [0, 1, 2, 3] rfl)
            · have hF := (if_neg c11).symm.trans hF
              refine lv_aload_n hx hb dX6_goPass_186 rfl (lv_at hl 2 rfl) ?_
              refine lv_iload hx hb dX6_goPass_187 (lv_at hl 0 rfl) ?_
              obtain ⟨r12, hr12, hF⟩ := bd_some hF
              refine kcV (As := [.int t6.1]) (rest := [.int t6.1, .ref (ad 12)]) C0 hA hP hD hS (c_X6_isAlone l D cA ad t6.2.1 t6.2.2 t6.1 r12 hr12) lk_X6_isAlone q784 s41 q782 0 6 rfl rfl hl.1 rfl rfl (Nat.le_of_ble_eq_true rfl) ⟨Nat.le_of_ble_eq_true rfl, Nat.le_of_ble_eq_true rfl⟩ ⟨Nat.le_refl _, Nat.le_refl _⟩ dX6_goPass_189 (fun H locs hP hD hS => ?_)
              refine W.eq (g2 := F0 m 192 ls [.int r12, .int t6.1, .ref (ad 12)]) rfl ?_
              refine lv_if_eq (tgt := 202) hx hb dX6_goPass_192 (by decide) (fun c13 => ?_) (fun c13 => ?_)
              · have hF := (if_pos c13).symm.trans hF
                refine lv_aload_n hx hb dX6_goPass_202 rfl (lv_at hl 2 rfl) ?_
                refine gM0_17 C0 hP q597 dX6_goPass_203 ?_
                refine lv_iload hx hb dX6_goPass_206 (lv_at hl 0 rfl) ?_
                obtain ⟨hin, hF⟩ := ld_some hF
                refine aMl11 (f := (t6.2.2 11)) C0 hP rfl hin dX6_goPass_208 ?_
                obtain ⟨hin, hF⟩ := ld_some hF
                refine aMs11 (f := (t6.2.2 11)) C0 hP hD hS rfl hin dX6_goPass_209 (fun H locs hP hD hS => ?_)
                refine lv_iinc (v := (t6.1 + 1)) (lv' := [(5, .int (t6.1 + 1)), (3, .int e4.1), (0, .ref (ad 0)), (2, .int a2)]) hx hb dX6_goPass_210 hl (k := 0) rfl rfl (by decide) rfl (fun ls hl => ?_)
                refine lv_goto (tgt := 161) hx hb dX6_goPass_213 (by decide) ?_
                exact ih6 _ hF _ _ _ hP hD hS (lv_sub hl [0, 1, 2, 3] rfl)
              · have hF := (if_neg c13).symm.trans hF
                refine lv_aload_n hx hb dX6_goPass_195 rfl (lv_at hl 2 rfl) ?_
                refine gM0_18 (v := (t6.2.1 6)) C0 hP rfl q598 dX6_goPass_196 ?_
                refine lv_goto (tgt := 209) hx hb dX6_goPass_199 (by decide) ?_
                obtain ⟨hin, hF⟩ := ld_some hF
                refine aMs11 (f := (t6.2.2 11)) C0 hP hD hS rfl hin dX6_goPass_209 (fun H locs hP hD hS => ?_)
                refine lv_iinc (v := (t6.1 + 1)) (lv' := [(5, .int (t6.1 + 1)), (3, .int e4.1), (0, .ref (ad 0)), (2, .int a2)]) hx hb dX6_goPass_210 hl (k := 0) rfl rfl (by decide) rfl (fun ls hl => ?_)
                refine lv_goto (tgt := 161) hx hb dX6_goPass_213 (by decide) ?_
                exact ih6 _ hF _ _ _ hP hD hS (lv_sub hl [0, 1, 2, 3] rfl)
      exact LP6 _ _ hL6 _ _ _ hP hD hS (lv_sub hl [0, 2, 3, 4] rfl)
    have LP3 : ∀ (k3 : Nat) (t3 : (Int32 × Int32 × tSI × tSA)), lp (S_X6_goPass_48 a1) k3 t3 = some ox3 → ∀ (H : Heap) (locs : List Loc) (ls : Array Slot), va_P D vwCl (WM cA ad t3.2.2.1 t3.2.2.2) H → va_D A (WM cA ad t3.2.2.1 t3.2.2.2) → va_S A H0 H locs → lv_has ls 7 [(5, .int t3.1), (4, .int e2), (3, .int t3.2.1), (0, .ref (ad 0)), (1, .int a1), (2, .int a2)] → W p l ee (rmx 2 45) s m args below meth c H locs 0 0 Q (F0 m 48 ls []) := by
      intro k3
      induction k3 with
      | zero => intro t3 hF; exact (lp_no hF).elim
      | succ k3 ih3 =>
        intro t3 hF H locs ls hP hD hS hl
        change (S_X6_goPass_48 a1) (lp (S_X6_goPass_48 a1) k3) t3 = some ox3 at hF
        unfold S_X6_goPass_48 at hF
        refine lv_iload hx hb dX6_goPass_48 (lv_at hl 0 rfl) ?_
        refine lv_aload_n hx hb dX6_goPass_50 rfl (lv_at hl 3 rfl) ?_
        refine gM0_1 (v := (t3.2.2.1 1)) C0 hP rfl q581 dX6_goPass_51 ?_
        refine lv_icmp_ge (tgt := 143) hx hb dX6_goPass_54 (by decide) (fun c14 => ?_) (fun c14 => ?_)
        · have hF := (if_pos c14).symm.trans hF
          exact JE3 _ (Option.some.inj hF).symm _ _ _ hP hD hS (lv_sub hl [1, 2, 3, 5] rfl)
        · have hF := (if_neg c14).symm.trans hF
          refine lv_aload_n hx hb dX6_goPass_57 rfl (lv_at hl 3 rfl) ?_
          refine gM0_7 C0 hP q587 dX6_goPass_58 ?_
          refine lv_iload_n hx hb dX6_goPass_61 rfl (lv_at hl 4 rfl) ?_
          obtain ⟨hin, hF⟩ := ld_some hF
          refine aMl4 (f := (t3.2.2.2 4)) C0 hP rfl hin dX6_goPass_62 ?_
          refine lv_iload hx hb dX6_goPass_63 (lv_at hl 0 rfl) ?_
          obtain ⟨r15, hr15, hF⟩ := bd_some hF
          refine kcS (As := [.int ((t3.2.2.2 4) (Int32.toNatClampNeg a1)), .int t3.1]) (rest := []) C0 hA hP hD hS (c_X6_isIn l D cA ad t3.2.2.1 t3.2.2.2 ((t3.2.2.2 4) (Int32.toNatClampNeg a1)) t3.1 r15 hr15) lk_X6_isIn q787 q786 hl.1 rfl rfl (Nat.le_of_ble_eq_true rfl) ⟨Nat.le_of_ble_eq_true rfl, Nat.le_of_ble_eq_true rfl⟩ ⟨Nat.le_refl _, Nat.le_refl _⟩ dX6_goPass_65 (fun H locs hP hD hS => ?_)
          refine W.eq (g2 := F0 m 68 ls [.int r15]) rfl ?_
          obtain ⟨x16, hRx16, hF⟩ := bd_some hF
          have Jx16 : ∀ (H : Heap) (locs : List Loc) (ls : Array Slot), va_P D vwCl (WM cA ad t3.2.2.1 t3.2.2.2) H → va_D A (WM cA ad t3.2.2.1 t3.2.2.2) → va_S A H0 H locs → lv_has ls 7 [(5, .int t3.1), (4, .int e2), (3, .int t3.2.1), (0, .ref (ad 0)), (1, .int a1), (2, .int a2)] → W p l ee (rmx 2 45) s m args below meth c H locs 0 0 Q (F0 m 104 ls [.int x16]) := by
            intro H locs ls hP hD hS hl
            refine lv_istore (lv' := [(6, .int x16), (5, .int t3.1), (4, .int e2), (3, .int t3.2.1), (0, .ref (ad 0)), (1, .int a1), (2, .int a2)]) hx hb dX6_goPass_104 hl (by decide) rfl (fun ls hl => ?_)
            refine lv_iload_n hx hb dX6_goPass_106 rfl (lv_at hl 3 rfl) ?_
            obtain ⟨x17, hRx17, hF⟩ := bd_some hF
            have Jx17 : ∀ (H : Heap) (locs : List Loc) (ls : Array Slot), va_P D vwCl (WM cA ad t3.2.2.1 t3.2.2.2) H → va_D A (WM cA ad t3.2.2.1 t3.2.2.2) → va_S A H0 H locs → lv_has ls 7 [(6, .int x16), (5, .int t3.1), (4, .int e2), (0, .ref (ad 0)), (1, .int a1), (2, .int a2)] → W p l ee (rmx 2 45) s m args below meth c H locs 0 0 Q (F0 m 127 ls [.int x17]) := by
              intro H locs ls hP hD hS hl
              refine lv_istore_n (lv' := [(3, .int x17), (6, .int x16), (5, .int t3.1), (4, .int e2), (0, .ref (ad 0)), (1, .int a1), (2, .int a2)]) hx hb dX6_goPass_127 rfl hl (by decide) rfl (fun ls hl => ?_)
              refine lv_aload_n hx hb dX6_goPass_128 rfl (lv_at hl 4 rfl) ?_
              refine gM0_16 C0 hP q596 dX6_goPass_129 ?_
              refine lv_iload hx hb dX6_goPass_132 (lv_at hl 2 rfl) ?_
              refine lv_iload hx hb dX6_goPass_134 (lv_at hl 1 rfl) ?_
              obtain ⟨hin, hF⟩ := ld_some hF
              refine aMs10 (f := (t3.2.2.2 10)) C0 hP hD hS rfl hin dX6_goPass_136 (fun H locs hP hD hS => ?_)
              refine lv_iinc (v := (t3.1 + 1)) (lv' := [(5, .int (t3.1 + 1)), (3, .int x17), (6, .int x16), (4, .int e2), (0, .ref (ad 0)), (1, .int a1), (2, .int a2)]) hx hb dX6_goPass_137 hl (k := 2) rfl rfl (by decide) rfl (fun ls hl => ?_)
              refine lv_goto (tgt := 48) hx hb dX6_goPass_140 (by decide) ?_
              exact ih3 _ hF _ _ _ hP hD hS (lv_sub hl [0, 3, 1, 4, 5, 6] rfl)
            have hF := hRx17
            refine lv_if_ne (tgt := 122) hx hb dX6_goPass_107 (by decide) (fun c18 => ?_) (fun c18 => ?_)
            · have hF := (if_neg c18).symm.trans hF
              refine lv_iconst (v := (1 : Int32)) hx hb dX6_goPass_122 (by decide) ?_
              refine lv_goto (tgt := 127) hx hb dX6_goPass_123 (by decide) ?_
              have hF := Option.some.inj hF
              subst hF
              exact Jx17 _ _ _ hP hD hS (lv_sub hl [0, 1, 2, 4, 5, 6] rfl)
            · have hF := (if_pos c18).symm.trans hF
              refine lv_iload hx hb dX6_goPass_110 (lv_at hl 0 rfl) ?_
              refine lv_aload_n hx hb dX6_goPass_112 rfl (lv_at hl 4 rfl) ?_
              refine gM0_16 C0 hP q596 dX6_goPass_113 ?_
              refine lv_iload hx hb dX6_goPass_116 (lv_at hl 1 rfl) ?_
              obtain ⟨hin, hF⟩ := ld_some hF
              refine aMl10 (f := (t3.2.2.2 10)) C0 hP rfl hin dX6_goPass_118 ?_
              refine lv_icmp_eq (tgt := 126) hx hb dX6_goPass_119 (by decide) (fun c19 => ?_) (fun c19 => ?_)
              · have hF := (if_pos c19).symm.trans hF
                refine lv_iconst (v := (0 : Int32)) hx hb dX6_goPass_126 (by decide) ?_
                have hF := Option.some.inj hF
                subst hF
                exact Jx17 _ _ _ hP hD hS (lv_sub hl [0, 1, 2, 4, 5, 6] rfl)
              · have hF := (if_neg c19).symm.trans hF
                refine lv_iconst (v := (1 : Int32)) hx hb dX6_goPass_122 (by decide) ?_
                refine lv_goto (tgt := 127) hx hb dX6_goPass_123 (by decide) ?_
                have hF := Option.some.inj hF
                subst hF
                exact Jx17 _ _ _ hP hD hS (lv_sub hl [0, 1, 2, 4, 5, 6] rfl)
          have hF := hRx16
          refine lv_if_eq (tgt := 88) hx hb dX6_goPass_68 (by decide) (fun c20 => ?_) (fun c20 => ?_)
          · have hF := (if_pos c20).symm.trans hF
            refine lv_aload_n hx hb dX6_goPass_88 rfl (lv_at hl 3 rfl) ?_
            refine gM0_16 C0 hP q596 dX6_goPass_89 ?_
            refine lv_iload hx hb dX6_goPass_92 (lv_at hl 0 rfl) ?_
            obtain ⟨hin, hF⟩ := ld_some hF
            refine aMl10 (f := (t3.2.2.2 10)) C0 hP rfl hin dX6_goPass_94 ?_
            refine lv_aload_n hx hb dX6_goPass_95 rfl (lv_at hl 3 rfl) ?_
            refine gM0_7 C0 hP q587 dX6_goPass_96 ?_
            refine lv_iload_n hx hb dX6_goPass_99 rfl (lv_at hl 4 rfl) ?_
            obtain ⟨hin, hF⟩ := ld_some hF
            refine aMl4 (f := (t3.2.2.2 4)) C0 hP rfl hin dX6_goPass_100 ?_
            refine lv_iconst (v := (-1 : Int32)) hx hb dX6_goPass_101 (by decide) ?_
            refine lv_ixor hx hb dX6_goPass_102 ?_
            refine lv_iand hx hb dX6_goPass_103 ?_
            have hF := Option.some.inj hF
            subst hF
            exact Jx16 _ _ _ hP hD hS (lv_sub hl [0, 1, 2, 3, 4, 5] rfl)
          · have hF := (if_neg c20).symm.trans hF
            refine lv_aload_n hx hb dX6_goPass_71 rfl (lv_at hl 3 rfl) ?_
            refine gM0_16 C0 hP q596 dX6_goPass_72 ?_
            refine lv_iload hx hb dX6_goPass_75 (lv_at hl 0 rfl) ?_
            obtain ⟨hin, hF⟩ := ld_some hF
            refine aMl10 (f := (t3.2.2.2 10)) C0 hP rfl hin dX6_goPass_77 ?_
            refine lv_aload_n hx hb dX6_goPass_78 rfl (lv_at hl 3 rfl) ?_
            refine gM0_7 C0 hP q587 dX6_goPass_79 ?_
            refine lv_iload_n hx hb dX6_goPass_82 rfl (lv_at hl 4 rfl) ?_
            obtain ⟨hin, hF⟩ := ld_some hF
            refine aMl4 (f := (t3.2.2.2 4)) C0 hP rfl hin dX6_goPass_83 ?_
            refine lv_iand hx hb dX6_goPass_84 ?_
            refine lv_goto (tgt := 104) hx hb dX6_goPass_85 (by decide) ?_
            have hF := Option.some.inj hF
            subst hF
            exact Jx16 _ _ _ hP hD hS (lv_sub hl [0, 1, 2, 3, 4, 5] rfl)
    exact LP3 _ _ hL3 _ _ _ hP hD hS (lv_sub hl [0, 1, 2, 3, 4, 5] rfl)
  have LP1 : ∀ (k1 : Nat) (t1 : (Int32 × Int32)), lp (S_X6_goPass_8 si sa) k1 t1 = some ox1 → ∀ (H : Heap) (locs : List Loc) (ls : Array Slot), va_P D vwCl (WM cA ad si sa) H → va_D A (WM cA ad si sa) → va_S A H0 H locs → lv_has ls 7 [(5, .int t1.1), (4, .int t1.2), (3, .int (0 : Int32)), (0, .ref (ad 0)), (1, .int a1), (2, .int a2)] → W p l ee (rmx 2 45) s m args below meth c H locs 0 0 Q (F0 m 8 ls []) := by
    intro k1
    induction k1 with
    | zero => intro t1 hF; exact (lp_no hF).elim
    | succ k1 ih1 =>
      intro t1 hF H locs ls hP hD hS hl
      change (S_X6_goPass_8 si sa) (lp (S_X6_goPass_8 si sa) k1) t1 = some ox1 at hF
      unfold S_X6_goPass_8 at hF
      refine lv_iload hx hb dX6_goPass_8 (lv_at hl 0 rfl) ?_
      refine lv_aload_n hx hb dX6_goPass_10 rfl (lv_at hl 3 rfl) ?_
      refine gM0_1 (v := (si 1)) C0 hP rfl q581 dX6_goPass_11 ?_
      refine lv_icmp_ge (tgt := 45) hx hb dX6_goPass_14 (by decide) (fun c21 => ?_) (fun c21 => ?_)
      · have hF := (if_pos c21).symm.trans hF
        exact JE1 _ (Option.some.inj hF).symm _ _ _ hP hD hS (lv_sub hl [1, 2, 3, 4, 5] rfl)
      · have hF := (if_neg c21).symm.trans hF
        refine lv_iload hx hb dX6_goPass_17 (lv_at hl 1 rfl) ?_
        refine lv_aload_n hx hb dX6_goPass_19 rfl (lv_at hl 3 rfl) ?_
        refine lv_iload hx hb dX6_goPass_20 (lv_at hl 0 rfl) ?_
        obtain ⟨r22, hr22, hF⟩ := bd_some hF
        refine kcV (As := [.int t1.1]) (rest := [.int t1.2]) C0 hA hP hD hS (c_X6_isAlone l D cA ad si sa t1.1 r22 hr22) lk_X6_isAlone q784 s41 q782 0 6 rfl rfl hl.1 rfl rfl (Nat.le_of_ble_eq_true rfl) ⟨Nat.le_of_ble_eq_true rfl, Nat.le_of_ble_eq_true rfl⟩ ⟨Nat.le_refl _, Nat.le_refl _⟩ dX6_goPass_22 (fun H locs hP hD hS => ?_)
        refine W.eq (g2 := F0 m 25 ls [.int r22, .int t1.2]) rfl ?_
        refine lv_if_eq (tgt := 32) hx hb dX6_goPass_25 (by decide) (fun c23 => ?_) (fun c23 => ?_)
        · have hF := (if_pos c23).symm.trans hF
          refine lv_iconst (v := (1 : Int32)) hx hb dX6_goPass_32 (by decide) ?_
          refine lv_iload hx hb dX6_goPass_33 (lv_at hl 0 rfl) ?_
          refine lv_ishl hx hb dX6_goPass_35 ?_
          refine lv_ior hx hb dX6_goPass_36 ?_
          refine lv_istore (lv' := [(4, .int (t1.2 ||| ((1 : Int32) <<< (t1.1 &&& 31)))), (5, .int t1.1), (3, .int (0 : Int32)), (0, .ref (ad 0)), (1, .int a1), (2, .int a2)]) hx hb dX6_goPass_37 hl (by decide) rfl (fun ls hl => ?_)
          refine lv_iinc (v := (t1.1 + 1)) (lv' := [(5, .int (t1.1 + 1)), (4, .int (t1.2 ||| ((1 : Int32) <<< (t1.1 &&& 31)))), (3, .int (0 : Int32)), (0, .ref (ad 0)), (1, .int a1), (2, .int a2)]) hx hb dX6_goPass_39 hl (k := 1) rfl rfl (by decide) rfl (fun ls hl => ?_)
          refine lv_goto (tgt := 8) hx hb dX6_goPass_42 (by decide) ?_
          exact ih1 _ hF _ _ _ hP hD hS (lv_sub hl [0, 1, 2, 3, 4, 5] rfl)
        · have hF := (if_neg c23).symm.trans hF
          refine lv_iconst (v := (0 : Int32)) hx hb dX6_goPass_28 (by decide) ?_
          refine lv_goto (tgt := 36) hx hb dX6_goPass_29 (by decide) ?_
          refine lv_ior hx hb dX6_goPass_36 ?_
          refine lv_istore (lv' := [(4, .int (t1.2 ||| (0 : Int32))), (5, .int t1.1), (3, .int (0 : Int32)), (0, .ref (ad 0)), (1, .int a1), (2, .int a2)]) hx hb dX6_goPass_37 hl (by decide) rfl (fun ls hl => ?_)
          refine lv_iinc (v := (t1.1 + 1)) (lv' := [(5, .int (t1.1 + 1)), (4, .int (t1.2 ||| (0 : Int32))), (3, .int (0 : Int32)), (0, .ref (ad 0)), (1, .int a1), (2, .int a2)]) hx hb dX6_goPass_39 hl (k := 1) rfl rfl (by decide) rfl (fun ls hl => ?_)
          refine lv_goto (tgt := 8) hx hb dX6_goPass_42 (by decide) ?_
          exact ih1 _ hF _ _ _ hP hD hS (lv_sub hl [0, 1, 2, 3, 4, 5] rfl)
  exact LP1 _ _ hL1 _ _ _ hP hD hS (lv_sub hl [0, 1, 2, 3, 4, 5] rfl)
theorem lk_X6_goPlan : LK yX6_goPlan cX6_goPlan 4 none 2 := ⟨q773, q7, by decide +kernel⟩
def S_X6_goPlan_6 (a2 : Int32) (a1 : Int32) (rec2 : ((Int32 × tSI × tSA) → Option (tSI × tSA))) (t2 : (Int32 × tSI × tSA)) : Option (tSI × tSA) :=
  (if a2 ≤ t2.1 then some (t2.2.1, t2.2.2) else ld (a1 + t2.1) 240 ((F_X6_goPass ((t2.2.2 20) (Int32.toNatClampNeg (a1 + t2.1))) t2.1 t2.2.1 t2.2.2).bind fun r5 => rec2 ((t2.1 + 1), r5.1, r5.2)))
def F_X6_goPlan (a1 : Int32) (a2 : Int32) (si : tSI) (sa : tSA) : Option (tSI × tSA) :=
  (F_X6_begin si sa).bind fun r1 => (lp (S_X6_goPlan_6 a2 a1) 100 ((0 : Int32), r1.1, r1.2)).bind fun (e3 : (tSI × tSA)) => some (e3.1, e3.2)
set_option maxHeartbeats 4000000 in
set_option maxRecDepth 100000 in
theorem c_X6_goPlan (l : Launch) (D : va_G) (cA : ClassId) (ad : Nat → Nat) (si : tSI) (sa : tSA) (a1 : Int32) (a2 : Int32) (o : (tSI × tSA)) (hF : F_X6_goPlan a1 a2 si sa = some o) : CG l yX6_goPlan cX6_goPlan 4 none 3 71 D cA [.ref (ad 0), .int a1, .int a2] (WM cA ad si sa) (WM cA ad o.1 o.2) none := by
  refine CG.ofv (by decide) (Nat.le_of_ble_eq_true rfl) ?_
  intro p ee s m args below meth c A Q H0 ls C0 hA hP hD hS hl hE
  have hl : lv_has ls 4 [(0, .ref (ad 0)), (1, .int a1), (2, .int a2)] := hl
  obtain ⟨hx, hb, hml, hown, ht, hK⟩ := id C0
  unfold F_X6_goPlan at hF
  refine lv_aload_n hx hb dX6_goPlan_0 rfl (lv_at hl 0 rfl) ?_
  obtain ⟨r1, hr1, hF⟩ := bd_some hF
  refine kcV (As := []) (rest := []) C0 hA hP hD hS (c_X6_begin l D cA ad si sa r1 hr1) lk_X6_begin q776 s39 q774 0 6 rfl rfl hl.1 rfl rfl (Nat.le_of_ble_eq_true rfl) ⟨Nat.le_of_ble_eq_true rfl, Nat.le_of_ble_eq_true rfl⟩ ⟨Nat.le_refl _, Nat.le_refl _⟩ dX6_goPlan_1 (fun H locs hP hD hS => ?_)
  refine W.eq (g2 := F0 m 4 ls []) rfl ?_
  refine lv_iconst (v := (0 : Int32)) hx hb dX6_goPlan_4 (by decide) ?_
  refine lv_istore_n (lv' := [(3, .int (0 : Int32)), (0, .ref (ad 0)), (1, .int a1), (2, .int a2)]) hx hb dX6_goPlan_5 rfl hl (by decide) rfl (fun ls hl => ?_)
  obtain ⟨ox2, hL2, hX2⟩ := bd_all hF
  have JE2 : ∀ (e3 : (tSI × tSA)), ox2 = e3 → ∀ (H : Heap) (locs : List Loc) (ls : Array Slot), va_P D vwCl (WM cA ad e3.1 e3.2) H → va_D A (WM cA ad e3.1 e3.2) → va_S A H0 H locs → lv_has ls 4 [] → W p l ee (rmx 3 71) s m args below meth c H locs 0 0 Q (F0 m 30 ls []) := by
    intro e3 he H locs ls hP hD hS hl
    have hF := hX2 _ he
    have hF := Option.some.inj hF
    subst hF
    exact hE _ _ _ _ hP hD hS dX6_goPlan_30
  have LP2 : ∀ (k2 : Nat) (t2 : (Int32 × tSI × tSA)), lp (S_X6_goPlan_6 a2 a1) k2 t2 = some ox2 → ∀ (H : Heap) (locs : List Loc) (ls : Array Slot), va_P D vwCl (WM cA ad t2.2.1 t2.2.2) H → va_D A (WM cA ad t2.2.1 t2.2.2) → va_S A H0 H locs → lv_has ls 4 [(3, .int t2.1), (0, .ref (ad 0)), (1, .int a1), (2, .int a2)] → W p l ee (rmx 3 71) s m args below meth c H locs 0 0 Q (F0 m 6 ls []) := by
    intro k2
    induction k2 with
    | zero => intro t2 hF; exact (lp_no hF).elim
    | succ k2 ih2 =>
      intro t2 hF H locs ls hP hD hS hl
      change (S_X6_goPlan_6 a2 a1) (lp (S_X6_goPlan_6 a2 a1) k2) t2 = some ox2 at hF
      unfold S_X6_goPlan_6 at hF
      refine lv_iload_n hx hb dX6_goPlan_6 rfl (lv_at hl 0 rfl) ?_
      refine lv_iload_n hx hb dX6_goPlan_7 rfl (lv_at hl 3 rfl) ?_
      refine lv_icmp_ge (tgt := 30) hx hb dX6_goPlan_8 (by decide) (fun c4 => ?_) (fun c4 => ?_)
      · have hF := (if_pos c4).symm.trans hF
        exact JE2 _ (Option.some.inj hF).symm _ _ _ hP hD hS (lv_sub hl [] rfl)
      · have hF := (if_neg c4).symm.trans hF
        refine lv_aload_n hx hb dX6_goPlan_11 rfl (lv_at hl 1 rfl) ?_
        refine lv_aload_n hx hb dX6_goPlan_12 rfl (lv_at hl 1 rfl) ?_
        refine gM0_29 C0 hP q609 dX6_goPlan_13 ?_
        refine lv_iload_n hx hb dX6_goPlan_16 rfl (lv_at hl 2 rfl) ?_
        refine lv_iload_n hx hb dX6_goPlan_17 rfl (lv_at hl 0 rfl) ?_
        refine lv_iadd hx hb dX6_goPlan_18 ?_
        obtain ⟨hin, hF⟩ := ld_some hF
        refine aMl20 (f := (t2.2.2 20)) C0 hP rfl hin dX6_goPlan_19 ?_
        refine lv_iload_n hx hb dX6_goPlan_20 rfl (lv_at hl 0 rfl) ?_
        obtain ⟨r5, hr5, hF⟩ := bd_some hF
        refine kcV (As := [.int ((t2.2.2 20) (Int32.toNatClampNeg (a1 + t2.1))), .int t2.1]) (rest := []) C0 hA hP hD hS (c_X6_goPass l D cA ad t2.2.1 t2.2.2 ((t2.2.2 20) (Int32.toNatClampNeg (a1 + t2.1))) t2.1 r5 hr5) lk_X6_goPass q780 s40 q778 0 6 rfl rfl hl.1 rfl rfl (Nat.le_of_ble_eq_true rfl) ⟨Nat.le_of_ble_eq_true rfl, Nat.le_of_ble_eq_true rfl⟩ ⟨Nat.le_refl _, Nat.le_refl _⟩ dX6_goPlan_21 (fun H locs hP hD hS => ?_)
        refine W.eq (g2 := F0 m 24 ls []) rfl ?_
        refine lv_iinc (v := (t2.1 + 1)) (lv' := [(3, .int (t2.1 + 1)), (0, .ref (ad 0)), (1, .int a1), (2, .int a2)]) hx hb dX6_goPlan_24 hl (k := 0) rfl rfl (by decide) rfl (fun ls hl => ?_)
        refine lv_goto (tgt := 6) hx hb dX6_goPlan_27 (by decide) ?_
        exact ih2 _ hF _ _ _ hP hD hS (lv_sub hl [0, 1, 2, 3] rfl)
  exact LP2 _ _ hL2 _ _ _ hP hD hS (lv_sub hl [0, 1, 2, 3] rfl)
theorem lk_X6_readyNow : LK yX6_readyNow cX6_readyNow 3 (some .int) 0 := ⟨q804, q7, by decide +kernel⟩
def S_X6_readyNow_4 (si : tSI) (sa : tSA) (rec1 : ((Int32 × Int32) → Option Int32)) (t1 : (Int32 × Int32)) : Option Int32 :=
  (if (si 1) ≤ t1.1 then some t1.2 else (F_X6_isAlone t1.1 si sa).bind fun r4 => (if r4 = 0 then rec1 ((t1.1 + 1), (t1.2 ||| (0 : Int32))) else rec1 ((t1.1 + 1), (t1.2 ||| ((1 : Int32) <<< (t1.1 &&& 31))))))
def F_X6_readyNow (si : tSI) (sa : tSA) : Option Int32 :=
  (lp (S_X6_readyNow_4 si sa) 100 ((0 : Int32), (0 : Int32))).bind fun (e2 : Int32) => some e2
set_option maxHeartbeats 4000000 in
set_option maxRecDepth 100000 in
theorem c_X6_readyNow (l : Launch) (D : va_G) (cA : ClassId) (ad : Nat → Nat) (si : tSI) (sa : tSA) (o : Int32) (hF : F_X6_readyNow si sa = some o) : CG l yX6_readyNow cX6_readyNow 3 (some .int) 1 21 D cA [.ref (ad 0)] (WM cA ad si sa) (WM cA ad si sa) (some (.int o)) := by
  refine CG.ofi (by decide) (Nat.le_of_ble_eq_true rfl) ?_
  intro p ee s m args below meth c A Q H0 ls C0 hA hP hD hS hl hE
  have hl : lv_has ls 3 [(0, .ref (ad 0))] := hl
  obtain ⟨hx, hb, hml, hown, ht, hK⟩ := id C0
  unfold F_X6_readyNow at hF
  refine lv_iconst (v := (0 : Int32)) hx hb dX6_readyNow_0 (by decide) ?_
  refine lv_istore_n (lv' := [(1, .int (0 : Int32)), (0, .ref (ad 0))]) hx hb dX6_readyNow_1 rfl hl (by decide) rfl (fun ls hl => ?_)
  refine lv_iconst (v := (0 : Int32)) hx hb dX6_readyNow_2 (by decide) ?_
  refine lv_istore_n (lv' := [(2, .int (0 : Int32)), (1, .int (0 : Int32)), (0, .ref (ad 0))]) hx hb dX6_readyNow_3 rfl hl (by decide) rfl (fun ls hl => ?_)
  obtain ⟨ox1, hL1, hX1⟩ := bd_all hF
  have JE1 : ∀ (e2 : Int32), ox1 = e2 → ∀ (H : Heap) (locs : List Loc) (ls : Array Slot), va_P D vwCl (WM cA ad si sa) H → va_D A (WM cA ad si sa) → va_S A H0 H locs → lv_has ls 3 [(1, .int e2)] → W p l ee (rmx 1 21) s m args below meth c H locs 0 0 Q (F0 m 36 ls []) := by
    intro e2 he H locs ls hP hD hS hl
    have hF := hX1 _ he
    refine lv_iload_n hx hb dX6_readyNow_36 rfl (lv_at hl 0 rfl) ?_
    have hF := Option.some.inj hF
    exact hE _ _ _ _ _ hP hD hS dX6_readyNow_37 rfl hF
  have LP1 : ∀ (k1 : Nat) (t1 : (Int32 × Int32)), lp (S_X6_readyNow_4 si sa) k1 t1 = some ox1 → ∀ (H : Heap) (locs : List Loc) (ls : Array Slot), va_P D vwCl (WM cA ad si sa) H → va_D A (WM cA ad si sa) → va_S A H0 H locs → lv_has ls 3 [(2, .int t1.1), (1, .int t1.2), (0, .ref (ad 0))] → W p l ee (rmx 1 21) s m args below meth c H locs 0 0 Q (F0 m 4 ls []) := by
    intro k1
    induction k1 with
    | zero => intro t1 hF; exact (lp_no hF).elim
    | succ k1 ih1 =>
      intro t1 hF H locs ls hP hD hS hl
      change (S_X6_readyNow_4 si sa) (lp (S_X6_readyNow_4 si sa) k1) t1 = some ox1 at hF
      unfold S_X6_readyNow_4 at hF
      refine lv_iload_n hx hb dX6_readyNow_4 rfl (lv_at hl 0 rfl) ?_
      refine lv_aload_n hx hb dX6_readyNow_5 rfl (lv_at hl 2 rfl) ?_
      refine gM0_1 (v := (si 1)) C0 hP rfl q581 dX6_readyNow_6 ?_
      refine lv_icmp_ge (tgt := 36) hx hb dX6_readyNow_9 (by decide) (fun c3 => ?_) (fun c3 => ?_)
      · have hF := (if_pos c3).symm.trans hF
        exact JE1 _ (Option.some.inj hF).symm _ _ _ hP hD hS (lv_sub hl [1] rfl)
      · have hF := (if_neg c3).symm.trans hF
        refine lv_iload_n hx hb dX6_readyNow_12 rfl (lv_at hl 1 rfl) ?_
        refine lv_aload_n hx hb dX6_readyNow_13 rfl (lv_at hl 2 rfl) ?_
        refine lv_iload_n hx hb dX6_readyNow_14 rfl (lv_at hl 0 rfl) ?_
        obtain ⟨r4, hr4, hF⟩ := bd_some hF
        refine kcV (As := [.int t1.1]) (rest := [.int t1.2]) C0 hA hP hD hS (c_X6_isAlone l D cA ad si sa t1.1 r4 hr4) lk_X6_isAlone q784 s41 q782 0 6 rfl rfl hl.1 rfl rfl (Nat.le_of_ble_eq_true rfl) ⟨Nat.le_of_ble_eq_true rfl, Nat.le_of_ble_eq_true rfl⟩ ⟨Nat.le_refl _, Nat.le_refl _⟩ dX6_readyNow_15 (fun H locs hP hD hS => ?_)
        refine W.eq (g2 := F0 m 18 ls [.int r4, .int t1.2]) rfl ?_
        refine lv_if_eq (tgt := 27) hx hb dX6_readyNow_18 (by decide) (fun c5 => ?_) (fun c5 => ?_)
        · have hF := (if_pos c5).symm.trans hF
          refine lv_iconst (v := (0 : Int32)) hx hb dX6_readyNow_27 (by decide) ?_
          refine lv_ior hx hb dX6_readyNow_28 ?_
          refine lv_istore_n (lv' := [(1, .int (t1.2 ||| (0 : Int32))), (2, .int t1.1), (0, .ref (ad 0))]) hx hb dX6_readyNow_29 rfl hl (by decide) rfl (fun ls hl => ?_)
          refine lv_iinc (v := (t1.1 + 1)) (lv' := [(2, .int (t1.1 + 1)), (1, .int (t1.2 ||| (0 : Int32))), (0, .ref (ad 0))]) hx hb dX6_readyNow_30 hl (k := 1) rfl rfl (by decide) rfl (fun ls hl => ?_)
          refine lv_goto (tgt := 4) hx hb dX6_readyNow_33 (by decide) ?_
          exact ih1 _ hF _ _ _ hP hD hS (lv_sub hl [0, 1, 2] rfl)
        · have hF := (if_neg c5).symm.trans hF
          refine lv_iconst (v := (1 : Int32)) hx hb dX6_readyNow_21 (by decide) ?_
          refine lv_iload_n hx hb dX6_readyNow_22 rfl (lv_at hl 0 rfl) ?_
          refine lv_ishl hx hb dX6_readyNow_23 ?_
          refine lv_goto (tgt := 28) hx hb dX6_readyNow_24 (by decide) ?_
          refine lv_ior hx hb dX6_readyNow_28 ?_
          refine lv_istore_n (lv' := [(1, .int (t1.2 ||| ((1 : Int32) <<< (t1.1 &&& 31)))), (2, .int t1.1), (0, .ref (ad 0))]) hx hb dX6_readyNow_29 rfl hl (by decide) rfl (fun ls hl => ?_)
          refine lv_iinc (v := (t1.1 + 1)) (lv' := [(2, .int (t1.1 + 1)), (1, .int (t1.2 ||| ((1 : Int32) <<< (t1.1 &&& 31)))), (0, .ref (ad 0))]) hx hb dX6_readyNow_30 hl (k := 1) rfl rfl (by decide) rfl (fun ls hl => ?_)
          refine lv_goto (tgt := 4) hx hb dX6_readyNow_33 (by decide) ?_
          exact ih1 _ hF _ _ _ hP hD hS (lv_sub hl [0, 1, 2] rfl)
  exact LP1 _ _ hL1 _ _ _ hP hD hS (lv_sub hl [0, 1, 2] rfl)
theorem lk_X6_leastOf : LK yX6_leastOf cX6_leastOf 3 (some .int) 1 := ⟨q796, q7, by decide +kernel⟩
def S_X6_leastOf_2 (a1 : Int32) (sa : tSA) (rec1 : (Int32 → Option Int32)) (t1 : Int32) : Option Int32 :=
  ld a1 6 ((F_X6_isIn ((sa 10) (Int32.toNatClampNeg a1)) t1).bind fun r3 => (if r3 = 0 then rec1 (t1 + 1) else some t1))
def F_X6_leastOf (a1 : Int32) (si : tSI) (sa : tSA) : Option Int32 :=
  (lp (S_X6_leastOf_2 a1 sa) 100 (0 : Int32)).bind fun (e2 : Int32) => some e2
set_option maxHeartbeats 4000000 in
set_option maxRecDepth 100000 in
theorem c_X6_leastOf (l : Launch) (D : va_G) (cA : ClassId) (ad : Nat → Nat) (si : tSI) (sa : tSA) (a1 : Int32) (o : Int32) (hF : F_X6_leastOf a1 si sa = some o) : CG l yX6_leastOf cX6_leastOf 3 (some .int) 1 21 D cA [.ref (ad 0), .int a1] (WM cA ad si sa) (WM cA ad si sa) (some (.int o)) := by
  refine CG.ofi (by decide) (Nat.le_of_ble_eq_true rfl) ?_
  intro p ee s m args below meth c A Q H0 ls C0 hA hP hD hS hl hE
  have hl : lv_has ls 3 [(0, .ref (ad 0)), (1, .int a1)] := hl
  obtain ⟨hx, hb, hml, hown, ht, hK⟩ := id C0
  unfold F_X6_leastOf at hF
  refine lv_iconst (v := (0 : Int32)) hx hb dX6_leastOf_0 (by decide) ?_
  refine lv_istore_n (lv' := [(2, .int (0 : Int32)), (0, .ref (ad 0)), (1, .int a1)]) hx hb dX6_leastOf_1 rfl hl (by decide) rfl (fun ls hl => ?_)
  obtain ⟨ox1, hL1, hX1⟩ := bd_all hF
  have JE1 : ∀ (e2 : Int32), ox1 = e2 → ∀ (H : Heap) (locs : List Loc) (ls : Array Slot), va_P D vwCl (WM cA ad si sa) H → va_D A (WM cA ad si sa) → va_S A H0 H locs → lv_has ls 3 [(2, .int e2)] → W p l ee (rmx 1 21) s m args below meth c H locs 0 0 Q (F0 m 21 ls []) := by
    intro e2 he H locs ls hP hD hS hl
    have hF := hX1 _ he
    refine lv_iload_n hx hb dX6_leastOf_21 rfl (lv_at hl 0 rfl) ?_
    have hF := Option.some.inj hF
    exact hE _ _ _ _ _ hP hD hS dX6_leastOf_22 rfl hF
  have LP1 : ∀ (k1 : Nat) (t1 : Int32), lp (S_X6_leastOf_2 a1 sa) k1 t1 = some ox1 → ∀ (H : Heap) (locs : List Loc) (ls : Array Slot), va_P D vwCl (WM cA ad si sa) H → va_D A (WM cA ad si sa) → va_S A H0 H locs → lv_has ls 3 [(2, .int t1), (0, .ref (ad 0)), (1, .int a1)] → W p l ee (rmx 1 21) s m args below meth c H locs 0 0 Q (F0 m 2 ls []) := by
    intro k1
    induction k1 with
    | zero => intro t1 hF; exact (lp_no hF).elim
    | succ k1 ih1 =>
      intro t1 hF H locs ls hP hD hS hl
      change (S_X6_leastOf_2 a1 sa) (lp (S_X6_leastOf_2 a1 sa) k1) t1 = some ox1 at hF
      unfold S_X6_leastOf_2 at hF
      refine lv_aload_n hx hb dX6_leastOf_2 rfl (lv_at hl 1 rfl) ?_
      refine gM0_16 C0 hP q596 dX6_leastOf_3 ?_
      refine lv_iload_n hx hb dX6_leastOf_6 rfl (lv_at hl 2 rfl) ?_
      obtain ⟨hin, hF⟩ := ld_some hF
      refine aMl10 (f := (sa 10)) C0 hP rfl hin dX6_leastOf_7 ?_
      refine lv_iload_n hx hb dX6_leastOf_8 rfl (lv_at hl 0 rfl) ?_
      obtain ⟨r3, hr3, hF⟩ := bd_some hF
      refine kcS (As := [.int ((sa 10) (Int32.toNatClampNeg a1)), .int t1]) (rest := []) C0 hA hP hD hS (c_X6_isIn l D cA ad si sa ((sa 10) (Int32.toNatClampNeg a1)) t1 r3 hr3) lk_X6_isIn q787 q786 hl.1 rfl rfl (Nat.le_of_ble_eq_true rfl) ⟨Nat.le_of_ble_eq_true rfl, Nat.le_of_ble_eq_true rfl⟩ ⟨Nat.le_refl _, Nat.le_refl _⟩ dX6_leastOf_9 (fun H locs hP hD hS => ?_)
      refine W.eq (g2 := F0 m 12 ls [.int r3]) rfl ?_
      refine lv_if_ne (tgt := 21) hx hb dX6_leastOf_12 (by decide) (fun c4 => ?_) (fun c4 => ?_)
      · have hF := (if_neg c4).symm.trans hF
        exact JE1 _ (Option.some.inj hF).symm _ _ _ hP hD hS (lv_sub hl [0] rfl)
      · have hF := (if_pos c4).symm.trans hF
        refine lv_iinc (v := (t1 + 1)) (lv' := [(2, .int (t1 + 1)), (0, .ref (ad 0)), (1, .int a1)]) hx hb dX6_leastOf_15 hl (k := 0) rfl rfl (by decide) rfl (fun ls hl => ?_)
        refine lv_goto (tgt := 2) hx hb dX6_leastOf_18 (by decide) ?_
        exact ih1 _ hF _ _ _ hP hD hS (lv_sub hl [0, 1, 2] rfl)
  exact LP1 _ _ hL1 _ _ _ hP hD hS (lv_sub hl [0, 1, 2] rfl)
theorem lk_X6_heapsNow : LK yX6_heapsNow cX6_heapsNow 3 (some .int) 0 := ⟨q800, q7, by decide +kernel⟩
def S_X6_heapsNow_4 (si : tSI) (sa : tSA) (rec1 : ((Int32 × Int32) → Option Int32)) (t1 : (Int32 × Int32)) : Option Int32 :=
  (if (si 1) ≤ t1.1 then some t1.2 else (F_X6_leastOf t1.1 si sa).bind fun r4 => (if r4 = t1.1 then rec1 ((t1.1 + 1), (t1.2 + (1 : Int32))) else rec1 ((t1.1 + 1), (t1.2 + (0 : Int32)))))
def F_X6_heapsNow (si : tSI) (sa : tSA) : Option Int32 :=
  (lp (S_X6_heapsNow_4 si sa) 100 ((0 : Int32), (0 : Int32))).bind fun (e2 : Int32) => some e2
set_option maxHeartbeats 4000000 in
set_option maxRecDepth 100000 in
theorem c_X6_heapsNow (l : Launch) (D : va_G) (cA : ClassId) (ad : Nat → Nat) (si : tSI) (sa : tSA) (o : Int32) (hF : F_X6_heapsNow si sa = some o) : CG l yX6_heapsNow cX6_heapsNow 3 (some .int) 2 43 D cA [.ref (ad 0)] (WM cA ad si sa) (WM cA ad si sa) (some (.int o)) := by
  refine CG.ofi (by decide) (Nat.le_of_ble_eq_true rfl) ?_
  intro p ee s m args below meth c A Q H0 ls C0 hA hP hD hS hl hE
  have hl : lv_has ls 3 [(0, .ref (ad 0))] := hl
  obtain ⟨hx, hb, hml, hown, ht, hK⟩ := id C0
  unfold F_X6_heapsNow at hF
  refine lv_iconst (v := (0 : Int32)) hx hb dX6_heapsNow_0 (by decide) ?_
  refine lv_istore_n (lv' := [(1, .int (0 : Int32)), (0, .ref (ad 0))]) hx hb dX6_heapsNow_1 rfl hl (by decide) rfl (fun ls hl => ?_)
  refine lv_iconst (v := (0 : Int32)) hx hb dX6_heapsNow_2 (by decide) ?_
  refine lv_istore_n (lv' := [(2, .int (0 : Int32)), (1, .int (0 : Int32)), (0, .ref (ad 0))]) hx hb dX6_heapsNow_3 rfl hl (by decide) rfl (fun ls hl => ?_)
  obtain ⟨ox1, hL1, hX1⟩ := bd_all hF
  have JE1 : ∀ (e2 : Int32), ox1 = e2 → ∀ (H : Heap) (locs : List Loc) (ls : Array Slot), va_P D vwCl (WM cA ad si sa) H → va_D A (WM cA ad si sa) → va_S A H0 H locs → lv_has ls 3 [(1, .int e2)] → W p l ee (rmx 2 43) s m args below meth c H locs 0 0 Q (F0 m 35 ls []) := by
    intro e2 he H locs ls hP hD hS hl
    have hF := hX1 _ he
    refine lv_iload_n hx hb dX6_heapsNow_35 rfl (lv_at hl 0 rfl) ?_
    have hF := Option.some.inj hF
    exact hE _ _ _ _ _ hP hD hS dX6_heapsNow_36 rfl hF
  have LP1 : ∀ (k1 : Nat) (t1 : (Int32 × Int32)), lp (S_X6_heapsNow_4 si sa) k1 t1 = some ox1 → ∀ (H : Heap) (locs : List Loc) (ls : Array Slot), va_P D vwCl (WM cA ad si sa) H → va_D A (WM cA ad si sa) → va_S A H0 H locs → lv_has ls 3 [(2, .int t1.1), (1, .int t1.2), (0, .ref (ad 0))] → W p l ee (rmx 2 43) s m args below meth c H locs 0 0 Q (F0 m 4 ls []) := by
    intro k1
    induction k1 with
    | zero => intro t1 hF; exact (lp_no hF).elim
    | succ k1 ih1 =>
      intro t1 hF H locs ls hP hD hS hl
      change (S_X6_heapsNow_4 si sa) (lp (S_X6_heapsNow_4 si sa) k1) t1 = some ox1 at hF
      unfold S_X6_heapsNow_4 at hF
      refine lv_iload_n hx hb dX6_heapsNow_4 rfl (lv_at hl 0 rfl) ?_
      refine lv_aload_n hx hb dX6_heapsNow_5 rfl (lv_at hl 2 rfl) ?_
      refine gM0_1 (v := (si 1)) C0 hP rfl q581 dX6_heapsNow_6 ?_
      refine lv_icmp_ge (tgt := 35) hx hb dX6_heapsNow_9 (by decide) (fun c3 => ?_) (fun c3 => ?_)
      · have hF := (if_pos c3).symm.trans hF
        exact JE1 _ (Option.some.inj hF).symm _ _ _ hP hD hS (lv_sub hl [1] rfl)
      · have hF := (if_neg c3).symm.trans hF
        refine lv_iload_n hx hb dX6_heapsNow_12 rfl (lv_at hl 1 rfl) ?_
        refine lv_aload_n hx hb dX6_heapsNow_13 rfl (lv_at hl 2 rfl) ?_
        refine lv_iload_n hx hb dX6_heapsNow_14 rfl (lv_at hl 0 rfl) ?_
        obtain ⟨r4, hr4, hF⟩ := bd_some hF
        refine kcV (As := [.int t1.1]) (rest := [.int t1.2]) C0 hA hP hD hS (c_X6_leastOf l D cA ad si sa t1.1 r4 hr4) lk_X6_leastOf q795 s43 q793 0 6 rfl rfl hl.1 rfl rfl (Nat.le_of_ble_eq_true rfl) ⟨Nat.le_of_ble_eq_true rfl, Nat.le_of_ble_eq_true rfl⟩ ⟨Nat.le_refl _, Nat.le_refl _⟩ dX6_heapsNow_15 (fun H locs hP hD hS => ?_)
        refine W.eq (g2 := F0 m 18 ls [.int r4, .int t1.2]) rfl ?_
        refine lv_iload_n hx hb dX6_heapsNow_18 rfl (lv_at hl 0 rfl) ?_
        refine lv_icmp_ne (tgt := 26) hx hb dX6_heapsNow_19 (by decide) (fun c5 => ?_) (fun c5 => ?_)
        · have hF := (if_neg c5).symm.trans hF
          refine lv_iconst (v := (0 : Int32)) hx hb dX6_heapsNow_26 (by decide) ?_
          refine lv_iadd hx hb dX6_heapsNow_27 ?_
          refine lv_istore_n (lv' := [(1, .int (t1.2 + (0 : Int32))), (2, .int t1.1), (0, .ref (ad 0))]) hx hb dX6_heapsNow_28 rfl hl (by decide) rfl (fun ls hl => ?_)
          refine lv_iinc (v := (t1.1 + 1)) (lv' := [(2, .int (t1.1 + 1)), (1, .int (t1.2 + (0 : Int32))), (0, .ref (ad 0))]) hx hb dX6_heapsNow_29 hl (k := 1) rfl rfl (by decide) rfl (fun ls hl => ?_)
          refine lv_goto (tgt := 4) hx hb dX6_heapsNow_32 (by decide) ?_
          exact ih1 _ hF _ _ _ hP hD hS (lv_sub hl [0, 1, 2] rfl)
        · have hF := (if_pos c5).symm.trans hF
          refine lv_iconst (v := (1 : Int32)) hx hb dX6_heapsNow_22 (by decide) ?_
          refine lv_goto (tgt := 27) hx hb dX6_heapsNow_23 (by decide) ?_
          refine lv_iadd hx hb dX6_heapsNow_27 ?_
          refine lv_istore_n (lv' := [(1, .int (t1.2 + (1 : Int32))), (2, .int t1.1), (0, .ref (ad 0))]) hx hb dX6_heapsNow_28 rfl hl (by decide) rfl (fun ls hl => ?_)
          refine lv_iinc (v := (t1.1 + 1)) (lv' := [(2, .int (t1.1 + 1)), (1, .int (t1.2 + (1 : Int32))), (0, .ref (ad 0))]) hx hb dX6_heapsNow_29 hl (k := 1) rfl rfl (by decide) rfl (fun ls hl => ?_)
          refine lv_goto (tgt := 4) hx hb dX6_heapsNow_32 (by decide) ?_
          exact ih1 _ hF _ _ _ hP hD hS (lv_sub hl [0, 1, 2] rfl)
  exact LP1 _ _ hL1 _ _ _ hP hD hS (lv_sub hl [0, 1, 2] rfl)
theorem lk_X6_rowBarred : LK yX6_rowBarred cX6_rowBarred 9 (some .int) 5 := ⟨q769, q7, by decide +kernel⟩
def S_X6_rowBarred_23 (a4 : Int32) (a1 : Int32) (a3 : Int32) (a5 : Int32) (rec3 : ((Int32 × tSI × tSA) → Option ((Int32 × tSI × tSA) ⊕ (tSI × tSA)))) (t3 : (Int32 × tSI × tSA)) : Option ((Int32 × tSI × tSA) ⊕ (tSI × tSA)) :=
  (if a4 ≤ t3.1 then some (.inr (t3.2.1, t3.2.2)) else ld ((((60 : Int32) * a1) + a3) + t3.1) 240 ((if a5 = 0 then (F_X6_noSort ((t3.2.2 20) (Int32.toNatClampNeg ((((60 : Int32) * a1) + a3) + t3.1))) t3.2.1 t3.2.2).bind fun r8 => (if r8 = 0 then rec3 ((t3.1 + 1), t3.2.1, t3.2.2) else (F_X6_refused (-1 : Int32) t3.2.1 t3.2.2).bind fun r10 => some (.inl (r10.1, r10.2.1, r10.2.2))) else (F_X6_noSign ((t3.2.2 20) (Int32.toNatClampNeg ((((60 : Int32) * a1) + a3) + t3.1))) t3.2.1 t3.2.2).bind fun r11 => (if r11 = 0 then rec3 ((t3.1 + 1), t3.2.1, t3.2.2) else (F_X6_refused (-1 : Int32) t3.2.1 t3.2.2).bind fun r13 => some (.inl (r13.1, r13.2.1, r13.2.2))))))
def F_X6_rowBarred (a1 : Int32) (a2 : Int32) (a3 : Int32) (a4 : Int32) (a5 : Int32) (si : tSI) (sa : tSA) : Option (Int32 × tSI × tSA) :=
  (F_X6_cellsBarred a1 a2 a3 (Int32.toInt64 a4) si sa).bind fun r1 => (if 0 ≤ r1.1 then (lp (S_X6_rowBarred_23 a4 a1 a3 a5) 100 ((0 : Int32), r1.2.1, r1.2.2)).bind (Sum.elim some fun (e4 : (tSI × tSA)) => (F_X6_refused (0 : Int32) e4.1 e4.2).bind fun r5 => some (r5.1, r5.2.1, r5.2.2)) else some (r1.1, r1.2.1, r1.2.2))
set_option maxHeartbeats 4000000 in
set_option maxRecDepth 100000 in
theorem c_X6_rowBarred (l : Launch) (D : va_G) (cA : ClassId) (ad : Nat → Nat) (si : tSI) (sa : tSA) (a1 : Int32) (a2 : Int32) (a3 : Int32) (a4 : Int32) (a5 : Int32) (o : (Int32 × tSI × tSA)) (hF : F_X6_rowBarred a1 a2 a3 a4 a5 si sa = some o) : CG l yX6_rowBarred cX6_rowBarred 9 (some .int) 2 48 D cA [.ref (ad 0), .int a1, .int a2, .int a3, .int a4, .int a5] (WM cA ad si sa) (WM cA ad o.2.1 o.2.2) (some (.int o.1)) := by
  refine CG.ofi (by decide) (Nat.le_of_ble_eq_true rfl) ?_
  intro p ee s m args below meth c A Q H0 ls C0 hA hP hD hS hl hE
  have hl : lv_has ls 9 [(0, .ref (ad 0)), (1, .int a1), (2, .int a2), (3, .int a3), (4, .int a4), (5, .int a5)] := hl
  obtain ⟨hx, hb, hml, hown, ht, hK⟩ := id C0
  unfold F_X6_rowBarred at hF
  refine lv_aload_n hx hb dX6_rowBarred_0 rfl (lv_at hl 0 rfl) ?_
  refine lv_iload_n hx hb dX6_rowBarred_1 rfl (lv_at hl 1 rfl) ?_
  refine lv_iload_n hx hb dX6_rowBarred_2 rfl (lv_at hl 2 rfl) ?_
  refine lv_iload_n hx hb dX6_rowBarred_3 rfl (lv_at hl 3 rfl) ?_
  refine lv_iload hx hb dX6_rowBarred_4 (lv_at hl 4 rfl) ?_
  refine lv_i2l hx hb dX6_rowBarred_6 rfl ?_
  obtain ⟨r1, hr1, hF⟩ := bd_some hF
  refine kcV (As := [.int a1, .int a2, .int a3, .long (Int32.toInt64 a4)]) (rest := []) C0 hA hP hD hS (c_X6_cellsBarred l D cA ad si sa a1 a2 a3 (Int32.toInt64 a4) r1 hr1) lk_X6_cellsBarred q695 s26 q693 0 6 rfl rfl hl.1 rfl rfl (Nat.le_of_ble_eq_true rfl) ⟨Nat.le_of_ble_eq_true rfl, Nat.le_of_ble_eq_true rfl⟩ ⟨Nat.le_refl _, Nat.le_refl _⟩ dX6_rowBarred_7 (fun H locs hP hD hS => ?_)
  refine W.eq (g2 := F0 m 10 ls [.int r1.1]) rfl ?_
  refine lv_istore (lv' := [(6, .int r1.1), (0, .ref (ad 0)), (1, .int a1), (2, .int a2), (3, .int a3), (4, .int a4), (5, .int a5)]) hx hb dX6_rowBarred_10 hl (by decide) rfl (fun ls hl => ?_)
  refine lv_iload hx hb dX6_rowBarred_12 (lv_at hl 0 rfl) ?_
  refine lv_if_ge (tgt := 20) hx hb dX6_rowBarred_14 (by decide) (fun c2 => ?_) (fun c2 => ?_)
  · have hF := (if_pos c2).symm.trans hF
    refine lv_iconst (v := (0 : Int32)) hx hb dX6_rowBarred_20 (by decide) ?_
    refine lv_istore (lv' := [(7, .int (0 : Int32)), (6, .int r1.1), (0, .ref (ad 0)), (1, .int a1), (2, .int a2), (3, .int a3), (4, .int a4), (5, .int a5)]) hx hb dX6_rowBarred_21 hl (by decide) rfl (fun ls hl => ?_)
    obtain ⟨ox3, hL3, hI3, hX3⟩ := bds_all hF
    have JE3 : ∀ (e4 : (tSI × tSA)), ox3 = .inr e4 → ∀ (H : Heap) (locs : List Loc) (ls : Array Slot), va_P D vwCl (WM cA ad e4.1 e4.2) H → va_D A (WM cA ad e4.1 e4.2) → va_S A H0 H locs → lv_has ls 9 [(0, .ref (ad 0))] → W p l ee (rmx 2 48) s m args below meth c H locs 0 0 Q (F0 m 84 ls []) := by
      intro e4 he H locs ls hP hD hS hl
      have hF := hX3 _ he
      refine lv_aload_n hx hb dX6_rowBarred_84 rfl (lv_at hl 0 rfl) ?_
      refine lv_iconst (v := (0 : Int32)) hx hb dX6_rowBarred_85 (by decide) ?_
      obtain ⟨r5, hr5, hF⟩ := bd_some hF
      refine kcV (As := [.int (0 : Int32)]) (rest := []) C0 hA hP hD hS (c_X6_refused l D cA ad e4.1 e4.2 (0 : Int32) r5 hr5) lk_X6_refused q690 s25 q688 0 6 rfl rfl hl.1 rfl rfl (Nat.le_of_ble_eq_true rfl) ⟨Nat.le_of_ble_eq_true rfl, Nat.le_of_ble_eq_true rfl⟩ ⟨Nat.le_refl _, Nat.le_refl _⟩ dX6_rowBarred_86 (fun H locs hP hD hS => ?_)
      refine W.eq (g2 := F0 m 89 ls [.int r5.1]) rfl ?_
      have hF := Option.some.inj hF
      subst hF
      exact hE _ _ _ _ _ hP hD hS dX6_rowBarred_89 rfl rfl
    have LP3 : ∀ (k3 : Nat) (t3 : (Int32 × tSI × tSA)), lp (S_X6_rowBarred_23 a4 a1 a3 a5) k3 t3 = some ox3 → ∀ (H : Heap) (locs : List Loc) (ls : Array Slot), va_P D vwCl (WM cA ad t3.2.1 t3.2.2) H → va_D A (WM cA ad t3.2.1 t3.2.2) → va_S A H0 H locs → lv_has ls 9 [(7, .int t3.1), (0, .ref (ad 0)), (1, .int a1), (3, .int a3), (4, .int a4), (5, .int a5)] → W p l ee (rmx 2 48) s m args below meth c H locs 0 0 Q (F0 m 23 ls []) := by
      intro k3
      induction k3 with
      | zero => intro t3 hF; exact (lp_no hF).elim
      | succ k3 ih3 =>
        intro t3 hF H locs ls hP hD hS hl
        change (S_X6_rowBarred_23 a4 a1 a3 a5) (lp (S_X6_rowBarred_23 a4 a1 a3 a5) k3) t3 = some ox3 at hF
        unfold S_X6_rowBarred_23 at hF
        refine lv_iload hx hb dX6_rowBarred_23 (lv_at hl 0 rfl) ?_
        refine lv_iload hx hb dX6_rowBarred_25 (lv_at hl 4 rfl) ?_
        refine lv_icmp_ge (tgt := 84) hx hb dX6_rowBarred_27 (by decide) (fun c6 => ?_) (fun c6 => ?_)
        · have hF := (if_pos c6).symm.trans hF
          exact JE3 _ (Option.some.inj hF).symm _ _ _ hP hD hS (lv_sub hl [1] rfl)
        · have hF := (if_neg c6).symm.trans hF
          refine lv_aload_n hx hb dX6_rowBarred_30 rfl (lv_at hl 1 rfl) ?_
          refine gM0_29 C0 hP q609 dX6_rowBarred_31 ?_
          refine lv_bipush (v := (60 : Int32)) hx hb dX6_rowBarred_34 (by decide) ?_
          refine lv_iload_n hx hb dX6_rowBarred_36 rfl (lv_at hl 2 rfl) ?_
          refine lv_imul hx hb dX6_rowBarred_37 ?_
          refine lv_iload_n hx hb dX6_rowBarred_38 rfl (lv_at hl 3 rfl) ?_
          refine lv_iadd hx hb dX6_rowBarred_39 ?_
          refine lv_iload hx hb dX6_rowBarred_40 (lv_at hl 0 rfl) ?_
          refine lv_iadd hx hb dX6_rowBarred_42 ?_
          obtain ⟨hin, hF⟩ := ld_some hF
          refine aMl20 (f := (t3.2.2 20)) C0 hP rfl hin dX6_rowBarred_43 ?_
          refine lv_istore (lv' := [(8, .int ((t3.2.2 20) (Int32.toNatClampNeg ((((60 : Int32) * a1) + a3) + t3.1)))), (7, .int t3.1), (0, .ref (ad 0)), (1, .int a1), (3, .int a3), (4, .int a4), (5, .int a5)]) hx hb dX6_rowBarred_44 hl (by decide) rfl (fun ls hl => ?_)
          refine lv_iload hx hb dX6_rowBarred_46 (lv_at hl 6 rfl) ?_
          refine lv_if_eq (tgt := 63) hx hb dX6_rowBarred_48 (by decide) (fun c7 => ?_) (fun c7 => ?_)
          · have hF := (if_pos c7).symm.trans hF
            refine lv_aload_n hx hb dX6_rowBarred_63 rfl (lv_at hl 2 rfl) ?_
            refine lv_iload hx hb dX6_rowBarred_64 (lv_at hl 0 rfl) ?_
            obtain ⟨r8, hr8, hF⟩ := bd_some hF
            refine kcV (As := [.int ((t3.2.2 20) (Int32.toNatClampNeg ((((60 : Int32) * a1) + a3) + t3.1)))]) (rest := []) C0 hA hP hD hS (c_X6_noSort l D cA ad t3.2.1 t3.2.2 ((t3.2.2 20) (Int32.toNatClampNeg ((((60 : Int32) * a1) + a3) + t3.1))) r8 hr8) lk_X6_noSort q730 s33 q728 0 6 rfl rfl hl.1 rfl rfl (Nat.le_of_ble_eq_true rfl) ⟨Nat.le_of_ble_eq_true rfl, Nat.le_of_ble_eq_true rfl⟩ ⟨Nat.le_refl _, Nat.le_refl _⟩ dX6_rowBarred_66 (fun H locs hP hD hS => ?_)
            refine W.eq (g2 := F0 m 69 ls [.int r8]) rfl ?_
            refine lv_if_eq (tgt := 78) hx hb dX6_rowBarred_69 (by decide) (fun c9 => ?_) (fun c9 => ?_)
            · have hF := (if_pos c9).symm.trans hF
              refine lv_iinc (v := (t3.1 + 1)) (lv' := [(7, .int (t3.1 + 1)), (8, .int ((t3.2.2 20) (Int32.toNatClampNeg ((((60 : Int32) * a1) + a3) + t3.1)))), (0, .ref (ad 0)), (1, .int a1), (3, .int a3), (4, .int a4), (5, .int a5)]) hx hb dX6_rowBarred_78 hl (k := 1) rfl rfl (by decide) rfl (fun ls hl => ?_)
              refine lv_goto (tgt := 23) hx hb dX6_rowBarred_81 (by decide) ?_
              exact ih3 _ hF _ _ _ hP hD hS (lv_sub hl [0, 2, 3, 4, 5, 6] rfl)
            · have hF := (if_neg c9).symm.trans hF
              refine lv_aload_n hx hb dX6_rowBarred_72 rfl (lv_at hl 2 rfl) ?_
              refine lv_iconst (v := (-1 : Int32)) hx hb dX6_rowBarred_73 (by decide) ?_
              obtain ⟨r10, hr10, hF⟩ := bd_some hF
              refine kcV (As := [.int (-1 : Int32)]) (rest := []) C0 hA hP hD hS (c_X6_refused l D cA ad t3.2.1 t3.2.2 (-1 : Int32) r10 hr10) lk_X6_refused q690 s25 q688 0 6 rfl rfl hl.1 rfl rfl (Nat.le_of_ble_eq_true rfl) ⟨Nat.le_of_ble_eq_true rfl, Nat.le_of_ble_eq_true rfl⟩ ⟨Nat.le_refl _, Nat.le_refl _⟩ dX6_rowBarred_74 (fun H locs hP hD hS => ?_)
              refine W.eq (g2 := F0 m 77 ls [.int r10.1]) rfl ?_
              have hF := Option.some.inj hF
              subst hF
              have hF := hI3 _ rfl
              subst hF
              exact hE _ _ _ _ _ hP hD hS dX6_rowBarred_77 rfl rfl
          · have hF := (if_neg c7).symm.trans hF
            refine lv_aload_n hx hb dX6_rowBarred_51 rfl (lv_at hl 2 rfl) ?_
            refine lv_iload hx hb dX6_rowBarred_52 (lv_at hl 0 rfl) ?_
            obtain ⟨r11, hr11, hF⟩ := bd_some hF
            refine kcV (As := [.int ((t3.2.2 20) (Int32.toNatClampNeg ((((60 : Int32) * a1) + a3) + t3.1)))]) (rest := []) C0 hA hP hD hS (c_X6_noSign l D cA ad t3.2.1 t3.2.2 ((t3.2.2 20) (Int32.toNatClampNeg ((((60 : Int32) * a1) + a3) + t3.1))) r11 hr11) lk_X6_noSign q742 s35 q740 0 6 rfl rfl hl.1 rfl rfl (Nat.le_of_ble_eq_true rfl) ⟨Nat.le_of_ble_eq_true rfl, Nat.le_of_ble_eq_true rfl⟩ ⟨Nat.le_refl _, Nat.le_refl _⟩ dX6_rowBarred_54 (fun H locs hP hD hS => ?_)
            refine W.eq (g2 := F0 m 57 ls [.int r11]) rfl ?_
            refine lv_if_eq (tgt := 78) hx hb dX6_rowBarred_57 (by decide) (fun c12 => ?_) (fun c12 => ?_)
            · have hF := (if_pos c12).symm.trans hF
              refine lv_iinc (v := (t3.1 + 1)) (lv' := [(7, .int (t3.1 + 1)), (8, .int ((t3.2.2 20) (Int32.toNatClampNeg ((((60 : Int32) * a1) + a3) + t3.1)))), (0, .ref (ad 0)), (1, .int a1), (3, .int a3), (4, .int a4), (5, .int a5)]) hx hb dX6_rowBarred_78 hl (k := 1) rfl rfl (by decide) rfl (fun ls hl => ?_)
              refine lv_goto (tgt := 23) hx hb dX6_rowBarred_81 (by decide) ?_
              exact ih3 _ hF _ _ _ hP hD hS (lv_sub hl [0, 2, 3, 4, 5, 6] rfl)
            · have hF := (if_neg c12).symm.trans hF
              refine lv_goto (tgt := 72) hx hb dX6_rowBarred_60 (by decide) ?_
              refine lv_aload_n hx hb dX6_rowBarred_72 rfl (lv_at hl 2 rfl) ?_
              refine lv_iconst (v := (-1 : Int32)) hx hb dX6_rowBarred_73 (by decide) ?_
              obtain ⟨r13, hr13, hF⟩ := bd_some hF
              refine kcV (As := [.int (-1 : Int32)]) (rest := []) C0 hA hP hD hS (c_X6_refused l D cA ad t3.2.1 t3.2.2 (-1 : Int32) r13 hr13) lk_X6_refused q690 s25 q688 0 6 rfl rfl hl.1 rfl rfl (Nat.le_of_ble_eq_true rfl) ⟨Nat.le_of_ble_eq_true rfl, Nat.le_of_ble_eq_true rfl⟩ ⟨Nat.le_refl _, Nat.le_refl _⟩ dX6_rowBarred_74 (fun H locs hP hD hS => ?_)
              refine W.eq (g2 := F0 m 77 ls [.int r13.1]) rfl ?_
              have hF := Option.some.inj hF
              subst hF
              have hF := hI3 _ rfl
              subst hF
              exact hE _ _ _ _ _ hP hD hS dX6_rowBarred_77 rfl rfl
    exact LP3 _ _ hL3 _ _ _ hP hD hS (lv_sub hl [0, 2, 3, 5, 6, 7] rfl)
  · have hF := (if_neg c2).symm.trans hF
    refine lv_iload hx hb dX6_rowBarred_17 (lv_at hl 0 rfl) ?_
    have hF := Option.some.inj hF
    subst hF
    exact hE _ _ _ _ _ hP hD hS dX6_rowBarred_19 rfl rfl
