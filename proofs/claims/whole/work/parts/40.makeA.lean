set_option maxHeartbeats 4000000 in
set_option maxRecDepth 100000 in
theorem c_X0_init (l : Launch) (D : va_G) (cA : ClassId) (h0 : Nat) : CI l yX0_init cX0_init 1 1 12 7 45 D h0 (.inr (0, [.int 0, .int 0, .int 0, .null, .null, .null, .null, .null, .null, .null])) cA (fun ad => [(h0, .inr (0, [.int 0, .int 0, .int 0, .ref (ad 0), .ref (ad 1), .ref (ad 2), .ref (ad 3), .ref (ad 4), .ref (ad 5), .ref (ad 6)])), ((ad 0), .inl (cA, 6, .inl fun _ => 0)), ((ad 1), .inl (cA, 6, .inl fun _ => 0)), ((ad 2), .inl (cA, 6, .inl fun _ => 0)), ((ad 3), .inl (cA, 6, .inl fun _ => 0)), ((ad 4), .inl (cA, 5, .inl fun _ => 0)), ((ad 5), .inl (cA, 8, .inl fun _ => 0)), ((ad 6), .inl (cA, 8, .inl fun _ => 0))]) := by
  refine CI.of (by decide) rfl (by decide) ?_
  intro p e s m args below meth c A Q H0 ls C0 hin hA hP hD hS hl kend
  refine lv_aload_n C0.1 C0.2.1 dX0_init_0 rfl (lv_at hl 0 rfl) ?_
  refine rObj C0 q41 hl.1 dX0_init_1 (Nat.le_of_ble_eq_true rfl) (Nat.le_of_ble_eq_true rfl) ?_
  refine lv_aload_n C0.1 C0.2.1 dX0_init_4 rfl (lv_at hl 0 rfl) ?_
  refine lv_bipush (v := (6 : Int32)) C0.1 C0.2.1 dX0_init_5 (by decide) ?_
  refine rNew (N' := 6) C0 hA hP hD hS (by decide) (by decide) (by decide) (Nat.le_of_ble_eq_true rfl) (Nat.le_of_ble_eq_true rfl) dX0_init_7 (fun q0 H hP hD hS => ?_)
  have hP : va_P D vwCl [(h0, .inr (0, [.int 0, .int 0, .int 0, .null, .null, .null, .null, .null, .null, .null])), (q0, .inl (cA, 6, .inl fun _ => 0))] H := hP
  have hD : va_D A [(h0, .inr (0, [.int 0, .int 0, .int 0, .null, .null, .null, .null, .null, .null, .null])), (q0, .inl (cA, 6, .inl fun _ => 0))] := hD
  refine va_putF (D := D) (ci := 0) (v := .ref q0) (ty := .array .int) (C := RX0) (T := TX0) (N := 10) C0.1 C0.2.1 C0.2.2.2.2.1 wsIn0 tyX0 tyX0_ok nmX0 C0.2.2.2.1 C0.2.2.2.2.2.1 hP hD hS 0 rfl rfl 3 (by decide) (C0.2.2.2.2.1 _ q49) (fun _ h9 => h9) rfl hin rfl (by decide +kernel) rfl rfl (Nat.le_of_ble_eq_true rfl) dX0_init_9 (fun H locs hP hD hS => ?_)
  have hP : va_P D vwCl [(h0, .inr (0, [.int 0, .int 0, .int 0, .ref q0, .null, .null, .null, .null, .null, .null])), (q0, .inl (cA, 6, .inl fun _ => 0))] H := hP
  have hD : va_D A [(h0, .inr (0, [.int 0, .int 0, .int 0, .ref q0, .null, .null, .null, .null, .null, .null])), (q0, .inl (cA, 6, .inl fun _ => 0))] := hD
  refine lv_aload_n C0.1 C0.2.1 dX0_init_12 rfl (lv_at hl 0 rfl) ?_
  refine lv_bipush (v := (6 : Int32)) C0.1 C0.2.1 dX0_init_13 (by decide) ?_
  refine rNew (N' := 6) C0 hA hP hD hS (by decide) (by decide) (by decide) (Nat.le_of_ble_eq_true rfl) (Nat.le_of_ble_eq_true rfl) dX0_init_15 (fun q1 H hP hD hS => ?_)
  have hP : va_P D vwCl [(h0, .inr (0, [.int 0, .int 0, .int 0, .ref q0, .null, .null, .null, .null, .null, .null])), (q0, .inl (cA, 6, .inl fun _ => 0)), (q1, .inl (cA, 6, .inl fun _ => 0))] H := hP
  have hD : va_D A [(h0, .inr (0, [.int 0, .int 0, .int 0, .ref q0, .null, .null, .null, .null, .null, .null])), (q0, .inl (cA, 6, .inl fun _ => 0)), (q1, .inl (cA, 6, .inl fun _ => 0))] := hD
  refine va_putF (D := D) (ci := 0) (v := .ref q1) (ty := .array .int) (C := RX0) (T := TX0) (N := 10) C0.1 C0.2.1 C0.2.2.2.2.1 wsIn0 tyX0 tyX0_ok nmX0 C0.2.2.2.1 C0.2.2.2.2.2.1 hP hD hS 0 rfl rfl 4 (by decide) (C0.2.2.2.2.1 _ q51) (fun _ h9 => h9) rfl hin rfl (by decide +kernel) rfl rfl (Nat.le_of_ble_eq_true rfl) dX0_init_17 (fun H locs hP hD hS => ?_)
  have hP : va_P D vwCl [(h0, .inr (0, [.int 0, .int 0, .int 0, .ref q0, .ref q1, .null, .null, .null, .null, .null])), (q0, .inl (cA, 6, .inl fun _ => 0)), (q1, .inl (cA, 6, .inl fun _ => 0))] H := hP
  have hD : va_D A [(h0, .inr (0, [.int 0, .int 0, .int 0, .ref q0, .ref q1, .null, .null, .null, .null, .null])), (q0, .inl (cA, 6, .inl fun _ => 0)), (q1, .inl (cA, 6, .inl fun _ => 0))] := hD
  refine lv_aload_n C0.1 C0.2.1 dX0_init_20 rfl (lv_at hl 0 rfl) ?_
  refine lv_bipush (v := (6 : Int32)) C0.1 C0.2.1 dX0_init_21 (by decide) ?_
  refine rNew (N' := 6) C0 hA hP hD hS (by decide) (by decide) (by decide) (Nat.le_of_ble_eq_true rfl) (Nat.le_of_ble_eq_true rfl) dX0_init_23 (fun q2 H hP hD hS => ?_)
  have hP : va_P D vwCl [(h0, .inr (0, [.int 0, .int 0, .int 0, .ref q0, .ref q1, .null, .null, .null, .null, .null])), (q0, .inl (cA, 6, .inl fun _ => 0)), (q1, .inl (cA, 6, .inl fun _ => 0)), (q2, .inl (cA, 6, .inl fun _ => 0))] H := hP
  have hD : va_D A [(h0, .inr (0, [.int 0, .int 0, .int 0, .ref q0, .ref q1, .null, .null, .null, .null, .null])), (q0, .inl (cA, 6, .inl fun _ => 0)), (q1, .inl (cA, 6, .inl fun _ => 0)), (q2, .inl (cA, 6, .inl fun _ => 0))] := hD
  refine va_putF (D := D) (ci := 0) (v := .ref q2) (ty := .array .int) (C := RX0) (T := TX0) (N := 10) C0.1 C0.2.1 C0.2.2.2.2.1 wsIn0 tyX0 tyX0_ok nmX0 C0.2.2.2.1 C0.2.2.2.2.2.1 hP hD hS 0 rfl rfl 5 (by decide) (C0.2.2.2.2.1 _ q53) (fun _ h9 => h9) rfl hin rfl (by decide +kernel) rfl rfl (Nat.le_of_ble_eq_true rfl) dX0_init_25 (fun H locs hP hD hS => ?_)
  have hP : va_P D vwCl [(h0, .inr (0, [.int 0, .int 0, .int 0, .ref q0, .ref q1, .ref q2, .null, .null, .null, .null])), (q0, .inl (cA, 6, .inl fun _ => 0)), (q1, .inl (cA, 6, .inl fun _ => 0)), (q2, .inl (cA, 6, .inl fun _ => 0))] H := hP
  have hD : va_D A [(h0, .inr (0, [.int 0, .int 0, .int 0, .ref q0, .ref q1, .ref q2, .null, .null, .null, .null])), (q0, .inl (cA, 6, .inl fun _ => 0)), (q1, .inl (cA, 6, .inl fun _ => 0)), (q2, .inl (cA, 6, .inl fun _ => 0))] := hD
  refine lv_aload_n C0.1 C0.2.1 dX0_init_28 rfl (lv_at hl 0 rfl) ?_
  refine lv_bipush (v := (6 : Int32)) C0.1 C0.2.1 dX0_init_29 (by decide) ?_
  refine rNew (N' := 6) C0 hA hP hD hS (by decide) (by decide) (by decide) (Nat.le_of_ble_eq_true rfl) (Nat.le_of_ble_eq_true rfl) dX0_init_31 (fun q3 H hP hD hS => ?_)
  have hP : va_P D vwCl [(h0, .inr (0, [.int 0, .int 0, .int 0, .ref q0, .ref q1, .ref q2, .null, .null, .null, .null])), (q0, .inl (cA, 6, .inl fun _ => 0)), (q1, .inl (cA, 6, .inl fun _ => 0)), (q2, .inl (cA, 6, .inl fun _ => 0)), (q3, .inl (cA, 6, .inl fun _ => 0))] H := hP
  have hD : va_D A [(h0, .inr (0, [.int 0, .int 0, .int 0, .ref q0, .ref q1, .ref q2, .null, .null, .null, .null])), (q0, .inl (cA, 6, .inl fun _ => 0)), (q1, .inl (cA, 6, .inl fun _ => 0)), (q2, .inl (cA, 6, .inl fun _ => 0)), (q3, .inl (cA, 6, .inl fun _ => 0))] := hD
  refine va_putF (D := D) (ci := 0) (v := .ref q3) (ty := .array .int) (C := RX0) (T := TX0) (N := 10) C0.1 C0.2.1 C0.2.2.2.2.1 wsIn0 tyX0 tyX0_ok nmX0 C0.2.2.2.1 C0.2.2.2.2.2.1 hP hD hS 0 rfl rfl 6 (by decide) (C0.2.2.2.2.1 _ q55) (fun _ h9 => h9) rfl hin rfl (by decide +kernel) rfl rfl (Nat.le_of_ble_eq_true rfl) dX0_init_33 (fun H locs hP hD hS => ?_)
  have hP : va_P D vwCl [(h0, .inr (0, [.int 0, .int 0, .int 0, .ref q0, .ref q1, .ref q2, .ref q3, .null, .null, .null])), (q0, .inl (cA, 6, .inl fun _ => 0)), (q1, .inl (cA, 6, .inl fun _ => 0)), (q2, .inl (cA, 6, .inl fun _ => 0)), (q3, .inl (cA, 6, .inl fun _ => 0))] H := hP
  have hD : va_D A [(h0, .inr (0, [.int 0, .int 0, .int 0, .ref q0, .ref q1, .ref q2, .ref q3, .null, .null, .null])), (q0, .inl (cA, 6, .inl fun _ => 0)), (q1, .inl (cA, 6, .inl fun _ => 0)), (q2, .inl (cA, 6, .inl fun _ => 0)), (q3, .inl (cA, 6, .inl fun _ => 0))] := hD
  refine lv_aload_n C0.1 C0.2.1 dX0_init_36 rfl (lv_at hl 0 rfl) ?_
  refine lv_iconst (v := (5 : Int32)) C0.1 C0.2.1 dX0_init_37 (by decide) ?_
  refine rNew (N' := 5) C0 hA hP hD hS (by decide) (by decide) (by decide) (Nat.le_of_ble_eq_true rfl) (Nat.le_of_ble_eq_true rfl) dX0_init_38 (fun q4 H hP hD hS => ?_)
  have hP : va_P D vwCl [(h0, .inr (0, [.int 0, .int 0, .int 0, .ref q0, .ref q1, .ref q2, .ref q3, .null, .null, .null])), (q0, .inl (cA, 6, .inl fun _ => 0)), (q1, .inl (cA, 6, .inl fun _ => 0)), (q2, .inl (cA, 6, .inl fun _ => 0)), (q3, .inl (cA, 6, .inl fun _ => 0)), (q4, .inl (cA, 5, .inl fun _ => 0))] H := hP
  have hD : va_D A [(h0, .inr (0, [.int 0, .int 0, .int 0, .ref q0, .ref q1, .ref q2, .ref q3, .null, .null, .null])), (q0, .inl (cA, 6, .inl fun _ => 0)), (q1, .inl (cA, 6, .inl fun _ => 0)), (q2, .inl (cA, 6, .inl fun _ => 0)), (q3, .inl (cA, 6, .inl fun _ => 0)), (q4, .inl (cA, 5, .inl fun _ => 0))] := hD
  refine va_putF (D := D) (ci := 0) (v := .ref q4) (ty := .array .int) (C := RX0) (T := TX0) (N := 10) C0.1 C0.2.1 C0.2.2.2.2.1 wsIn0 tyX0 tyX0_ok nmX0 C0.2.2.2.1 C0.2.2.2.2.2.1 hP hD hS 0 rfl rfl 7 (by decide) (C0.2.2.2.2.1 _ q57) (fun _ h9 => h9) rfl hin rfl (by decide +kernel) rfl rfl (Nat.le_of_ble_eq_true rfl) dX0_init_40 (fun H locs hP hD hS => ?_)
  have hP : va_P D vwCl [(h0, .inr (0, [.int 0, .int 0, .int 0, .ref q0, .ref q1, .ref q2, .ref q3, .ref q4, .null, .null])), (q0, .inl (cA, 6, .inl fun _ => 0)), (q1, .inl (cA, 6, .inl fun _ => 0)), (q2, .inl (cA, 6, .inl fun _ => 0)), (q3, .inl (cA, 6, .inl fun _ => 0)), (q4, .inl (cA, 5, .inl fun _ => 0))] H := hP
  have hD : va_D A [(h0, .inr (0, [.int 0, .int 0, .int 0, .ref q0, .ref q1, .ref q2, .ref q3, .ref q4, .null, .null])), (q0, .inl (cA, 6, .inl fun _ => 0)), (q1, .inl (cA, 6, .inl fun _ => 0)), (q2, .inl (cA, 6, .inl fun _ => 0)), (q3, .inl (cA, 6, .inl fun _ => 0)), (q4, .inl (cA, 5, .inl fun _ => 0))] := hD
  refine lv_aload_n C0.1 C0.2.1 dX0_init_43 rfl (lv_at hl 0 rfl) ?_
  refine lv_bipush (v := (8 : Int32)) C0.1 C0.2.1 dX0_init_44 (by decide) ?_
  refine rNew (N' := 8) C0 hA hP hD hS (by decide) (by decide) (by decide) (Nat.le_of_ble_eq_true rfl) (Nat.le_of_ble_eq_true rfl) dX0_init_46 (fun q5 H hP hD hS => ?_)
  have hP : va_P D vwCl [(h0, .inr (0, [.int 0, .int 0, .int 0, .ref q0, .ref q1, .ref q2, .ref q3, .ref q4, .null, .null])), (q0, .inl (cA, 6, .inl fun _ => 0)), (q1, .inl (cA, 6, .inl fun _ => 0)), (q2, .inl (cA, 6, .inl fun _ => 0)), (q3, .inl (cA, 6, .inl fun _ => 0)), (q4, .inl (cA, 5, .inl fun _ => 0)), (q5, .inl (cA, 8, .inl fun _ => 0))] H := hP
  have hD : va_D A [(h0, .inr (0, [.int 0, .int 0, .int 0, .ref q0, .ref q1, .ref q2, .ref q3, .ref q4, .null, .null])), (q0, .inl (cA, 6, .inl fun _ => 0)), (q1, .inl (cA, 6, .inl fun _ => 0)), (q2, .inl (cA, 6, .inl fun _ => 0)), (q3, .inl (cA, 6, .inl fun _ => 0)), (q4, .inl (cA, 5, .inl fun _ => 0)), (q5, .inl (cA, 8, .inl fun _ => 0))] := hD
  refine va_putF (D := D) (ci := 0) (v := .ref q5) (ty := .array .int) (C := RX0) (T := TX0) (N := 10) C0.1 C0.2.1 C0.2.2.2.2.1 wsIn0 tyX0 tyX0_ok nmX0 C0.2.2.2.1 C0.2.2.2.2.2.1 hP hD hS 0 rfl rfl 8 (by decide) (C0.2.2.2.2.1 _ q60) (fun _ h9 => h9) rfl hin rfl (by decide +kernel) rfl rfl (Nat.le_of_ble_eq_true rfl) dX0_init_48 (fun H locs hP hD hS => ?_)
  have hP : va_P D vwCl [(h0, .inr (0, [.int 0, .int 0, .int 0, .ref q0, .ref q1, .ref q2, .ref q3, .ref q4, .ref q5, .null])), (q0, .inl (cA, 6, .inl fun _ => 0)), (q1, .inl (cA, 6, .inl fun _ => 0)), (q2, .inl (cA, 6, .inl fun _ => 0)), (q3, .inl (cA, 6, .inl fun _ => 0)), (q4, .inl (cA, 5, .inl fun _ => 0)), (q5, .inl (cA, 8, .inl fun _ => 0))] H := hP
  have hD : va_D A [(h0, .inr (0, [.int 0, .int 0, .int 0, .ref q0, .ref q1, .ref q2, .ref q3, .ref q4, .ref q5, .null])), (q0, .inl (cA, 6, .inl fun _ => 0)), (q1, .inl (cA, 6, .inl fun _ => 0)), (q2, .inl (cA, 6, .inl fun _ => 0)), (q3, .inl (cA, 6, .inl fun _ => 0)), (q4, .inl (cA, 5, .inl fun _ => 0)), (q5, .inl (cA, 8, .inl fun _ => 0))] := hD
  refine lv_aload_n C0.1 C0.2.1 dX0_init_51 rfl (lv_at hl 0 rfl) ?_
  refine lv_bipush (v := (8 : Int32)) C0.1 C0.2.1 dX0_init_52 (by decide) ?_
  refine rNew (N' := 8) C0 hA hP hD hS (by decide) (by decide) (by decide) (Nat.le_of_ble_eq_true rfl) (Nat.le_of_ble_eq_true rfl) dX0_init_54 (fun q6 H hP hD hS => ?_)
  have hP : va_P D vwCl [(h0, .inr (0, [.int 0, .int 0, .int 0, .ref q0, .ref q1, .ref q2, .ref q3, .ref q4, .ref q5, .null])), (q0, .inl (cA, 6, .inl fun _ => 0)), (q1, .inl (cA, 6, .inl fun _ => 0)), (q2, .inl (cA, 6, .inl fun _ => 0)), (q3, .inl (cA, 6, .inl fun _ => 0)), (q4, .inl (cA, 5, .inl fun _ => 0)), (q5, .inl (cA, 8, .inl fun _ => 0)), (q6, .inl (cA, 8, .inl fun _ => 0))] H := hP
  have hD : va_D A [(h0, .inr (0, [.int 0, .int 0, .int 0, .ref q0, .ref q1, .ref q2, .ref q3, .ref q4, .ref q5, .null])), (q0, .inl (cA, 6, .inl fun _ => 0)), (q1, .inl (cA, 6, .inl fun _ => 0)), (q2, .inl (cA, 6, .inl fun _ => 0)), (q3, .inl (cA, 6, .inl fun _ => 0)), (q4, .inl (cA, 5, .inl fun _ => 0)), (q5, .inl (cA, 8, .inl fun _ => 0)), (q6, .inl (cA, 8, .inl fun _ => 0))] := hD
  refine va_putF (D := D) (ci := 0) (v := .ref q6) (ty := .array .int) (C := RX0) (T := TX0) (N := 10) C0.1 C0.2.1 C0.2.2.2.2.1 wsIn0 tyX0 tyX0_ok nmX0 C0.2.2.2.1 C0.2.2.2.2.2.1 hP hD hS 0 rfl rfl 9 (by decide) (C0.2.2.2.2.1 _ q61) (fun _ h9 => h9) rfl hin rfl (by decide +kernel) rfl rfl (Nat.le_of_ble_eq_true rfl) dX0_init_56 (fun H locs hP hD hS => ?_)
  have hP : va_P D vwCl [(h0, .inr (0, [.int 0, .int 0, .int 0, .ref q0, .ref q1, .ref q2, .ref q3, .ref q4, .ref q5, .ref q6])), (q0, .inl (cA, 6, .inl fun _ => 0)), (q1, .inl (cA, 6, .inl fun _ => 0)), (q2, .inl (cA, 6, .inl fun _ => 0)), (q3, .inl (cA, 6, .inl fun _ => 0)), (q4, .inl (cA, 5, .inl fun _ => 0)), (q5, .inl (cA, 8, .inl fun _ => 0)), (q6, .inl (cA, 8, .inl fun _ => 0))] H := hP
  have hD : va_D A [(h0, .inr (0, [.int 0, .int 0, .int 0, .ref q0, .ref q1, .ref q2, .ref q3, .ref q4, .ref q5, .ref q6])), (q0, .inl (cA, 6, .inl fun _ => 0)), (q1, .inl (cA, 6, .inl fun _ => 0)), (q2, .inl (cA, 6, .inl fun _ => 0)), (q3, .inl (cA, 6, .inl fun _ => 0)), (q4, .inl (cA, 5, .inl fun _ => 0)), (q5, .inl (cA, 8, .inl fun _ => 0)), (q6, .inl (cA, 8, .inl fun _ => 0))] := hD
  exact kend _ _ _ _ (fun i => [q0, q1, q2, q3, q4, q5, q6].getD i 0) hP hD hS dX0_init_59
set_option maxHeartbeats 4000000 in
set_option maxRecDepth 100000 in
theorem c_X1_init (l : Launch) (D : va_G) (cA : ClassId) (h0 : Nat) : CI l yX1_init cX1_init 1 1 12 2 96 D h0 (.inr (1, [.null, .null])) cA (fun ad => [(h0, .inr (1, [.ref (ad 0), .ref (ad 1)])), ((ad 0), .inl (cA, 32, .inl fun _ => 0)), ((ad 1), .inl (cA, 64, .inl fun _ => 0))]) := by
  refine CI.of (by decide) rfl (by decide) ?_
  intro p e s m args below meth c A Q H0 ls C0 hin hA hP hD hS hl kend
  refine lv_aload_n C0.1 C0.2.1 dX1_init_0 rfl (lv_at hl 0 rfl) ?_
  refine rObj C0 q137 hl.1 dX1_init_1 (Nat.le_of_ble_eq_true rfl) (Nat.le_of_ble_eq_true rfl) ?_
  refine lv_aload_n C0.1 C0.2.1 dX1_init_4 rfl (lv_at hl 0 rfl) ?_
  refine lv_bipush (v := (32 : Int32)) C0.1 C0.2.1 dX1_init_5 (by decide) ?_
  refine rNew (N' := 32) C0 hA hP hD hS (by decide) (by decide) (by decide) (Nat.le_of_ble_eq_true rfl) (Nat.le_of_ble_eq_true rfl) dX1_init_7 (fun q0 H hP hD hS => ?_)
  have hP : va_P D vwCl [(h0, .inr (1, [.null, .null])), (q0, .inl (cA, 32, .inl fun _ => 0))] H := hP
  have hD : va_D A [(h0, .inr (1, [.null, .null])), (q0, .inl (cA, 32, .inl fun _ => 0))] := hD
  refine va_putF (D := D) (ci := 1) (v := .ref q0) (ty := .array .int) (C := RX1) (T := TX1) (N := 2) C0.1 C0.2.1 C0.2.2.2.2.1 wsIn1 tyX1 tyX1_ok nmX1 C0.2.2.2.1 C0.2.2.2.2.2.1 hP hD hS 0 rfl rfl 0 (by decide) (C0.2.2.2.2.1 _ q138) (fun _ h9 => h9) rfl hin rfl (by decide +kernel) rfl rfl (Nat.le_of_ble_eq_true rfl) dX1_init_9 (fun H locs hP hD hS => ?_)
  have hP : va_P D vwCl [(h0, .inr (1, [.ref q0, .null])), (q0, .inl (cA, 32, .inl fun _ => 0))] H := hP
  have hD : va_D A [(h0, .inr (1, [.ref q0, .null])), (q0, .inl (cA, 32, .inl fun _ => 0))] := hD
  refine lv_aload_n C0.1 C0.2.1 dX1_init_12 rfl (lv_at hl 0 rfl) ?_
  refine lv_bipush (v := (64 : Int32)) C0.1 C0.2.1 dX1_init_13 (by decide) ?_
  refine rNew (N' := 64) C0 hA hP hD hS (by decide) (by decide) (by decide) (Nat.le_of_ble_eq_true rfl) (Nat.le_of_ble_eq_true rfl) dX1_init_15 (fun q1 H hP hD hS => ?_)
  have hP : va_P D vwCl [(h0, .inr (1, [.ref q0, .null])), (q0, .inl (cA, 32, .inl fun _ => 0)), (q1, .inl (cA, 64, .inl fun _ => 0))] H := hP
  have hD : va_D A [(h0, .inr (1, [.ref q0, .null])), (q0, .inl (cA, 32, .inl fun _ => 0)), (q1, .inl (cA, 64, .inl fun _ => 0))] := hD
  refine va_putF (D := D) (ci := 1) (v := .ref q1) (ty := .array .int) (C := RX1) (T := TX1) (N := 2) C0.1 C0.2.1 C0.2.2.2.2.1 wsIn1 tyX1 tyX1_ok nmX1 C0.2.2.2.1 C0.2.2.2.2.2.1 hP hD hS 0 rfl rfl 1 (by decide) (C0.2.2.2.2.1 _ q139) (fun _ h9 => h9) rfl hin rfl (by decide +kernel) rfl rfl (Nat.le_of_ble_eq_true rfl) dX1_init_17 (fun H locs hP hD hS => ?_)
  have hP : va_P D vwCl [(h0, .inr (1, [.ref q0, .ref q1])), (q0, .inl (cA, 32, .inl fun _ => 0)), (q1, .inl (cA, 64, .inl fun _ => 0))] H := hP
  have hD : va_D A [(h0, .inr (1, [.ref q0, .ref q1])), (q0, .inl (cA, 32, .inl fun _ => 0)), (q1, .inl (cA, 64, .inl fun _ => 0))] := hD
  exact kend _ _ _ _ (fun i => [q0, q1].getD i 0) hP hD hS dX1_init_20
set_option maxHeartbeats 4000000 in
set_option maxRecDepth 100000 in
theorem c_X2_init (l : Launch) (D : va_G) (cA : ClassId) (h0 : Nat) : CI l yX2_init cX2_init 2 1 12 3 248 D h0 (.inr (2, [.null, .null, .null])) cA (fun ad => [(h0, .inr (2, [.ref (ad 0), .ref (ad 1), .ref (ad 2)])), ((ad 0), .inl (cA, 240, .inl fun _ => 0)), ((ad 1), .inl (cA, 4, .inl fun _ => 0)), ((ad 2), .inl (cA, 4, .inl (upd (upd (upd (upd (fun _ => 0) 0 (-9)) 1 (-9)) 2 (-9)) 3 (-9))))]) := by
  refine CI.of (by decide) rfl (by decide) ?_
  intro p e s m args below meth c A Q H0 ls C0 hin hA hP hD hS hl kend
  refine lv_aload_n C0.1 C0.2.1 dX2_init_0 rfl (lv_at hl 0 rfl) ?_
  refine rObj C0 q24 hl.1 dX2_init_1 (Nat.le_of_ble_eq_true rfl) (Nat.le_of_ble_eq_true rfl) ?_
  refine lv_aload_n C0.1 C0.2.1 dX2_init_4 rfl (lv_at hl 0 rfl) ?_
  refine lv_sipush (v := (240 : Int32)) C0.1 C0.2.1 dX2_init_5 (by decide) ?_
  refine rNew (N' := 240) C0 hA hP hD hS (by decide) (by decide) (by decide) (Nat.le_of_ble_eq_true rfl) (Nat.le_of_ble_eq_true rfl) dX2_init_8 (fun q0 H hP hD hS => ?_)
  have hP : va_P D vwCl [(h0, .inr (2, [.null, .null, .null])), (q0, .inl (cA, 240, .inl fun _ => 0))] H := hP
  have hD : va_D A [(h0, .inr (2, [.null, .null, .null])), (q0, .inl (cA, 240, .inl fun _ => 0))] := hD
  refine va_putF (D := D) (ci := 2) (v := .ref q0) (ty := .array .int) (C := RX2) (T := TX2) (N := 3) C0.1 C0.2.1 C0.2.2.2.2.1 wsIn2 tyX2 tyX2_ok nmX2 C0.2.2.2.1 C0.2.2.2.2.2.1 hP hD hS 0 rfl rfl 0 (by decide) (C0.2.2.2.2.1 _ q25) (fun _ h9 => h9) rfl hin rfl (by decide +kernel) rfl rfl (Nat.le_of_ble_eq_true rfl) dX2_init_10 (fun H locs hP hD hS => ?_)
  have hP : va_P D vwCl [(h0, .inr (2, [.ref q0, .null, .null])), (q0, .inl (cA, 240, .inl fun _ => 0))] H := hP
  have hD : va_D A [(h0, .inr (2, [.ref q0, .null, .null])), (q0, .inl (cA, 240, .inl fun _ => 0))] := hD
  refine lv_aload_n C0.1 C0.2.1 dX2_init_13 rfl (lv_at hl 0 rfl) ?_
  refine lv_iconst (v := (4 : Int32)) C0.1 C0.2.1 dX2_init_14 (by decide) ?_
  refine rNew (N' := 4) C0 hA hP hD hS (by decide) (by decide) (by decide) (Nat.le_of_ble_eq_true rfl) (Nat.le_of_ble_eq_true rfl) dX2_init_15 (fun q1 H hP hD hS => ?_)
  have hP : va_P D vwCl [(h0, .inr (2, [.ref q0, .null, .null])), (q0, .inl (cA, 240, .inl fun _ => 0)), (q1, .inl (cA, 4, .inl fun _ => 0))] H := hP
  have hD : va_D A [(h0, .inr (2, [.ref q0, .null, .null])), (q0, .inl (cA, 240, .inl fun _ => 0)), (q1, .inl (cA, 4, .inl fun _ => 0))] := hD
  refine va_putF (D := D) (ci := 2) (v := .ref q1) (ty := .array .int) (C := RX2) (T := TX2) (N := 3) C0.1 C0.2.1 C0.2.2.2.2.1 wsIn2 tyX2 tyX2_ok nmX2 C0.2.2.2.1 C0.2.2.2.2.2.1 hP hD hS 0 rfl rfl 1 (by decide) (C0.2.2.2.2.1 _ q26) (fun _ h9 => h9) rfl hin rfl (by decide +kernel) rfl rfl (Nat.le_of_ble_eq_true rfl) dX2_init_17 (fun H locs hP hD hS => ?_)
  have hP : va_P D vwCl [(h0, .inr (2, [.ref q0, .ref q1, .null])), (q0, .inl (cA, 240, .inl fun _ => 0)), (q1, .inl (cA, 4, .inl fun _ => 0))] H := hP
  have hD : va_D A [(h0, .inr (2, [.ref q0, .ref q1, .null])), (q0, .inl (cA, 240, .inl fun _ => 0)), (q1, .inl (cA, 4, .inl fun _ => 0))] := hD
  refine lv_aload_n C0.1 C0.2.1 dX2_init_20 rfl (lv_at hl 0 rfl) ?_
  refine lv_iconst (v := (4 : Int32)) C0.1 C0.2.1 dX2_init_21 (by decide) ?_
  refine rNew (N' := 4) C0 hA hP hD hS (by decide) (by decide) (by decide) (Nat.le_of_ble_eq_true rfl) (Nat.le_of_ble_eq_true rfl) dX2_init_22 (fun q2 H hP hD hS => ?_)
  have hP : va_P D vwCl [(h0, .inr (2, [.ref q0, .ref q1, .null])), (q0, .inl (cA, 240, .inl fun _ => 0)), (q1, .inl (cA, 4, .inl fun _ => 0)), (q2, .inl (cA, 4, .inl fun _ => 0))] H := hP
  have hD : va_D A [(h0, .inr (2, [.ref q0, .ref q1, .null])), (q0, .inl (cA, 240, .inl fun _ => 0)), (q1, .inl (cA, 4, .inl fun _ => 0)), (q2, .inl (cA, 4, .inl fun _ => 0))] := hD
  refine va_putF (D := D) (ci := 2) (v := .ref q2) (ty := .array .int) (C := RX2) (T := TX2) (N := 3) C0.1 C0.2.1 C0.2.2.2.2.1 wsIn2 tyX2 tyX2_ok nmX2 C0.2.2.2.1 C0.2.2.2.2.2.1 hP hD hS 0 rfl rfl 2 (by decide) (C0.2.2.2.2.1 _ q27) (fun _ h9 => h9) rfl hin rfl (by decide +kernel) rfl rfl (Nat.le_of_ble_eq_true rfl) dX2_init_24 (fun H locs hP hD hS => ?_)
  have hP : va_P D vwCl [(h0, .inr (2, [.ref q0, .ref q1, .ref q2])), (q0, .inl (cA, 240, .inl fun _ => 0)), (q1, .inl (cA, 4, .inl fun _ => 0)), (q2, .inl (cA, 4, .inl fun _ => 0))] H := hP
  have hD : va_D A [(h0, .inr (2, [.ref q0, .ref q1, .ref q2])), (q0, .inl (cA, 240, .inl fun _ => 0)), (q1, .inl (cA, 4, .inl fun _ => 0)), (q2, .inl (cA, 4, .inl fun _ => 0))] := hD
  refine lv_iconst (v := (0 : Int32)) C0.1 C0.2.1 dX2_init_27 (by decide) ?_
  refine lv_istore_n (lv' := [(1, .int (0 : Int32)), (0, .ref h0)]) C0.1 C0.2.1 dX2_init_28 rfl hl (by decide) rfl (fun ls hl => ?_)
  refine lv_iload_n C0.1 C0.2.1 dX2_init_29 rfl (lv_at hl 0 rfl) ?_
  refine lv_iconst (v := (4 : Int32)) C0.1 C0.2.1 dX2_init_30 (by decide) ?_
  refine lv_icmp_ge (tgt := 48) C0.1 C0.2.1 dX2_init_31 (by decide) (fun z => absurd z (by decide)) (fun _ => ?_)
  refine lv_aload_n C0.1 C0.2.1 dX2_init_34 rfl (lv_at hl 1 rfl) ?_
  refine va_get (D := D) (ci := 2) (C := RX2) (T := TX2) (N := 3) C0.1 C0.2.1 C0.2.2.2.2.1 wsIn2 C0.2.2.2.1 C0.2.2.2.2.2.1 hP 0 rfl rfl 2 (by decide) (C0.2.2.2.2.1 _ q27) (fun _ h9 => h9) rfl dX2_init_35 ?_
  refine lv_iload_n C0.1 C0.2.1 dX2_init_38 rfl (lv_at hl 0 rfl) ?_
  refine lv_bipush (v := (-9 : Int32)) C0.1 C0.2.1 dX2_init_39 (by decide) ?_
  refine va_iast (D := D) C0.1 C0.2.1 C0.2.2.2.2.2.1 hP hD hS 3 0 rfl rfl (show vp_in (nI 0) 4 from vp_in_nI (by decide) (by decide)) dX2_init_41 (fun H locs hP hD hS => ?_)
  have hP : va_P D vwCl [(h0, .inr (2, [.ref q0, .ref q1, .ref q2])), (q0, .inl (cA, 240, .inl fun _ => 0)), (q1, .inl (cA, 4, .inl fun _ => 0)), (q2, .inl (cA, 4, .inl (upd (fun _ => 0) 0 (-9))))] H := hP
  have hD : va_D A [(h0, .inr (2, [.ref q0, .ref q1, .ref q2])), (q0, .inl (cA, 240, .inl fun _ => 0)), (q1, .inl (cA, 4, .inl fun _ => 0)), (q2, .inl (cA, 4, .inl (upd (fun _ => 0) 0 (-9))))] := hD
  refine lv_iinc (v := (1 : Int32)) (lv' := [(1, .int (1 : Int32)), (0, .ref h0)]) C0.1 C0.2.1 dX2_init_42 hl (k := 0) rfl (by decide) (by decide) rfl (fun ls hl => ?_)
  refine lv_goto (tgt := 29) C0.1 C0.2.1 dX2_init_45 (by decide) ?_
  refine lv_iload_n C0.1 C0.2.1 dX2_init_29 rfl (lv_at hl 0 rfl) ?_
  refine lv_iconst (v := (4 : Int32)) C0.1 C0.2.1 dX2_init_30 (by decide) ?_
  refine lv_icmp_ge (tgt := 48) C0.1 C0.2.1 dX2_init_31 (by decide) (fun z => absurd z (by decide)) (fun _ => ?_)
  refine lv_aload_n C0.1 C0.2.1 dX2_init_34 rfl (lv_at hl 1 rfl) ?_
  refine va_get (D := D) (ci := 2) (C := RX2) (T := TX2) (N := 3) C0.1 C0.2.1 C0.2.2.2.2.1 wsIn2 C0.2.2.2.1 C0.2.2.2.2.2.1 hP 0 rfl rfl 2 (by decide) (C0.2.2.2.2.1 _ q27) (fun _ h9 => h9) rfl dX2_init_35 ?_
  refine lv_iload_n C0.1 C0.2.1 dX2_init_38 rfl (lv_at hl 0 rfl) ?_
  refine lv_bipush (v := (-9 : Int32)) C0.1 C0.2.1 dX2_init_39 (by decide) ?_
  refine va_iast (D := D) C0.1 C0.2.1 C0.2.2.2.2.2.1 hP hD hS 3 0 rfl rfl (show vp_in (nI 1) 4 from vp_in_nI (by decide) (by decide)) dX2_init_41 (fun H locs hP hD hS => ?_)
  have hP : va_P D vwCl [(h0, .inr (2, [.ref q0, .ref q1, .ref q2])), (q0, .inl (cA, 240, .inl fun _ => 0)), (q1, .inl (cA, 4, .inl fun _ => 0)), (q2, .inl (cA, 4, .inl (upd (upd (fun _ => 0) 0 (-9)) 1 (-9))))] H := hP
  have hD : va_D A [(h0, .inr (2, [.ref q0, .ref q1, .ref q2])), (q0, .inl (cA, 240, .inl fun _ => 0)), (q1, .inl (cA, 4, .inl fun _ => 0)), (q2, .inl (cA, 4, .inl (upd (upd (fun _ => 0) 0 (-9)) 1 (-9))))] := hD
  refine lv_iinc (v := (2 : Int32)) (lv' := [(1, .int (2 : Int32)), (0, .ref h0)]) C0.1 C0.2.1 dX2_init_42 hl (k := 0) rfl (by decide) (by decide) rfl (fun ls hl => ?_)
  refine lv_goto (tgt := 29) C0.1 C0.2.1 dX2_init_45 (by decide) ?_
  refine lv_iload_n C0.1 C0.2.1 dX2_init_29 rfl (lv_at hl 0 rfl) ?_
  refine lv_iconst (v := (4 : Int32)) C0.1 C0.2.1 dX2_init_30 (by decide) ?_
  refine lv_icmp_ge (tgt := 48) C0.1 C0.2.1 dX2_init_31 (by decide) (fun z => absurd z (by decide)) (fun _ => ?_)
  refine lv_aload_n C0.1 C0.2.1 dX2_init_34 rfl (lv_at hl 1 rfl) ?_
  refine va_get (D := D) (ci := 2) (C := RX2) (T := TX2) (N := 3) C0.1 C0.2.1 C0.2.2.2.2.1 wsIn2 C0.2.2.2.1 C0.2.2.2.2.2.1 hP 0 rfl rfl 2 (by decide) (C0.2.2.2.2.1 _ q27) (fun _ h9 => h9) rfl dX2_init_35 ?_
  refine lv_iload_n C0.1 C0.2.1 dX2_init_38 rfl (lv_at hl 0 rfl) ?_
  refine lv_bipush (v := (-9 : Int32)) C0.1 C0.2.1 dX2_init_39 (by decide) ?_
  refine va_iast (D := D) C0.1 C0.2.1 C0.2.2.2.2.2.1 hP hD hS 3 0 rfl rfl (show vp_in (nI 2) 4 from vp_in_nI (by decide) (by decide)) dX2_init_41 (fun H locs hP hD hS => ?_)
  have hP : va_P D vwCl [(h0, .inr (2, [.ref q0, .ref q1, .ref q2])), (q0, .inl (cA, 240, .inl fun _ => 0)), (q1, .inl (cA, 4, .inl fun _ => 0)), (q2, .inl (cA, 4, .inl (upd (upd (upd (fun _ => 0) 0 (-9)) 1 (-9)) 2 (-9))))] H := hP
  have hD : va_D A [(h0, .inr (2, [.ref q0, .ref q1, .ref q2])), (q0, .inl (cA, 240, .inl fun _ => 0)), (q1, .inl (cA, 4, .inl fun _ => 0)), (q2, .inl (cA, 4, .inl (upd (upd (upd (fun _ => 0) 0 (-9)) 1 (-9)) 2 (-9))))] := hD
  refine lv_iinc (v := (3 : Int32)) (lv' := [(1, .int (3 : Int32)), (0, .ref h0)]) C0.1 C0.2.1 dX2_init_42 hl (k := 0) rfl (by decide) (by decide) rfl (fun ls hl => ?_)
  refine lv_goto (tgt := 29) C0.1 C0.2.1 dX2_init_45 (by decide) ?_
  refine lv_iload_n C0.1 C0.2.1 dX2_init_29 rfl (lv_at hl 0 rfl) ?_
  refine lv_iconst (v := (4 : Int32)) C0.1 C0.2.1 dX2_init_30 (by decide) ?_
  refine lv_icmp_ge (tgt := 48) C0.1 C0.2.1 dX2_init_31 (by decide) (fun z => absurd z (by decide)) (fun _ => ?_)
  refine lv_aload_n C0.1 C0.2.1 dX2_init_34 rfl (lv_at hl 1 rfl) ?_
  refine va_get (D := D) (ci := 2) (C := RX2) (T := TX2) (N := 3) C0.1 C0.2.1 C0.2.2.2.2.1 wsIn2 C0.2.2.2.1 C0.2.2.2.2.2.1 hP 0 rfl rfl 2 (by decide) (C0.2.2.2.2.1 _ q27) (fun _ h9 => h9) rfl dX2_init_35 ?_
  refine lv_iload_n C0.1 C0.2.1 dX2_init_38 rfl (lv_at hl 0 rfl) ?_
  refine lv_bipush (v := (-9 : Int32)) C0.1 C0.2.1 dX2_init_39 (by decide) ?_
  refine va_iast (D := D) C0.1 C0.2.1 C0.2.2.2.2.2.1 hP hD hS 3 0 rfl rfl (show vp_in (nI 3) 4 from vp_in_nI (by decide) (by decide)) dX2_init_41 (fun H locs hP hD hS => ?_)
  have hP : va_P D vwCl [(h0, .inr (2, [.ref q0, .ref q1, .ref q2])), (q0, .inl (cA, 240, .inl fun _ => 0)), (q1, .inl (cA, 4, .inl fun _ => 0)), (q2, .inl (cA, 4, .inl (upd (upd (upd (upd (fun _ => 0) 0 (-9)) 1 (-9)) 2 (-9)) 3 (-9))))] H := hP
  have hD : va_D A [(h0, .inr (2, [.ref q0, .ref q1, .ref q2])), (q0, .inl (cA, 240, .inl fun _ => 0)), (q1, .inl (cA, 4, .inl fun _ => 0)), (q2, .inl (cA, 4, .inl (upd (upd (upd (upd (fun _ => 0) 0 (-9)) 1 (-9)) 2 (-9)) 3 (-9))))] := hD
  refine lv_iinc (v := (4 : Int32)) (lv' := [(1, .int (4 : Int32)), (0, .ref h0)]) C0.1 C0.2.1 dX2_init_42 hl (k := 0) rfl (by decide) (by decide) rfl (fun ls hl => ?_)
  refine lv_goto (tgt := 29) C0.1 C0.2.1 dX2_init_45 (by decide) ?_
  refine lv_iload_n C0.1 C0.2.1 dX2_init_29 rfl (lv_at hl 0 rfl) ?_
  refine lv_iconst (v := (4 : Int32)) C0.1 C0.2.1 dX2_init_30 (by decide) ?_
  refine lv_icmp_ge (tgt := 48) C0.1 C0.2.1 dX2_init_31 (by decide) (fun _ => ?_) (fun z => absurd (by decide) z)
  exact kend _ _ _ _ (fun i => [q0, q1, q2].getD i 0) hP hD hS dX2_init_48
set_option maxHeartbeats 4000000 in
set_option maxRecDepth 100000 in
theorem c_X3_init (l : Launch) (D : va_G) (cA : ClassId) (h0 : Nat) : CI l yX3_init cX3_init 1 1 12 1 60 D h0 (.inr (3, [.null, .int 0, .int 0, .int 0, .int 0])) cA (fun ad => [(h0, .inr (3, [.ref (ad 0), .int 0, .int 0, .int 0, .int 0])), ((ad 0), .inl (cA, 60, .inl fun _ => 0))]) := by
  refine CI.of (by decide) rfl (by decide) ?_
  intro p e s m args below meth c A Q H0 ls C0 hin hA hP hD hS hl kend
  refine lv_aload_n C0.1 C0.2.1 dX3_init_0 rfl (lv_at hl 0 rfl) ?_
  refine rObj C0 q88 hl.1 dX3_init_1 (Nat.le_of_ble_eq_true rfl) (Nat.le_of_ble_eq_true rfl) ?_
  refine lv_aload_n C0.1 C0.2.1 dX3_init_4 rfl (lv_at hl 0 rfl) ?_
  refine lv_bipush (v := (60 : Int32)) C0.1 C0.2.1 dX3_init_5 (by decide) ?_
  refine rNew (N' := 60) C0 hA hP hD hS (by decide) (by decide) (by decide) (Nat.le_of_ble_eq_true rfl) (Nat.le_of_ble_eq_true rfl) dX3_init_7 (fun q0 H hP hD hS => ?_)
  have hP : va_P D vwCl [(h0, .inr (3, [.null, .int 0, .int 0, .int 0, .int 0])), (q0, .inl (cA, 60, .inl fun _ => 0))] H := hP
  have hD : va_D A [(h0, .inr (3, [.null, .int 0, .int 0, .int 0, .int 0])), (q0, .inl (cA, 60, .inl fun _ => 0))] := hD
  refine va_putF (D := D) (ci := 3) (v := .ref q0) (ty := .array .int) (C := RX3) (T := TX3) (N := 5) C0.1 C0.2.1 C0.2.2.2.2.1 wsIn3 tyX3 tyX3_ok nmX3 C0.2.2.2.1 C0.2.2.2.2.2.1 hP hD hS 0 rfl rfl 0 (by decide) (C0.2.2.2.2.1 _ q89) (fun _ h9 => h9) rfl hin rfl (by decide +kernel) rfl rfl (Nat.le_of_ble_eq_true rfl) dX3_init_9 (fun H locs hP hD hS => ?_)
  have hP : va_P D vwCl [(h0, .inr (3, [.ref q0, .int 0, .int 0, .int 0, .int 0])), (q0, .inl (cA, 60, .inl fun _ => 0))] H := hP
  have hD : va_D A [(h0, .inr (3, [.ref q0, .int 0, .int 0, .int 0, .int 0])), (q0, .inl (cA, 60, .inl fun _ => 0))] := hD
  exact kend _ _ _ _ (fun i => [q0].getD i 0) hP hD hS dX3_init_12
set_option maxHeartbeats 4000000 in
set_option maxRecDepth 100000 in
theorem c_X4_init (l : Launch) (D : va_G) (cA : ClassId) (h0 : Nat) : CI l yX4_init cX4_init 1 1 12 1 6 D h0 (.inr (4, [.int 0, .int 0, .int 0, .null])) cA (fun ad => [(h0, .inr (4, [.int 0, .int 0, .int 0, .ref (ad 0)])), ((ad 0), .inl (cA, 6, .inl fun _ => 0))]) := by
  refine CI.of (by decide) rfl (by decide) ?_
  intro p e s m args below meth c A Q H0 ls C0 hin hA hP hD hS hl kend
  refine lv_aload_n C0.1 C0.2.1 dX4_init_0 rfl (lv_at hl 0 rfl) ?_
  refine rObj C0 q114 hl.1 dX4_init_1 (Nat.le_of_ble_eq_true rfl) (Nat.le_of_ble_eq_true rfl) ?_
  refine lv_aload_n C0.1 C0.2.1 dX4_init_4 rfl (lv_at hl 0 rfl) ?_
  refine lv_bipush (v := (6 : Int32)) C0.1 C0.2.1 dX4_init_5 (by decide) ?_
  refine rNew (N' := 6) C0 hA hP hD hS (by decide) (by decide) (by decide) (Nat.le_of_ble_eq_true rfl) (Nat.le_of_ble_eq_true rfl) dX4_init_7 (fun q0 H hP hD hS => ?_)
  have hP : va_P D vwCl [(h0, .inr (4, [.int 0, .int 0, .int 0, .null])), (q0, .inl (cA, 6, .inl fun _ => 0))] H := hP
  have hD : va_D A [(h0, .inr (4, [.int 0, .int 0, .int 0, .null])), (q0, .inl (cA, 6, .inl fun _ => 0))] := hD
  refine va_putF (D := D) (ci := 4) (v := .ref q0) (ty := .array .int) (C := RX4) (T := TX4) (N := 4) C0.1 C0.2.1 C0.2.2.2.2.1 wsIn4 tyX4 tyX4_ok nmX4 C0.2.2.2.1 C0.2.2.2.2.2.1 hP hD hS 0 rfl rfl 3 (by decide) (C0.2.2.2.2.1 _ q121) (fun _ h9 => h9) rfl hin rfl (by decide +kernel) rfl rfl (Nat.le_of_ble_eq_true rfl) dX4_init_9 (fun H locs hP hD hS => ?_)
  have hP : va_P D vwCl [(h0, .inr (4, [.int 0, .int 0, .int 0, .ref q0])), (q0, .inl (cA, 6, .inl fun _ => 0))] H := hP
  have hD : va_D A [(h0, .inr (4, [.int 0, .int 0, .int 0, .ref q0])), (q0, .inl (cA, 6, .inl fun _ => 0))] := hD
  exact kend _ _ _ _ (fun i => [q0].getD i 0) hP hD hS dX4_init_12
