abbrev jX9 : mv_Y := (cX9_init, 2, RX9, none, { frames := 1, cells := 12, slots := 4836, locals := 20 })
set_option maxRecDepth 100000 in
set_option maxHeartbeats 4000000 in
theorem ccX9 (l : Launch) (D : va_G) (cA : Nat → ClassId) (h0 : Nat) : cn_C l D cA yX9_init jX9 h0 (.inr (9, [.null, .int 0, .null, .int 0, .int 0, .int 0, .null, .null, .null, .null, .int 0, .int 0, .int 0, .null, .null, .int 0, .null, .null, .int 0, .int 0, .null, .null, .int 0])) [] 12 4836 (fun ws => ∃ ad : Nat → Nat, ad 0 = h0 ∧ cn_fin cA ad LM M0M ws) := by
  refine cn_C.ofV (ls := [(0, .ref h0)]) (by decide) rfl rfl (Nat.le_of_ble_eq_true rfl) rfl ?_
  intro x A hxl
  subst hxl
  refine cn_aload_n (pc := 0) (i := 0) 0 dX9_init_0 rfl rfl ?_
  refine cn_obj (pc := 1) dX9_init_1 mwX9_1 ⟨obj_i, obj_c⟩ ⟨Nat.le_of_ble_eq_true rfl, Nat.le_of_ble_eq_true rfl⟩ ?_
  refine cn_aload_n (pc := 4) (i := 0) 0 dX9_init_4 rfl rfl ?_
  refine cn_sipush (pc := 5) (v := (2324 : Int32)) dX9_init_5 (by decide +kernel) ?_
  refine cn_newI (pc := 8) (N := 2324) dX9_init_8 ar_int (by decide +kernel) (by decide +kernel) (Nat.le_of_ble_eq_true rfl) ⟨Nat.le_of_ble_eq_true rfl, Nat.le_of_ble_eq_true rfl⟩ (fun q1 => ?_)
  refine cn_num (nc' := 1) (ns' := 2324) rfl rfl ?_
  refine cn_ws (ws' := (h0, .inr (9, [.null, .int 0, .null, .int 0, .int 0, .int 0, .null, .null, .null, .null, .int 0, .int 0, .int 0, .null, .null, .int 0, .null, .null, .int 0, .int 0, .null, .null, .int 0])) :: (([]) ++ [(q1, .inl (cA 0, 2324, .inl (fun _ => 0)))])) rfl ?_
  refine cn_putF (pc := 10) (ci := 9) (kf := 0) (ty := .array .int) dX9_init_10 inmX9 tyX9_ok nmX9 rfl (by decide) fwX9_7 rfl rfl (by decide +kernel) rfl rfl (Nat.le_of_ble_eq_true rfl) ?_
  refine cn_ws (ws' := (h0, .inr (9, [.ref q1, .int 0, .null, .int 0, .int 0, .int 0, .null, .null, .null, .null, .int 0, .int 0, .int 0, .null, .null, .int 0, .null, .null, .int 0, .int 0, .null, .null, .int 0])) :: (([]) ++ [(q1, .inl (cA 0, 2324, .inl (fun _ => 0)))])) rfl ?_
  refine cn_aload_n (pc := 13) (i := 0) 0 dX9_init_13 rfl rfl ?_
  refine cn_sipush (pc := 14) (v := (140 : Int32)) dX9_init_14 (by decide +kernel) ?_
  refine cn_newI (pc := 17) (N := 140) dX9_init_17 ar_int (by decide +kernel) (by decide +kernel) (Nat.le_of_ble_eq_true rfl) ⟨Nat.le_of_ble_eq_true rfl, Nat.le_of_ble_eq_true rfl⟩ (fun q2 => ?_)
  refine cn_num (nc' := 2) (ns' := 2464) rfl rfl ?_
  refine cn_ws (ws' := (h0, .inr (9, [.ref q1, .int 0, .null, .int 0, .int 0, .int 0, .null, .null, .null, .null, .int 0, .int 0, .int 0, .null, .null, .int 0, .null, .null, .int 0, .int 0, .null, .null, .int 0])) :: ((([]) ++ [(q1, .inl (cA 0, 2324, .inl (fun _ => 0)))]) ++ [(q2, .inl (cA 0, 140, .inl (fun _ => 0)))])) rfl ?_
  refine cn_putF (pc := 19) (ci := 9) (kf := 2) (ty := .array .int) dX9_init_19 inmX9 tyX9_ok nmX9 rfl (by decide) fwX9_13 rfl rfl (by decide +kernel) rfl rfl (Nat.le_of_ble_eq_true rfl) ?_
  refine cn_ws (ws' := (h0, .inr (9, [.ref q1, .int 0, .ref q2, .int 0, .int 0, .int 0, .null, .null, .null, .null, .int 0, .int 0, .int 0, .null, .null, .int 0, .null, .null, .int 0, .int 0, .null, .null, .int 0])) :: ((([]) ++ [(q1, .inl (cA 0, 2324, .inl (fun _ => 0)))]) ++ [(q2, .inl (cA 0, 140, .inl (fun _ => 0)))])) rfl ?_
  refine cn_aload_n (pc := 22) (i := 0) 0 dX9_init_22 rfl rfl ?_
  refine cn_bipush (pc := 23) (v := (8 : Int32)) dX9_init_23 (by decide +kernel) ?_
  refine cn_newI (pc := 25) (N := 8) dX9_init_25 ar_int (by decide +kernel) (by decide +kernel) (Nat.le_of_ble_eq_true rfl) ⟨Nat.le_of_ble_eq_true rfl, Nat.le_of_ble_eq_true rfl⟩ (fun q3 => ?_)
  refine cn_num (nc' := 3) (ns' := 2472) rfl rfl ?_
  refine cn_ws (ws' := (h0, .inr (9, [.ref q1, .int 0, .ref q2, .int 0, .int 0, .int 0, .null, .null, .null, .null, .int 0, .int 0, .int 0, .null, .null, .int 0, .null, .null, .int 0, .int 0, .null, .null, .int 0])) :: (((([]) ++ [(q1, .inl (cA 0, 2324, .inl (fun _ => 0)))]) ++ [(q2, .inl (cA 0, 140, .inl (fun _ => 0)))]) ++ [(q3, .inl (cA 0, 8, .inl (fun _ => 0)))])) rfl ?_
  refine cn_putF (pc := 27) (ci := 9) (kf := 6) (ty := .array .int) dX9_init_27 inmX9 tyX9_ok nmX9 rfl (by decide) fwX9_16 rfl rfl (by decide +kernel) rfl rfl (Nat.le_of_ble_eq_true rfl) ?_
  refine cn_ws (ws' := (h0, .inr (9, [.ref q1, .int 0, .ref q2, .int 0, .int 0, .int 0, .ref q3, .null, .null, .null, .int 0, .int 0, .int 0, .null, .null, .int 0, .null, .null, .int 0, .int 0, .null, .null, .int 0])) :: (((([]) ++ [(q1, .inl (cA 0, 2324, .inl (fun _ => 0)))]) ++ [(q2, .inl (cA 0, 140, .inl (fun _ => 0)))]) ++ [(q3, .inl (cA 0, 8, .inl (fun _ => 0)))])) rfl ?_
  refine cn_aload_n (pc := 30) (i := 0) 0 dX9_init_30 rfl rfl ?_
  refine cn_bipush (pc := 31) (v := (8 : Int32)) dX9_init_31 (by decide +kernel) ?_
  refine cn_newI (pc := 33) (N := 8) dX9_init_33 ar_int (by decide +kernel) (by decide +kernel) (Nat.le_of_ble_eq_true rfl) ⟨Nat.le_of_ble_eq_true rfl, Nat.le_of_ble_eq_true rfl⟩ (fun q4 => ?_)
  refine cn_num (nc' := 4) (ns' := 2480) rfl rfl ?_
  refine cn_ws (ws' := (h0, .inr (9, [.ref q1, .int 0, .ref q2, .int 0, .int 0, .int 0, .ref q3, .null, .null, .null, .int 0, .int 0, .int 0, .null, .null, .int 0, .null, .null, .int 0, .int 0, .null, .null, .int 0])) :: ((((([]) ++ [(q1, .inl (cA 0, 2324, .inl (fun _ => 0)))]) ++ [(q2, .inl (cA 0, 140, .inl (fun _ => 0)))]) ++ [(q3, .inl (cA 0, 8, .inl (fun _ => 0)))]) ++ [(q4, .inl (cA 0, 8, .inl (fun _ => 0)))])) rfl ?_
  refine cn_putF (pc := 35) (ci := 9) (kf := 7) (ty := .array .int) dX9_init_35 inmX9 tyX9_ok nmX9 rfl (by decide) fwX9_19 rfl rfl (by decide +kernel) rfl rfl (Nat.le_of_ble_eq_true rfl) ?_
  refine cn_ws (ws' := (h0, .inr (9, [.ref q1, .int 0, .ref q2, .int 0, .int 0, .int 0, .ref q3, .ref q4, .null, .null, .int 0, .int 0, .int 0, .null, .null, .int 0, .null, .null, .int 0, .int 0, .null, .null, .int 0])) :: ((((([]) ++ [(q1, .inl (cA 0, 2324, .inl (fun _ => 0)))]) ++ [(q2, .inl (cA 0, 140, .inl (fun _ => 0)))]) ++ [(q3, .inl (cA 0, 8, .inl (fun _ => 0)))]) ++ [(q4, .inl (cA 0, 8, .inl (fun _ => 0)))])) rfl ?_
  refine cn_aload_n (pc := 38) (i := 0) 0 dX9_init_38 rfl rfl ?_
  refine cn_sipush (pc := 39) (v := (320 : Int32)) dX9_init_39 (by decide +kernel) ?_
  refine cn_newI (pc := 42) (N := 320) dX9_init_42 ar_int (by decide +kernel) (by decide +kernel) (Nat.le_of_ble_eq_true rfl) ⟨Nat.le_of_ble_eq_true rfl, Nat.le_of_ble_eq_true rfl⟩ (fun q5 => ?_)
  refine cn_num (nc' := 5) (ns' := 2800) rfl rfl ?_
  refine cn_ws (ws' := (h0, .inr (9, [.ref q1, .int 0, .ref q2, .int 0, .int 0, .int 0, .ref q3, .ref q4, .null, .null, .int 0, .int 0, .int 0, .null, .null, .int 0, .null, .null, .int 0, .int 0, .null, .null, .int 0])) :: (((((([]) ++ [(q1, .inl (cA 0, 2324, .inl (fun _ => 0)))]) ++ [(q2, .inl (cA 0, 140, .inl (fun _ => 0)))]) ++ [(q3, .inl (cA 0, 8, .inl (fun _ => 0)))]) ++ [(q4, .inl (cA 0, 8, .inl (fun _ => 0)))]) ++ [(q5, .inl (cA 0, 320, .inl (fun _ => 0)))])) rfl ?_
  refine cn_putF (pc := 44) (ci := 9) (kf := 8) (ty := .array .int) dX9_init_44 inmX9 tyX9_ok nmX9 rfl (by decide) fwX9_22 rfl rfl (by decide +kernel) rfl rfl (Nat.le_of_ble_eq_true rfl) ?_
  refine cn_ws (ws' := (h0, .inr (9, [.ref q1, .int 0, .ref q2, .int 0, .int 0, .int 0, .ref q3, .ref q4, .ref q5, .null, .int 0, .int 0, .int 0, .null, .null, .int 0, .null, .null, .int 0, .int 0, .null, .null, .int 0])) :: (((((([]) ++ [(q1, .inl (cA 0, 2324, .inl (fun _ => 0)))]) ++ [(q2, .inl (cA 0, 140, .inl (fun _ => 0)))]) ++ [(q3, .inl (cA 0, 8, .inl (fun _ => 0)))]) ++ [(q4, .inl (cA 0, 8, .inl (fun _ => 0)))]) ++ [(q5, .inl (cA 0, 320, .inl (fun _ => 0)))])) rfl ?_
  refine cn_aload_n (pc := 47) (i := 0) 0 dX9_init_47 rfl rfl ?_
  refine cn_bipush (pc := 48) (v := (40 : Int32)) dX9_init_48 (by decide +kernel) ?_
  refine cn_newI (pc := 50) (N := 40) dX9_init_50 ar_int (by decide +kernel) (by decide +kernel) (Nat.le_of_ble_eq_true rfl) ⟨Nat.le_of_ble_eq_true rfl, Nat.le_of_ble_eq_true rfl⟩ (fun q6 => ?_)
  refine cn_num (nc' := 6) (ns' := 2840) rfl rfl ?_
  refine cn_ws (ws' := (h0, .inr (9, [.ref q1, .int 0, .ref q2, .int 0, .int 0, .int 0, .ref q3, .ref q4, .ref q5, .null, .int 0, .int 0, .int 0, .null, .null, .int 0, .null, .null, .int 0, .int 0, .null, .null, .int 0])) :: ((((((([]) ++ [(q1, .inl (cA 0, 2324, .inl (fun _ => 0)))]) ++ [(q2, .inl (cA 0, 140, .inl (fun _ => 0)))]) ++ [(q3, .inl (cA 0, 8, .inl (fun _ => 0)))]) ++ [(q4, .inl (cA 0, 8, .inl (fun _ => 0)))]) ++ [(q5, .inl (cA 0, 320, .inl (fun _ => 0)))]) ++ [(q6, .inl (cA 0, 40, .inl (fun _ => 0)))])) rfl ?_
  refine cn_putF (pc := 52) (ci := 9) (kf := 9) (ty := .array .int) dX9_init_52 inmX9 tyX9_ok nmX9 rfl (by decide) fwX9_25 rfl rfl (by decide +kernel) rfl rfl (Nat.le_of_ble_eq_true rfl) ?_
  refine cn_ws (ws' := (h0, .inr (9, [.ref q1, .int 0, .ref q2, .int 0, .int 0, .int 0, .ref q3, .ref q4, .ref q5, .ref q6, .int 0, .int 0, .int 0, .null, .null, .int 0, .null, .null, .int 0, .int 0, .null, .null, .int 0])) :: ((((((([]) ++ [(q1, .inl (cA 0, 2324, .inl (fun _ => 0)))]) ++ [(q2, .inl (cA 0, 140, .inl (fun _ => 0)))]) ++ [(q3, .inl (cA 0, 8, .inl (fun _ => 0)))]) ++ [(q4, .inl (cA 0, 8, .inl (fun _ => 0)))]) ++ [(q5, .inl (cA 0, 320, .inl (fun _ => 0)))]) ++ [(q6, .inl (cA 0, 40, .inl (fun _ => 0)))])) rfl ?_
  refine cn_aload_n (pc := 55) (i := 0) 0 dX9_init_55 rfl rfl ?_
  refine cn_sipush (pc := 56) (v := (200 : Int32)) dX9_init_56 (by decide +kernel) ?_
  refine cn_newL (pc := 59) (N := 200) dX9_init_59 ar_long (by decide +kernel) (by decide +kernel) (Nat.le_of_ble_eq_true rfl) ⟨Nat.le_of_ble_eq_true rfl, Nat.le_of_ble_eq_true rfl⟩ (fun q7 => ?_)
  refine cn_num (nc' := 7) (ns' := 3040) rfl rfl ?_
  refine cn_ws (ws' := (h0, .inr (9, [.ref q1, .int 0, .ref q2, .int 0, .int 0, .int 0, .ref q3, .ref q4, .ref q5, .ref q6, .int 0, .int 0, .int 0, .null, .null, .int 0, .null, .null, .int 0, .int 0, .null, .null, .int 0])) :: (((((((([]) ++ [(q1, .inl (cA 0, 2324, .inl (fun _ => 0)))]) ++ [(q2, .inl (cA 0, 140, .inl (fun _ => 0)))]) ++ [(q3, .inl (cA 0, 8, .inl (fun _ => 0)))]) ++ [(q4, .inl (cA 0, 8, .inl (fun _ => 0)))]) ++ [(q5, .inl (cA 0, 320, .inl (fun _ => 0)))]) ++ [(q6, .inl (cA 0, 40, .inl (fun _ => 0)))]) ++ [(q7, .inl (cA 1, 200, .inr (.inl (fun _ => 0))))])) rfl ?_
  refine cn_putF (pc := 61) (ci := 9) (kf := 13) (ty := .array .long) dX9_init_61 inmX9 tyX9_ok nmX9 rfl (by decide) fwX9_28 rfl rfl (by decide +kernel) rfl rfl (Nat.le_of_ble_eq_true rfl) ?_
  refine cn_ws (ws' := (h0, .inr (9, [.ref q1, .int 0, .ref q2, .int 0, .int 0, .int 0, .ref q3, .ref q4, .ref q5, .ref q6, .int 0, .int 0, .int 0, .ref q7, .null, .int 0, .null, .null, .int 0, .int 0, .null, .null, .int 0])) :: (((((((([]) ++ [(q1, .inl (cA 0, 2324, .inl (fun _ => 0)))]) ++ [(q2, .inl (cA 0, 140, .inl (fun _ => 0)))]) ++ [(q3, .inl (cA 0, 8, .inl (fun _ => 0)))]) ++ [(q4, .inl (cA 0, 8, .inl (fun _ => 0)))]) ++ [(q5, .inl (cA 0, 320, .inl (fun _ => 0)))]) ++ [(q6, .inl (cA 0, 40, .inl (fun _ => 0)))]) ++ [(q7, .inl (cA 1, 200, .inr (.inl (fun _ => 0))))])) rfl ?_
  refine cn_aload_n (pc := 64) (i := 0) 0 dX9_init_64 rfl rfl ?_
  refine cn_bipush (pc := 65) (v := (64 : Int32)) dX9_init_65 (by decide +kernel) ?_
  refine cn_newI (pc := 67) (N := 64) dX9_init_67 ar_int (by decide +kernel) (by decide +kernel) (Nat.le_of_ble_eq_true rfl) ⟨Nat.le_of_ble_eq_true rfl, Nat.le_of_ble_eq_true rfl⟩ (fun q8 => ?_)
  refine cn_num (nc' := 8) (ns' := 3104) rfl rfl ?_
  refine cn_ws (ws' := (h0, .inr (9, [.ref q1, .int 0, .ref q2, .int 0, .int 0, .int 0, .ref q3, .ref q4, .ref q5, .ref q6, .int 0, .int 0, .int 0, .ref q7, .null, .int 0, .null, .null, .int 0, .int 0, .null, .null, .int 0])) :: ((((((((([]) ++ [(q1, .inl (cA 0, 2324, .inl (fun _ => 0)))]) ++ [(q2, .inl (cA 0, 140, .inl (fun _ => 0)))]) ++ [(q3, .inl (cA 0, 8, .inl (fun _ => 0)))]) ++ [(q4, .inl (cA 0, 8, .inl (fun _ => 0)))]) ++ [(q5, .inl (cA 0, 320, .inl (fun _ => 0)))]) ++ [(q6, .inl (cA 0, 40, .inl (fun _ => 0)))]) ++ [(q7, .inl (cA 1, 200, .inr (.inl (fun _ => 0))))]) ++ [(q8, .inl (cA 0, 64, .inl (fun _ => 0)))])) rfl ?_
  refine cn_putF (pc := 69) (ci := 9) (kf := 14) (ty := .array .int) dX9_init_69 inmX9 tyX9_ok nmX9 rfl (by decide) fwX9_32 rfl rfl (by decide +kernel) rfl rfl (Nat.le_of_ble_eq_true rfl) ?_
  refine cn_ws (ws' := (h0, .inr (9, [.ref q1, .int 0, .ref q2, .int 0, .int 0, .int 0, .ref q3, .ref q4, .ref q5, .ref q6, .int 0, .int 0, .int 0, .ref q7, .ref q8, .int 0, .null, .null, .int 0, .int 0, .null, .null, .int 0])) :: ((((((((([]) ++ [(q1, .inl (cA 0, 2324, .inl (fun _ => 0)))]) ++ [(q2, .inl (cA 0, 140, .inl (fun _ => 0)))]) ++ [(q3, .inl (cA 0, 8, .inl (fun _ => 0)))]) ++ [(q4, .inl (cA 0, 8, .inl (fun _ => 0)))]) ++ [(q5, .inl (cA 0, 320, .inl (fun _ => 0)))]) ++ [(q6, .inl (cA 0, 40, .inl (fun _ => 0)))]) ++ [(q7, .inl (cA 1, 200, .inr (.inl (fun _ => 0))))]) ++ [(q8, .inl (cA 0, 64, .inl (fun _ => 0)))])) rfl ?_
  refine cn_aload_n (pc := 72) (i := 0) 0 dX9_init_72 rfl rfl ?_
  refine cn_sipush (pc := 73) (v := (1650 : Int32)) dX9_init_73 (by decide +kernel) ?_
  refine cn_newL (pc := 76) (N := 1650) dX9_init_76 ar_long (by decide +kernel) (by decide +kernel) (Nat.le_of_ble_eq_true rfl) ⟨Nat.le_of_ble_eq_true rfl, Nat.le_of_ble_eq_true rfl⟩ (fun q9 => ?_)
  refine cn_num (nc' := 9) (ns' := 4754) rfl rfl ?_
  refine cn_ws (ws' := (h0, .inr (9, [.ref q1, .int 0, .ref q2, .int 0, .int 0, .int 0, .ref q3, .ref q4, .ref q5, .ref q6, .int 0, .int 0, .int 0, .ref q7, .ref q8, .int 0, .null, .null, .int 0, .int 0, .null, .null, .int 0])) :: (((((((((([]) ++ [(q1, .inl (cA 0, 2324, .inl (fun _ => 0)))]) ++ [(q2, .inl (cA 0, 140, .inl (fun _ => 0)))]) ++ [(q3, .inl (cA 0, 8, .inl (fun _ => 0)))]) ++ [(q4, .inl (cA 0, 8, .inl (fun _ => 0)))]) ++ [(q5, .inl (cA 0, 320, .inl (fun _ => 0)))]) ++ [(q6, .inl (cA 0, 40, .inl (fun _ => 0)))]) ++ [(q7, .inl (cA 1, 200, .inr (.inl (fun _ => 0))))]) ++ [(q8, .inl (cA 0, 64, .inl (fun _ => 0)))]) ++ [(q9, .inl (cA 1, 1650, .inr (.inl (fun _ => 0))))])) rfl ?_
  refine cn_putF (pc := 78) (ci := 9) (kf := 16) (ty := .array .long) dX9_init_78 inmX9 tyX9_ok nmX9 rfl (by decide) fwX9_35 rfl rfl (by decide +kernel) rfl rfl (Nat.le_of_ble_eq_true rfl) ?_
  refine cn_ws (ws' := (h0, .inr (9, [.ref q1, .int 0, .ref q2, .int 0, .int 0, .int 0, .ref q3, .ref q4, .ref q5, .ref q6, .int 0, .int 0, .int 0, .ref q7, .ref q8, .int 0, .ref q9, .null, .int 0, .int 0, .null, .null, .int 0])) :: (((((((((([]) ++ [(q1, .inl (cA 0, 2324, .inl (fun _ => 0)))]) ++ [(q2, .inl (cA 0, 140, .inl (fun _ => 0)))]) ++ [(q3, .inl (cA 0, 8, .inl (fun _ => 0)))]) ++ [(q4, .inl (cA 0, 8, .inl (fun _ => 0)))]) ++ [(q5, .inl (cA 0, 320, .inl (fun _ => 0)))]) ++ [(q6, .inl (cA 0, 40, .inl (fun _ => 0)))]) ++ [(q7, .inl (cA 1, 200, .inr (.inl (fun _ => 0))))]) ++ [(q8, .inl (cA 0, 64, .inl (fun _ => 0)))]) ++ [(q9, .inl (cA 1, 1650, .inr (.inl (fun _ => 0))))])) rfl ?_
  refine cn_aload_n (pc := 81) (i := 0) 0 dX9_init_81 rfl rfl ?_
  refine cn_bipush (pc := 82) (v := (64 : Int32)) dX9_init_82 (by decide +kernel) ?_
  refine cn_newI (pc := 84) (N := 64) dX9_init_84 ar_int (by decide +kernel) (by decide +kernel) (Nat.le_of_ble_eq_true rfl) ⟨Nat.le_of_ble_eq_true rfl, Nat.le_of_ble_eq_true rfl⟩ (fun q10 => ?_)
  refine cn_num (nc' := 10) (ns' := 4818) rfl rfl ?_
  refine cn_ws (ws' := (h0, .inr (9, [.ref q1, .int 0, .ref q2, .int 0, .int 0, .int 0, .ref q3, .ref q4, .ref q5, .ref q6, .int 0, .int 0, .int 0, .ref q7, .ref q8, .int 0, .ref q9, .null, .int 0, .int 0, .null, .null, .int 0])) :: ((((((((((([]) ++ [(q1, .inl (cA 0, 2324, .inl (fun _ => 0)))]) ++ [(q2, .inl (cA 0, 140, .inl (fun _ => 0)))]) ++ [(q3, .inl (cA 0, 8, .inl (fun _ => 0)))]) ++ [(q4, .inl (cA 0, 8, .inl (fun _ => 0)))]) ++ [(q5, .inl (cA 0, 320, .inl (fun _ => 0)))]) ++ [(q6, .inl (cA 0, 40, .inl (fun _ => 0)))]) ++ [(q7, .inl (cA 1, 200, .inr (.inl (fun _ => 0))))]) ++ [(q8, .inl (cA 0, 64, .inl (fun _ => 0)))]) ++ [(q9, .inl (cA 1, 1650, .inr (.inl (fun _ => 0))))]) ++ [(q10, .inl (cA 0, 64, .inl (fun _ => 0)))])) rfl ?_
  refine cn_putF (pc := 86) (ci := 9) (kf := 17) (ty := .array .int) dX9_init_86 inmX9 tyX9_ok nmX9 rfl (by decide) fwX9_38 rfl rfl (by decide +kernel) rfl rfl (Nat.le_of_ble_eq_true rfl) ?_
  refine cn_ws (ws' := (h0, .inr (9, [.ref q1, .int 0, .ref q2, .int 0, .int 0, .int 0, .ref q3, .ref q4, .ref q5, .ref q6, .int 0, .int 0, .int 0, .ref q7, .ref q8, .int 0, .ref q9, .ref q10, .int 0, .int 0, .null, .null, .int 0])) :: ((((((((((([]) ++ [(q1, .inl (cA 0, 2324, .inl (fun _ => 0)))]) ++ [(q2, .inl (cA 0, 140, .inl (fun _ => 0)))]) ++ [(q3, .inl (cA 0, 8, .inl (fun _ => 0)))]) ++ [(q4, .inl (cA 0, 8, .inl (fun _ => 0)))]) ++ [(q5, .inl (cA 0, 320, .inl (fun _ => 0)))]) ++ [(q6, .inl (cA 0, 40, .inl (fun _ => 0)))]) ++ [(q7, .inl (cA 1, 200, .inr (.inl (fun _ => 0))))]) ++ [(q8, .inl (cA 0, 64, .inl (fun _ => 0)))]) ++ [(q9, .inl (cA 1, 1650, .inr (.inl (fun _ => 0))))]) ++ [(q10, .inl (cA 0, 64, .inl (fun _ => 0)))])) rfl ?_
  refine cn_aload_n (pc := 89) (i := 0) 0 dX9_init_89 rfl rfl ?_
  refine cn_iconst (pc := 90) (v := (2 : Int32)) dX9_init_90 (by decide +kernel) ?_
  refine cn_newZ (pc := 91) (N := 2) dX9_init_91 ar_boolean (by decide +kernel) (by decide +kernel) (Nat.le_of_ble_eq_true rfl) ⟨Nat.le_of_ble_eq_true rfl, Nat.le_of_ble_eq_true rfl⟩ (fun q11 => ?_)
  refine cn_num (nc' := 11) (ns' := 4820) rfl rfl ?_
  refine cn_ws (ws' := (h0, .inr (9, [.ref q1, .int 0, .ref q2, .int 0, .int 0, .int 0, .ref q3, .ref q4, .ref q5, .ref q6, .int 0, .int 0, .int 0, .ref q7, .ref q8, .int 0, .ref q9, .ref q10, .int 0, .int 0, .null, .null, .int 0])) :: (((((((((((([]) ++ [(q1, .inl (cA 0, 2324, .inl (fun _ => 0)))]) ++ [(q2, .inl (cA 0, 140, .inl (fun _ => 0)))]) ++ [(q3, .inl (cA 0, 8, .inl (fun _ => 0)))]) ++ [(q4, .inl (cA 0, 8, .inl (fun _ => 0)))]) ++ [(q5, .inl (cA 0, 320, .inl (fun _ => 0)))]) ++ [(q6, .inl (cA 0, 40, .inl (fun _ => 0)))]) ++ [(q7, .inl (cA 1, 200, .inr (.inl (fun _ => 0))))]) ++ [(q8, .inl (cA 0, 64, .inl (fun _ => 0)))]) ++ [(q9, .inl (cA 1, 1650, .inr (.inl (fun _ => 0))))]) ++ [(q10, .inl (cA 0, 64, .inl (fun _ => 0)))]) ++ [(q11, .inl (cA 2, 2, .inl (fun _ => 0)))])) rfl ?_
  refine cn_putF (pc := 93) (ci := 9) (kf := 20) (ty := .array .boolean) dX9_init_93 inmX9 tyX9_ok nmX9 rfl (by decide) fwX9_41 rfl rfl (by decide +kernel) rfl rfl (Nat.le_of_ble_eq_true rfl) ?_
  refine cn_ws (ws' := (h0, .inr (9, [.ref q1, .int 0, .ref q2, .int 0, .int 0, .int 0, .ref q3, .ref q4, .ref q5, .ref q6, .int 0, .int 0, .int 0, .ref q7, .ref q8, .int 0, .ref q9, .ref q10, .int 0, .int 0, .ref q11, .null, .int 0])) :: (((((((((((([]) ++ [(q1, .inl (cA 0, 2324, .inl (fun _ => 0)))]) ++ [(q2, .inl (cA 0, 140, .inl (fun _ => 0)))]) ++ [(q3, .inl (cA 0, 8, .inl (fun _ => 0)))]) ++ [(q4, .inl (cA 0, 8, .inl (fun _ => 0)))]) ++ [(q5, .inl (cA 0, 320, .inl (fun _ => 0)))]) ++ [(q6, .inl (cA 0, 40, .inl (fun _ => 0)))]) ++ [(q7, .inl (cA 1, 200, .inr (.inl (fun _ => 0))))]) ++ [(q8, .inl (cA 0, 64, .inl (fun _ => 0)))]) ++ [(q9, .inl (cA 1, 1650, .inr (.inl (fun _ => 0))))]) ++ [(q10, .inl (cA 0, 64, .inl (fun _ => 0)))]) ++ [(q11, .inl (cA 2, 2, .inl (fun _ => 0)))])) rfl ?_
  refine cn_aload_n (pc := 96) (i := 0) 0 dX9_init_96 rfl rfl ?_
  refine cn_bipush (pc := 97) (v := (16 : Int32)) dX9_init_97 (by decide +kernel) ?_
  refine cn_newI (pc := 99) (N := 16) dX9_init_99 ar_int (by decide +kernel) (by decide +kernel) (Nat.le_of_ble_eq_true rfl) ⟨Nat.le_of_ble_eq_true rfl, Nat.le_of_ble_eq_true rfl⟩ (fun q12 => ?_)
  refine cn_num (nc' := 12) (ns' := 4836) rfl rfl ?_
  refine cn_ws (ws' := (h0, .inr (9, [.ref q1, .int 0, .ref q2, .int 0, .int 0, .int 0, .ref q3, .ref q4, .ref q5, .ref q6, .int 0, .int 0, .int 0, .ref q7, .ref q8, .int 0, .ref q9, .ref q10, .int 0, .int 0, .ref q11, .null, .int 0])) :: ((((((((((((([]) ++ [(q1, .inl (cA 0, 2324, .inl (fun _ => 0)))]) ++ [(q2, .inl (cA 0, 140, .inl (fun _ => 0)))]) ++ [(q3, .inl (cA 0, 8, .inl (fun _ => 0)))]) ++ [(q4, .inl (cA 0, 8, .inl (fun _ => 0)))]) ++ [(q5, .inl (cA 0, 320, .inl (fun _ => 0)))]) ++ [(q6, .inl (cA 0, 40, .inl (fun _ => 0)))]) ++ [(q7, .inl (cA 1, 200, .inr (.inl (fun _ => 0))))]) ++ [(q8, .inl (cA 0, 64, .inl (fun _ => 0)))]) ++ [(q9, .inl (cA 1, 1650, .inr (.inl (fun _ => 0))))]) ++ [(q10, .inl (cA 0, 64, .inl (fun _ => 0)))]) ++ [(q11, .inl (cA 2, 2, .inl (fun _ => 0)))]) ++ [(q12, .inl (cA 0, 16, .inl (fun _ => 0)))])) rfl ?_
  refine cn_putF (pc := 101) (ci := 9) (kf := 21) (ty := .array .int) dX9_init_101 inmX9 tyX9_ok nmX9 rfl (by decide) fwX9_45 rfl rfl (by decide +kernel) rfl rfl (Nat.le_of_ble_eq_true rfl) ?_
  refine cn_ws (ws' := (h0, .inr (9, [.ref q1, .int 0, .ref q2, .int 0, .int 0, .int 0, .ref q3, .ref q4, .ref q5, .ref q6, .int 0, .int 0, .int 0, .ref q7, .ref q8, .int 0, .ref q9, .ref q10, .int 0, .int 0, .ref q11, .ref q12, .int 0])) :: ((((((((((((([]) ++ [(q1, .inl (cA 0, 2324, .inl (fun _ => 0)))]) ++ [(q2, .inl (cA 0, 140, .inl (fun _ => 0)))]) ++ [(q3, .inl (cA 0, 8, .inl (fun _ => 0)))]) ++ [(q4, .inl (cA 0, 8, .inl (fun _ => 0)))]) ++ [(q5, .inl (cA 0, 320, .inl (fun _ => 0)))]) ++ [(q6, .inl (cA 0, 40, .inl (fun _ => 0)))]) ++ [(q7, .inl (cA 1, 200, .inr (.inl (fun _ => 0))))]) ++ [(q8, .inl (cA 0, 64, .inl (fun _ => 0)))]) ++ [(q9, .inl (cA 1, 1650, .inr (.inl (fun _ => 0))))]) ++ [(q10, .inl (cA 0, 64, .inl (fun _ => 0)))]) ++ [(q11, .inl (cA 2, 2, .inl (fun _ => 0)))]) ++ [(q12, .inl (cA 0, 16, .inl (fun _ => 0)))])) rfl ?_
  refine cn_iconst (pc := 104) (v := (0 : Int32)) dX9_init_104 (by decide +kernel) ?_
  refine cn_istore_n (pc := 105) (i := 1) (ls' := [(0, .ref h0)]) dX9_init_105 rfl (Nat.le_of_ble_eq_true rfl) rfl ?_
  refine cn_iload_n (pc := 106) (i := 1) 0 dX9_init_106 rfl rfl ?_
  refine cn_bipush (pc := 107) (v := (8 : Int32)) dX9_init_107 (by decide +kernel) ?_
  refine cn_gef (pc := 109) (tgt := 125) dX9_init_109 (by decide) (by decide +kernel) ?_
  refine cn_aload_n (pc := 112) (i := 0) 1 dX9_init_112 rfl rfl ?_
  refine cn_getf (pc := 113) (ci := 9) (kf := 6) (v := .ref q3) dX9_init_113 inmX9 rfl (by decide) fwX9_16 rfl ?_
  refine cn_iload_n (pc := 116) (i := 1) 0 dX9_init_116 rfl rfl ?_
  refine cn_iconst (pc := 117) (v := (-1 : Int32)) dX9_init_117 (by decide +kernel) ?_
  refine cn_iast (pc := 118) (p := 3) dX9_init_118 rfl (by unfold vp_in; decide +kernel) ?_
  refine cn_ws (ws' := (h0, .inr (9, [.ref q1, .int 0, .ref q2, .int 0, .int 0, .int 0, .ref q3, .ref q4, .ref q5, .ref q6, .int 0, .int 0, .int 0, .ref q7, .ref q8, .int 0, .ref q9, .ref q10, .int 0, .int 0, .ref q11, .ref q12, .int 0])) :: ((((((((((((([]) ++ [(q1, .inl (cA 0, 2324, .inl (fun _ => 0)))]) ++ [(q2, .inl (cA 0, 140, .inl (fun _ => 0)))]) ++ [(q3, .inl (cA 0, 8, .inl (upd (fun _ => 0) (0 : Int32).toNatClampNeg (-1 : Int32))))]) ++ [(q4, .inl (cA 0, 8, .inl (fun _ => 0)))]) ++ [(q5, .inl (cA 0, 320, .inl (fun _ => 0)))]) ++ [(q6, .inl (cA 0, 40, .inl (fun _ => 0)))]) ++ [(q7, .inl (cA 1, 200, .inr (.inl (fun _ => 0))))]) ++ [(q8, .inl (cA 0, 64, .inl (fun _ => 0)))]) ++ [(q9, .inl (cA 1, 1650, .inr (.inl (fun _ => 0))))]) ++ [(q10, .inl (cA 0, 64, .inl (fun _ => 0)))]) ++ [(q11, .inl (cA 2, 2, .inl (fun _ => 0)))]) ++ [(q12, .inl (cA 0, 16, .inl (fun _ => 0)))])) rfl ?_
  refine cn_iinc (pc := 119) (i := 1) (w := (1 : Int32)) (ls' := [(0, .ref h0)]) 0 dX9_init_119 rfl (by decide +kernel) (Nat.le_of_ble_eq_true rfl) rfl ?_
  refine cn_goto (pc := 122) (tgt := 106) dX9_init_122 (by decide) ?_
  refine cn_iload_n (pc := 106) (i := 1) 0 dX9_init_106 rfl rfl ?_
  refine cn_bipush (pc := 107) (v := (8 : Int32)) dX9_init_107 (by decide +kernel) ?_
  refine cn_gef (pc := 109) (tgt := 125) dX9_init_109 (by decide) (by decide +kernel) ?_
  refine cn_aload_n (pc := 112) (i := 0) 1 dX9_init_112 rfl rfl ?_
  refine cn_getf (pc := 113) (ci := 9) (kf := 6) (v := .ref q3) dX9_init_113 inmX9 rfl (by decide) fwX9_16 rfl ?_
  refine cn_iload_n (pc := 116) (i := 1) 0 dX9_init_116 rfl rfl ?_
  refine cn_iconst (pc := 117) (v := (-1 : Int32)) dX9_init_117 (by decide +kernel) ?_
  refine cn_iast (pc := 118) (p := 3) dX9_init_118 rfl (by unfold vp_in; decide +kernel) ?_
  refine cn_ws (ws' := (h0, .inr (9, [.ref q1, .int 0, .ref q2, .int 0, .int 0, .int 0, .ref q3, .ref q4, .ref q5, .ref q6, .int 0, .int 0, .int 0, .ref q7, .ref q8, .int 0, .ref q9, .ref q10, .int 0, .int 0, .ref q11, .ref q12, .int 0])) :: ((((((((((((([]) ++ [(q1, .inl (cA 0, 2324, .inl (fun _ => 0)))]) ++ [(q2, .inl (cA 0, 140, .inl (fun _ => 0)))]) ++ [(q3, .inl (cA 0, 8, .inl (upd (upd (fun _ => 0) (0 : Int32).toNatClampNeg (-1 : Int32)) (1 : Int32).toNatClampNeg (-1 : Int32))))]) ++ [(q4, .inl (cA 0, 8, .inl (fun _ => 0)))]) ++ [(q5, .inl (cA 0, 320, .inl (fun _ => 0)))]) ++ [(q6, .inl (cA 0, 40, .inl (fun _ => 0)))]) ++ [(q7, .inl (cA 1, 200, .inr (.inl (fun _ => 0))))]) ++ [(q8, .inl (cA 0, 64, .inl (fun _ => 0)))]) ++ [(q9, .inl (cA 1, 1650, .inr (.inl (fun _ => 0))))]) ++ [(q10, .inl (cA 0, 64, .inl (fun _ => 0)))]) ++ [(q11, .inl (cA 2, 2, .inl (fun _ => 0)))]) ++ [(q12, .inl (cA 0, 16, .inl (fun _ => 0)))])) rfl ?_
  refine cn_iinc (pc := 119) (i := 1) (w := (2 : Int32)) (ls' := [(0, .ref h0)]) 0 dX9_init_119 rfl (by decide +kernel) (Nat.le_of_ble_eq_true rfl) rfl ?_
  refine cn_goto (pc := 122) (tgt := 106) dX9_init_122 (by decide) ?_
  refine cn_iload_n (pc := 106) (i := 1) 0 dX9_init_106 rfl rfl ?_
  refine cn_bipush (pc := 107) (v := (8 : Int32)) dX9_init_107 (by decide +kernel) ?_
  refine cn_gef (pc := 109) (tgt := 125) dX9_init_109 (by decide) (by decide +kernel) ?_
  refine cn_aload_n (pc := 112) (i := 0) 1 dX9_init_112 rfl rfl ?_
  refine cn_getf (pc := 113) (ci := 9) (kf := 6) (v := .ref q3) dX9_init_113 inmX9 rfl (by decide) fwX9_16 rfl ?_
  refine cn_iload_n (pc := 116) (i := 1) 0 dX9_init_116 rfl rfl ?_
  refine cn_iconst (pc := 117) (v := (-1 : Int32)) dX9_init_117 (by decide +kernel) ?_
  refine cn_iast (pc := 118) (p := 3) dX9_init_118 rfl (by unfold vp_in; decide +kernel) ?_
  refine cn_ws (ws' := (h0, .inr (9, [.ref q1, .int 0, .ref q2, .int 0, .int 0, .int 0, .ref q3, .ref q4, .ref q5, .ref q6, .int 0, .int 0, .int 0, .ref q7, .ref q8, .int 0, .ref q9, .ref q10, .int 0, .int 0, .ref q11, .ref q12, .int 0])) :: ((((((((((((([]) ++ [(q1, .inl (cA 0, 2324, .inl (fun _ => 0)))]) ++ [(q2, .inl (cA 0, 140, .inl (fun _ => 0)))]) ++ [(q3, .inl (cA 0, 8, .inl (upd (upd (upd (fun _ => 0) (0 : Int32).toNatClampNeg (-1 : Int32)) (1 : Int32).toNatClampNeg (-1 : Int32)) (2 : Int32).toNatClampNeg (-1 : Int32))))]) ++ [(q4, .inl (cA 0, 8, .inl (fun _ => 0)))]) ++ [(q5, .inl (cA 0, 320, .inl (fun _ => 0)))]) ++ [(q6, .inl (cA 0, 40, .inl (fun _ => 0)))]) ++ [(q7, .inl (cA 1, 200, .inr (.inl (fun _ => 0))))]) ++ [(q8, .inl (cA 0, 64, .inl (fun _ => 0)))]) ++ [(q9, .inl (cA 1, 1650, .inr (.inl (fun _ => 0))))]) ++ [(q10, .inl (cA 0, 64, .inl (fun _ => 0)))]) ++ [(q11, .inl (cA 2, 2, .inl (fun _ => 0)))]) ++ [(q12, .inl (cA 0, 16, .inl (fun _ => 0)))])) rfl ?_
  refine cn_iinc (pc := 119) (i := 1) (w := (3 : Int32)) (ls' := [(0, .ref h0)]) 0 dX9_init_119 rfl (by decide +kernel) (Nat.le_of_ble_eq_true rfl) rfl ?_
  refine cn_goto (pc := 122) (tgt := 106) dX9_init_122 (by decide) ?_
  refine cn_iload_n (pc := 106) (i := 1) 0 dX9_init_106 rfl rfl ?_
  refine cn_bipush (pc := 107) (v := (8 : Int32)) dX9_init_107 (by decide +kernel) ?_
  refine cn_gef (pc := 109) (tgt := 125) dX9_init_109 (by decide) (by decide +kernel) ?_
  refine cn_aload_n (pc := 112) (i := 0) 1 dX9_init_112 rfl rfl ?_
  refine cn_getf (pc := 113) (ci := 9) (kf := 6) (v := .ref q3) dX9_init_113 inmX9 rfl (by decide) fwX9_16 rfl ?_
  refine cn_iload_n (pc := 116) (i := 1) 0 dX9_init_116 rfl rfl ?_
  refine cn_iconst (pc := 117) (v := (-1 : Int32)) dX9_init_117 (by decide +kernel) ?_
  refine cn_iast (pc := 118) (p := 3) dX9_init_118 rfl (by unfold vp_in; decide +kernel) ?_
  refine cn_ws (ws' := (h0, .inr (9, [.ref q1, .int 0, .ref q2, .int 0, .int 0, .int 0, .ref q3, .ref q4, .ref q5, .ref q6, .int 0, .int 0, .int 0, .ref q7, .ref q8, .int 0, .ref q9, .ref q10, .int 0, .int 0, .ref q11, .ref q12, .int 0])) :: ((((((((((((([]) ++ [(q1, .inl (cA 0, 2324, .inl (fun _ => 0)))]) ++ [(q2, .inl (cA 0, 140, .inl (fun _ => 0)))]) ++ [(q3, .inl (cA 0, 8, .inl (upd (upd (upd (upd (fun _ => 0) (0 : Int32).toNatClampNeg (-1 : Int32)) (1 : Int32).toNatClampNeg (-1 : Int32)) (2 : Int32).toNatClampNeg (-1 : Int32)) (3 : Int32).toNatClampNeg (-1 : Int32))))]) ++ [(q4, .inl (cA 0, 8, .inl (fun _ => 0)))]) ++ [(q5, .inl (cA 0, 320, .inl (fun _ => 0)))]) ++ [(q6, .inl (cA 0, 40, .inl (fun _ => 0)))]) ++ [(q7, .inl (cA 1, 200, .inr (.inl (fun _ => 0))))]) ++ [(q8, .inl (cA 0, 64, .inl (fun _ => 0)))]) ++ [(q9, .inl (cA 1, 1650, .inr (.inl (fun _ => 0))))]) ++ [(q10, .inl (cA 0, 64, .inl (fun _ => 0)))]) ++ [(q11, .inl (cA 2, 2, .inl (fun _ => 0)))]) ++ [(q12, .inl (cA 0, 16, .inl (fun _ => 0)))])) rfl ?_
  refine cn_iinc (pc := 119) (i := 1) (w := (4 : Int32)) (ls' := [(0, .ref h0)]) 0 dX9_init_119 rfl (by decide +kernel) (Nat.le_of_ble_eq_true rfl) rfl ?_
  refine cn_goto (pc := 122) (tgt := 106) dX9_init_122 (by decide) ?_
  refine cn_iload_n (pc := 106) (i := 1) 0 dX9_init_106 rfl rfl ?_
  refine cn_bipush (pc := 107) (v := (8 : Int32)) dX9_init_107 (by decide +kernel) ?_
  refine cn_gef (pc := 109) (tgt := 125) dX9_init_109 (by decide) (by decide +kernel) ?_
  refine cn_aload_n (pc := 112) (i := 0) 1 dX9_init_112 rfl rfl ?_
  refine cn_getf (pc := 113) (ci := 9) (kf := 6) (v := .ref q3) dX9_init_113 inmX9 rfl (by decide) fwX9_16 rfl ?_
  refine cn_iload_n (pc := 116) (i := 1) 0 dX9_init_116 rfl rfl ?_
  refine cn_iconst (pc := 117) (v := (-1 : Int32)) dX9_init_117 (by decide +kernel) ?_
  refine cn_iast (pc := 118) (p := 3) dX9_init_118 rfl (by unfold vp_in; decide +kernel) ?_
  refine cn_ws (ws' := (h0, .inr (9, [.ref q1, .int 0, .ref q2, .int 0, .int 0, .int 0, .ref q3, .ref q4, .ref q5, .ref q6, .int 0, .int 0, .int 0, .ref q7, .ref q8, .int 0, .ref q9, .ref q10, .int 0, .int 0, .ref q11, .ref q12, .int 0])) :: ((((((((((((([]) ++ [(q1, .inl (cA 0, 2324, .inl (fun _ => 0)))]) ++ [(q2, .inl (cA 0, 140, .inl (fun _ => 0)))]) ++ [(q3, .inl (cA 0, 8, .inl (upd (upd (upd (upd (upd (fun _ => 0) (0 : Int32).toNatClampNeg (-1 : Int32)) (1 : Int32).toNatClampNeg (-1 : Int32)) (2 : Int32).toNatClampNeg (-1 : Int32)) (3 : Int32).toNatClampNeg (-1 : Int32)) (4 : Int32).toNatClampNeg (-1 : Int32))))]) ++ [(q4, .inl (cA 0, 8, .inl (fun _ => 0)))]) ++ [(q5, .inl (cA 0, 320, .inl (fun _ => 0)))]) ++ [(q6, .inl (cA 0, 40, .inl (fun _ => 0)))]) ++ [(q7, .inl (cA 1, 200, .inr (.inl (fun _ => 0))))]) ++ [(q8, .inl (cA 0, 64, .inl (fun _ => 0)))]) ++ [(q9, .inl (cA 1, 1650, .inr (.inl (fun _ => 0))))]) ++ [(q10, .inl (cA 0, 64, .inl (fun _ => 0)))]) ++ [(q11, .inl (cA 2, 2, .inl (fun _ => 0)))]) ++ [(q12, .inl (cA 0, 16, .inl (fun _ => 0)))])) rfl ?_
  refine cn_iinc (pc := 119) (i := 1) (w := (5 : Int32)) (ls' := [(0, .ref h0)]) 0 dX9_init_119 rfl (by decide +kernel) (Nat.le_of_ble_eq_true rfl) rfl ?_
  refine cn_goto (pc := 122) (tgt := 106) dX9_init_122 (by decide) ?_
  refine cn_iload_n (pc := 106) (i := 1) 0 dX9_init_106 rfl rfl ?_
  refine cn_bipush (pc := 107) (v := (8 : Int32)) dX9_init_107 (by decide +kernel) ?_
  refine cn_gef (pc := 109) (tgt := 125) dX9_init_109 (by decide) (by decide +kernel) ?_
  refine cn_aload_n (pc := 112) (i := 0) 1 dX9_init_112 rfl rfl ?_
  refine cn_getf (pc := 113) (ci := 9) (kf := 6) (v := .ref q3) dX9_init_113 inmX9 rfl (by decide) fwX9_16 rfl ?_
  refine cn_iload_n (pc := 116) (i := 1) 0 dX9_init_116 rfl rfl ?_
  refine cn_iconst (pc := 117) (v := (-1 : Int32)) dX9_init_117 (by decide +kernel) ?_
  refine cn_iast (pc := 118) (p := 3) dX9_init_118 rfl (by unfold vp_in; decide +kernel) ?_
  refine cn_ws (ws' := (h0, .inr (9, [.ref q1, .int 0, .ref q2, .int 0, .int 0, .int 0, .ref q3, .ref q4, .ref q5, .ref q6, .int 0, .int 0, .int 0, .ref q7, .ref q8, .int 0, .ref q9, .ref q10, .int 0, .int 0, .ref q11, .ref q12, .int 0])) :: ((((((((((((([]) ++ [(q1, .inl (cA 0, 2324, .inl (fun _ => 0)))]) ++ [(q2, .inl (cA 0, 140, .inl (fun _ => 0)))]) ++ [(q3, .inl (cA 0, 8, .inl (upd (upd (upd (upd (upd (upd (fun _ => 0) (0 : Int32).toNatClampNeg (-1 : Int32)) (1 : Int32).toNatClampNeg (-1 : Int32)) (2 : Int32).toNatClampNeg (-1 : Int32)) (3 : Int32).toNatClampNeg (-1 : Int32)) (4 : Int32).toNatClampNeg (-1 : Int32)) (5 : Int32).toNatClampNeg (-1 : Int32))))]) ++ [(q4, .inl (cA 0, 8, .inl (fun _ => 0)))]) ++ [(q5, .inl (cA 0, 320, .inl (fun _ => 0)))]) ++ [(q6, .inl (cA 0, 40, .inl (fun _ => 0)))]) ++ [(q7, .inl (cA 1, 200, .inr (.inl (fun _ => 0))))]) ++ [(q8, .inl (cA 0, 64, .inl (fun _ => 0)))]) ++ [(q9, .inl (cA 1, 1650, .inr (.inl (fun _ => 0))))]) ++ [(q10, .inl (cA 0, 64, .inl (fun _ => 0)))]) ++ [(q11, .inl (cA 2, 2, .inl (fun _ => 0)))]) ++ [(q12, .inl (cA 0, 16, .inl (fun _ => 0)))])) rfl ?_
  refine cn_iinc (pc := 119) (i := 1) (w := (6 : Int32)) (ls' := [(0, .ref h0)]) 0 dX9_init_119 rfl (by decide +kernel) (Nat.le_of_ble_eq_true rfl) rfl ?_
  refine cn_goto (pc := 122) (tgt := 106) dX9_init_122 (by decide) ?_
  refine cn_iload_n (pc := 106) (i := 1) 0 dX9_init_106 rfl rfl ?_
  refine cn_bipush (pc := 107) (v := (8 : Int32)) dX9_init_107 (by decide +kernel) ?_
  refine cn_gef (pc := 109) (tgt := 125) dX9_init_109 (by decide) (by decide +kernel) ?_
  refine cn_aload_n (pc := 112) (i := 0) 1 dX9_init_112 rfl rfl ?_
  refine cn_getf (pc := 113) (ci := 9) (kf := 6) (v := .ref q3) dX9_init_113 inmX9 rfl (by decide) fwX9_16 rfl ?_
  refine cn_iload_n (pc := 116) (i := 1) 0 dX9_init_116 rfl rfl ?_
  refine cn_iconst (pc := 117) (v := (-1 : Int32)) dX9_init_117 (by decide +kernel) ?_
  refine cn_iast (pc := 118) (p := 3) dX9_init_118 rfl (by unfold vp_in; decide +kernel) ?_
  refine cn_ws (ws' := (h0, .inr (9, [.ref q1, .int 0, .ref q2, .int 0, .int 0, .int 0, .ref q3, .ref q4, .ref q5, .ref q6, .int 0, .int 0, .int 0, .ref q7, .ref q8, .int 0, .ref q9, .ref q10, .int 0, .int 0, .ref q11, .ref q12, .int 0])) :: ((((((((((((([]) ++ [(q1, .inl (cA 0, 2324, .inl (fun _ => 0)))]) ++ [(q2, .inl (cA 0, 140, .inl (fun _ => 0)))]) ++ [(q3, .inl (cA 0, 8, .inl (upd (upd (upd (upd (upd (upd (upd (fun _ => 0) (0 : Int32).toNatClampNeg (-1 : Int32)) (1 : Int32).toNatClampNeg (-1 : Int32)) (2 : Int32).toNatClampNeg (-1 : Int32)) (3 : Int32).toNatClampNeg (-1 : Int32)) (4 : Int32).toNatClampNeg (-1 : Int32)) (5 : Int32).toNatClampNeg (-1 : Int32)) (6 : Int32).toNatClampNeg (-1 : Int32))))]) ++ [(q4, .inl (cA 0, 8, .inl (fun _ => 0)))]) ++ [(q5, .inl (cA 0, 320, .inl (fun _ => 0)))]) ++ [(q6, .inl (cA 0, 40, .inl (fun _ => 0)))]) ++ [(q7, .inl (cA 1, 200, .inr (.inl (fun _ => 0))))]) ++ [(q8, .inl (cA 0, 64, .inl (fun _ => 0)))]) ++ [(q9, .inl (cA 1, 1650, .inr (.inl (fun _ => 0))))]) ++ [(q10, .inl (cA 0, 64, .inl (fun _ => 0)))]) ++ [(q11, .inl (cA 2, 2, .inl (fun _ => 0)))]) ++ [(q12, .inl (cA 0, 16, .inl (fun _ => 0)))])) rfl ?_
  refine cn_iinc (pc := 119) (i := 1) (w := (7 : Int32)) (ls' := [(0, .ref h0)]) 0 dX9_init_119 rfl (by decide +kernel) (Nat.le_of_ble_eq_true rfl) rfl ?_
  refine cn_goto (pc := 122) (tgt := 106) dX9_init_122 (by decide) ?_
  refine cn_iload_n (pc := 106) (i := 1) 0 dX9_init_106 rfl rfl ?_
  refine cn_bipush (pc := 107) (v := (8 : Int32)) dX9_init_107 (by decide +kernel) ?_
  refine cn_gef (pc := 109) (tgt := 125) dX9_init_109 (by decide) (by decide +kernel) ?_
  refine cn_aload_n (pc := 112) (i := 0) 1 dX9_init_112 rfl rfl ?_
  refine cn_getf (pc := 113) (ci := 9) (kf := 6) (v := .ref q3) dX9_init_113 inmX9 rfl (by decide) fwX9_16 rfl ?_
  refine cn_iload_n (pc := 116) (i := 1) 0 dX9_init_116 rfl rfl ?_
  refine cn_iconst (pc := 117) (v := (-1 : Int32)) dX9_init_117 (by decide +kernel) ?_
  refine cn_iast (pc := 118) (p := 3) dX9_init_118 rfl (by unfold vp_in; decide +kernel) ?_
  refine cn_ws (ws' := (h0, .inr (9, [.ref q1, .int 0, .ref q2, .int 0, .int 0, .int 0, .ref q3, .ref q4, .ref q5, .ref q6, .int 0, .int 0, .int 0, .ref q7, .ref q8, .int 0, .ref q9, .ref q10, .int 0, .int 0, .ref q11, .ref q12, .int 0])) :: ((((((((((((([]) ++ [(q1, .inl (cA 0, 2324, .inl (fun _ => 0)))]) ++ [(q2, .inl (cA 0, 140, .inl (fun _ => 0)))]) ++ [(q3, .inl (cA 0, 8, .inl (upd (upd (upd (upd (upd (upd (upd (upd (fun _ => 0) (0 : Int32).toNatClampNeg (-1 : Int32)) (1 : Int32).toNatClampNeg (-1 : Int32)) (2 : Int32).toNatClampNeg (-1 : Int32)) (3 : Int32).toNatClampNeg (-1 : Int32)) (4 : Int32).toNatClampNeg (-1 : Int32)) (5 : Int32).toNatClampNeg (-1 : Int32)) (6 : Int32).toNatClampNeg (-1 : Int32)) (7 : Int32).toNatClampNeg (-1 : Int32))))]) ++ [(q4, .inl (cA 0, 8, .inl (fun _ => 0)))]) ++ [(q5, .inl (cA 0, 320, .inl (fun _ => 0)))]) ++ [(q6, .inl (cA 0, 40, .inl (fun _ => 0)))]) ++ [(q7, .inl (cA 1, 200, .inr (.inl (fun _ => 0))))]) ++ [(q8, .inl (cA 0, 64, .inl (fun _ => 0)))]) ++ [(q9, .inl (cA 1, 1650, .inr (.inl (fun _ => 0))))]) ++ [(q10, .inl (cA 0, 64, .inl (fun _ => 0)))]) ++ [(q11, .inl (cA 2, 2, .inl (fun _ => 0)))]) ++ [(q12, .inl (cA 0, 16, .inl (fun _ => 0)))])) rfl ?_
  refine cn_iinc (pc := 119) (i := 1) (w := (8 : Int32)) (ls' := [(0, .ref h0)]) 0 dX9_init_119 rfl (by decide +kernel) (Nat.le_of_ble_eq_true rfl) rfl ?_
  refine cn_goto (pc := 122) (tgt := 106) dX9_init_122 (by decide) ?_
  refine cn_iload_n (pc := 106) (i := 1) 0 dX9_init_106 rfl rfl ?_
  refine cn_bipush (pc := 107) (v := (8 : Int32)) dX9_init_107 (by decide +kernel) ?_
  refine cn_get (pc := 109) (tgt := 125) dX9_init_109 (by decide) (by decide +kernel) ?_
  refine cn_return (pc := 125) dX9_init_125 rfl ?_ rfl rfl
  exact finX9 cA h0 q1 q2 q3 q4 q5 q6 q7 q8 q9 q10 q11 q12
