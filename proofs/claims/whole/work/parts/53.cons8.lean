abbrev jX8 : mv_Y := (cX8_init, 2, RX8, none, { frames := 3, cells := 113, slots := 2278, locals := 60 })
set_option maxRecDepth 100000 in
set_option maxHeartbeats 4000000 in
theorem ccX8 (l : Launch) (D : va_G) (cA : Nat → ClassId) (h0 : Nat) : cn_C l D cA yX8_init jX8 h0 (.inr (8, [.null, .null, .null, .null, .null, .null, .null, .null, .null, .int 0, .int 0])) [] 113 2278 (fun ws => ∃ ad : Nat → Nat, ad 0 = h0 ∧ cn_fin cA ad LX M0X ws) := by
  refine cn_C.ofV (ls := [(0, .ref h0)]) (by decide) rfl rfl (Nat.le_of_ble_eq_true rfl) rfl ?_
  intro x A hxl
  subst hxl
  refine cn_aload_n (pc := 0) (i := 0) 0 dX8_init_0 rfl rfl ?_
  refine cn_obj (pc := 1) dX8_init_1 mwX8_1 ⟨obj_i, obj_c⟩ ⟨Nat.le_of_ble_eq_true rfl, Nat.le_of_ble_eq_true rfl⟩ ?_
  refine cn_aload_n (pc := 4) (i := 0) 0 dX8_init_4 rfl rfl ?_
  refine cn_new (pc := 5) (ci := 7) (N := 11) (fs := [.int 0, .int 0, .int 0, .null, .null, .null, .null, .null, .null, .null, .null]) dX8_init_5 inmX7 tyX7_ok lkX8_7 inX7 nwX7 rfl (by decide +kernel) ⟨Nat.le_of_ble_eq_true rfl, Nat.le_of_ble_eq_true rfl⟩ (fun q1 => ?_)
  refine cn_num (nc' := 1) (ns' := 11) rfl rfl ?_
  refine cn_ws (ws' := (h0, .inr (8, [.null, .null, .null, .null, .null, .null, .null, .null, .null, .int 0, .int 0])) :: (([]) ++ [(q1, .inr (7, [.int 0, .int 0, .int 0, .null, .null, .null, .null, .null, .null, .null, .null]))])) rfl ?_
  refine cn_dup (pc := 8) dX8_init_8 rfl ?_
  refine cn_call (n := 0) (nc := 1) (ns := 11) (y := jX8) (q := q1) (e0 := .inr (7, [.int 0, .int 0, .int 0, .null, .null, .null, .null, .null, .null, .null, .null])) (pc := 9) (As := []) (st := [.ref q1, .ref h0]) (W0 := (h0, .inr (8, [.null, .null, .null, .null, .null, .null, .null, .null, .null, .int 0, .int 0])) :: ([])) (host := "WantedTypes") dX8_init_9 (List.mem_of_getElem? mnX8_9) rfl cwX7_init nwX7 ⟨by decide +kernel, by decide +kernel, by decide +kernel⟩ iwX7_init rfl rfl rfl (by exact ⟨Nat.le_of_ble_eq_true rfl, Nat.le_of_ble_eq_true rfl⟩) (by exact ⟨Nat.le_of_ble_eq_true rfl, Nat.le_of_ble_eq_true rfl⟩) rfl (by exact Nat.le_of_ble_eq_true rfl) (ccX7 x.2.1 D cA q1) ?_
  rintro _ ⟨u2, rfl⟩
  refine cn_num (nc' := 9) (ns' := 99) rfl rfl ?_
  refine cn_ws (ws' := (h0, .inr (8, [.null, .null, .null, .null, .null, .null, .null, .null, .null, .int 0, .int 0])) :: (([]) ++ sg_X7 cA q1 u2)) rfl ?_
  refine cn_putF (pc := 12) (ci := 8) (kf := 0) (ty := .object "WantedTypes$World") dX8_init_12 inmX8 tyX8_ok nmX8 rfl (by decide) fwX8_10 rfl rfl (by decide +kernel) rfl rfl (Nat.le_of_ble_eq_true rfl) ?_
  refine cn_ws (ws' := (h0, .inr (8, [.ref q1, .null, .null, .null, .null, .null, .null, .null, .null, .int 0, .int 0])) :: (([]) ++ sg_X7 cA q1 u2)) rfl ?_
  refine cn_aload_n (pc := 15) (i := 0) 0 dX8_init_15 rfl rfl ?_
  refine cn_iconst (pc := 16) (v := (2 : Int32)) dX8_init_16 (by decide +kernel) ?_
  refine cn_newQ (pc := 17) (N := 2) dX8_init_17 lkX8_7 (by decide +kernel) (by decide +kernel) (Nat.le_of_ble_eq_true rfl) ⟨Nat.le_of_ble_eq_true rfl, Nat.le_of_ble_eq_true rfl⟩ (fun q3 => ?_)
  refine cn_num (nc' := 10) (ns' := 101) rfl rfl ?_
  refine cn_ws (ws' := (h0, .inr (8, [.ref q1, .null, .null, .null, .null, .null, .null, .null, .null, .int 0, .int 0])) :: ((([]) ++ sg_X7 cA q1 u2) ++ [(q3, .inl (cA 3, 2, .inr (.inr (.inr (.inr (fun _ => none))))))])) rfl ?_
  refine cn_putF (pc := 20) (ci := 8) (kf := 1) (ty := .array (.object "WantedTypes$World")) dX8_init_20 inmX8 tyX8_ok nmX8 rfl (by decide) fwX8_16 rfl rfl (by decide +kernel) rfl rfl (Nat.le_of_ble_eq_true rfl) ?_
  refine cn_ws (ws' := (h0, .inr (8, [.ref q1, .ref q3, .null, .null, .null, .null, .null, .null, .null, .int 0, .int 0])) :: ((([]) ++ sg_X7 cA q1 u2) ++ [(q3, .inl (cA 3, 2, .inr (.inr (.inr (.inr (fun _ => none))))))])) rfl ?_
  refine cn_aload_n (pc := 23) (i := 0) 0 dX8_init_23 rfl rfl ?_
  refine cn_new (pc := 24) (ci := 5) (N := 3) (fs := [.null, .null, .null]) dX8_init_24 inmX5 tyX5_ok lkX8_20 inX5 nwX5 rfl (by decide +kernel) ⟨Nat.le_of_ble_eq_true rfl, Nat.le_of_ble_eq_true rfl⟩ (fun q4 => ?_)
  refine cn_num (nc' := 11) (ns' := 104) rfl rfl ?_
  refine cn_ws (ws' := (h0, .inr (8, [.ref q1, .ref q3, .null, .null, .null, .null, .null, .null, .null, .int 0, .int 0])) :: (((([]) ++ sg_X7 cA q1 u2) ++ [(q3, .inl (cA 3, 2, .inr (.inr (.inr (.inr (fun _ => none))))))]) ++ [(q4, .inr (5, [.null, .null, .null]))])) rfl ?_
  refine cn_dup (pc := 27) dX8_init_27 rfl ?_
  refine cn_call (n := 0) (nc := 11) (ns := 104) (y := jX8) (q := q4) (e0 := .inr (5, [.null, .null, .null])) (pc := 28) (As := []) (st := [.ref q4, .ref h0]) (W0 := (h0, .inr (8, [.ref q1, .ref q3, .null, .null, .null, .null, .null, .null, .null, .int 0, .int 0])) :: ((([]) ++ sg_X7 cA q1 u2) ++ [(q3, .inl (cA 3, 2, .inr (.inr (.inr (.inr (fun _ => none))))))])) (host := "WantedTypes") dX8_init_28 (List.mem_of_getElem? mnX8_22) rfl cwX5_init nwX5 ⟨by decide +kernel, by decide +kernel, by decide +kernel⟩ iwX5_init rfl rfl rfl (by exact ⟨Nat.le_of_ble_eq_true rfl, Nat.le_of_ble_eq_true rfl⟩) (by exact ⟨Nat.le_of_ble_eq_true rfl, Nat.le_of_ble_eq_true rfl⟩) rfl (by exact Nat.le_of_ble_eq_true rfl) (ccX5 x.2.1 D cA q4) ?_
  rintro _ ⟨u5, u6, rfl⟩
  refine cn_num (nc' := 22) (ns' := 448) rfl rfl ?_
  refine cn_ws (ws' := (h0, .inr (8, [.ref q1, .ref q3, .null, .null, .null, .null, .null, .null, .null, .int 0, .int 0])) :: (((([]) ++ sg_X7 cA q1 u2) ++ [(q3, .inl (cA 3, 2, .inr (.inr (.inr (.inr (fun _ => none))))))]) ++ sg_X5 cA q4 u5 u6)) rfl ?_
  refine cn_putF (pc := 31) (ci := 8) (kf := 2) (ty := .object "WantedTypes$Rows") dX8_init_31 inmX8 tyX8_ok nmX8 rfl (by decide) fwX8_23 rfl rfl (by decide +kernel) rfl rfl (Nat.le_of_ble_eq_true rfl) ?_
  refine cn_ws (ws' := (h0, .inr (8, [.ref q1, .ref q3, .ref q4, .null, .null, .null, .null, .null, .null, .int 0, .int 0])) :: (((([]) ++ sg_X7 cA q1 u2) ++ [(q3, .inl (cA 3, 2, .inr (.inr (.inr (.inr (fun _ => none))))))]) ++ sg_X5 cA q4 u5 u6)) rfl ?_
  refine cn_aload_n (pc := 34) (i := 0) 0 dX8_init_34 rfl rfl ?_
  refine cn_new (pc := 35) (ci := 4) (N := 5) (fs := [.null, .int 0, .null, .int 0, .int 0]) dX8_init_35 inmX4 tyX4_ok lkX8_27 inX4 nwX4 rfl (by decide +kernel) ⟨Nat.le_of_ble_eq_true rfl, Nat.le_of_ble_eq_true rfl⟩ (fun q7 => ?_)
  refine cn_num (nc' := 23) (ns' := 453) rfl rfl ?_
  refine cn_ws (ws' := (h0, .inr (8, [.ref q1, .ref q3, .ref q4, .null, .null, .null, .null, .null, .null, .int 0, .int 0])) :: ((((([]) ++ sg_X7 cA q1 u2) ++ [(q3, .inl (cA 3, 2, .inr (.inr (.inr (.inr (fun _ => none))))))]) ++ sg_X5 cA q4 u5 u6) ++ [(q7, .inr (4, [.null, .int 0, .null, .int 0, .int 0]))])) rfl ?_
  refine cn_dup (pc := 38) dX8_init_38 rfl ?_
  refine cn_call (n := 0) (nc := 23) (ns := 453) (y := jX8) (q := q7) (e0 := .inr (4, [.null, .int 0, .null, .int 0, .int 0])) (pc := 39) (As := []) (st := [.ref q7, .ref h0]) (W0 := (h0, .inr (8, [.ref q1, .ref q3, .ref q4, .null, .null, .null, .null, .null, .null, .int 0, .int 0])) :: (((([]) ++ sg_X7 cA q1 u2) ++ [(q3, .inl (cA 3, 2, .inr (.inr (.inr (.inr (fun _ => none))))))]) ++ sg_X5 cA q4 u5 u6)) (host := "WantedTypes") dX8_init_39 (List.mem_of_getElem? mnX8_29) rfl cwX4_init nwX4 ⟨by decide +kernel, by decide +kernel, by decide +kernel⟩ iwX4_init rfl rfl rfl (by exact ⟨Nat.le_of_ble_eq_true rfl, Nat.le_of_ble_eq_true rfl⟩) (by exact ⟨Nat.le_of_ble_eq_true rfl, Nat.le_of_ble_eq_true rfl⟩) rfl (by exact Nat.le_of_ble_eq_true rfl) (ccX4 x.2.1 D cA q7) ?_
  rintro _ ⟨u8, u9, rfl⟩
  refine cn_num (nc' := 33) (ns' := 692) rfl rfl ?_
  refine cn_ws (ws' := (h0, .inr (8, [.ref q1, .ref q3, .ref q4, .null, .null, .null, .null, .null, .null, .int 0, .int 0])) :: ((((([]) ++ sg_X7 cA q1 u2) ++ [(q3, .inl (cA 3, 2, .inr (.inr (.inr (.inr (fun _ => none))))))]) ++ sg_X5 cA q4 u5 u6) ++ sg_X4 cA q7 u8 u9)) rfl ?_
  refine cn_putF (pc := 42) (ci := 8) (kf := 3) (ty := .object "WantedTypes$Reader") dX8_init_42 inmX8 tyX8_ok nmX8 rfl (by decide) fwX8_30 rfl rfl (by decide +kernel) rfl rfl (Nat.le_of_ble_eq_true rfl) ?_
  refine cn_ws (ws' := (h0, .inr (8, [.ref q1, .ref q3, .ref q4, .ref q7, .null, .null, .null, .null, .null, .int 0, .int 0])) :: ((((([]) ++ sg_X7 cA q1 u2) ++ [(q3, .inl (cA 3, 2, .inr (.inr (.inr (.inr (fun _ => none))))))]) ++ sg_X5 cA q4 u5 u6) ++ sg_X4 cA q7 u8 u9)) rfl ?_
  refine cn_aload_n (pc := 45) (i := 0) 0 dX8_init_45 rfl rfl ?_
  refine cn_new (pc := 46) (ci := 0) (N := 4) (fs := [.null, .null, .null, .int 0]) dX8_init_46 inmX0 tyX0_ok lkX8_34 inX0 nwX0 rfl (by decide +kernel) ⟨Nat.le_of_ble_eq_true rfl, Nat.le_of_ble_eq_true rfl⟩ (fun q10 => ?_)
  refine cn_num (nc' := 34) (ns' := 696) rfl rfl ?_
  refine cn_ws (ws' := (h0, .inr (8, [.ref q1, .ref q3, .ref q4, .ref q7, .null, .null, .null, .null, .null, .int 0, .int 0])) :: (((((([]) ++ sg_X7 cA q1 u2) ++ [(q3, .inl (cA 3, 2, .inr (.inr (.inr (.inr (fun _ => none))))))]) ++ sg_X5 cA q4 u5 u6) ++ sg_X4 cA q7 u8 u9) ++ [(q10, .inr (0, [.null, .null, .null, .int 0]))])) rfl ?_
  refine cn_dup (pc := 49) dX8_init_49 rfl ?_
  refine cn_call (n := 0) (nc := 34) (ns := 696) (y := jX8) (q := q10) (e0 := .inr (0, [.null, .null, .null, .int 0])) (pc := 50) (As := []) (st := [.ref q10, .ref h0]) (W0 := (h0, .inr (8, [.ref q1, .ref q3, .ref q4, .ref q7, .null, .null, .null, .null, .null, .int 0, .int 0])) :: ((((([]) ++ sg_X7 cA q1 u2) ++ [(q3, .inl (cA 3, 2, .inr (.inr (.inr (.inr (fun _ => none))))))]) ++ sg_X5 cA q4 u5 u6) ++ sg_X4 cA q7 u8 u9)) (host := "WantedTypes") dX8_init_50 (List.mem_of_getElem? mnX8_36) rfl cwX0_init nwX0 ⟨by decide +kernel, by decide +kernel, by decide +kernel⟩ iwX0_init rfl rfl rfl (by exact ⟨Nat.le_of_ble_eq_true rfl, Nat.le_of_ble_eq_true rfl⟩) (by exact ⟨Nat.le_of_ble_eq_true rfl, Nat.le_of_ble_eq_true rfl⟩) rfl (by exact Nat.le_of_ble_eq_true rfl) (ccX0 x.2.1 D cA q10) ?_
  rintro _ ⟨u11, rfl⟩
  refine cn_num (nc' := 37) (ns' := 768) rfl rfl ?_
  refine cn_ws (ws' := (h0, .inr (8, [.ref q1, .ref q3, .ref q4, .ref q7, .null, .null, .null, .null, .null, .int 0, .int 0])) :: (((((([]) ++ sg_X7 cA q1 u2) ++ [(q3, .inl (cA 3, 2, .inr (.inr (.inr (.inr (fun _ => none))))))]) ++ sg_X5 cA q4 u5 u6) ++ sg_X4 cA q7 u8 u9) ++ sg_X0 cA q10 u11)) rfl ?_
  refine cn_putF (pc := 53) (ci := 8) (kf := 4) (ty := .object "WantedTypes$Acts") dX8_init_53 inmX8 tyX8_ok nmX8 rfl (by decide) fwX8_37 rfl rfl (by decide +kernel) rfl rfl (Nat.le_of_ble_eq_true rfl) ?_
  refine cn_ws (ws' := (h0, .inr (8, [.ref q1, .ref q3, .ref q4, .ref q7, .ref q10, .null, .null, .null, .null, .int 0, .int 0])) :: (((((([]) ++ sg_X7 cA q1 u2) ++ [(q3, .inl (cA 3, 2, .inr (.inr (.inr (.inr (fun _ => none))))))]) ++ sg_X5 cA q4 u5 u6) ++ sg_X4 cA q7 u8 u9) ++ sg_X0 cA q10 u11)) rfl ?_
  refine cn_aload_n (pc := 56) (i := 0) 0 dX8_init_56 rfl rfl ?_
  refine cn_new (pc := 57) (ci := 3) (N := 2) (fs := [.null, .null]) dX8_init_57 inmX3 tyX3_ok lkX8_41 inX3 nwX3 rfl (by decide +kernel) ⟨Nat.le_of_ble_eq_true rfl, Nat.le_of_ble_eq_true rfl⟩ (fun q12 => ?_)
  refine cn_num (nc' := 38) (ns' := 770) rfl rfl ?_
  refine cn_ws (ws' := (h0, .inr (8, [.ref q1, .ref q3, .ref q4, .ref q7, .ref q10, .null, .null, .null, .null, .int 0, .int 0])) :: ((((((([]) ++ sg_X7 cA q1 u2) ++ [(q3, .inl (cA 3, 2, .inr (.inr (.inr (.inr (fun _ => none))))))]) ++ sg_X5 cA q4 u5 u6) ++ sg_X4 cA q7 u8 u9) ++ sg_X0 cA q10 u11) ++ [(q12, .inr (3, [.null, .null]))])) rfl ?_
  refine cn_dup (pc := 60) dX8_init_60 rfl ?_
  refine cn_aload_n (pc := 61) (i := 0) 0 dX8_init_61 rfl rfl ?_
  refine cn_getf (pc := 62) (ci := 8) (kf := 0) (v := .ref q1) dX8_init_62 inmX8 rfl (by decide) fwX8_10 rfl ?_
  refine cn_call (n := 1) (nc := 38) (ns := 770) (y := jX8) (q := q12) (e0 := .inr (3, [.null, .null])) (pc := 65) (As := [.ref q1]) (st := [.ref q12, .ref h0]) (W0 := (h0, .inr (8, [.ref q1, .ref q3, .ref q4, .ref q7, .ref q10, .null, .null, .null, .null, .int 0, .int 0])) :: (((((([]) ++ sg_X7 cA q1 u2) ++ [(q3, .inl (cA 3, 2, .inr (.inr (.inr (.inr (fun _ => none))))))]) ++ sg_X5 cA q4 u5 u6) ++ sg_X4 cA q7 u8 u9) ++ sg_X0 cA q10 u11)) (host := "WantedTypes") dX8_init_65 (List.mem_of_getElem? mnX8_43) rfl cwX3_init nwX3 ⟨by decide +kernel, by decide +kernel, by decide +kernel⟩ iwX3_init rfl rfl rfl (by exact ⟨Nat.le_of_ble_eq_true rfl, Nat.le_of_ble_eq_true rfl⟩) (by exact ⟨Nat.le_of_ble_eq_true rfl, Nat.le_of_ble_eq_true rfl⟩) rfl (by exact Nat.le_of_ble_eq_true rfl) (ccX3 x.2.1 D cA q12 q1) ?_
  rintro _ ⟨u13, rfl⟩
  refine cn_num (nc' := 39) (ns' := 778) rfl rfl ?_
  refine cn_ws (ws' := (h0, .inr (8, [.ref q1, .ref q3, .ref q4, .ref q7, .ref q10, .null, .null, .null, .null, .int 0, .int 0])) :: ((((((([]) ++ sg_X7 cA q1 u2) ++ [(q3, .inl (cA 3, 2, .inr (.inr (.inr (.inr (fun _ => none))))))]) ++ sg_X5 cA q4 u5 u6) ++ sg_X4 cA q7 u8 u9) ++ sg_X0 cA q10 u11) ++ sg_X3 cA q12 q1 u13)) rfl ?_
  refine cn_putF (pc := 68) (ci := 8) (kf := 5) (ty := .object "WantedTypes$Reach") dX8_init_68 inmX8 tyX8_ok nmX8 rfl (by decide) fwX8_46 rfl rfl (by decide +kernel) rfl rfl (Nat.le_of_ble_eq_true rfl) ?_
  refine cn_ws (ws' := (h0, .inr (8, [.ref q1, .ref q3, .ref q4, .ref q7, .ref q10, .ref q12, .null, .null, .null, .int 0, .int 0])) :: ((((((([]) ++ sg_X7 cA q1 u2) ++ [(q3, .inl (cA 3, 2, .inr (.inr (.inr (.inr (fun _ => none))))))]) ++ sg_X5 cA q4 u5 u6) ++ sg_X4 cA q7 u8 u9) ++ sg_X0 cA q10 u11) ++ sg_X3 cA q12 q1 u13)) rfl ?_
  refine cn_aload_n (pc := 71) (i := 0) 0 dX8_init_71 rfl rfl ?_
  refine cn_new (pc := 72) (ci := 2) (N := 9) (fs := [.null, .int 0, .null, .null, .null, .null, .int 0, .null, .long 0]) dX8_init_72 inmX2 tyX2_ok lkX8_50 inX2 nwX2 rfl (by decide +kernel) ⟨Nat.le_of_ble_eq_true rfl, Nat.le_of_ble_eq_true rfl⟩ (fun q14 => ?_)
  refine cn_num (nc' := 40) (ns' := 787) rfl rfl ?_
  refine cn_ws (ws' := (h0, .inr (8, [.ref q1, .ref q3, .ref q4, .ref q7, .ref q10, .ref q12, .null, .null, .null, .int 0, .int 0])) :: (((((((([]) ++ sg_X7 cA q1 u2) ++ [(q3, .inl (cA 3, 2, .inr (.inr (.inr (.inr (fun _ => none))))))]) ++ sg_X5 cA q4 u5 u6) ++ sg_X4 cA q7 u8 u9) ++ sg_X0 cA q10 u11) ++ sg_X3 cA q12 q1 u13) ++ [(q14, .inr (2, [.null, .int 0, .null, .null, .null, .null, .int 0, .null, .long 0]))])) rfl ?_
  refine cn_dup (pc := 75) dX8_init_75 rfl ?_
  refine cn_aload_n (pc := 76) (i := 0) 0 dX8_init_76 rfl rfl ?_
  refine cn_getf (pc := 77) (ci := 8) (kf := 0) (v := .ref q1) dX8_init_77 inmX8 rfl (by decide) fwX8_10 rfl ?_
  refine cn_call (n := 1) (nc := 40) (ns := 787) (y := jX8) (q := q14) (e0 := .inr (2, [.null, .int 0, .null, .null, .null, .null, .int 0, .null, .long 0])) (pc := 80) (As := [.ref q1]) (st := [.ref q14, .ref h0]) (W0 := (h0, .inr (8, [.ref q1, .ref q3, .ref q4, .ref q7, .ref q10, .ref q12, .null, .null, .null, .int 0, .int 0])) :: ((((((([]) ++ sg_X7 cA q1 u2) ++ [(q3, .inl (cA 3, 2, .inr (.inr (.inr (.inr (fun _ => none))))))]) ++ sg_X5 cA q4 u5 u6) ++ sg_X4 cA q7 u8 u9) ++ sg_X0 cA q10 u11) ++ sg_X3 cA q12 q1 u13)) (host := "WantedTypes") dX8_init_80 (List.mem_of_getElem? mnX8_52) rfl cwX2_init nwX2 ⟨by decide +kernel, by decide +kernel, by decide +kernel⟩ iwX2_init rfl rfl rfl (by exact ⟨Nat.le_of_ble_eq_true rfl, Nat.le_of_ble_eq_true rfl⟩) (by exact ⟨Nat.le_of_ble_eq_true rfl, Nat.le_of_ble_eq_true rfl⟩) rfl (by exact Nat.le_of_ble_eq_true rfl) (ccX2 x.2.1 D cA q14 q1) ?_
  rintro _ ⟨u15, u16, u17, u18, rfl⟩
  refine cn_num (nc' := 90) (ns' := 2006) rfl rfl ?_
  refine cn_ws (ws' := (h0, .inr (8, [.ref q1, .ref q3, .ref q4, .ref q7, .ref q10, .ref q12, .null, .null, .null, .int 0, .int 0])) :: (((((((([]) ++ sg_X7 cA q1 u2) ++ [(q3, .inl (cA 3, 2, .inr (.inr (.inr (.inr (fun _ => none))))))]) ++ sg_X5 cA q4 u5 u6) ++ sg_X4 cA q7 u8 u9) ++ sg_X0 cA q10 u11) ++ sg_X3 cA q12 q1 u13) ++ sg_X2 cA q14 q1 u15 u16 u17 u18)) rfl ?_
  refine cn_putF (pc := 83) (ci := 8) (kf := 6) (ty := .object "WantedTypes$Lists") dX8_init_83 inmX8 tyX8_ok nmX8 rfl (by decide) fwX8_53 rfl rfl (by decide +kernel) rfl rfl (Nat.le_of_ble_eq_true rfl) ?_
  refine cn_ws (ws' := (h0, .inr (8, [.ref q1, .ref q3, .ref q4, .ref q7, .ref q10, .ref q12, .ref q14, .null, .null, .int 0, .int 0])) :: (((((((([]) ++ sg_X7 cA q1 u2) ++ [(q3, .inl (cA 3, 2, .inr (.inr (.inr (.inr (fun _ => none))))))]) ++ sg_X5 cA q4 u5 u6) ++ sg_X4 cA q7 u8 u9) ++ sg_X0 cA q10 u11) ++ sg_X3 cA q12 q1 u13) ++ sg_X2 cA q14 q1 u15 u16 u17 u18)) rfl ?_
  refine cn_aload_n (pc := 86) (i := 0) 0 dX8_init_86 rfl rfl ?_
  refine cn_new (pc := 87) (ci := 6) (N := 5) (fs := [.null, .null, .null, .int 0, .null]) dX8_init_87 inmX6 tyX6_ok lkX8_57 inX6 nwX6 rfl (by decide +kernel) ⟨Nat.le_of_ble_eq_true rfl, Nat.le_of_ble_eq_true rfl⟩ (fun q19 => ?_)
  refine cn_num (nc' := 91) (ns' := 2011) rfl rfl ?_
  refine cn_ws (ws' := (h0, .inr (8, [.ref q1, .ref q3, .ref q4, .ref q7, .ref q10, .ref q12, .ref q14, .null, .null, .int 0, .int 0])) :: ((((((((([]) ++ sg_X7 cA q1 u2) ++ [(q3, .inl (cA 3, 2, .inr (.inr (.inr (.inr (fun _ => none))))))]) ++ sg_X5 cA q4 u5 u6) ++ sg_X4 cA q7 u8 u9) ++ sg_X0 cA q10 u11) ++ sg_X3 cA q12 q1 u13) ++ sg_X2 cA q14 q1 u15 u16 u17 u18) ++ [(q19, .inr (6, [.null, .null, .null, .int 0, .null]))])) rfl ?_
  refine cn_dup (pc := 90) dX8_init_90 rfl ?_
  refine cn_aload_n (pc := 91) (i := 0) 0 dX8_init_91 rfl rfl ?_
  refine cn_getf (pc := 92) (ci := 8) (kf := 0) (v := .ref q1) dX8_init_92 inmX8 rfl (by decide) fwX8_10 rfl ?_
  refine cn_aload_n (pc := 95) (i := 0) 0 dX8_init_95 rfl rfl ?_
  refine cn_getf (pc := 96) (ci := 8) (kf := 2) (v := .ref q4) dX8_init_96 inmX8 rfl (by decide) fwX8_23 rfl ?_
  refine cn_call (n := 2) (nc := 91) (ns := 2011) (y := jX8) (q := q19) (e0 := .inr (6, [.null, .null, .null, .int 0, .null])) (pc := 99) (As := [.ref q1, .ref q4]) (st := [.ref q19, .ref h0]) (W0 := (h0, .inr (8, [.ref q1, .ref q3, .ref q4, .ref q7, .ref q10, .ref q12, .ref q14, .null, .null, .int 0, .int 0])) :: (((((((([]) ++ sg_X7 cA q1 u2) ++ [(q3, .inl (cA 3, 2, .inr (.inr (.inr (.inr (fun _ => none))))))]) ++ sg_X5 cA q4 u5 u6) ++ sg_X4 cA q7 u8 u9) ++ sg_X0 cA q10 u11) ++ sg_X3 cA q12 q1 u13) ++ sg_X2 cA q14 q1 u15 u16 u17 u18)) (host := "WantedTypes") dX8_init_99 (List.mem_of_getElem? mnX8_59) rfl cwX6_init nwX6 ⟨by decide +kernel, by decide +kernel, by decide +kernel⟩ iwX6_init rfl rfl rfl (by exact ⟨Nat.le_of_ble_eq_true rfl, Nat.le_of_ble_eq_true rfl⟩) (by exact ⟨Nat.le_of_ble_eq_true rfl, Nat.le_of_ble_eq_true rfl⟩) rfl (by exact Nat.le_of_ble_eq_true rfl) (ccX6 x.2.1 D cA q19 q1 q4) ?_
  rintro _ ⟨u20, rfl⟩
  refine cn_num (nc' := 93) (ns' := 2061) rfl rfl ?_
  refine cn_ws (ws' := (h0, .inr (8, [.ref q1, .ref q3, .ref q4, .ref q7, .ref q10, .ref q12, .ref q14, .null, .null, .int 0, .int 0])) :: ((((((((([]) ++ sg_X7 cA q1 u2) ++ [(q3, .inl (cA 3, 2, .inr (.inr (.inr (.inr (fun _ => none))))))]) ++ sg_X5 cA q4 u5 u6) ++ sg_X4 cA q7 u8 u9) ++ sg_X0 cA q10 u11) ++ sg_X3 cA q12 q1 u13) ++ sg_X2 cA q14 q1 u15 u16 u17 u18) ++ sg_X6 cA q19 q1 q4 u20)) rfl ?_
  refine cn_putF (pc := 102) (ci := 8) (kf := 7) (ty := .object "WantedTypes$Words") dX8_init_102 inmX8 tyX8_ok nmX8 rfl (by decide) fwX8_62 rfl rfl (by decide +kernel) rfl rfl (Nat.le_of_ble_eq_true rfl) ?_
  refine cn_ws (ws' := (h0, .inr (8, [.ref q1, .ref q3, .ref q4, .ref q7, .ref q10, .ref q12, .ref q14, .ref q19, .null, .int 0, .int 0])) :: ((((((((([]) ++ sg_X7 cA q1 u2) ++ [(q3, .inl (cA 3, 2, .inr (.inr (.inr (.inr (fun _ => none))))))]) ++ sg_X5 cA q4 u5 u6) ++ sg_X4 cA q7 u8 u9) ++ sg_X0 cA q10 u11) ++ sg_X3 cA q12 q1 u13) ++ sg_X2 cA q14 q1 u15 u16 u17 u18) ++ sg_X6 cA q19 q1 q4 u20)) rfl ?_
  refine cn_aload_n (pc := 105) (i := 0) 0 dX8_init_105 rfl rfl ?_
  refine cn_new (pc := 106) (ci := 1) (N := 3) (fs := [.null, .null, .int 0]) dX8_init_106 inmX1 tyX1_ok lkX8_66 inX1 nwX1 rfl (by decide +kernel) ⟨Nat.le_of_ble_eq_true rfl, Nat.le_of_ble_eq_true rfl⟩ (fun q21 => ?_)
  refine cn_num (nc' := 94) (ns' := 2064) rfl rfl ?_
  refine cn_ws (ws' := (h0, .inr (8, [.ref q1, .ref q3, .ref q4, .ref q7, .ref q10, .ref q12, .ref q14, .ref q19, .null, .int 0, .int 0])) :: (((((((((([]) ++ sg_X7 cA q1 u2) ++ [(q3, .inl (cA 3, 2, .inr (.inr (.inr (.inr (fun _ => none))))))]) ++ sg_X5 cA q4 u5 u6) ++ sg_X4 cA q7 u8 u9) ++ sg_X0 cA q10 u11) ++ sg_X3 cA q12 q1 u13) ++ sg_X2 cA q14 q1 u15 u16 u17 u18) ++ sg_X6 cA q19 q1 q4 u20) ++ [(q21, .inr (1, [.null, .null, .int 0]))])) rfl ?_
  refine cn_dup (pc := 109) dX8_init_109 rfl ?_
  refine cn_aload_n (pc := 110) (i := 0) 0 dX8_init_110 rfl rfl ?_
  refine cn_getf (pc := 111) (ci := 8) (kf := 0) (v := .ref q1) dX8_init_111 inmX8 rfl (by decide) fwX8_10 rfl ?_
  refine cn_call (n := 1) (nc := 94) (ns := 2064) (y := jX8) (q := q21) (e0 := .inr (1, [.null, .null, .int 0])) (pc := 114) (As := [.ref q1]) (st := [.ref q21, .ref h0]) (W0 := (h0, .inr (8, [.ref q1, .ref q3, .ref q4, .ref q7, .ref q10, .ref q12, .ref q14, .ref q19, .null, .int 0, .int 0])) :: ((((((((([]) ++ sg_X7 cA q1 u2) ++ [(q3, .inl (cA 3, 2, .inr (.inr (.inr (.inr (fun _ => none))))))]) ++ sg_X5 cA q4 u5 u6) ++ sg_X4 cA q7 u8 u9) ++ sg_X0 cA q10 u11) ++ sg_X3 cA q12 q1 u13) ++ sg_X2 cA q14 q1 u15 u16 u17 u18) ++ sg_X6 cA q19 q1 q4 u20)) (host := "WantedTypes") dX8_init_114 (List.mem_of_getElem? mnX8_68) rfl cwX1_init nwX1 ⟨by decide +kernel, by decide +kernel, by decide +kernel⟩ iwX1_init rfl rfl rfl (by exact ⟨Nat.le_of_ble_eq_true rfl, Nat.le_of_ble_eq_true rfl⟩) (by exact ⟨Nat.le_of_ble_eq_true rfl, Nat.le_of_ble_eq_true rfl⟩) rfl (by exact Nat.le_of_ble_eq_true rfl) (ccX1 x.2.1 D cA q21 q1) ?_
  rintro _ ⟨u22, rfl⟩
  refine cn_num (nc' := 95) (ns' := 2080) rfl rfl ?_
  refine cn_ws (ws' := (h0, .inr (8, [.ref q1, .ref q3, .ref q4, .ref q7, .ref q10, .ref q12, .ref q14, .ref q19, .null, .int 0, .int 0])) :: (((((((((([]) ++ sg_X7 cA q1 u2) ++ [(q3, .inl (cA 3, 2, .inr (.inr (.inr (.inr (fun _ => none))))))]) ++ sg_X5 cA q4 u5 u6) ++ sg_X4 cA q7 u8 u9) ++ sg_X0 cA q10 u11) ++ sg_X3 cA q12 q1 u13) ++ sg_X2 cA q14 q1 u15 u16 u17 u18) ++ sg_X6 cA q19 q1 q4 u20) ++ sg_X1 cA q21 q1 u22)) rfl ?_
  refine cn_putF (pc := 117) (ci := 8) (kf := 8) (ty := .object "WantedTypes$Asks") dX8_init_117 inmX8 tyX8_ok nmX8 rfl (by decide) fwX8_69 rfl rfl (by decide +kernel) rfl rfl (Nat.le_of_ble_eq_true rfl) ?_
  refine cn_ws (ws' := (h0, .inr (8, [.ref q1, .ref q3, .ref q4, .ref q7, .ref q10, .ref q12, .ref q14, .ref q19, .ref q21, .int 0, .int 0])) :: (((((((((([]) ++ sg_X7 cA q1 u2) ++ [(q3, .inl (cA 3, 2, .inr (.inr (.inr (.inr (fun _ => none))))))]) ++ sg_X5 cA q4 u5 u6) ++ sg_X4 cA q7 u8 u9) ++ sg_X0 cA q10 u11) ++ sg_X3 cA q12 q1 u13) ++ sg_X2 cA q14 q1 u15 u16 u17 u18) ++ sg_X6 cA q19 q1 q4 u20) ++ sg_X1 cA q21 q1 u22)) rfl ?_
  refine cn_iconst (pc := 120) (v := (0 : Int32)) dX8_init_120 (by decide +kernel) ?_
  refine cn_istore_n (pc := 121) (i := 1) (ls' := [(0, .ref h0)]) dX8_init_121 rfl (Nat.le_of_ble_eq_true rfl) rfl ?_
  refine cn_iload_n (pc := 122) (i := 1) 0 dX8_init_122 rfl rfl ?_
  refine cn_iconst (pc := 123) (v := (2 : Int32)) dX8_init_123 (by decide +kernel) ?_
  refine cn_gef (pc := 124) (tgt := 146) dX8_init_124 (by decide) (by decide +kernel) ?_
  refine cn_aload_n (pc := 127) (i := 0) 1 dX8_init_127 rfl rfl ?_
  refine cn_getf (pc := 128) (ci := 8) (kf := 1) (v := .ref q3) dX8_init_128 inmX8 rfl (by decide) fwX8_16 rfl ?_
  refine cn_iload_n (pc := 131) (i := 1) 0 dX8_init_131 rfl rfl ?_
  refine cn_new (pc := 132) (ci := 7) (N := 11) (fs := [.int 0, .int 0, .int 0, .null, .null, .null, .null, .null, .null, .null, .null]) dX8_init_132 inmX7 tyX7_ok lkX8_7 inX7 nwX7 rfl (by decide +kernel) ⟨Nat.le_of_ble_eq_true rfl, Nat.le_of_ble_eq_true rfl⟩ (fun q23 => ?_)
  refine cn_num (nc' := 96) (ns' := 2091) rfl rfl ?_
  refine cn_ws (ws' := (h0, .inr (8, [.ref q1, .ref q3, .ref q4, .ref q7, .ref q10, .ref q12, .ref q14, .ref q19, .ref q21, .int 0, .int 0])) :: ((((((((((([]) ++ sg_X7 cA q1 u2) ++ [(q3, .inl (cA 3, 2, .inr (.inr (.inr (.inr (fun _ => none))))))]) ++ sg_X5 cA q4 u5 u6) ++ sg_X4 cA q7 u8 u9) ++ sg_X0 cA q10 u11) ++ sg_X3 cA q12 q1 u13) ++ sg_X2 cA q14 q1 u15 u16 u17 u18) ++ sg_X6 cA q19 q1 q4 u20) ++ sg_X1 cA q21 q1 u22) ++ [(q23, .inr (7, [.int 0, .int 0, .int 0, .null, .null, .null, .null, .null, .null, .null, .null]))])) rfl ?_
  refine cn_dup (pc := 135) dX8_init_135 rfl ?_
  refine cn_call (n := 0) (nc := 96) (ns := 2091) (y := jX8) (q := q23) (e0 := .inr (7, [.int 0, .int 0, .int 0, .null, .null, .null, .null, .null, .null, .null, .null])) (pc := 136) (As := []) (st := [.ref q23, .int (0 : Int32), .ref q3]) (W0 := (h0, .inr (8, [.ref q1, .ref q3, .ref q4, .ref q7, .ref q10, .ref q12, .ref q14, .ref q19, .ref q21, .int 0, .int 0])) :: (((((((((([]) ++ sg_X7 cA q1 u2) ++ [(q3, .inl (cA 3, 2, .inr (.inr (.inr (.inr (fun _ => none))))))]) ++ sg_X5 cA q4 u5 u6) ++ sg_X4 cA q7 u8 u9) ++ sg_X0 cA q10 u11) ++ sg_X3 cA q12 q1 u13) ++ sg_X2 cA q14 q1 u15 u16 u17 u18) ++ sg_X6 cA q19 q1 q4 u20) ++ sg_X1 cA q21 q1 u22)) (host := "WantedTypes") dX8_init_136 (List.mem_of_getElem? mnX8_9) rfl cwX7_init nwX7 ⟨by decide +kernel, by decide +kernel, by decide +kernel⟩ iwX7_init rfl rfl rfl (by exact ⟨Nat.le_of_ble_eq_true rfl, Nat.le_of_ble_eq_true rfl⟩) (by exact ⟨Nat.le_of_ble_eq_true rfl, Nat.le_of_ble_eq_true rfl⟩) rfl (by exact Nat.le_of_ble_eq_true rfl) (ccX7 x.2.1 D cA q23) ?_
  rintro _ ⟨u24, rfl⟩
  refine cn_num (nc' := 104) (ns' := 2179) rfl rfl ?_
  refine cn_ws (ws' := (h0, .inr (8, [.ref q1, .ref q3, .ref q4, .ref q7, .ref q10, .ref q12, .ref q14, .ref q19, .ref q21, .int 0, .int 0])) :: ((((((((((([]) ++ sg_X7 cA q1 u2) ++ [(q3, .inl (cA 3, 2, .inr (.inr (.inr (.inr (fun _ => none))))))]) ++ sg_X5 cA q4 u5 u6) ++ sg_X4 cA q7 u8 u9) ++ sg_X0 cA q10 u11) ++ sg_X3 cA q12 q1 u13) ++ sg_X2 cA q14 q1 u15 u16 u17 u18) ++ sg_X6 cA q19 q1 q4 u20) ++ sg_X1 cA q21 q1 u22) ++ sg_X7 cA q23 u24)) rfl ?_
  refine cn_astq (pc := 139) (p := 10) (qk := 96) (ci := 7) dX8_init_139 rfl rfl rfl (by unfold vp_in; decide +kernel) ?_
  refine cn_ws (ws' := (h0, .inr (8, [.ref q1, .ref q3, .ref q4, .ref q7, .ref q10, .ref q12, .ref q14, .ref q19, .ref q21, .int 0, .int 0])) :: ((((((((((([]) ++ sg_X7 cA q1 u2) ++ [(q3, .inl (cA 3, 2, .inr (.inr (.inr (.inr (va_up (fun _ => none) (0 : Int32).toNatClampNeg (some q23)))))))]) ++ sg_X5 cA q4 u5 u6) ++ sg_X4 cA q7 u8 u9) ++ sg_X0 cA q10 u11) ++ sg_X3 cA q12 q1 u13) ++ sg_X2 cA q14 q1 u15 u16 u17 u18) ++ sg_X6 cA q19 q1 q4 u20) ++ sg_X1 cA q21 q1 u22) ++ sg_X7 cA q23 u24)) rfl ?_
  refine cn_iinc (pc := 140) (i := 1) (w := (1 : Int32)) (ls' := [(0, .ref h0)]) 0 dX8_init_140 rfl (by decide +kernel) (Nat.le_of_ble_eq_true rfl) rfl ?_
  refine cn_goto (pc := 143) (tgt := 122) dX8_init_143 (by decide) ?_
  refine cn_iload_n (pc := 122) (i := 1) 0 dX8_init_122 rfl rfl ?_
  refine cn_iconst (pc := 123) (v := (2 : Int32)) dX8_init_123 (by decide +kernel) ?_
  refine cn_gef (pc := 124) (tgt := 146) dX8_init_124 (by decide) (by decide +kernel) ?_
  refine cn_aload_n (pc := 127) (i := 0) 1 dX8_init_127 rfl rfl ?_
  refine cn_getf (pc := 128) (ci := 8) (kf := 1) (v := .ref q3) dX8_init_128 inmX8 rfl (by decide) fwX8_16 rfl ?_
  refine cn_iload_n (pc := 131) (i := 1) 0 dX8_init_131 rfl rfl ?_
  refine cn_new (pc := 132) (ci := 7) (N := 11) (fs := [.int 0, .int 0, .int 0, .null, .null, .null, .null, .null, .null, .null, .null]) dX8_init_132 inmX7 tyX7_ok lkX8_7 inX7 nwX7 rfl (by decide +kernel) ⟨Nat.le_of_ble_eq_true rfl, Nat.le_of_ble_eq_true rfl⟩ (fun q25 => ?_)
  refine cn_num (nc' := 105) (ns' := 2190) rfl rfl ?_
  refine cn_ws (ws' := (h0, .inr (8, [.ref q1, .ref q3, .ref q4, .ref q7, .ref q10, .ref q12, .ref q14, .ref q19, .ref q21, .int 0, .int 0])) :: (((((((((((([]) ++ sg_X7 cA q1 u2) ++ [(q3, .inl (cA 3, 2, .inr (.inr (.inr (.inr (va_up (fun _ => none) (0 : Int32).toNatClampNeg (some q23)))))))]) ++ sg_X5 cA q4 u5 u6) ++ sg_X4 cA q7 u8 u9) ++ sg_X0 cA q10 u11) ++ sg_X3 cA q12 q1 u13) ++ sg_X2 cA q14 q1 u15 u16 u17 u18) ++ sg_X6 cA q19 q1 q4 u20) ++ sg_X1 cA q21 q1 u22) ++ sg_X7 cA q23 u24) ++ [(q25, .inr (7, [.int 0, .int 0, .int 0, .null, .null, .null, .null, .null, .null, .null, .null]))])) rfl ?_
  refine cn_dup (pc := 135) dX8_init_135 rfl ?_
  refine cn_call (n := 0) (nc := 105) (ns := 2190) (y := jX8) (q := q25) (e0 := .inr (7, [.int 0, .int 0, .int 0, .null, .null, .null, .null, .null, .null, .null, .null])) (pc := 136) (As := []) (st := [.ref q25, .int (1 : Int32), .ref q3]) (W0 := (h0, .inr (8, [.ref q1, .ref q3, .ref q4, .ref q7, .ref q10, .ref q12, .ref q14, .ref q19, .ref q21, .int 0, .int 0])) :: ((((((((((([]) ++ sg_X7 cA q1 u2) ++ [(q3, .inl (cA 3, 2, .inr (.inr (.inr (.inr (va_up (fun _ => none) (0 : Int32).toNatClampNeg (some q23)))))))]) ++ sg_X5 cA q4 u5 u6) ++ sg_X4 cA q7 u8 u9) ++ sg_X0 cA q10 u11) ++ sg_X3 cA q12 q1 u13) ++ sg_X2 cA q14 q1 u15 u16 u17 u18) ++ sg_X6 cA q19 q1 q4 u20) ++ sg_X1 cA q21 q1 u22) ++ sg_X7 cA q23 u24)) (host := "WantedTypes") dX8_init_136 (List.mem_of_getElem? mnX8_9) rfl cwX7_init nwX7 ⟨by decide +kernel, by decide +kernel, by decide +kernel⟩ iwX7_init rfl rfl rfl (by exact ⟨Nat.le_of_ble_eq_true rfl, Nat.le_of_ble_eq_true rfl⟩) (by exact ⟨Nat.le_of_ble_eq_true rfl, Nat.le_of_ble_eq_true rfl⟩) rfl (by exact Nat.le_of_ble_eq_true rfl) (ccX7 x.2.1 D cA q25) ?_
  rintro _ ⟨u26, rfl⟩
  refine cn_num (nc' := 113) (ns' := 2278) rfl rfl ?_
  refine cn_ws (ws' := (h0, .inr (8, [.ref q1, .ref q3, .ref q4, .ref q7, .ref q10, .ref q12, .ref q14, .ref q19, .ref q21, .int 0, .int 0])) :: (((((((((((([]) ++ sg_X7 cA q1 u2) ++ [(q3, .inl (cA 3, 2, .inr (.inr (.inr (.inr (va_up (fun _ => none) (0 : Int32).toNatClampNeg (some q23)))))))]) ++ sg_X5 cA q4 u5 u6) ++ sg_X4 cA q7 u8 u9) ++ sg_X0 cA q10 u11) ++ sg_X3 cA q12 q1 u13) ++ sg_X2 cA q14 q1 u15 u16 u17 u18) ++ sg_X6 cA q19 q1 q4 u20) ++ sg_X1 cA q21 q1 u22) ++ sg_X7 cA q23 u24) ++ sg_X7 cA q25 u26)) rfl ?_
  refine cn_astq (pc := 139) (p := 10) (qk := 105) (ci := 7) dX8_init_139 rfl rfl rfl (by unfold vp_in; decide +kernel) ?_
  refine cn_ws (ws' := (h0, .inr (8, [.ref q1, .ref q3, .ref q4, .ref q7, .ref q10, .ref q12, .ref q14, .ref q19, .ref q21, .int 0, .int 0])) :: (((((((((((([]) ++ sg_X7 cA q1 u2) ++ [(q3, .inl (cA 3, 2, .inr (.inr (.inr (.inr (va_up (va_up (fun _ => none) (0 : Int32).toNatClampNeg (some q23)) (1 : Int32).toNatClampNeg (some q25)))))))]) ++ sg_X5 cA q4 u5 u6) ++ sg_X4 cA q7 u8 u9) ++ sg_X0 cA q10 u11) ++ sg_X3 cA q12 q1 u13) ++ sg_X2 cA q14 q1 u15 u16 u17 u18) ++ sg_X6 cA q19 q1 q4 u20) ++ sg_X1 cA q21 q1 u22) ++ sg_X7 cA q23 u24) ++ sg_X7 cA q25 u26)) rfl ?_
  refine cn_iinc (pc := 140) (i := 1) (w := (2 : Int32)) (ls' := [(0, .ref h0)]) 0 dX8_init_140 rfl (by decide +kernel) (Nat.le_of_ble_eq_true rfl) rfl ?_
  refine cn_goto (pc := 143) (tgt := 122) dX8_init_143 (by decide) ?_
  refine cn_iload_n (pc := 122) (i := 1) 0 dX8_init_122 rfl rfl ?_
  refine cn_iconst (pc := 123) (v := (2 : Int32)) dX8_init_123 (by decide +kernel) ?_
  refine cn_get (pc := 124) (tgt := 146) dX8_init_124 (by decide) (by decide +kernel) ?_
  refine cn_return (pc := 146) dX8_init_146 rfl ?_ rfl rfl
  exact finX8 cA h0 q1 q3 q4 q7 q10 q12 q14 q19 q21 u2 q23 q25 u5 u6 u8 u9 u11 u13 u15 u16 u17 u18 u20 u22 u24 u26
