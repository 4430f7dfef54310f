def sg_X6 (cA : Nat → ClassId) (h0 : Nat) (wa : Nat) (ra : Nat) (u : Nat → Nat) : va_W := (h0, .inr (6, [.ref wa, .ref ra, .ref (u 0), .int 0, .ref (u 1)])) :: ((([]) ++ [((u 0), .inl (cA 0, 24, .inl (fun _ => 0)))]) ++ [((u 1), .inl (cA 0, 26, .inl (fun _ => 0)))])
abbrev jX6 : mv_Y := (cX6_init, 3, RX6, none, { frames := 1, cells := 2, slots := 50, locals := 20 })
set_option maxRecDepth 100000 in
set_option maxHeartbeats 4000000 in
theorem ccX6 (l : Launch) (D : va_G) (cA : Nat → ClassId) (h0 : Nat) (wa : Nat) (ra : Nat) : cn_C l D cA yX6_init jX6 h0 (.inr (6, [.null, .null, .null, .int 0, .null])) [.ref wa, .ref ra] 2 50 (fun ws => ∃ u : Nat → Nat, ws = sg_X6 cA h0 wa ra u) := by
  refine cn_C.ofV (ls := [(0, .ref h0), (1, .ref wa), (2, .ref ra)]) (by decide) rfl rfl (Nat.le_of_ble_eq_true rfl) rfl ?_
  intro x A hxl
  subst hxl
  refine cn_aload_n (pc := 0) (i := 0) 0 dX6_init_0 rfl rfl ?_
  refine cn_obj (pc := 1) dX6_init_1 mwX6_3 ⟨obj_i, obj_c⟩ ⟨Nat.le_of_ble_eq_true rfl, Nat.le_of_ble_eq_true rfl⟩ ?_
  refine cn_aload_n (pc := 4) (i := 0) 0 dX6_init_4 rfl rfl ?_
  refine cn_bipush (pc := 5) (v := (24 : Int32)) dX6_init_5 (by decide +kernel) ?_
  refine cn_newI (pc := 7) (N := 24) dX6_init_7 ar_int (by decide +kernel) (by decide +kernel) (Nat.le_of_ble_eq_true rfl) ⟨Nat.le_of_ble_eq_true rfl, Nat.le_of_ble_eq_true rfl⟩ (fun q1 => ?_)
  refine cn_num (nc' := 1) (ns' := 24) rfl rfl ?_
  refine cn_ws (ws' := (h0, .inr (6, [.null, .null, .null, .int 0, .null])) :: (([]) ++ [(q1, .inl (cA 0, 24, .inl (fun _ => 0)))])) rfl ?_
  refine cn_putF (pc := 9) (ci := 6) (kf := 2) (ty := .array .int) dX6_init_9 inmX6 tyX6_ok nmX6 rfl (by decide) fwX6_11 rfl rfl (by decide +kernel) rfl rfl (Nat.le_of_ble_eq_true rfl) ?_
  refine cn_ws (ws' := (h0, .inr (6, [.null, .null, .ref q1, .int 0, .null])) :: (([]) ++ [(q1, .inl (cA 0, 24, .inl (fun _ => 0)))])) rfl ?_
  refine cn_aload_n (pc := 12) (i := 0) 0 dX6_init_12 rfl rfl ?_
  refine cn_bipush (pc := 13) (v := (26 : Int32)) dX6_init_13 (by decide +kernel) ?_
  refine cn_newI (pc := 15) (N := 26) dX6_init_15 ar_int (by decide +kernel) (by decide +kernel) (Nat.le_of_ble_eq_true rfl) ⟨Nat.le_of_ble_eq_true rfl, Nat.le_of_ble_eq_true rfl⟩ (fun q2 => ?_)
  refine cn_num (nc' := 2) (ns' := 50) rfl rfl ?_
  refine cn_ws (ws' := (h0, .inr (6, [.null, .null, .ref q1, .int 0, .null])) :: ((([]) ++ [(q1, .inl (cA 0, 24, .inl (fun _ => 0)))]) ++ [(q2, .inl (cA 0, 26, .inl (fun _ => 0)))])) rfl ?_
  refine cn_putF (pc := 17) (ci := 6) (kf := 4) (ty := .array .int) dX6_init_17 inmX6 tyX6_ok nmX6 rfl (by decide) fwX6_15 rfl rfl (by decide +kernel) rfl rfl (Nat.le_of_ble_eq_true rfl) ?_
  refine cn_ws (ws' := (h0, .inr (6, [.null, .null, .ref q1, .int 0, .ref q2])) :: ((([]) ++ [(q1, .inl (cA 0, 24, .inl (fun _ => 0)))]) ++ [(q2, .inl (cA 0, 26, .inl (fun _ => 0)))])) rfl ?_
  refine cn_aload_n (pc := 20) (i := 0) 0 dX6_init_20 rfl rfl ?_
  refine cn_aload_n (pc := 21) (i := 1) 1 dX6_init_21 rfl rfl ?_
  refine cn_putF (pc := 22) (ci := 6) (kf := 0) (ty := .object "WantedTypes$World") dX6_init_22 inmX6 tyX6_ok nmX6 rfl (by decide) fwX6_18 rfl rfl (by decide +kernel) rfl rfl (Nat.le_of_ble_eq_true rfl) ?_
  refine cn_ws (ws' := (h0, .inr (6, [.ref wa, .null, .ref q1, .int 0, .ref q2])) :: ((([]) ++ [(q1, .inl (cA 0, 24, .inl (fun _ => 0)))]) ++ [(q2, .inl (cA 0, 26, .inl (fun _ => 0)))])) rfl ?_
  refine cn_aload_n (pc := 25) (i := 0) 0 dX6_init_25 rfl rfl ?_
  refine cn_aload_n (pc := 26) (i := 2) 2 dX6_init_26 rfl rfl ?_
  refine cn_putF (pc := 27) (ci := 6) (kf := 1) (ty := .object "WantedTypes$Rows") dX6_init_27 inmX6 tyX6_ok nmX6 rfl (by decide) fwX6_22 rfl rfl (by decide +kernel) rfl rfl (Nat.le_of_ble_eq_true rfl) ?_
  refine cn_ws (ws' := (h0, .inr (6, [.ref wa, .ref ra, .ref q1, .int 0, .ref q2])) :: ((([]) ++ [(q1, .inl (cA 0, 24, .inl (fun _ => 0)))]) ++ [(q2, .inl (cA 0, 26, .inl (fun _ => 0)))])) rfl ?_
  refine cn_return (pc := 30) dX6_init_30 rfl ?_ rfl rfl
  exact ⟨fun i => [q1, q2].getD i 0, rfl⟩
def sg_X1 (cA : Nat → ClassId) (h0 : Nat) (wa : Nat) (u : Nat → Nat) : va_W := (h0, .inr (1, [.ref wa, .ref (u 0), .int 0])) :: (([]) ++ [((u 0), .inl (cA 0, 16, .inl (fun _ => 0)))])
abbrev jX1 : mv_Y := (cX1_init, 2, RX1, none, { frames := 1, cells := 1, slots := 16, locals := 20 })
set_option maxRecDepth 100000 in
set_option maxHeartbeats 4000000 in
theorem ccX1 (l : Launch) (D : va_G) (cA : Nat → ClassId) (h0 : Nat) (wa : Nat) : cn_C l D cA yX1_init jX1 h0 (.inr (1, [.null, .null, .int 0])) [.ref wa] 1 16 (fun ws => ∃ u : Nat → Nat, ws = sg_X1 cA h0 wa u) := by
  refine cn_C.ofV (ls := [(0, .ref h0), (1, .ref wa)]) (by decide) rfl rfl (Nat.le_of_ble_eq_true rfl) rfl ?_
  intro x A hxl
  subst hxl
  refine cn_aload_n (pc := 0) (i := 0) 0 dX1_init_0 rfl rfl ?_
  refine cn_obj (pc := 1) dX1_init_1 mwX1_3 ⟨obj_i, obj_c⟩ ⟨Nat.le_of_ble_eq_true rfl, Nat.le_of_ble_eq_true rfl⟩ ?_
  refine cn_aload_n (pc := 4) (i := 0) 0 dX1_init_4 rfl rfl ?_
  refine cn_bipush (pc := 5) (v := (16 : Int32)) dX1_init_5 (by decide +kernel) ?_
  refine cn_newI (pc := 7) (N := 16) dX1_init_7 ar_int (by decide +kernel) (by decide +kernel) (Nat.le_of_ble_eq_true rfl) ⟨Nat.le_of_ble_eq_true rfl, Nat.le_of_ble_eq_true rfl⟩ (fun q1 => ?_)
  refine cn_num (nc' := 1) (ns' := 16) rfl rfl ?_
  refine cn_ws (ws' := (h0, .inr (1, [.null, .null, .int 0])) :: (([]) ++ [(q1, .inl (cA 0, 16, .inl (fun _ => 0)))])) rfl ?_
  refine cn_putF (pc := 9) (ci := 1) (kf := 1) (ty := .array .int) dX1_init_9 inmX1 tyX1_ok nmX1 rfl (by decide) fwX1_11 rfl rfl (by decide +kernel) rfl rfl (Nat.le_of_ble_eq_true rfl) ?_
  refine cn_ws (ws' := (h0, .inr (1, [.null, .ref q1, .int 0])) :: (([]) ++ [(q1, .inl (cA 0, 16, .inl (fun _ => 0)))])) rfl ?_
  refine cn_aload_n (pc := 12) (i := 0) 0 dX1_init_12 rfl rfl ?_
  refine cn_aload_n (pc := 13) (i := 1) 1 dX1_init_13 rfl rfl ?_
  refine cn_putF (pc := 14) (ci := 1) (kf := 0) (ty := .object "WantedTypes$World") dX1_init_14 inmX1 tyX1_ok nmX1 rfl (by decide) fwX1_15 rfl rfl (by decide +kernel) rfl rfl (Nat.le_of_ble_eq_true rfl) ?_
  refine cn_ws (ws' := (h0, .inr (1, [.ref wa, .ref q1, .int 0])) :: (([]) ++ [(q1, .inl (cA 0, 16, .inl (fun _ => 0)))])) rfl ?_
  refine cn_return (pc := 17) dX1_init_17 rfl ?_ rfl rfl
  exact ⟨fun i => [q1].getD i 0, rfl⟩
