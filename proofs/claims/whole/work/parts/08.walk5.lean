set_option maxRecDepth 100000 in
set_option maxHeartbeats 4000000 in
theorem ctX9_cost (l : Launch) (D : va_G) (cA : Nat → ClassId) (ad : Nat → Nat) (F : Nat) (M : mv_M) (a1 : Int32) (a2 : Int32) : mv_C l (D, cA, ad, LM) yX9_cost iX9_cost mv_ri [.ref (ad 0), .int a1, .int a2] M (fX9_cost F M a1 a2) := by
  refine mv_C.ofV (ls := [(0, .ref (ad 0)), (1, .int a1), (2, .int a2)]) (by decide) rfl (Nat.le_of_ble_eq_true rfl) rfl ?_
  intro x hxl
  subst hxl
  unfold fX9_cost
  refine mv_aload_n (pc := 0) (i := 0) 0 dX9_cost_0 rfl rfl ?_
  refine mv_iload_n (pc := 1) (i := 1) 1 dX9_cost_1 rfl rfl ?_
  refine mv_callVi (pc := 2) (As := [.int a1]) (st := []) (i := 0) dX9_cost_2 mlX9_134 vmX9_isMember ⟨Nat.le_of_ble_eq_true rfl, Nat.le_of_ble_eq_true rfl⟩ lm_0 rfl rfl (Nat.le_of_ble_eq_true rfl) (ctX9_isMember x.2.1 D cA ad F M a1) (fun v2 M1 => ?_)
  refine mv_if_eq (pc := 5) (tgt := 20) dX9_cost_5 (by decide) ?_ ?_
  · refine mv_ldc (pc := 20) dX9_cost_20 kwX9_65 ?_
    exact mv_ireturn (pc := 22) dX9_cost_22 rfl
  · refine mv_iload_n (pc := 8) (i := 2) 2 dX9_cost_8 rfl rfl ?_
    refine mv_i2l (pc := 9) dX9_cost_9 ?_
    refine mv_lconst (pc := 10) dX9_cost_10 (by decide +kernel : Int64.ofNat ((1 : Fin 2) : Nat) = (1 : Int64)) ?_
    refine mv_ldc2_w (pc := 11) dX9_cost_11 kwX9_141 ?_
    refine mv_callSi (pc := 14) (As := [.long a2.toInt64, .long (1 : Int64), .long (9 : Int64)]) (st := []) dX9_cost_14 mlX9_48 smX9_in ⟨Nat.le_of_ble_eq_true rfl, Nat.le_of_ble_eq_true rfl⟩ rfl (Nat.le_of_ble_eq_true rfl) (ctX9_in x.2.1 D cA ad F M1 a2.toInt64 (1 : Int64) (9 : Int64)) (fun v4 M3 => ?_)
    refine mv_if_ne (pc := 17) (tgt := 23) dX9_cost_17 (by decide) ?_ ?_
    · refine mv_aload_n (pc := 23) (i := 0) 0 dX9_cost_23 rfl rfl ?_
      refine mv_callVv (pc := 24) (As := []) (st := []) (i := 0) dX9_cost_24 mlX9_138 vmX9_minds ⟨Nat.le_of_ble_eq_true rfl, Nat.le_of_ble_eq_true rfl⟩ lm_0 rfl rfl (Nat.le_of_ble_eq_true rfl) (ctX9_minds x.2.1 D cA ad F M3) (fun M5 => ?_)
      refine mv_aload_n (pc := 27) (i := 0) 0 dX9_cost_27 rfl rfl ?_
      refine mv_getR (pc := 28) (i := 0) (j := 1) dX9_cost_28 flX9_7 lm_0 rfl ?_
      refine mv_bipush (pc := 31) dX9_cost_31 kcb35 ?_
      refine mv_iload_n (pc := 33) (i := 1) 1 dX9_cost_33 rfl rfl ?_
      refine mv_iadd (pc := 34) dX9_cost_34 ?_
      refine mv_iald (pc := 35) (i := 1) dX9_cost_35 lm_1 ?_
      refine mv_istore_n (pc := 36) (i := 3) (ls' := [(0, .ref (ad 0)), (1, .int a1), (2, .int a2)]) dX9_cost_36 rfl (Nat.le_of_ble_eq_true rfl) rfl (fun v6 => ?_)
      refine mv_aload_n (pc := 37) (i := 0) 1 dX9_cost_37 rfl rfl ?_
      refine mv_getR (pc := 38) (i := 0) (j := 1) dX9_cost_38 flX9_7 lm_0 rfl ?_
      refine mv_bipush (pc := 41) dX9_cost_41 kcb35 ?_
      refine mv_iload_n (pc := 43) (i := 1) 2 dX9_cost_43 rfl rfl ?_
      refine mv_iadd (pc := 44) dX9_cost_44 ?_
      refine mv_iload_n (pc := 45) (i := 2) 3 dX9_cost_45 rfl rfl ?_
      refine mv_iast (pc := 46) (i := 1) dX9_cost_46 lm_1 (fun M7 => ?_)
      refine mv_iload_n (pc := 47) (i := 3) 0 dX9_cost_47 rfl rfl ?_
      exact mv_ireturn (pc := 48) dX9_cost_48 rfl
    · refine mv_ldc (pc := 20) dX9_cost_20 kwX9_65 ?_
      exact mv_ireturn (pc := 22) dX9_cost_22 rfl

set_option maxRecDepth 100000 in
set_option maxHeartbeats 4000000 in
theorem ctX9_isType (l : Launch) (D : va_G) (cA : Nat → ClassId) (ad : Nat → Nat) (F : Nat) (M : mv_M) (a1 : Int32) : mv_C l (D, cA, ad, LM) yX9_isType iX9_isType mv_ri [.ref (ad 0), .int a1] M (fX9_isType F M a1) := by
  refine mv_C.ofV (ls := [(0, .ref (ad 0)), (1, .int a1)]) (by decide) rfl (Nat.le_of_ble_eq_true rfl) rfl ?_
  intro x hxl
  subst hxl
  unfold fX9_isType
  refine mv_iload_n (pc := 0) (i := 1) 1 dX9_isType_0 rfl rfl ?_
  refine mv_i2l (pc := 1) dX9_isType_1 ?_
  refine mv_lconst (pc := 2) dX9_isType_2 (by decide +kernel : Int64.ofNat ((0 : Fin 2) : Nat) = (0 : Int64)) ?_
  refine mv_aload_n (pc := 3) (i := 0) 0 dX9_isType_3 rfl rfl ?_
  refine mv_getR (pc := 4) (i := 0) (j := 1) dX9_isType_4 flX9_7 lm_0 rfl ?_
  refine mv_iconst (pc := 7) dX9_isType_7 kci0 ?_
  refine mv_iald (pc := 8) (i := 1) dX9_isType_8 lm_1 ?_
  refine mv_iconst (pc := 9) dX9_isType_9 kci1 ?_
  refine mv_isub (pc := 10) dX9_isType_10 ?_
  refine mv_i2l (pc := 11) dX9_isType_11 ?_
  refine mv_callSi (pc := 12) (As := [.long a1.toInt64, .long (0 : Int64), .long (((M.1 1 (0 : Int32).toNatClampNeg) - (1 : Int32)).toInt64)]) (st := []) dX9_isType_12 mlX9_48 smX9_in ⟨Nat.le_of_ble_eq_true rfl, Nat.le_of_ble_eq_true rfl⟩ rfl (Nat.le_of_ble_eq_true rfl) (ctX9_in x.2.1 D cA ad F M a1.toInt64 (0 : Int64) (((M.1 1 (0 : Int32).toNatClampNeg) - (1 : Int32)).toInt64)) (fun v2 M1 => ?_)
  exact mv_zreturn (pc := 15) dX9_isType_15 rfl

set_option maxRecDepth 100000 in
set_option maxHeartbeats 4000000 in
theorem ctX9_above (l : Launch) (D : va_G) (cA : Nat → ClassId) (ad : Nat → Nat) (F : Nat) (M : mv_M) (a1 : Int32) (a2 : Int32) : mv_C l (D, cA, ad, LM) yX9_above iX9_above mv_ri [.ref (ad 0), .int a1, .int a2] M (fX9_above F M a1 a2) := by
  refine mv_C.ofV (ls := [(0, .ref (ad 0)), (1, .int a1), (2, .int a2)]) (by decide) rfl (Nat.le_of_ble_eq_true rfl) rfl ?_
  intro x hxl
  subst hxl
  unfold fX9_above
  refine mv_aload_n (pc := 0) (i := 0) 0 dX9_above_0 rfl rfl ?_
  refine mv_iload_n (pc := 1) (i := 1) 1 dX9_above_1 rfl rfl ?_
  refine mv_callVi (pc := 2) (As := [.int a1]) (st := []) (i := 0) dX9_above_2 mlX9_143 vmX9_isType ⟨Nat.le_of_ble_eq_true rfl, Nat.le_of_ble_eq_true rfl⟩ lm_0 rfl rfl (Nat.le_of_ble_eq_true rfl) (ctX9_isType x.2.1 D cA ad F M a1) (fun v2 M1 => ?_)
  refine mv_if_eq (pc := 5) (tgt := 19) dX9_above_5 (by decide) ?_ ?_
  · refine mv_ldc (pc := 19) dX9_above_19 kwX9_65 ?_
    exact mv_ireturn (pc := 21) dX9_above_21 rfl
  · refine mv_iload_n (pc := 8) (i := 2) 2 dX9_above_8 rfl rfl ?_
    refine mv_i2l (pc := 9) dX9_above_9 ?_
    refine mv_lconst (pc := 10) dX9_above_10 (by decide +kernel : Int64.ofNat ((0 : Fin 2) : Nat) = (0 : Int64)) ?_
    refine mv_iload_n (pc := 11) (i := 1) 1 dX9_above_11 rfl rfl ?_
    refine mv_i2l (pc := 12) dX9_above_12 ?_
    refine mv_callSi (pc := 13) (As := [.long a2.toInt64, .long (0 : Int64), .long a1.toInt64]) (st := []) dX9_above_13 mlX9_48 smX9_in ⟨Nat.le_of_ble_eq_true rfl, Nat.le_of_ble_eq_true rfl⟩ rfl (Nat.le_of_ble_eq_true rfl) (ctX9_in x.2.1 D cA ad F M1 a2.toInt64 (0 : Int64) a1.toInt64) (fun v4 M3 => ?_)
    refine mv_if_ne (pc := 16) (tgt := 22) dX9_above_16 (by decide) ?_ ?_
    · refine mv_aload_n (pc := 22) (i := 0) 0 dX9_above_22 rfl rfl ?_
      refine mv_callVv (pc := 23) (As := []) (st := []) (i := 0) dX9_above_23 mlX9_138 vmX9_minds ⟨Nat.le_of_ble_eq_true rfl, Nat.le_of_ble_eq_true rfl⟩ lm_0 rfl rfl (Nat.le_of_ble_eq_true rfl) (ctX9_minds x.2.1 D cA ad F M3) (fun M5 => ?_)
      refine mv_aload_n (pc := 26) (i := 0) 0 dX9_above_26 rfl rfl ?_
      refine mv_getR (pc := 27) (i := 0) (j := 1) dX9_above_27 flX9_7 lm_0 rfl ?_
      refine mv_iconst (pc := 30) dX9_above_30 kci3 ?_
      refine mv_iload_n (pc := 31) (i := 1) 1 dX9_above_31 rfl rfl ?_
      refine mv_iadd (pc := 32) dX9_above_32 ?_
      refine mv_iald (pc := 33) (i := 1) dX9_above_33 lm_1 ?_
      refine mv_istore_n (pc := 34) (i := 3) (ls' := [(0, .ref (ad 0)), (1, .int a1), (2, .int a2)]) dX9_above_34 rfl (Nat.le_of_ble_eq_true rfl) rfl (fun v6 => ?_)
      refine mv_aload_n (pc := 35) (i := 0) 1 dX9_above_35 rfl rfl ?_
      refine mv_getR (pc := 36) (i := 0) (j := 1) dX9_above_36 flX9_7 lm_0 rfl ?_
      refine mv_iconst (pc := 39) dX9_above_39 kci3 ?_
      refine mv_iload_n (pc := 40) (i := 1) 2 dX9_above_40 rfl rfl ?_
      refine mv_iadd (pc := 41) dX9_above_41 ?_
      refine mv_iload_n (pc := 42) (i := 2) 3 dX9_above_42 rfl rfl ?_
      refine mv_iast (pc := 43) (i := 1) dX9_above_43 lm_1 (fun M7 => ?_)
      refine mv_iload_n (pc := 44) (i := 3) 0 dX9_above_44 rfl rfl ?_
      exact mv_ireturn (pc := 45) dX9_above_45 rfl
    · refine mv_ldc (pc := 19) dX9_above_19 kwX9_65 ?_
      exact mv_ireturn (pc := 21) dX9_above_21 rfl

set_option maxRecDepth 100000 in
set_option maxHeartbeats 4000000 in
theorem ctX9_undo (l : Launch) (D : va_G) (cA : Nat → ClassId) (ad : Nat → Nat) (F : Nat) (M : mv_M) : mv_C l (D, cA, ad, LM) yX9_undo iX9_undo mv_ri [.ref (ad 0)] M (fX9_undo F M) := by
  refine mv_C.ofV (ls := [(0, .ref (ad 0))]) (by decide) rfl (Nat.le_of_ble_eq_true rfl) rfl ?_
  intro x hxl
  subst hxl
  unfold fX9_undo
  refine mv_aload_n (pc := 0) (i := 0) 0 dX9_undo_0 rfl rfl ?_
  refine mv_getI (pc := 1) (i := 0) dX9_undo_1 flX9_131 lm_0 rfl ?_
  refine mv_if_ne (pc := 4) (tgt := 10) dX9_undo_4 (by decide) ?_ ?_
  · refine mv_aload_n (pc := 10) (i := 0) 0 dX9_undo_10 rfl rfl ?_
    refine mv_dup (pc := 11) dX9_undo_11 rfl ?_
    refine mv_getI (pc := 12) (i := 0) dX9_undo_12 flX9_131 lm_0 rfl ?_
    refine mv_iconst (pc := 15) dX9_undo_15 kci1 ?_
    refine mv_isub (pc := 16) dX9_undo_16 ?_
    refine mv_putI (pc := 17) (i := 0) dX9_undo_17 flX9_131 (Or.inl fpX9_1) lm_0 rfl (fun M1 => ?_)
    refine mv_aload_n (pc := 20) (i := 0) 0 dX9_undo_20 rfl rfl ?_
    refine mv_sipush (pc := 21) dX9_undo_21 kcs332 ?_
    refine mv_bipush (pc := 24) dX9_undo_24 kcb83 ?_
    refine mv_aload_n (pc := 26) (i := 0) 0 dX9_undo_26 rfl rfl ?_
    refine mv_getI (pc := 27) (i := 0) dX9_undo_27 flX9_131 lm_0 rfl ?_
    refine mv_imul (pc := 30) dX9_undo_30 ?_
    refine mv_iadd (pc := 31) dX9_undo_31 ?_
    refine mv_iconst (pc := 32) dX9_undo_32 kci0 ?_
    refine mv_callVv (pc := 33) (As := [.int ((332 : Int32) + ((83 : Int32) * (M1.1 0 1))), .int (0 : Int32)]) (st := []) (i := 0) dX9_undo_33 mlX9_127 vmX9_copyOf ⟨Nat.le_of_ble_eq_true rfl, Nat.le_of_ble_eq_true rfl⟩ lm_0 rfl rfl (Nat.le_of_ble_eq_true rfl) (ctX9_copyOf x.2.1 D cA ad F M1 ((332 : Int32) + ((83 : Int32) * (M1.1 0 1))) (0 : Int32)) (fun M2 => ?_)
    refine mv_aload_n (pc := 36) (i := 0) 0 dX9_undo_36 rfl rfl ?_
    refine mv_getI (pc := 37) (i := 0) dX9_undo_37 flX9_131 lm_0 rfl ?_
    exact mv_ireturn (pc := 40) dX9_undo_40 rfl
  · refine mv_ldc (pc := 7) dX9_undo_7 kwX9_137 ?_
    exact mv_ireturn (pc := 9) dX9_undo_9 rfl

set_option maxRecDepth 100000 in
set_option maxHeartbeats 4000000 in
theorem ctX9_priceOf (l : Launch) (D : va_G) (cA : Nat → ClassId) (ad : Nat → Nat) (F : Nat) (M : mv_M) (a1 : Int32) : mv_C l (D, cA, ad, LM) yX9_priceOf iX9_priceOf mv_ri [.ref (ad 0), .int a1] M (fX9_priceOf F M a1) := by
  refine mv_C.ofV (ls := [(0, .ref (ad 0)), (1, .int a1)]) (by decide) rfl (Nat.le_of_ble_eq_true rfl) rfl ?_
  intro x hxl
  subst hxl
  unfold fX9_priceOf
  refine mv_aload_n (pc := 0) (i := 0) 0 dX9_priceOf_0 rfl rfl ?_
  refine mv_getR (pc := 1) (i := 0) (j := 1) dX9_priceOf_1 flX9_7 lm_0 rfl ?_
  refine mv_bipush (pc := 4) dX9_priceOf_4 kcb35 ?_
  refine mv_iload_n (pc := 6) (i := 1) 1 dX9_priceOf_6 rfl rfl ?_
  refine mv_iadd (pc := 7) dX9_priceOf_7 ?_
  refine mv_iald (pc := 8) (i := 1) dX9_priceOf_8 lm_1 ?_
  refine mv_istore_n (pc := 9) (i := 2) (ls' := [(0, .ref (ad 0)), (1, .int a1)]) dX9_priceOf_9 rfl (Nat.le_of_ble_eq_true rfl) rfl (fun v1 => ?_)
  refine mv_aload_n (pc := 10) (i := 0) 1 dX9_priceOf_10 rfl rfl ?_
  refine mv_getR (pc := 11) (i := 0) (j := 1) dX9_priceOf_11 flX9_7 lm_0 rfl ?_
  refine mv_bipush (pc := 14) dX9_priceOf_14 kcb11 ?_
  refine mv_iload_n (pc := 16) (i := 1) 2 dX9_priceOf_16 rfl rfl ?_
  refine mv_iadd (pc := 17) dX9_priceOf_17 ?_
  refine mv_iald (pc := 18) (i := 1) dX9_priceOf_18 lm_1 ?_
  refine mv_istore_n (pc := 19) (i := 3) (ls' := [(2, .int v1), (0, .ref (ad 0)), (1, .int a1)]) dX9_priceOf_19 rfl (Nat.le_of_ble_eq_true rfl) rfl (fun v2 => ?_)
  refine mv_iload_n (pc := 20) (i := 3) 0 dX9_priceOf_20 rfl rfl ?_
  refine mv_iconst (pc := 21) dX9_priceOf_21 kci2 ?_
  refine mv_icmp_ne (pc := 22) (tgt := 31) dX9_priceOf_22 (by decide) ?_ ?_
  · refine mv_iload_n (pc := 31) (i := 3) 0 dX9_priceOf_31 rfl rfl ?_
    refine mv_iconst (pc := 32) dX9_priceOf_32 kci3 ?_
    refine mv_icmp_ne (pc := 33) (tgt := 42) dX9_priceOf_33 (by decide) ?_ ?_
    · refine mv_iload_n (pc := 42) (i := 3) 0 dX9_priceOf_42 rfl rfl ?_
      refine mv_iconst (pc := 43) dX9_priceOf_43 kci5 ?_
      refine mv_icmp_ne (pc := 44) (tgt := 61) dX9_priceOf_44 (by decide) ?_ ?_
      · refine mv_iload_n (pc := 61) (i := 2) 1 dX9_priceOf_61 rfl rfl ?_
        exact mv_ireturn (pc := 62) dX9_priceOf_62 rfl
      · refine mv_iload_n (pc := 47) (i := 2) 1 dX9_priceOf_47 rfl rfl ?_
        refine mv_aload_n (pc := 48) (i := 0) 2 dX9_priceOf_48 rfl rfl ?_
        refine mv_getR (pc := 49) (i := 0) (j := 1) dX9_priceOf_49 flX9_7 lm_0 rfl ?_
        refine mv_bipush (pc := 52) dX9_priceOf_52 kcb47 ?_
        refine mv_iload_n (pc := 54) (i := 1) 3 dX9_priceOf_54 rfl rfl ?_
        refine mv_iadd (pc := 55) dX9_priceOf_55 ?_
        refine mv_iald (pc := 56) (i := 1) dX9_priceOf_56 lm_1 ?_
        refine mv_iadd (pc := 57) dX9_priceOf_57 ?_
        refine mv_goto (pc := 58) (tgt := 62) dX9_priceOf_58 (by decide) ?_
        exact mv_ireturn (pc := 62) dX9_priceOf_62 rfl
    · refine mv_iconst (pc := 36) dX9_priceOf_36 kci3 ?_
      refine mv_iload_n (pc := 37) (i := 2) 1 dX9_priceOf_37 rfl rfl ?_
      refine mv_imul (pc := 38) dX9_priceOf_38 ?_
      refine mv_goto (pc := 39) (tgt := 62) dX9_priceOf_39 (by decide) ?_
      exact mv_ireturn (pc := 62) dX9_priceOf_62 rfl
  · refine mv_iload_n (pc := 25) (i := 2) 1 dX9_priceOf_25 rfl rfl ?_
    refine mv_iconst (pc := 26) dX9_priceOf_26 kci2 ?_
    refine mv_iadd (pc := 27) dX9_priceOf_27 ?_
    refine mv_goto (pc := 28) (tgt := 62) dX9_priceOf_28 (by decide) ?_
    exact mv_ireturn (pc := 62) dX9_priceOf_62 rfl

set_option maxRecDepth 100000 in
set_option maxHeartbeats 4000000 in
theorem ctX9_member (l : Launch) (D : va_G) (cA : Nat → ClassId) (ad : Nat → Nat) (F : Nat) (M : mv_M) (a1 : Int32) (a2 : Int32) : mv_C l (D, cA, ad, LM) yX9_member iX9_member mv_ri [.ref (ad 0), .int a1, .int a2] M (fX9_member F M a1 a2) := by
  refine mv_C.ofV (ls := [(0, .ref (ad 0)), (1, .int a1), (2, .int a2)]) (by decide) rfl (Nat.le_of_ble_eq_true rfl) rfl ?_
  intro x hxl
  subst hxl
  unfold fX9_member
  refine mv_aload_n (pc := 0) (i := 0) 0 dX9_member_0 rfl rfl ?_
  refine mv_iload_n (pc := 1) (i := 1) 1 dX9_member_1 rfl rfl ?_
  refine mv_callVi (pc := 2) (As := [.int a1]) (st := []) (i := 0) dX9_member_2 mlX9_134 vmX9_isMember ⟨Nat.le_of_ble_eq_true rfl, Nat.le_of_ble_eq_true rfl⟩ lm_0 rfl rfl (Nat.le_of_ble_eq_true rfl) (ctX9_isMember x.2.1 D cA ad F M a1) (fun v2 M1 => ?_)
  refine mv_if_ne (pc := 5) (tgt := 11) dX9_member_5 (by decide) ?_ ?_
  · refine mv_iload_n (pc := 11) (i := 2) 2 dX9_member_11 rfl rfl ?_
    refine mv_swc (pc := 12) (v := (0 : Int32)) (off := 44) (tgt := 56) dX9_member_12 (by decide +kernel) (by decide +kernel) (by decide +kernel) (by decide) ?_ (fun h3 => ?_)
    · refine mv_aload_n (pc := 56) (i := 0) 0 dX9_member_56 rfl rfl ?_
      refine mv_getR (pc := 57) (i := 0) (j := 1) dX9_member_57 flX9_7 lm_0 rfl ?_
      refine mv_bipush (pc := 60) dX9_member_60 kcb23 ?_
      refine mv_iload_n (pc := 62) (i := 1) 1 dX9_member_62 rfl rfl ?_
      refine mv_iadd (pc := 63) dX9_member_63 ?_
      refine mv_iald (pc := 64) (i := 1) dX9_member_64 lm_1 ?_
      exact mv_ireturn (pc := 65) dX9_member_65 rfl
    refine mv_swc (pc := 12) (v := (1 : Int32)) (off := 54) (tgt := 66) dX9_member_12 (by decide +kernel) (by decide +kernel) (by decide +kernel) (by decide) ?_ (fun h4 => ?_)
    · refine mv_aload_n (pc := 66) (i := 0) 0 dX9_member_66 rfl rfl ?_
      refine mv_getR (pc := 67) (i := 0) (j := 1) dX9_member_67 flX9_7 lm_0 rfl ?_
      refine mv_bipush (pc := 70) dX9_member_70 kcb35 ?_
      refine mv_iload_n (pc := 72) (i := 1) 1 dX9_member_72 rfl rfl ?_
      refine mv_iadd (pc := 73) dX9_member_73 ?_
      refine mv_iald (pc := 74) (i := 1) dX9_member_74 lm_1 ?_
      exact mv_ireturn (pc := 75) dX9_member_75 rfl
    refine mv_swc (pc := 12) (v := (2 : Int32)) (off := 64) (tgt := 76) dX9_member_12 (by decide +kernel) (by decide +kernel) (by decide +kernel) (by decide) ?_ (fun h7 => ?_)
    · refine mv_aload_n (pc := 76) (i := 0) 0 dX9_member_76 rfl rfl ?_
      refine mv_iload_n (pc := 77) (i := 1) 1 dX9_member_77 rfl rfl ?_
      refine mv_callVi (pc := 78) (As := [.int a1]) (st := []) (i := 0) dX9_member_78 mlX9_146 vmX9_priceOf ⟨Nat.le_of_ble_eq_true rfl, Nat.le_of_ble_eq_true rfl⟩ lm_0 rfl rfl (Nat.le_of_ble_eq_true rfl) (ctX9_priceOf x.2.1 D cA ad F M1 a1) (fun v6 M5 => ?_)
      exact mv_ireturn (pc := 81) dX9_member_81 rfl
    refine mv_swc (pc := 12) (v := (3 : Int32)) (off := 70) (tgt := 82) dX9_member_12 (by decide +kernel) (by decide +kernel) (by decide +kernel) (by decide) ?_ (fun h8 => ?_)
    · refine mv_aload_n (pc := 82) (i := 0) 0 dX9_member_82 rfl rfl ?_
      refine mv_getR (pc := 83) (i := 0) (j := 1) dX9_member_83 flX9_7 lm_0 rfl ?_
      refine mv_bipush (pc := 86) dX9_member_86 kcb47 ?_
      refine mv_iload_n (pc := 88) (i := 1) 1 dX9_member_88 rfl rfl ?_
      refine mv_iadd (pc := 89) dX9_member_89 ?_
      refine mv_iald (pc := 90) (i := 1) dX9_member_90 lm_1 ?_
      exact mv_ireturn (pc := 91) dX9_member_91 rfl
    refine mv_swc (pc := 12) (v := (4 : Int32)) (off := 80) (tgt := 92) dX9_member_12 (by decide +kernel) (by decide +kernel) (by decide +kernel) (by decide) ?_ (fun h9 => ?_)
    · refine mv_aload_n (pc := 92) (i := 0) 0 dX9_member_92 rfl rfl ?_
      refine mv_getR (pc := 93) (i := 0) (j := 1) dX9_member_93 flX9_7 lm_0 rfl ?_
      refine mv_bipush (pc := 96) dX9_member_96 kcb47 ?_
      refine mv_iload_n (pc := 98) (i := 1) 1 dX9_member_98 rfl rfl ?_
      refine mv_iadd (pc := 99) dX9_member_99 ?_
      refine mv_iald (pc := 100) (i := 1) dX9_member_100 lm_1 ?_
      refine mv_iload_n (pc := 101) (i := 2) 2 dX9_member_101 rfl rfl ?_
      refine mv_iconst (pc := 102) dX9_member_102 kci4 ?_
      refine mv_isub (pc := 103) dX9_member_103 ?_
      refine mv_icmp_le (pc := 104) (tgt := 126) dX9_member_104 (by decide) ?_ ?_
      · refine mv_ldc (pc := 126) dX9_member_126 kwX9_149 ?_
        exact mv_ireturn (pc := 128) dX9_member_128 rfl
      · refine mv_aload_n (pc := 107) (i := 0) 0 dX9_member_107 rfl rfl ?_
        refine mv_getR (pc := 108) (i := 0) (j := 1) dX9_member_108 flX9_7 lm_0 rfl ?_
        refine mv_bipush (pc := 111) dX9_member_111 kcb59 ?_
        refine mv_bipush (pc := 113) dX9_member_113 kcb12 ?_
        refine mv_iload_n (pc := 115) (i := 2) 2 dX9_member_115 rfl rfl ?_
        refine mv_iconst (pc := 116) dX9_member_116 kci4 ?_
        refine mv_isub (pc := 117) dX9_member_117 ?_
        refine mv_imul (pc := 118) dX9_member_118 ?_
        refine mv_iadd (pc := 119) dX9_member_119 ?_
        refine mv_iload_n (pc := 120) (i := 1) 1 dX9_member_120 rfl rfl ?_
        refine mv_iadd (pc := 121) dX9_member_121 ?_
        refine mv_iald (pc := 122) (i := 1) dX9_member_122 lm_1 ?_
        refine mv_goto (pc := 123) (tgt := 128) dX9_member_123 (by decide) ?_
        exact mv_ireturn (pc := 128) dX9_member_128 rfl
    refine mv_swc (pc := 12) (v := (5 : Int32)) (off := 80) (tgt := 92) dX9_member_12 (by decide +kernel) (by decide +kernel) (by decide +kernel) (by decide) ?_ (fun h10 => ?_)
    · refine mv_aload_n (pc := 92) (i := 0) 0 dX9_member_92 rfl rfl ?_
      refine mv_getR (pc := 93) (i := 0) (j := 1) dX9_member_93 flX9_7 lm_0 rfl ?_
      refine mv_bipush (pc := 96) dX9_member_96 kcb47 ?_
      refine mv_iload_n (pc := 98) (i := 1) 1 dX9_member_98 rfl rfl ?_
      refine mv_iadd (pc := 99) dX9_member_99 ?_
      refine mv_iald (pc := 100) (i := 1) dX9_member_100 lm_1 ?_
      refine mv_iload_n (pc := 101) (i := 2) 2 dX9_member_101 rfl rfl ?_
      refine mv_iconst (pc := 102) dX9_member_102 kci4 ?_
      refine mv_isub (pc := 103) dX9_member_103 ?_
      refine mv_icmp_le (pc := 104) (tgt := 126) dX9_member_104 (by decide) ?_ ?_
      · refine mv_ldc (pc := 126) dX9_member_126 kwX9_149 ?_
        exact mv_ireturn (pc := 128) dX9_member_128 rfl
      · refine mv_aload_n (pc := 107) (i := 0) 0 dX9_member_107 rfl rfl ?_
        refine mv_getR (pc := 108) (i := 0) (j := 1) dX9_member_108 flX9_7 lm_0 rfl ?_
        refine mv_bipush (pc := 111) dX9_member_111 kcb59 ?_
        refine mv_bipush (pc := 113) dX9_member_113 kcb12 ?_
        refine mv_iload_n (pc := 115) (i := 2) 2 dX9_member_115 rfl rfl ?_
        refine mv_iconst (pc := 116) dX9_member_116 kci4 ?_
        refine mv_isub (pc := 117) dX9_member_117 ?_
        refine mv_imul (pc := 118) dX9_member_118 ?_
        refine mv_iadd (pc := 119) dX9_member_119 ?_
        refine mv_iload_n (pc := 120) (i := 1) 1 dX9_member_120 rfl rfl ?_
        refine mv_iadd (pc := 121) dX9_member_121 ?_
        refine mv_iald (pc := 122) (i := 1) dX9_member_122 lm_1 ?_
        refine mv_goto (pc := 123) (tgt := 128) dX9_member_123 (by decide) ?_
        exact mv_ireturn (pc := 128) dX9_member_128 rfl
    refine mv_swc (pc := 12) (v := (6 : Int32)) (off := 117) (tgt := 129) dX9_member_12 (by decide +kernel) (by decide +kernel) (by decide +kernel) (by decide) ?_ (fun h11 => ?_)
    · refine mv_aload_n (pc := 129) (i := 0) 0 dX9_member_129 rfl rfl ?_
      refine mv_getR (pc := 130) (i := 0) (j := 1) dX9_member_130 flX9_7 lm_0 rfl ?_
      refine mv_iconst (pc := 133) dX9_member_133 kci2 ?_
      refine mv_iald (pc := 134) (i := 1) dX9_member_134 lm_1 ?_
      refine mv_iload_n (pc := 135) (i := 1) 1 dX9_member_135 rfl rfl ?_
      refine mv_ishr (pc := 136) dX9_member_136 ?_
      refine mv_iconst (pc := 137) dX9_member_137 kci1 ?_
      refine mv_iand (pc := 138) dX9_member_138 ?_
      exact mv_ireturn (pc := 139) dX9_member_139 rfl
    refine mv_swd (pc := 12) (tgt := 140) dX9_member_12 (by have e0 := mv_ne (n := 0) (by decide +kernel) h3; have e1 := mv_ne (n := 1) (by decide +kernel) h4; have e2 := mv_ne (n := 2) (by decide +kernel) h7; have e3 := mv_ne (n := 3) (by decide +kernel) h8; have e4 := mv_ne (n := 4) (by decide +kernel) h9; have e5 := mv_ne (n := 5) (by decide +kernel) h10; have e6 := mv_ne (n := 6) (by decide +kernel) h11; omega) (by decide) ?_
    refine mv_ldc (pc := 140) dX9_member_140 kwX9_65 ?_
    exact mv_ireturn (pc := 142) dX9_member_142 rfl
  · refine mv_ldc (pc := 8) dX9_member_8 kwX9_65 ?_
    exact mv_ireturn (pc := 10) dX9_member_10 rfl

set_option maxRecDepth 100000 in
set_option maxHeartbeats 4000000 in
theorem ctX9_isOf (l : Launch) (D : va_G) (cA : Nat → ClassId) (ad : Nat → Nat) (F : Nat) (M : mv_M) (a1 : Int32) (a2 : Int32) : mv_C l (D, cA, ad, LM) yX9_isOf iX9_isOf mv_ri [.ref (ad 0), .int a1, .int a2] M (fX9_isOf F M a1 a2) := by
  refine mv_C.ofV (ls := [(0, .ref (ad 0)), (1, .int a1), (2, .int a2)]) (by decide) rfl (Nat.le_of_ble_eq_true rfl) rfl ?_
  intro x hxl
  subst hxl
  unfold fX9_isOf
  refine mv_iload_n (pc := 0) (i := 1) 1 dX9_isOf_0 rfl rfl ?_
  refine mv_istore_n (pc := 1) (i := 3) (ls' := [(0, .ref (ad 0)), (1, .int a1), (2, .int a2)]) dX9_isOf_1 rfl (Nat.le_of_ble_eq_true rfl) rfl (fun v1 => ?_)
  refine mv_jp (pj := 31) (lj := fun (s2 : Int32 × mv_M) => [(2, .int a2), (3, .int s2.1)]) (sj := fun (s2 : Int32 × mv_M) => []) (Mj := fun (s2 : Int32 × mv_M) => s2.2) ?_ ?_
  · intro s2
    refine mv_iload_n (pc := 31) (i := 3) 1 dX9_isOf_31 rfl rfl ?_
    refine mv_iload_n (pc := 32) (i := 2) 0 dX9_isOf_32 rfl rfl ?_
    refine mv_icmp_ne (pc := 33) (tgt := 40) dX9_isOf_33 (by decide) ?_ ?_
    · refine mv_iconst (pc := 40) dX9_isOf_40 kci0 ?_
      exact mv_zreturn (pc := 41) dX9_isOf_41 rfl
    · refine mv_iconst (pc := 36) dX9_isOf_36 kci1 ?_
      refine mv_goto (pc := 37) (tgt := 41) dX9_isOf_37 (by decide) ?_
      exact mv_zreturn (pc := 41) dX9_isOf_41 rfl
  · intro j3 hj3
    refine mv_sub [1, 3, 0] rfl ?_
    refine mv_loop (pc := 2) (lj := fun (s4 : Int32 × mv_M) => [(0, .ref (ad 0)), (2, .int a2), (3, .int s4.1)]) (Mj := fun (s4 : Int32 × mv_M) => s4.2) (B := bX9_isOf_2 a2 j3) ?_ F (v1, M)
    intro f5 hf5 s4
    unfold bX9_isOf_2
    refine mv_iload_n (pc := 2) (i := 3) 2 dX9_isOf_2 rfl rfl ?_
    refine mv_iload_n (pc := 3) (i := 2) 1 dX9_isOf_3 rfl rfl ?_
    refine mv_icmp_eq (pc := 4) (tgt := 31) dX9_isOf_4 (by decide) ?_ ?_
    · refine mv_sub [1, 2] rfl ?_
      exact hj3 (s4.1, s4.2)
    · refine mv_aload_n (pc := 7) (i := 0) 0 dX9_isOf_7 rfl rfl ?_
      refine mv_getR (pc := 8) (i := 0) (j := 1) dX9_isOf_8 flX9_7 lm_0 rfl ?_
      refine mv_iconst (pc := 11) dX9_isOf_11 kci3 ?_
      refine mv_iload_n (pc := 12) (i := 3) 2 dX9_isOf_12 rfl rfl ?_
      refine mv_iadd (pc := 13) dX9_isOf_13 ?_
      refine mv_iald (pc := 14) (i := 1) dX9_isOf_14 lm_1 ?_
      refine mv_iload_n (pc := 15) (i := 3) 2 dX9_isOf_15 rfl rfl ?_
      refine mv_icmp_eq (pc := 16) (tgt := 31) dX9_isOf_16 (by decide) ?_ ?_
      · refine mv_sub [1, 2] rfl ?_
        exact hj3 (s4.1, s4.2)
      · refine mv_aload_n (pc := 19) (i := 0) 0 dX9_isOf_19 rfl rfl ?_
        refine mv_getR (pc := 20) (i := 0) (j := 1) dX9_isOf_20 flX9_7 lm_0 rfl ?_
        refine mv_iconst (pc := 23) dX9_isOf_23 kci3 ?_
        refine mv_iload_n (pc := 24) (i := 3) 2 dX9_isOf_24 rfl rfl ?_
        refine mv_iadd (pc := 25) dX9_isOf_25 ?_
        refine mv_iald (pc := 26) (i := 1) dX9_isOf_26 lm_1 ?_
        refine mv_istore_n (pc := 27) (i := 3) (ls' := [(0, .ref (ad 0)), (2, .int a2)]) dX9_isOf_27 rfl (Nat.le_of_ble_eq_true rfl) rfl (fun v6 => ?_)
        refine mv_goto (pc := 28) (tgt := 2) dX9_isOf_28 (by decide) ?_
        refine mv_sub [1, 2, 0] rfl ?_
        exact hf5 (v6, s4.2)

set_option maxRecDepth 100000 in
set_option maxHeartbeats 4000000 in
theorem ctX9_typesOf (l : Launch) (D : va_G) (cA : Nat → ClassId) (ad : Nat → Nat) (F : Nat) (M : mv_M) (a1 : Int32) (a2 : Int32) : mv_C l (D, cA, ad, LM) yX9_typesOf iX9_typesOf mv_ri [.ref (ad 0), .int a1, .int a2] M (fX9_typesOf F M a1 a2) := by
  refine mv_C.ofV (ls := [(0, .ref (ad 0)), (1, .int a1), (2, .int a2)]) (by decide) rfl (Nat.le_of_ble_eq_true rfl) rfl ?_
  intro x hxl
  subst hxl
  unfold fX9_typesOf
  refine mv_iconst (pc := 0) dX9_typesOf_0 kci0 ?_
  refine mv_istore_n (pc := 1) (i := 3) (ls' := [(0, .ref (ad 0)), (1, .int a1), (2, .int a2)]) dX9_typesOf_1 rfl (Nat.le_of_ble_eq_true rfl) rfl (fun v1 => ?_)
  refine mv_iconst (pc := 2) dX9_typesOf_2 kci0 ?_
  refine mv_istore (pc := 3) (i := 4) (ls' := [(3, .int v1), (0, .ref (ad 0)), (1, .int a1), (2, .int a2)]) dX9_typesOf_3 (Nat.le_of_ble_eq_true rfl) rfl (fun v2 => ?_)
  refine mv_sub [2, 3, 4, 1, 0] rfl ?_
  refine mv_loop (pc := 5) (lj := fun (s3 : Int32 × Int32 × mv_M) => [(0, .ref (ad 0)), (1, .int a1), (2, .int a2), (3, .int s3.1), (4, .int s3.2.1)]) (Mj := fun (s3 : Int32 × Int32 × mv_M) => s3.2.2) (B := bX9_typesOf_5 a2 F a1) ?_ F (v1, v2, M)
  intro f4 hf4 s3
  unfold bX9_typesOf_5
  refine mv_iload (pc := 5) (i := 4) 4 dX9_typesOf_5 rfl ?_
  refine mv_aload_n (pc := 7) (i := 0) 0 dX9_typesOf_7 rfl rfl ?_
  refine mv_getR (pc := 8) (i := 0) (j := 1) dX9_typesOf_8 flX9_7 lm_0 rfl ?_
  refine mv_iconst (pc := 11) dX9_typesOf_11 kci0 ?_
  refine mv_iald (pc := 12) (i := 1) dX9_typesOf_12 lm_1 ?_
  refine mv_icmp_ge (pc := 13) (tgt := 60) dX9_typesOf_13 (by decide) ?_ ?_
  · refine mv_iload_n (pc := 60) (i := 3) 3 dX9_typesOf_60 rfl rfl ?_
    exact mv_ireturn (pc := 61) dX9_typesOf_61 rfl
  · refine mv_iload_n (pc := 16) (i := 3) 3 dX9_typesOf_16 rfl rfl ?_
    refine mv_iload_n (pc := 17) (i := 2) 2 dX9_typesOf_17 rfl rfl ?_
    refine mv_if_eq (pc := 18) (tgt := 34) dX9_typesOf_18 (by decide) ?_ ?_
    · refine mv_aload_n (pc := 34) (i := 0) 0 dX9_typesOf_34 rfl rfl ?_
      refine mv_iload_n (pc := 35) (i := 1) 1 dX9_typesOf_35 rfl rfl ?_
      refine mv_iload (pc := 36) (i := 4) 4 dX9_typesOf_36 rfl ?_
      refine mv_callVi (pc := 38) (As := [.int a1, .int s3.2.1]) (st := [.int s3.1]) (i := 0) dX9_typesOf_38 mlX9_150 vmX9_isOf ⟨Nat.le_of_ble_eq_true rfl, Nat.le_of_ble_eq_true rfl⟩ lm_0 rfl rfl (Nat.le_of_ble_eq_true rfl) (ctX9_isOf x.2.1 D cA ad F s3.2.2 a1 s3.2.1) (fun v6 M5 => ?_)
      refine mv_if_eq (pc := 41) (tgt := 51) dX9_typesOf_41 (by decide) ?_ ?_
      · refine mv_iconst (pc := 51) dX9_typesOf_51 kci0 ?_
        refine mv_ior (pc := 52) dX9_typesOf_52 ?_
        refine mv_istore_n (pc := 53) (i := 3) (ls' := [(0, .ref (ad 0)), (1, .int a1), (2, .int a2), (4, .int s3.2.1)]) dX9_typesOf_53 rfl (Nat.le_of_ble_eq_true rfl) rfl (fun v7 => ?_)
        refine mv_iinc (pc := 54) (i := 4) (ls' := [(3, .int v7), (0, .ref (ad 0)), (1, .int a1), (2, .int a2)]) 4 dX9_typesOf_54 rfl kci1 (Nat.le_of_ble_eq_true rfl) rfl (fun v8 => ?_)
        refine mv_goto (pc := 57) (tgt := 5) dX9_typesOf_57 (by decide) ?_
        refine mv_sub [2, 3, 4, 1, 0] rfl ?_
        exact hf4 (v7, v8, M5)
      · refine mv_iconst (pc := 44) dX9_typesOf_44 kci1 ?_
        refine mv_iload (pc := 45) (i := 4) 4 dX9_typesOf_45 rfl ?_
        refine mv_ishl (pc := 47) dX9_typesOf_47 ?_
        refine mv_goto (pc := 48) (tgt := 52) dX9_typesOf_48 (by decide) ?_
        refine mv_ior (pc := 52) dX9_typesOf_52 ?_
        refine mv_istore_n (pc := 53) (i := 3) (ls' := [(0, .ref (ad 0)), (1, .int a1), (2, .int a2), (4, .int s3.2.1)]) dX9_typesOf_53 rfl (Nat.le_of_ble_eq_true rfl) rfl (fun v9 => ?_)
        refine mv_iinc (pc := 54) (i := 4) (ls' := [(3, .int v9), (0, .ref (ad 0)), (1, .int a1), (2, .int a2)]) 4 dX9_typesOf_54 rfl kci1 (Nat.le_of_ble_eq_true rfl) rfl (fun v10 => ?_)
        refine mv_goto (pc := 57) (tgt := 5) dX9_typesOf_57 (by decide) ?_
        refine mv_sub [2, 3, 4, 1, 0] rfl ?_
        exact hf4 (v9, v10, M5)
    · refine mv_aload_n (pc := 21) (i := 0) 0 dX9_typesOf_21 rfl rfl ?_
      refine mv_iload (pc := 22) (i := 4) 4 dX9_typesOf_22 rfl ?_
      refine mv_iload_n (pc := 24) (i := 1) 1 dX9_typesOf_24 rfl rfl ?_
      refine mv_callVi (pc := 25) (As := [.int s3.2.1, .int a1]) (st := [.int s3.1]) (i := 0) dX9_typesOf_25 mlX9_150 vmX9_isOf ⟨Nat.le_of_ble_eq_true rfl, Nat.le_of_ble_eq_true rfl⟩ lm_0 rfl rfl (Nat.le_of_ble_eq_true rfl) (ctX9_isOf x.2.1 D cA ad F s3.2.2 s3.2.1 a1) (fun v12 M11 => ?_)
      refine mv_if_eq (pc := 28) (tgt := 51) dX9_typesOf_28 (by decide) ?_ ?_
      · refine mv_iconst (pc := 51) dX9_typesOf_51 kci0 ?_
        refine mv_ior (pc := 52) dX9_typesOf_52 ?_
        refine mv_istore_n (pc := 53) (i := 3) (ls' := [(0, .ref (ad 0)), (1, .int a1), (2, .int a2), (4, .int s3.2.1)]) dX9_typesOf_53 rfl (Nat.le_of_ble_eq_true rfl) rfl (fun v13 => ?_)
        refine mv_iinc (pc := 54) (i := 4) (ls' := [(3, .int v13), (0, .ref (ad 0)), (1, .int a1), (2, .int a2)]) 4 dX9_typesOf_54 rfl kci1 (Nat.le_of_ble_eq_true rfl) rfl (fun v14 => ?_)
        refine mv_goto (pc := 57) (tgt := 5) dX9_typesOf_57 (by decide) ?_
        refine mv_sub [2, 3, 4, 1, 0] rfl ?_
        exact hf4 (v13, v14, M11)
      · refine mv_goto (pc := 31) (tgt := 44) dX9_typesOf_31 (by decide) ?_
        refine mv_iconst (pc := 44) dX9_typesOf_44 kci1 ?_
        refine mv_iload (pc := 45) (i := 4) 4 dX9_typesOf_45 rfl ?_
        refine mv_ishl (pc := 47) dX9_typesOf_47 ?_
        refine mv_goto (pc := 48) (tgt := 52) dX9_typesOf_48 (by decide) ?_
        refine mv_ior (pc := 52) dX9_typesOf_52 ?_
        refine mv_istore_n (pc := 53) (i := 3) (ls' := [(0, .ref (ad 0)), (1, .int a1), (2, .int a2), (4, .int s3.2.1)]) dX9_typesOf_53 rfl (Nat.le_of_ble_eq_true rfl) rfl (fun v15 => ?_)
        refine mv_iinc (pc := 54) (i := 4) (ls' := [(3, .int v15), (0, .ref (ad 0)), (1, .int a1), (2, .int a2)]) 4 dX9_typesOf_54 rfl kci1 (Nat.le_of_ble_eq_true rfl) rfl (fun v16 => ?_)
        refine mv_goto (pc := 57) (tgt := 5) dX9_typesOf_57 (by decide) ?_
        refine mv_sub [2, 3, 4, 1, 0] rfl ?_
        exact hf4 (v15, v16, M11)

set_option maxRecDepth 100000 in
set_option maxHeartbeats 4000000 in
theorem ctX9_givers (l : Launch) (D : va_G) (cA : Nat → ClassId) (ad : Nat → Nat) (F : Nat) (M : mv_M) (a1 : Int32) : mv_C l (D, cA, ad, LM) yX9_givers iX9_givers mv_ri [.ref (ad 0), .int a1] M (fX9_givers F M a1) := by
  refine mv_C.ofV (ls := [(0, .ref (ad 0)), (1, .int a1)]) (by decide) rfl (Nat.le_of_ble_eq_true rfl) rfl ?_
  intro x hxl
  subst hxl
  unfold fX9_givers
  refine mv_iconst (pc := 0) dX9_givers_0 kci0 ?_
  refine mv_istore_n (pc := 1) (i := 2) (ls' := [(0, .ref (ad 0)), (1, .int a1)]) dX9_givers_1 rfl (Nat.le_of_ble_eq_true rfl) rfl (fun v1 => ?_)
  refine mv_iconst (pc := 2) dX9_givers_2 kci0 ?_
  refine mv_istore_n (pc := 3) (i := 3) (ls' := [(2, .int v1), (0, .ref (ad 0)), (1, .int a1)]) dX9_givers_3 rfl (Nat.le_of_ble_eq_true rfl) rfl (fun v2 => ?_)
  refine mv_sub [2, 3, 1, 0] rfl ?_
  refine mv_loop (pc := 4) (lj := fun (s3 : Int32 × Int32 × mv_M) => [(0, .ref (ad 0)), (1, .int a1), (2, .int s3.1), (3, .int s3.2.1)]) (Mj := fun (s3 : Int32 × Int32 × mv_M) => s3.2.2) (B := bX9_givers_4 F a1) ?_ F (v1, v2, M)
  intro f4 hf4 s3
  unfold bX9_givers_4
  refine mv_iload_n (pc := 4) (i := 3) 3 dX9_givers_4 rfl rfl ?_
  refine mv_aload_n (pc := 5) (i := 0) 0 dX9_givers_5 rfl rfl ?_
  refine mv_getR (pc := 6) (i := 0) (j := 1) dX9_givers_6 flX9_7 lm_0 rfl ?_
  refine mv_iconst (pc := 9) dX9_givers_9 kci1 ?_
  refine mv_iald (pc := 10) (i := 1) dX9_givers_10 lm_1 ?_
  refine mv_icmp_ge (pc := 11) (tgt := 47) dX9_givers_11 (by decide) ?_ ?_
  · refine mv_iload_n (pc := 47) (i := 2) 2 dX9_givers_47 rfl rfl ?_
    exact mv_ireturn (pc := 48) dX9_givers_48 rfl
  · refine mv_iload_n (pc := 14) (i := 2) 2 dX9_givers_14 rfl rfl ?_
    refine mv_aload_n (pc := 15) (i := 0) 0 dX9_givers_15 rfl rfl ?_
    refine mv_aload_n (pc := 16) (i := 0) 0 dX9_givers_16 rfl rfl ?_
    refine mv_getR (pc := 17) (i := 0) (j := 1) dX9_givers_17 flX9_7 lm_0 rfl ?_
    refine mv_bipush (pc := 20) dX9_givers_20 kcb23 ?_
    refine mv_iload_n (pc := 22) (i := 3) 3 dX9_givers_22 rfl rfl ?_
    refine mv_iadd (pc := 23) dX9_givers_23 ?_
    refine mv_iald (pc := 24) (i := 1) dX9_givers_24 lm_1 ?_
    refine mv_iload_n (pc := 25) (i := 1) 1 dX9_givers_25 rfl rfl ?_
    refine mv_callVi (pc := 26) (As := [.int (s3.2.2.1 1 ((23 : Int32) + s3.2.1).toNatClampNeg), .int a1]) (st := [.int s3.1]) (i := 0) dX9_givers_26 mlX9_150 vmX9_isOf ⟨Nat.le_of_ble_eq_true rfl, Nat.le_of_ble_eq_true rfl⟩ lm_0 rfl rfl (Nat.le_of_ble_eq_true rfl) (ctX9_isOf x.2.1 D cA ad F s3.2.2 (s3.2.2.1 1 ((23 : Int32) + s3.2.1).toNatClampNeg) a1) (fun v6 M5 => ?_)
    refine mv_if_eq (pc := 29) (tgt := 38) dX9_givers_29 (by decide) ?_ ?_
    · refine mv_iconst (pc := 38) dX9_givers_38 kci0 ?_
      refine mv_ior (pc := 39) dX9_givers_39 ?_
      refine mv_istore_n (pc := 40) (i := 2) (ls' := [(0, .ref (ad 0)), (1, .int a1), (3, .int s3.2.1)]) dX9_givers_40 rfl (Nat.le_of_ble_eq_true rfl) rfl (fun v7 => ?_)
      refine mv_iinc (pc := 41) (i := 3) (ls' := [(2, .int v7), (0, .ref (ad 0)), (1, .int a1)]) 3 dX9_givers_41 rfl kci1 (Nat.le_of_ble_eq_true rfl) rfl (fun v8 => ?_)
      refine mv_goto (pc := 44) (tgt := 4) dX9_givers_44 (by decide) ?_
      refine mv_sub [2, 3, 1, 0] rfl ?_
      exact hf4 (v7, v8, M5)
    · refine mv_iconst (pc := 32) dX9_givers_32 kci1 ?_
      refine mv_iload_n (pc := 33) (i := 3) 3 dX9_givers_33 rfl rfl ?_
      refine mv_ishl (pc := 34) dX9_givers_34 ?_
      refine mv_goto (pc := 35) (tgt := 39) dX9_givers_35 (by decide) ?_
      refine mv_ior (pc := 39) dX9_givers_39 ?_
      refine mv_istore_n (pc := 40) (i := 2) (ls' := [(0, .ref (ad 0)), (1, .int a1), (3, .int s3.2.1)]) dX9_givers_40 rfl (Nat.le_of_ble_eq_true rfl) rfl (fun v9 => ?_)
      refine mv_iinc (pc := 41) (i := 3) (ls' := [(2, .int v9), (0, .ref (ad 0)), (1, .int a1)]) 3 dX9_givers_41 rfl kci1 (Nat.le_of_ble_eq_true rfl) rfl (fun v10 => ?_)
      refine mv_goto (pc := 44) (tgt := 4) dX9_givers_44 (by decide) ?_
      refine mv_sub [2, 3, 1, 0] rfl ?_
      exact hf4 (v9, v10, M5)

set_option maxRecDepth 100000 in
set_option maxHeartbeats 4000000 in
theorem ctX9_type (l : Launch) (D : va_G) (cA : Nat → ClassId) (ad : Nat → Nat) (F : Nat) (M : mv_M) (a1 : Int32) (a2 : Int32) : mv_C l (D, cA, ad, LM) yX9_type iX9_type mv_ri [.ref (ad 0), .int a1, .int a2] M (fX9_type F M a1 a2) := by
  refine mv_C.ofV (ls := [(0, .ref (ad 0)), (1, .int a1), (2, .int a2)]) (by decide) rfl (Nat.le_of_ble_eq_true rfl) rfl ?_
  intro x hxl
  subst hxl
  unfold fX9_type
  refine mv_aload_n (pc := 0) (i := 0) 0 dX9_type_0 rfl rfl ?_
  refine mv_iload_n (pc := 1) (i := 1) 1 dX9_type_1 rfl rfl ?_
  refine mv_callVi (pc := 2) (As := [.int a1]) (st := []) (i := 0) dX9_type_2 mlX9_143 vmX9_isType ⟨Nat.le_of_ble_eq_true rfl, Nat.le_of_ble_eq_true rfl⟩ lm_0 rfl rfl (Nat.le_of_ble_eq_true rfl) (ctX9_isType x.2.1 D cA ad F M a1) (fun v2 M1 => ?_)
  refine mv_if_ne (pc := 5) (tgt := 11) dX9_type_5 (by decide) ?_ ?_
  · refine mv_iload_n (pc := 11) (i := 2) 2 dX9_type_11 rfl rfl ?_
    refine mv_swc (pc := 12) (v := (0 : Int32)) (off := 32) (tgt := 44) dX9_type_12 (by decide +kernel) (by decide +kernel) (by decide +kernel) (by decide) ?_ (fun h3 => ?_)
    · refine mv_aload_n (pc := 44) (i := 0) 0 dX9_type_44 rfl rfl ?_
      refine mv_getR (pc := 45) (i := 0) (j := 1) dX9_type_45 flX9_7 lm_0 rfl ?_
      refine mv_iconst (pc := 48) dX9_type_48 kci3 ?_
      refine mv_iload_n (pc := 49) (i := 1) 1 dX9_type_49 rfl rfl ?_
      refine mv_iadd (pc := 50) dX9_type_50 ?_
      refine mv_iald (pc := 51) (i := 1) dX9_type_51 lm_1 ?_
      exact mv_ireturn (pc := 52) dX9_type_52 rfl
    refine mv_swc (pc := 12) (v := (1 : Int32)) (off := 41) (tgt := 53) dX9_type_12 (by decide +kernel) (by decide +kernel) (by decide +kernel) (by decide) ?_ (fun h6 => ?_)
    · refine mv_aload_n (pc := 53) (i := 0) 0 dX9_type_53 rfl rfl ?_
      refine mv_iload_n (pc := 54) (i := 1) 1 dX9_type_54 rfl rfl ?_
      refine mv_iconst (pc := 55) dX9_type_55 kci0 ?_
      refine mv_callVi (pc := 56) (As := [.int a1, .int (0 : Int32)]) (st := []) (i := 0) dX9_type_56 mlX9_153 vmX9_typesOf ⟨Nat.le_of_ble_eq_true rfl, Nat.le_of_ble_eq_true rfl⟩ lm_0 rfl rfl (Nat.le_of_ble_eq_true rfl) (ctX9_typesOf x.2.1 D cA ad F M1 a1 (0 : Int32)) (fun v5 M4 => ?_)
      exact mv_ireturn (pc := 59) dX9_type_59 rfl
    refine mv_swc (pc := 12) (v := (2 : Int32)) (off := 48) (tgt := 60) dX9_type_12 (by decide +kernel) (by decide +kernel) (by decide +kernel) (by decide) ?_ (fun h9 => ?_)
    · refine mv_aload_n (pc := 60) (i := 0) 0 dX9_type_60 rfl rfl ?_
      refine mv_iload_n (pc := 61) (i := 1) 1 dX9_type_61 rfl rfl ?_
      refine mv_iconst (pc := 62) dX9_type_62 kci1 ?_
      refine mv_callVi (pc := 63) (As := [.int a1, .int (1 : Int32)]) (st := []) (i := 0) dX9_type_63 mlX9_153 vmX9_typesOf ⟨Nat.le_of_ble_eq_true rfl, Nat.le_of_ble_eq_true rfl⟩ lm_0 rfl rfl (Nat.le_of_ble_eq_true rfl) (ctX9_typesOf x.2.1 D cA ad F M1 a1 (1 : Int32)) (fun v8 M7 => ?_)
      exact mv_ireturn (pc := 66) dX9_type_66 rfl
    refine mv_swc (pc := 12) (v := (3 : Int32)) (off := 55) (tgt := 67) dX9_type_12 (by decide +kernel) (by decide +kernel) (by decide +kernel) (by decide) ?_ (fun h12 => ?_)
    · refine mv_aload_n (pc := 67) (i := 0) 0 dX9_type_67 rfl rfl ?_
      refine mv_iload_n (pc := 68) (i := 1) 1 dX9_type_68 rfl rfl ?_
      refine mv_callVi (pc := 69) (As := [.int a1]) (st := []) (i := 0) dX9_type_69 mlX9_157 vmX9_givers ⟨Nat.le_of_ble_eq_true rfl, Nat.le_of_ble_eq_true rfl⟩ lm_0 rfl rfl (Nat.le_of_ble_eq_true rfl) (ctX9_givers x.2.1 D cA ad F M1 a1) (fun v11 M10 => ?_)
      exact mv_ireturn (pc := 72) dX9_type_72 rfl
    refine mv_swd (pc := 12) (tgt := 73) dX9_type_12 (by have e0 := mv_ne (n := 0) (by decide +kernel) h3; have e1 := mv_ne (n := 1) (by decide +kernel) h6; have e2 := mv_ne (n := 2) (by decide +kernel) h9; have e3 := mv_ne (n := 3) (by decide +kernel) h12; omega) (by decide) ?_
    refine mv_ldc (pc := 73) dX9_type_73 kwX9_65 ?_
    exact mv_ireturn (pc := 75) dX9_type_75 rfl
  · refine mv_ldc (pc := 8) dX9_type_8 kwX9_65 ?_
    exact mv_ireturn (pc := 10) dX9_type_10 rfl

set_option maxRecDepth 100000 in
set_option maxHeartbeats 4000000 in
theorem ctX9_has (l : Launch) (D : va_G) (cA : Nat → ClassId) (ad : Nat → Nat) (F : Nat) (M : mv_M) (a1 : Int32) (a2 : Int32) : mv_C l (D, cA, ad, LM) yX9_has iX9_has mv_ri [.int a1, .int a2] M (fX9_has F M a1 a2) := by
  refine mv_C.ofV (ls := [(0, .int a1), (1, .int a2)]) (by decide) rfl (Nat.le_of_ble_eq_true rfl) rfl ?_
  intro x hxl
  subst hxl
  unfold fX9_has
  refine mv_iload_n (pc := 0) (i := 0) 0 dX9_has_0 rfl rfl ?_
  refine mv_iload_n (pc := 1) (i := 1) 1 dX9_has_1 rfl rfl ?_
  refine mv_ishr (pc := 2) dX9_has_2 ?_
  refine mv_iconst (pc := 3) dX9_has_3 kci1 ?_
  refine mv_iand (pc := 4) dX9_has_4 ?_
  refine mv_iconst (pc := 5) dX9_has_5 kci1 ?_
  refine mv_icmp_ne (pc := 6) (tgt := 13) dX9_has_6 (by decide) ?_ ?_
  · refine mv_iconst (pc := 13) dX9_has_13 kci0 ?_
    exact mv_zreturn (pc := 14) dX9_has_14 rfl
  · refine mv_iconst (pc := 9) dX9_has_9 kci1 ?_
    refine mv_goto (pc := 10) (tgt := 14) dX9_has_10 (by decide) ?_
    exact mv_zreturn (pc := 14) dX9_has_14 rfl

set_option maxRecDepth 100000 in
set_option maxHeartbeats 4000000 in
theorem ctX9_cut (l : Launch) (D : va_G) (cA : Nat → ClassId) (ad : Nat → Nat) (F : Nat) (M : mv_M) (a1 : Int64) : mv_C l (D, cA, ad, LM) yX9_cut iX9_cut mv_rl [.long a1] M (fX9_cut F M a1) := by
  refine mv_C.ofV (ls := [(0, .long a1)]) (by decide) rfl (Nat.le_of_ble_eq_true rfl) rfl ?_
  intro x hxl
  subst hxl
  unfold fX9_cut
  refine mv_lload_n (pc := 0) (i := 0) 0 dX9_cut_0 rfl rfl ?_
  refine mv_ldc2_w (pc := 1) dX9_cut_1 kwX9_160 ?_
  refine mv_lcmp (pc := 4) dX9_cut_4 ?_
  refine mv_if_le (pc := 5) (tgt := 14) dX9_cut_5 (by decide) ?_ ?_
  · refine mv_lload_n (pc := 14) (i := 0) 0 dX9_cut_14 rfl rfl ?_
    exact mv_lreturn (pc := 15) dX9_cut_15 rfl
  · refine mv_ldc2_w (pc := 8) dX9_cut_8 kwX9_160 ?_
    refine mv_goto (pc := 11) (tgt := 15) dX9_cut_11 (by decide) ?_
    exact mv_lreturn (pc := 15) dX9_cut_15 rfl

set_option maxRecDepth 100000 in
set_option maxHeartbeats 4000000 in
theorem ctX9_headed (l : Launch) (D : va_G) (cA : Nat → ClassId) (ad : Nat → Nat) (F : Nat) (M : mv_M) (a1 : Int32) (a2 : Int32) : mv_C l (D, cA, ad, LM) yX9_headed iX9_headed mv_rl [.ref (ad 0), .int a1, .int a2] M (fX9_headed F M a1 a2) := by
  refine mv_C.ofV (ls := [(0, .ref (ad 0)), (1, .int a1), (2, .int a2)]) (by decide) rfl (Nat.le_of_ble_eq_true rfl) rfl ?_
  intro x hxl
  subst hxl
  unfold fX9_headed
  refine mv_iload_n (pc := 0) (i := 2) 2 dX9_headed_0 rfl rfl ?_
  refine mv_aload_n (pc := 1) (i := 0) 0 dX9_headed_1 rfl rfl ?_
  refine mv_iload_n (pc := 2) (i := 1) 1 dX9_headed_2 rfl rfl ?_
  refine mv_callVi (pc := 3) (As := [.int a1]) (st := [.int a2]) (i := 0) dX9_headed_3 mlX9_146 vmX9_priceOf ⟨Nat.le_of_ble_eq_true rfl, Nat.le_of_ble_eq_true rfl⟩ lm_0 rfl rfl (Nat.le_of_ble_eq_true rfl) (ctX9_priceOf x.2.1 D cA ad F M a1) (fun v2 M1 => ?_)
  refine mv_isub (pc := 6) dX9_headed_6 ?_
  refine mv_istore_n (pc := 7) (i := 3) (ls' := [(0, .ref (ad 0)), (1, .int a1), (2, .int a2)]) dX9_headed_7 rfl (Nat.le_of_ble_eq_true rfl) rfl (fun v3 => ?_)
  refine mv_iload_n (pc := 8) (i := 3) 0 dX9_headed_8 rfl rfl ?_
  refine mv_if_lt (pc := 9) (tgt := 24) dX9_headed_9 (by decide) ?_ ?_
  · refine mv_iload_n (pc := 24) (i := 3) 0 dX9_headed_24 rfl rfl ?_
    refine mv_if_ne (pc := 25) (tgt := 32) dX9_headed_25 (by decide) ?_ ?_
    · refine mv_lconst (pc := 32) dX9_headed_32 (by decide +kernel : Int64.ofNat ((0 : Fin 2) : Nat) = (0 : Int64)) ?_
      exact mv_lreturn (pc := 33) dX9_headed_33 rfl
    · refine mv_lconst (pc := 28) dX9_headed_28 (by decide +kernel : Int64.ofNat ((1 : Fin 2) : Nat) = (1 : Int64)) ?_
      refine mv_goto (pc := 29) (tgt := 33) dX9_headed_29 (by decide) ?_
      exact mv_lreturn (pc := 33) dX9_headed_33 rfl
  · refine mv_aload_n (pc := 12) (i := 0) 1 dX9_headed_12 rfl rfl ?_
    refine mv_getR (pc := 13) (i := 0) (j := 1) dX9_headed_13 flX9_7 lm_0 rfl ?_
    refine mv_bipush (pc := 16) dX9_headed_16 kcb47 ?_
    refine mv_iload_n (pc := 18) (i := 1) 2 dX9_headed_18 rfl rfl ?_
    refine mv_iadd (pc := 19) dX9_headed_19 ?_
    refine mv_iald (pc := 20) (i := 1) dX9_headed_20 lm_1 ?_
    refine mv_if_ne (pc := 21) (tgt := 34) dX9_headed_21 (by decide) ?_ ?_
    · refine mv_aload_n (pc := 34) (i := 0) 1 dX9_headed_34 rfl rfl ?_
      refine mv_getR (pc := 35) (i := 0) (j := 1) dX9_headed_35 flX9_7 lm_0 rfl ?_
      refine mv_bipush (pc := 38) dX9_headed_38 kcb59 ?_
      refine mv_iload_n (pc := 40) (i := 1) 2 dX9_headed_40 rfl rfl ?_
      refine mv_iadd (pc := 41) dX9_headed_41 ?_
      refine mv_iald (pc := 42) (i := 1) dX9_headed_42 lm_1 ?_
      refine mv_istore (pc := 43) (i := 4) (ls' := [(3, .int v3), (0, .ref (ad 0)), (1, .int a1), (2, .int a2)]) dX9_headed_43 (Nat.le_of_ble_eq_true rfl) rfl (fun v4 => ?_)
      refine mv_aload_n (pc := 45) (i := 0) 2 dX9_headed_45 rfl rfl ?_
      refine mv_getR (pc := 46) (i := 0) (j := 1) dX9_headed_46 flX9_7 lm_0 rfl ?_
      refine mv_bipush (pc := 49) dX9_headed_49 kcb47 ?_
      refine mv_iload_n (pc := 51) (i := 1) 3 dX9_headed_51 rfl rfl ?_
      refine mv_iadd (pc := 52) dX9_headed_52 ?_
      refine mv_iald (pc := 53) (i := 1) dX9_headed_53 lm_1 ?_
      refine mv_iconst (pc := 54) dX9_headed_54 kci1 ?_
      refine mv_icmp_ne (pc := 55) (tgt := 71) dX9_headed_55 (by decide) ?_ ?_
      · refine mv_aload_n (pc := 71) (i := 0) 2 dX9_headed_71 rfl rfl ?_
        refine mv_getR (pc := 72) (i := 0) (j := 1) dX9_headed_72 flX9_7 lm_0 rfl ?_
        refine mv_bipush (pc := 75) dX9_headed_75 kcb71 ?_
        refine mv_iload_n (pc := 77) (i := 1) 3 dX9_headed_77 rfl rfl ?_
        refine mv_iadd (pc := 78) dX9_headed_78 ?_
        refine mv_iald (pc := 79) (i := 1) dX9_headed_79 lm_1 ?_
        refine mv_istore (pc := 80) (i := 5) (ls' := [(4, .int v4), (3, .int v3), (0, .ref (ad 0)), (1, .int a1), (2, .int a2)]) dX9_headed_80 (Nat.le_of_ble_eq_true rfl) rfl (fun v5 => ?_)
        refine mv_lconst (pc := 82) dX9_headed_82 (by decide +kernel : Int64.ofNat ((0 : Fin 2) : Nat) = (0 : Int64)) ?_
        refine mv_lstore (pc := 83) (i := 6) (ls' := [(5, .int v5), (4, .int v4), (3, .int v3), (0, .ref (ad 0)), (1, .int a1), (2, .int a2)]) dX9_headed_83 (Nat.le_of_ble_eq_true rfl) rfl (fun v6 => ?_)
        refine mv_iconst (pc := 85) dX9_headed_85 kci1 ?_
        refine mv_istore (pc := 86) (i := 8) (ls' := [(6, .long v6), (5, .int v5), (4, .int v4), (3, .int v3), (0, .ref (ad 0)), (1, .int a1), (2, .int a2)]) dX9_headed_86 (Nat.le_of_ble_eq_true rfl) rfl (fun v7 => ?_)
        refine mv_sub [5, 4, 3, 2, 1, 0] rfl ?_
        refine mv_loop (pc := 88) (lj := fun (s8 : Int64 × Int32 × mv_M) => [(0, .ref (ad 0)), (3, .int v3), (4, .int v4), (5, .int v5), (6, .long s8.1), (8, .int s8.2.1)]) (Mj := fun (s8 : Int64 × Int32 × mv_M) => s8.2.2) (B := bX9_headed_88 v3 v4 v5 F) ?_ F (v6, v7, M1)
        intro f9 hf9 s8
        unfold bX9_headed_88
        refine mv_iload (pc := 88) (i := 8) 5 dX9_headed_88 rfl ?_
        refine mv_iload_n (pc := 90) (i := 3) 1 dX9_headed_90 rfl rfl ?_
        refine mv_icmp_ge (pc := 91) (tgt := 140) dX9_headed_91 (by decide) ?_ ?_
        · refine mv_lload (pc := 140) (i := 6) 4 dX9_headed_140 rfl ?_
          exact mv_lreturn (pc := 142) dX9_headed_142 rfl
        · refine mv_lload (pc := 94) (i := 6) 4 dX9_headed_94 rfl ?_
          refine mv_aload_n (pc := 96) (i := 0) 0 dX9_headed_96 rfl rfl ?_
          refine mv_getR (pc := 97) (i := 0) (j := 7) dX9_headed_97 flX9_28 lm_0 rfl ?_
          refine mv_bipush (pc := 100) dX9_headed_100 kcb25 ?_
          refine mv_iload (pc := 102) (i := 4) 2 dX9_headed_102 rfl ?_
          refine mv_imul (pc := 104) dX9_headed_104 ?_
          refine mv_iload (pc := 105) (i := 8) 5 dX9_headed_105 rfl ?_
          refine mv_iadd (pc := 107) dX9_headed_107 ?_
          refine mv_lald (pc := 108) (i := 7) dX9_headed_108 lm_7 ?_
          refine mv_aload_n (pc := 109) (i := 0) 0 dX9_headed_109 rfl rfl ?_
          refine mv_getR (pc := 110) (i := 0) (j := 7) dX9_headed_110 flX9_28 lm_0 rfl ?_
          refine mv_bipush (pc := 113) dX9_headed_113 kcb25 ?_
          refine mv_iload (pc := 115) (i := 5) 3 dX9_headed_115 rfl ?_
          refine mv_imul (pc := 117) dX9_headed_117 ?_
          refine mv_iload_n (pc := 118) (i := 3) 1 dX9_headed_118 rfl rfl ?_
          refine mv_iadd (pc := 119) dX9_headed_119 ?_
          refine mv_iload (pc := 120) (i := 8) 5 dX9_headed_120 rfl ?_
          refine mv_isub (pc := 122) dX9_headed_122 ?_
          refine mv_lald (pc := 123) (i := 7) dX9_headed_123 lm_7 ?_
          refine mv_lmul (pc := 124) dX9_headed_124 ?_
          refine mv_callSl (pc := 125) (As := [.long ((s8.2.2.2 7 (((25 : Int32) * v4) + s8.2.1).toNatClampNeg) * (s8.2.2.2 7 ((((25 : Int32) * v5) + v3) - s8.2.1).toNatClampNeg))]) (st := [.long s8.1]) dX9_headed_125 mlX9_162 smX9_cut ⟨Nat.le_of_ble_eq_true rfl, Nat.le_of_ble_eq_true rfl⟩ rfl (Nat.le_of_ble_eq_true rfl) (ctX9_cut x.2.1 D cA ad F s8.2.2 ((s8.2.2.2 7 (((25 : Int32) * v4) + s8.2.1).toNatClampNeg) * (s8.2.2.2 7 ((((25 : Int32) * v5) + v3) - s8.2.1).toNatClampNeg))) (fun v11 M10 => ?_)
          refine mv_ladd (pc := 128) dX9_headed_128 ?_
          refine mv_callSl (pc := 129) (As := [.long (s8.1 + v11)]) (st := []) dX9_headed_129 mlX9_162 smX9_cut ⟨Nat.le_of_ble_eq_true rfl, Nat.le_of_ble_eq_true rfl⟩ rfl (Nat.le_of_ble_eq_true rfl) (ctX9_cut x.2.1 D cA ad F M10 (s8.1 + v11)) (fun v13 M12 => ?_)
          refine mv_lstore (pc := 132) (i := 6) (ls' := [(0, .ref (ad 0)), (3, .int v3), (4, .int v4), (5, .int v5), (8, .int s8.2.1)]) dX9_headed_132 (Nat.le_of_ble_eq_true rfl) rfl (fun v14 => ?_)
          refine mv_iinc (pc := 134) (i := 8) (ls' := [(6, .long v14), (0, .ref (ad 0)), (3, .int v3), (4, .int v4), (5, .int v5)]) 5 dX9_headed_134 rfl kci1 (Nat.le_of_ble_eq_true rfl) rfl (fun v15 => ?_)
          refine mv_goto (pc := 137) (tgt := 88) dX9_headed_137 (by decide) ?_
          refine mv_sub [2, 3, 4, 5, 1, 0] rfl ?_
          exact hf9 (v14, v15, M12)
      · refine mv_aload_n (pc := 58) (i := 0) 2 dX9_headed_58 rfl rfl ?_
        refine mv_getR (pc := 59) (i := 0) (j := 7) dX9_headed_59 flX9_28 lm_0 rfl ?_
        refine mv_bipush (pc := 62) dX9_headed_62 kcb25 ?_
        refine mv_iload (pc := 64) (i := 4) 0 dX9_headed_64 rfl ?_
        refine mv_imul (pc := 66) dX9_headed_66 ?_
        refine mv_iload_n (pc := 67) (i := 3) 1 dX9_headed_67 rfl rfl ?_
        refine mv_iadd (pc := 68) dX9_headed_68 ?_
        refine mv_lald (pc := 69) (i := 7) dX9_headed_69 lm_7 ?_
        exact mv_lreturn (pc := 70) dX9_headed_70 rfl
    · refine mv_iload_n (pc := 24) (i := 3) 0 dX9_headed_24 rfl rfl ?_
      refine mv_if_ne (pc := 25) (tgt := 32) dX9_headed_25 (by decide) ?_ ?_
      · refine mv_lconst (pc := 32) dX9_headed_32 (by decide +kernel : Int64.ofNat ((0 : Fin 2) : Nat) = (0 : Int64)) ?_
        exact mv_lreturn (pc := 33) dX9_headed_33 rfl
      · refine mv_lconst (pc := 28) dX9_headed_28 (by decide +kernel : Int64.ofNat ((1 : Fin 2) : Nat) = (1 : Int64)) ?_
        refine mv_goto (pc := 29) (tgt := 33) dX9_headed_29 (by decide) ?_
        exact mv_lreturn (pc := 33) dX9_headed_33 rfl

set_option maxRecDepth 100000 in
set_option maxHeartbeats 4000000 in
theorem ctX9_layWays (l : Launch) (D : va_G) (cA : Nat → ClassId) (ad : Nat → Nat) (F : Nat) (M : mv_M) (a1 : Int32) : mv_C l (D, cA, ad, LM) yX9_layWays iX9_layWays mv_rv [.ref (ad 0), .int a1] M (fX9_layWays F M a1) := by
  refine mv_C.ofV (ls := [(0, .ref (ad 0)), (1, .int a1)]) (by decide) rfl (Nat.le_of_ble_eq_true rfl) rfl ?_
  intro x hxl
  subst hxl
  unfold fX9_layWays
  refine mv_iconst (pc := 0) dX9_layWays_0 kci0 ?_
  refine mv_istore_n (pc := 1) (i := 2) (ls' := [(0, .ref (ad 0)), (1, .int a1)]) dX9_layWays_1 rfl (Nat.le_of_ble_eq_true rfl) rfl (fun v1 => ?_)
  refine mv_jp (pj := 22) (lj := fun (s2 : mv_M) => [(0, .ref (ad 0)), (1, .int a1)]) (sj := fun (s2 : mv_M) => []) (Mj := fun (s2 : mv_M) => s2) ?_ ?_
  · intro s2
    refine mv_iconst (pc := 22) dX9_layWays_22 kci1 ?_
    refine mv_istore_n (pc := 23) (i := 2) (ls' := [(0, .ref (ad 0)), (1, .int a1)]) dX9_layWays_23 rfl (Nat.le_of_ble_eq_true rfl) rfl (fun v4 => ?_)
    refine mv_sub [1, 2, 0] rfl ?_
    refine mv_loop (pc := 24) (lj := fun (s5 : Int32 × mv_M) => [(0, .ref (ad 0)), (1, .int a1), (2, .int s5.1)]) (Mj := fun (s5 : Int32 × mv_M) => s5.2) (B := bX9_layWays_24 F a1) ?_ F (v4, s2)
    intro f6 hf6 s5
    unfold bX9_layWays_24
    refine mv_iload_n (pc := 24) (i := 2) 2 dX9_layWays_24 rfl rfl ?_
    refine mv_bipush (pc := 25) dX9_layWays_25 kcb24 ?_
    refine mv_icmp_gt (pc := 27) (tgt := 164) dX9_layWays_27 (by decide) ?_ ?_
    · exact mv_return (pc := 164) dX9_layWays_164 rfl
    · refine mv_iconst (pc := 30) dX9_layWays_30 kci0 ?_
      refine mv_istore_n (pc := 31) (i := 3) (ls' := [(0, .ref (ad 0)), (1, .int a1), (2, .int s5.1)]) dX9_layWays_31 rfl (Nat.le_of_ble_eq_true rfl) rfl (fun v7 => ?_)
      refine mv_sub [1, 2, 3, 0] rfl ?_
      refine mv_loop (pc := 32) (lj := fun (s8 : Int32 × mv_M) => [(0, .ref (ad 0)), (1, .int a1), (2, .int s5.1), (3, .int s8.1)]) (Mj := fun (s8 : Int32 × mv_M) => s8.2) (B := bX9_layWays_32 s5 f6 F a1) ?_ F (v7, s5.2)
      intro f9 hf9 s8
      unfold bX9_layWays_32
      refine mv_iload_n (pc := 32) (i := 3) 3 dX9_layWays_32 rfl rfl ?_
      refine mv_aload_n (pc := 33) (i := 0) 0 dX9_layWays_33 rfl rfl ?_
      refine mv_getR (pc := 34) (i := 0) (j := 1) dX9_layWays_34 flX9_7 lm_0 rfl ?_
      refine mv_iconst (pc := 37) dX9_layWays_37 kci1 ?_
      refine mv_iald (pc := 38) (i := 1) dX9_layWays_38 lm_1 ?_
      refine mv_icmp_ge (pc := 39) (tgt := 158) dX9_layWays_39 (by decide) ?_ ?_
      · refine mv_iinc (pc := 158) (i := 2) (ls' := [(0, .ref (ad 0)), (1, .int a1), (3, .int s8.1)]) 2 dX9_layWays_158 rfl kci1 (Nat.le_of_ble_eq_true rfl) rfl (fun v10 => ?_)
        refine mv_goto (pc := 161) (tgt := 24) dX9_layWays_161 (by decide) ?_
        refine mv_sub [1, 2, 0] rfl ?_
        exact hf6 (v10, s8.2)
      · refine mv_iload_n (pc := 42) (i := 1) 1 dX9_layWays_42 rfl rfl ?_
        refine mv_iload_n (pc := 43) (i := 3) 3 dX9_layWays_43 rfl rfl ?_
        refine mv_callSi (pc := 44) (As := [.int a1, .int s8.1]) (st := []) dX9_layWays_44 mlX9_166 smX9_has ⟨Nat.le_of_ble_eq_true rfl, Nat.le_of_ble_eq_true rfl⟩ rfl (Nat.le_of_ble_eq_true rfl) (ctX9_has x.2.1 D cA ad F s8.2 a1 s8.1) (fun v12 M11 => ?_)
        refine mv_jp (pj := 60) (lj := fun (s13 : Int64 × mv_M) => [(0, .ref (ad 0)), (1, .int a1), (2, .int s5.1), (3, .int s8.1)]) (sj := fun (s13 : Int64 × mv_M) => [.long s13.1]) (Mj := fun (s13 : Int64 × mv_M) => s13.2) ?_ ?_
        · intro s13
          refine mv_lstore (pc := 60) (i := 4) (ls' := [(0, .ref (ad 0)), (1, .int a1), (2, .int s5.1), (3, .int s8.1)]) dX9_layWays_60 (Nat.le_of_ble_eq_true rfl) rfl (fun v15 => ?_)
          refine mv_iconst (pc := 62) dX9_layWays_62 kci0 ?_
          refine mv_istore (pc := 63) (i := 6) (ls' := [(4, .long v15), (0, .ref (ad 0)), (1, .int a1), (2, .int s5.1), (3, .int s8.1)]) dX9_layWays_63 (Nat.le_of_ble_eq_true rfl) rfl (fun v16 => ?_)
          refine mv_sub [2, 3, 4, 5, 1, 0] rfl ?_
          refine mv_loop (pc := 65) (lj := fun (s17 : Int32 × mv_M) => [(0, .ref (ad 0)), (1, .int a1), (2, .int s5.1), (3, .int s8.1), (4, .long v15), (6, .int s17.1)]) (Mj := fun (s17 : Int32 × mv_M) => s17.2) (B := bX9_layWays_65 s8 f9 v15 F s5) ?_ F (v16, s13.2)
          intro f18 hf18 s17
          unfold bX9_layWays_65
          refine mv_iload (pc := 65) (i := 6) 5 dX9_layWays_65 rfl ?_
          refine mv_aload_n (pc := 67) (i := 0) 0 dX9_layWays_67 rfl rfl ?_
          refine mv_getR (pc := 68) (i := 0) (j := 1) dX9_layWays_68 flX9_7 lm_0 rfl ?_
          refine mv_iconst (pc := 71) dX9_layWays_71 kci0 ?_
          refine mv_iald (pc := 72) (i := 1) dX9_layWays_72 lm_1 ?_
          refine mv_icmp_ge (pc := 73) (tgt := 152) dX9_layWays_73 (by decide) ?_ ?_
          · refine mv_iinc (pc := 152) (i := 3) (ls' := [(0, .ref (ad 0)), (1, .int a1), (2, .int s5.1), (4, .long v15), (6, .int s17.1)]) 3 dX9_layWays_152 rfl kci1 (Nat.le_of_ble_eq_true rfl) rfl (fun v19 => ?_)
            refine mv_goto (pc := 155) (tgt := 32) dX9_layWays_155 (by decide) ?_
            refine mv_sub [1, 2, 3, 0] rfl ?_
            exact hf9 (v19, s17.2)
          · refine mv_lload (pc := 76) (i := 4) 4 dX9_layWays_76 rfl ?_
            refine mv_lconst (pc := 78) dX9_layWays_78 (by decide +kernel : Int64.ofNat ((0 : Fin 2) : Nat) = (0 : Int64)) ?_
            refine mv_lcmp (pc := 79) dX9_layWays_79 ?_
            refine mv_if_le (pc := 80) (tgt := 152) dX9_layWays_80 (by decide) ?_ ?_
            · refine mv_iinc (pc := 152) (i := 3) (ls' := [(0, .ref (ad 0)), (1, .int a1), (2, .int s5.1), (4, .long v15), (6, .int s17.1)]) 3 dX9_layWays_152 rfl kci1 (Nat.le_of_ble_eq_true rfl) rfl (fun v20 => ?_)
              refine mv_goto (pc := 155) (tgt := 32) dX9_layWays_155 (by decide) ?_
              refine mv_sub [1, 2, 3, 0] rfl ?_
              exact hf9 (v20, s17.2)
            · refine mv_aload_n (pc := 83) (i := 0) 0 dX9_layWays_83 rfl rfl ?_
              refine mv_getR (pc := 84) (i := 0) (j := 7) dX9_layWays_84 flX9_28 lm_0 rfl ?_
              refine mv_bipush (pc := 87) dX9_layWays_87 kcb25 ?_
              refine mv_iload (pc := 89) (i := 6) 5 dX9_layWays_89 rfl ?_
              refine mv_imul (pc := 91) dX9_layWays_91 ?_
              refine mv_iload_n (pc := 92) (i := 2) 2 dX9_layWays_92 rfl rfl ?_
              refine mv_iadd (pc := 93) dX9_layWays_93 ?_
              refine mv_aload_n (pc := 94) (i := 0) 0 dX9_layWays_94 rfl rfl ?_
              refine mv_aload_n (pc := 95) (i := 0) 0 dX9_layWays_95 rfl rfl ?_
              refine mv_getR (pc := 96) (i := 0) (j := 1) dX9_layWays_96 flX9_7 lm_0 rfl ?_
              refine mv_bipush (pc := 99) dX9_layWays_99 kcb23 ?_
              refine mv_iload_n (pc := 101) (i := 3) 3 dX9_layWays_101 rfl rfl ?_
              refine mv_iadd (pc := 102) dX9_layWays_102 ?_
              refine mv_iald (pc := 103) (i := 1) dX9_layWays_103 lm_1 ?_
              refine mv_iload (pc := 104) (i := 6) 5 dX9_layWays_104 rfl ?_
              refine mv_callVi (pc := 106) (As := [.int (s17.2.1 1 ((23 : Int32) + s8.1).toNatClampNeg), .int s17.1]) (st := [.int (((25 : Int32) * s17.1) + s5.1), .ref (ad 7)]) (i := 0) dX9_layWays_106 mlX9_150 vmX9_isOf ⟨Nat.le_of_ble_eq_true rfl, Nat.le_of_ble_eq_true rfl⟩ lm_0 rfl rfl (Nat.le_of_ble_eq_true rfl) (ctX9_isOf x.2.1 D cA ad F s17.2 (s17.2.1 1 ((23 : Int32) + s8.1).toNatClampNeg) s17.1) (fun v22 M21 => ?_)
              refine mv_if_eq (pc := 109) (tgt := 133) dX9_layWays_109 (by decide) ?_ ?_
              · refine mv_aload_n (pc := 133) (i := 0) 0 dX9_layWays_133 rfl rfl ?_
                refine mv_getR (pc := 134) (i := 0) (j := 7) dX9_layWays_134 flX9_28 lm_0 rfl ?_
                refine mv_bipush (pc := 137) dX9_layWays_137 kcb25 ?_
                refine mv_iload (pc := 139) (i := 6) 5 dX9_layWays_139 rfl ?_
                refine mv_imul (pc := 141) dX9_layWays_141 ?_
                refine mv_iload_n (pc := 142) (i := 2) 2 dX9_layWays_142 rfl rfl ?_
                refine mv_iadd (pc := 143) dX9_layWays_143 ?_
                refine mv_lald (pc := 144) (i := 7) dX9_layWays_144 lm_7 ?_
                refine mv_last (pc := 145) (i := 7) dX9_layWays_145 lm_7 (fun M23 => ?_)
                refine mv_iinc (pc := 146) (i := 6) (ls' := [(0, .ref (ad 0)), (1, .int a1), (2, .int s5.1), (3, .int s8.1), (4, .long v15)]) 5 dX9_layWays_146 rfl kci1 (Nat.le_of_ble_eq_true rfl) rfl (fun v24 => ?_)
                refine mv_goto (pc := 149) (tgt := 65) dX9_layWays_149 (by decide) ?_
                refine mv_sub [1, 2, 3, 4, 5, 0] rfl ?_
                exact hf18 (v24, M23)
              · refine mv_aload_n (pc := 112) (i := 0) 0 dX9_layWays_112 rfl rfl ?_
                refine mv_getR (pc := 113) (i := 0) (j := 7) dX9_layWays_113 flX9_28 lm_0 rfl ?_
                refine mv_bipush (pc := 116) dX9_layWays_116 kcb25 ?_
                refine mv_iload (pc := 118) (i := 6) 5 dX9_layWays_118 rfl ?_
                refine mv_imul (pc := 120) dX9_layWays_120 ?_
                refine mv_iload_n (pc := 121) (i := 2) 2 dX9_layWays_121 rfl rfl ?_
                refine mv_iadd (pc := 122) dX9_layWays_122 ?_
                refine mv_lald (pc := 123) (i := 7) dX9_layWays_123 lm_7 ?_
                refine mv_lload (pc := 124) (i := 4) 4 dX9_layWays_124 rfl ?_
                refine mv_ladd (pc := 126) dX9_layWays_126 ?_
                refine mv_callSl (pc := 127) (As := [.long ((M21.2 7 (((25 : Int32) * s17.1) + s5.1).toNatClampNeg) + v15)]) (st := [.int (((25 : Int32) * s17.1) + s5.1), .ref (ad 7)]) dX9_layWays_127 mlX9_162 smX9_cut ⟨Nat.le_of_ble_eq_true rfl, Nat.le_of_ble_eq_true rfl⟩ rfl (Nat.le_of_ble_eq_true rfl) (ctX9_cut x.2.1 D cA ad F M21 ((M21.2 7 (((25 : Int32) * s17.1) + s5.1).toNatClampNeg) + v15)) (fun v26 M25 => ?_)
                refine mv_goto (pc := 130) (tgt := 145) dX9_layWays_130 (by decide) ?_
                refine mv_last (pc := 145) (i := 7) dX9_layWays_145 lm_7 (fun M27 => ?_)
                refine mv_iinc (pc := 146) (i := 6) (ls' := [(0, .ref (ad 0)), (1, .int a1), (2, .int s5.1), (3, .int s8.1), (4, .long v15)]) 5 dX9_layWays_146 rfl kci1 (Nat.le_of_ble_eq_true rfl) rfl (fun v28 => ?_)
                refine mv_goto (pc := 149) (tgt := 65) dX9_layWays_149 (by decide) ?_
                refine mv_sub [1, 2, 3, 4, 5, 0] rfl ?_
                exact hf18 (v28, M27)
        · intro j14 hj14
          refine mv_if_eq (pc := 47) (tgt := 54) dX9_layWays_47 (by decide) ?_ ?_
          · refine mv_aload_n (pc := 54) (i := 0) 0 dX9_layWays_54 rfl rfl ?_
            refine mv_iload_n (pc := 55) (i := 3) 3 dX9_layWays_55 rfl rfl ?_
            refine mv_iload_n (pc := 56) (i := 2) 2 dX9_layWays_56 rfl rfl ?_
            refine mv_callVl (pc := 57) (As := [.int s8.1, .int s5.1]) (st := []) (i := 0) dX9_layWays_57 mlX9_169 vmX9_headed ⟨Nat.le_of_ble_eq_true rfl, Nat.le_of_ble_eq_true rfl⟩ lm_0 rfl rfl (Nat.le_of_ble_eq_true rfl) (ctX9_headed x.2.1 D cA ad F M11 s8.1 s5.1) (fun v30 M29 => ?_)
            exact hj14 (v30, M29)
          · refine mv_lconst (pc := 50) dX9_layWays_50 (by decide +kernel : Int64.ofNat ((0 : Fin 2) : Nat) = (0 : Int64)) ?_
            refine mv_goto (pc := 51) (tgt := 60) dX9_layWays_51 (by decide) ?_
            exact hj14 ((0 : Int64), M11)
  · intro j3 hj3
    refine mv_sub [1, 2, 0] rfl ?_
    refine mv_loop (pc := 2) (lj := fun (s31 : Int32 × mv_M) => [(0, .ref (ad 0)), (1, .int a1), (2, .int s31.1)]) (Mj := fun (s31 : Int32 × mv_M) => s31.2) (B := bX9_layWays_2 j3) ?_ F (v1, M)
    intro f32 hf32 s31
    unfold bX9_layWays_2
    refine mv_iload_n (pc := 2) (i := 2) 2 dX9_layWays_2 rfl rfl ?_
    refine mv_sipush (pc := 3) dX9_layWays_3 kcs200 ?_
    refine mv_icmp_ge (pc := 6) (tgt := 22) dX9_layWays_6 (by decide) ?_ ?_
    · refine mv_sub [0, 1] rfl ?_
      exact hj3 (s31.2)
    · refine mv_aload_n (pc := 9) (i := 0) 0 dX9_layWays_9 rfl rfl ?_
      refine mv_getR (pc := 10) (i := 0) (j := 7) dX9_layWays_10 flX9_28 lm_0 rfl ?_
      refine mv_iload_n (pc := 13) (i := 2) 2 dX9_layWays_13 rfl rfl ?_
      refine mv_lconst (pc := 14) dX9_layWays_14 (by decide +kernel : Int64.ofNat ((0 : Fin 2) : Nat) = (0 : Int64)) ?_
      refine mv_last (pc := 15) (i := 7) dX9_layWays_15 lm_7 (fun M33 => ?_)
      refine mv_iinc (pc := 16) (i := 2) (ls' := [(0, .ref (ad 0)), (1, .int a1)]) 2 dX9_layWays_16 rfl kci1 (Nat.le_of_ble_eq_true rfl) rfl (fun v34 => ?_)
      refine mv_goto (pc := 19) (tgt := 2) dX9_layWays_19 (by decide) ?_
      refine mv_sub [1, 2, 0] rfl ?_
      exact hf32 (v34, M33)

set_option maxRecDepth 100000 in
set_option maxHeartbeats 4000000 in
theorem ctX9_toldOf (l : Launch) (D : va_G) (cA : Nat → ClassId) (ad : Nat → Nat) (F : Nat) (M : mv_M) (a1 : Int64) : mv_C l (D, cA, ad, LM) yX9_toldOf iX9_toldOf mv_ri [.ref (ad 0), .long a1] M (fX9_toldOf F M a1) := by
  refine mv_C.ofV (ls := [(0, .ref (ad 0)), (1, .long a1)]) (by decide) rfl (Nat.le_of_ble_eq_true rfl) rfl ?_
  intro x hxl
  subst hxl
  unfold fX9_toldOf
  refine mv_lload_n (pc := 0) (i := 1) 1 dX9_toldOf_0 rfl rfl ?_
  refine mv_ldc2_w (pc := 1) dX9_toldOf_1 kwX9_173 ?_
  refine mv_lcmp (pc := 4) dX9_toldOf_4 ?_
  refine mv_if_le (pc := 5) (tgt := 13) dX9_toldOf_5 (by decide) ?_ ?_
  · refine mv_lload_n (pc := 13) (i := 1) 1 dX9_toldOf_13 rfl rfl ?_
    refine mv_l2i (pc := 14) dX9_toldOf_14 ?_
    exact mv_ireturn (pc := 15) dX9_toldOf_15 rfl
  · refine mv_ldc (pc := 8) dX9_toldOf_8 kwX9_175 ?_
    refine mv_goto (pc := 10) (tgt := 15) dX9_toldOf_10 (by decide) ?_
    exact mv_ireturn (pc := 15) dX9_toldOf_15 rfl

set_option maxRecDepth 100000 in
set_option maxHeartbeats 4000000 in
theorem ctX9_many (l : Launch) (D : va_G) (cA : Nat → ClassId) (ad : Nat → Nat) (F : Nat) (M : mv_M) (a1 : Int32) (a2 : Int32) : mv_C l (D, cA, ad, LM) yX9_many iX9_many mv_ri [.ref (ad 0), .int a1, .int a2] M (fX9_many F M a1 a2) := by
  refine mv_C.ofV (ls := [(0, .ref (ad 0)), (1, .int a1), (2, .int a2)]) (by decide) rfl (Nat.le_of_ble_eq_true rfl) rfl ?_
  intro x hxl
  subst hxl
  unfold fX9_many
  refine mv_aload_n (pc := 0) (i := 0) 0 dX9_many_0 rfl rfl ?_
  refine mv_iload_n (pc := 1) (i := 1) 1 dX9_many_1 rfl rfl ?_
  refine mv_callVi (pc := 2) (As := [.int a1]) (st := []) (i := 0) dX9_many_2 mlX9_143 vmX9_isType ⟨Nat.le_of_ble_eq_true rfl, Nat.le_of_ble_eq_true rfl⟩ lm_0 rfl rfl (Nat.le_of_ble_eq_true rfl) (ctX9_isType x.2.1 D cA ad F M a1) (fun v2 M1 => ?_)
  refine mv_if_eq (pc := 5) (tgt := 20) dX9_many_5 (by decide) ?_ ?_
  · refine mv_ldc (pc := 20) dX9_many_20 kwX9_65 ?_
    exact mv_ireturn (pc := 22) dX9_many_22 rfl
  · refine mv_iload_n (pc := 8) (i := 2) 2 dX9_many_8 rfl rfl ?_
    refine mv_i2l (pc := 9) dX9_many_9 ?_
    refine mv_lconst (pc := 10) dX9_many_10 (by decide +kernel : Int64.ofNat ((1 : Fin 2) : Nat) = (1 : Int64)) ?_
    refine mv_ldc2_w (pc := 11) dX9_many_11 kwX9_176 ?_
    refine mv_callSi (pc := 14) (As := [.long a2.toInt64, .long (1 : Int64), .long (24 : Int64)]) (st := []) dX9_many_14 mlX9_48 smX9_in ⟨Nat.le_of_ble_eq_true rfl, Nat.le_of_ble_eq_true rfl⟩ rfl (Nat.le_of_ble_eq_true rfl) (ctX9_in x.2.1 D cA ad F M1 a2.toInt64 (1 : Int64) (24 : Int64)) (fun v4 M3 => ?_)
    refine mv_if_ne (pc := 17) (tgt := 23) dX9_many_17 (by decide) ?_ ?_
    · refine mv_aload_n (pc := 23) (i := 0) 0 dX9_many_23 rfl rfl ?_
      refine mv_aload_n (pc := 24) (i := 0) 0 dX9_many_24 rfl rfl ?_
      refine mv_getR (pc := 25) (i := 0) (j := 1) dX9_many_25 flX9_7 lm_0 rfl ?_
      refine mv_iconst (pc := 28) dX9_many_28 kci2 ?_
      refine mv_iald (pc := 29) (i := 1) dX9_many_29 lm_1 ?_
      refine mv_callVv (pc := 30) (As := [.int (M3.1 1 (2 : Int32).toNatClampNeg)]) (st := []) (i := 0) dX9_many_30 mlX9_178 vmX9_layWays ⟨Nat.le_of_ble_eq_true rfl, Nat.le_of_ble_eq_true rfl⟩ lm_0 rfl rfl (Nat.le_of_ble_eq_true rfl) (ctX9_layWays x.2.1 D cA ad F M3 (M3.1 1 (2 : Int32).toNatClampNeg)) (fun M5 => ?_)
      refine mv_aload_n (pc := 33) (i := 0) 0 dX9_many_33 rfl rfl ?_
      refine mv_aload_n (pc := 34) (i := 0) 0 dX9_many_34 rfl rfl ?_
      refine mv_getR (pc := 35) (i := 0) (j := 7) dX9_many_35 flX9_28 lm_0 rfl ?_
      refine mv_bipush (pc := 38) dX9_many_38 kcb25 ?_
      refine mv_iload_n (pc := 40) (i := 1) 1 dX9_many_40 rfl rfl ?_
      refine mv_imul (pc := 41) dX9_many_41 ?_
      refine mv_iload_n (pc := 42) (i := 2) 2 dX9_many_42 rfl rfl ?_
      refine mv_iadd (pc := 43) dX9_many_43 ?_
      refine mv_lald (pc := 44) (i := 7) dX9_many_44 lm_7 ?_
      refine mv_callVi (pc := 45) (As := [.long (M5.2 7 (((25 : Int32) * a1) + a2).toNatClampNeg)]) (st := []) (i := 0) dX9_many_45 mlX9_182 vmX9_toldOf ⟨Nat.le_of_ble_eq_true rfl, Nat.le_of_ble_eq_true rfl⟩ lm_0 rfl rfl (Nat.le_of_ble_eq_true rfl) (ctX9_toldOf x.2.1 D cA ad F M5 (M5.2 7 (((25 : Int32) * a1) + a2).toNatClampNeg)) (fun v7 M6 => ?_)
      exact mv_ireturn (pc := 48) dX9_many_48 rfl
    · refine mv_ldc (pc := 20) dX9_many_20 kwX9_65 ?_
      exact mv_ireturn (pc := 22) dX9_many_22 rfl

set_option maxRecDepth 100000 in
set_option maxHeartbeats 4000000 in
theorem ctX9_cheapestOf (l : Launch) (D : va_G) (cA : Nat → ClassId) (ad : Nat → Nat) (F : Nat) (M : mv_M) (a1 : Int32) : mv_C l (D, cA, ad, LM) yX9_cheapestOf iX9_cheapestOf mv_ri [.ref (ad 0), .int a1] M (fX9_cheapestOf F M a1) := by
  refine mv_C.ofV (ls := [(0, .ref (ad 0)), (1, .int a1)]) (by decide) rfl (Nat.le_of_ble_eq_true rfl) rfl ?_
  intro x hxl
  subst hxl
  unfold fX9_cheapestOf
  refine mv_iconst (pc := 0) dX9_cheapestOf_0 kci1 ?_
  refine mv_istore_n (pc := 1) (i := 2) (ls' := [(0, .ref (ad 0)), (1, .int a1)]) dX9_cheapestOf_1 rfl (Nat.le_of_ble_eq_true rfl) rfl (fun v1 => ?_)
  refine mv_sub [1, 2, 0] rfl ?_
  refine mv_loop (pc := 2) (lj := fun (s2 : Int32 × mv_M) => [(0, .ref (ad 0)), (1, .int a1), (2, .int s2.1)]) (Mj := fun (s2 : Int32 × mv_M) => s2.2) (B := bX9_cheapestOf_2 a1) ?_ F (v1, M)
  intro f3 hf3 s2
  unfold bX9_cheapestOf_2
  refine mv_iload_n (pc := 2) (i := 2) 2 dX9_cheapestOf_2 rfl rfl ?_
  refine mv_bipush (pc := 3) dX9_cheapestOf_3 kcb24 ?_
  refine mv_icmp_gt (pc := 5) (tgt := 32) dX9_cheapestOf_5 (by decide) ?_ ?_
  · refine mv_ldc (pc := 32) dX9_cheapestOf_32 kwX9_149 ?_
    exact mv_ireturn (pc := 34) dX9_cheapestOf_34 rfl
  · refine mv_aload_n (pc := 8) (i := 0) 0 dX9_cheapestOf_8 rfl rfl ?_
    refine mv_getR (pc := 9) (i := 0) (j := 7) dX9_cheapestOf_9 flX9_28 lm_0 rfl ?_
    refine mv_bipush (pc := 12) dX9_cheapestOf_12 kcb25 ?_
    refine mv_iload_n (pc := 14) (i := 1) 1 dX9_cheapestOf_14 rfl rfl ?_
    refine mv_imul (pc := 15) dX9_cheapestOf_15 ?_
    refine mv_iload_n (pc := 16) (i := 2) 2 dX9_cheapestOf_16 rfl rfl ?_
    refine mv_iadd (pc := 17) dX9_cheapestOf_17 ?_
    refine mv_lald (pc := 18) (i := 7) dX9_cheapestOf_18 lm_7 ?_
    refine mv_lconst (pc := 19) dX9_cheapestOf_19 (by decide +kernel : Int64.ofNat ((0 : Fin 2) : Nat) = (0 : Int64)) ?_
    refine mv_lcmp (pc := 20) dX9_cheapestOf_20 ?_
    refine mv_if_le (pc := 21) (tgt := 26) dX9_cheapestOf_21 (by decide) ?_ ?_
    · refine mv_iinc (pc := 26) (i := 2) (ls' := [(0, .ref (ad 0)), (1, .int a1)]) 2 dX9_cheapestOf_26 rfl kci1 (Nat.le_of_ble_eq_true rfl) rfl (fun v4 => ?_)
      refine mv_goto (pc := 29) (tgt := 2) dX9_cheapestOf_29 (by decide) ?_
      refine mv_sub [1, 2, 0] rfl ?_
      exact hf3 (v4, s2.2)
    · refine mv_iload_n (pc := 24) (i := 2) 2 dX9_cheapestOf_24 rfl rfl ?_
      exact mv_ireturn (pc := 25) dX9_cheapestOf_25 rfl

set_option maxRecDepth 100000 in
set_option maxHeartbeats 4000000 in
theorem ctX9_cheapest (l : Launch) (D : va_G) (cA : Nat → ClassId) (ad : Nat → Nat) (F : Nat) (M : mv_M) (a1 : Int32) : mv_C l (D, cA, ad, LM) yX9_cheapest iX9_cheapest mv_ri [.ref (ad 0), .int a1] M (fX9_cheapest F M a1) := by
  refine mv_C.ofV (ls := [(0, .ref (ad 0)), (1, .int a1)]) (by decide) rfl (Nat.le_of_ble_eq_true rfl) rfl ?_
  intro x hxl
  subst hxl
  unfold fX9_cheapest
  refine mv_aload_n (pc := 0) (i := 0) 0 dX9_cheapest_0 rfl rfl ?_
  refine mv_iload_n (pc := 1) (i := 1) 1 dX9_cheapest_1 rfl rfl ?_
  refine mv_callVi (pc := 2) (As := [.int a1]) (st := []) (i := 0) dX9_cheapest_2 mlX9_143 vmX9_isType ⟨Nat.le_of_ble_eq_true rfl, Nat.le_of_ble_eq_true rfl⟩ lm_0 rfl rfl (Nat.le_of_ble_eq_true rfl) (ctX9_isType x.2.1 D cA ad F M a1) (fun v2 M1 => ?_)
  refine mv_if_ne (pc := 5) (tgt := 11) dX9_cheapest_5 (by decide) ?_ ?_
  · refine mv_aload_n (pc := 11) (i := 0) 0 dX9_cheapest_11 rfl rfl ?_
    refine mv_aload_n (pc := 12) (i := 0) 0 dX9_cheapest_12 rfl rfl ?_
    refine mv_getR (pc := 13) (i := 0) (j := 1) dX9_cheapest_13 flX9_7 lm_0 rfl ?_
    refine mv_iconst (pc := 16) dX9_cheapest_16 kci2 ?_
    refine mv_iald (pc := 17) (i := 1) dX9_cheapest_17 lm_1 ?_
    refine mv_callVv (pc := 18) (As := [.int (M1.1 1 (2 : Int32).toNatClampNeg)]) (st := []) (i := 0) dX9_cheapest_18 mlX9_178 vmX9_layWays ⟨Nat.le_of_ble_eq_true rfl, Nat.le_of_ble_eq_true rfl⟩ lm_0 rfl rfl (Nat.le_of_ble_eq_true rfl) (ctX9_layWays x.2.1 D cA ad F M1 (M1.1 1 (2 : Int32).toNatClampNeg)) (fun M3 => ?_)
    refine mv_aload_n (pc := 21) (i := 0) 0 dX9_cheapest_21 rfl rfl ?_
    refine mv_iload_n (pc := 22) (i := 1) 1 dX9_cheapest_22 rfl rfl ?_
    refine mv_callVi (pc := 23) (As := [.int a1]) (st := []) (i := 0) dX9_cheapest_23 mlX9_186 vmX9_cheapestOf ⟨Nat.le_of_ble_eq_true rfl, Nat.le_of_ble_eq_true rfl⟩ lm_0 rfl rfl (Nat.le_of_ble_eq_true rfl) (ctX9_cheapestOf x.2.1 D cA ad F M3 a1) (fun v5 M4 => ?_)
    exact mv_ireturn (pc := 26) dX9_cheapest_26 rfl
  · refine mv_ldc (pc := 8) dX9_cheapest_8 kwX9_65 ?_
    exact mv_ireturn (pc := 10) dX9_cheapest_10 rfl

set_option maxRecDepth 100000 in
set_option maxHeartbeats 4000000 in
theorem ctX9_await0 (l : Launch) (D : va_G) (cA : Nat → ClassId) (ad : Nat → Nat) (F : Nat) (M : mv_M) (a1 : Int32) : mv_C l (D, cA, ad, LM) yX9_await0 iX9_await0 mv_rv [.ref (ad 0), .int a1] M (fX9_await0 F M a1) := by
  refine mv_C.ofV (ls := [(0, .ref (ad 0)), (1, .int a1)]) (by decide) rfl (Nat.le_of_ble_eq_true rfl) rfl ?_
  intro x hxl
  subst hxl
  unfold fX9_await0
  refine mv_aload_n (pc := 0) (i := 0) 0 dX9_await0_0 rfl rfl ?_
  refine mv_getR (pc := 1) (i := 0) (j := 8) dX9_await0_1 flX9_32 lm_0 rfl ?_
  refine mv_aload_n (pc := 4) (i := 0) 0 dX9_await0_4 rfl rfl ?_
  refine mv_getI (pc := 5) (i := 0) dX9_await0_5 flX9_189 lm_0 rfl ?_
  refine mv_iload_n (pc := 8) (i := 1) 1 dX9_await0_8 rfl rfl ?_
  refine mv_iast (pc := 9) (i := 8) dX9_await0_9 lm_8 (fun M1 => ?_)
  refine mv_aload_n (pc := 10) (i := 0) 0 dX9_await0_10 rfl rfl ?_
  refine mv_dup (pc := 11) dX9_await0_11 rfl ?_
  refine mv_getI (pc := 12) (i := 0) dX9_await0_12 flX9_189 lm_0 rfl ?_
  refine mv_iconst (pc := 15) dX9_await0_15 kci1 ?_
  refine mv_iadd (pc := 16) dX9_await0_16 ?_
  refine mv_putI (pc := 17) (i := 0) dX9_await0_17 flX9_189 (Or.inl fpX9_15) lm_0 rfl (fun M2 => ?_)
  refine mv_iconst (pc := 20) dX9_await0_20 kci0 ?_
  refine mv_istore_n (pc := 21) (i := 2) (ls' := [(0, .ref (ad 0)), (1, .int a1)]) dX9_await0_21 rfl (Nat.le_of_ble_eq_true rfl) rfl (fun v3 => ?_)
  refine mv_sub [1, 2, 0] rfl ?_
  refine mv_loop (pc := 22) (lj := fun (s4 : Int32 × mv_M) => [(0, .ref (ad 0)), (1, .int a1), (2, .int s4.1)]) (Mj := fun (s4 : Int32 × mv_M) => s4.2) (B := bX9_await0_22 a1 F) ?_ F (v3, M2)
  intro f5 hf5 s4
  unfold bX9_await0_22
  refine mv_iload_n (pc := 22) (i := 2) 2 dX9_await0_22 rfl rfl ?_
  refine mv_bipush (pc := 23) dX9_await0_23 kcb24 ?_
  refine mv_icmp_gt (pc := 25) (tgt := 107) dX9_await0_25 (by decide) ?_ ?_
  · exact mv_return (pc := 107) dX9_await0_107 rfl
  · refine mv_lconst (pc := 28) dX9_await0_28 (by decide +kernel : Int64.ofNat ((0 : Fin 2) : Nat) = (0 : Int64)) ?_
    refine mv_lstore_n (pc := 29) (i := 3) (ls' := [(0, .ref (ad 0)), (1, .int a1), (2, .int s4.1)]) dX9_await0_29 rfl (Nat.le_of_ble_eq_true rfl) rfl (fun v6 => ?_)
    refine mv_iconst (pc := 30) dX9_await0_30 kci1 ?_
    refine mv_istore (pc := 31) (i := 5) (ls' := [(3, .long v6), (0, .ref (ad 0)), (1, .int a1), (2, .int s4.1)]) dX9_await0_31 (Nat.le_of_ble_eq_true rfl) rfl (fun v7 => ?_)
    refine mv_jp (pj := 86) (lj := fun (s8 : Int64 × mv_M) => [(0, .ref (ad 0)), (1, .int a1), (2, .int s4.1), (3, .long s8.1)]) (sj := fun (s8 : Int64 × mv_M) => []) (Mj := fun (s8 : Int64 × mv_M) => s8.2) ?_ ?_
    · intro s8
      refine mv_aload_n (pc := 86) (i := 0) 0 dX9_await0_86 rfl rfl ?_
      refine mv_getR (pc := 87) (i := 0) (j := 9) dX9_await0_87 flX9_35 lm_0 rfl ?_
      refine mv_bipush (pc := 90) dX9_await0_90 kcb25 ?_
      refine mv_aload_n (pc := 92) (i := 0) 0 dX9_await0_92 rfl rfl ?_
      refine mv_getI (pc := 93) (i := 0) dX9_await0_93 flX9_189 lm_0 rfl ?_
      refine mv_imul (pc := 96) dX9_await0_96 ?_
      refine mv_iload_n (pc := 97) (i := 2) 2 dX9_await0_97 rfl rfl ?_
      refine mv_iadd (pc := 98) dX9_await0_98 ?_
      refine mv_lload_n (pc := 99) (i := 3) 3 dX9_await0_99 rfl rfl ?_
      refine mv_last (pc := 100) (i := 9) dX9_await0_100 lm_9 (fun M10 => ?_)
      refine mv_iinc (pc := 101) (i := 2) (ls' := [(0, .ref (ad 0)), (1, .int a1), (3, .long s8.1)]) 2 dX9_await0_101 rfl kci1 (Nat.le_of_ble_eq_true rfl) rfl (fun v11 => ?_)
      refine mv_goto (pc := 104) (tgt := 22) dX9_await0_104 (by decide) ?_
      refine mv_sub [1, 2, 0] rfl ?_
      exact hf5 (v11, M10)
    · intro j9 hj9
      refine mv_sub [2, 3, 4, 1, 0] rfl ?_
      refine mv_loop (pc := 33) (lj := fun (s12 : Int64 × Int32 × mv_M) => [(0, .ref (ad 0)), (1, .int a1), (2, .int s4.1), (3, .long s12.1), (5, .int s12.2.1)]) (Mj := fun (s12 : Int64 × Int32 × mv_M) => s12.2.2) (B := bX9_await0_33 s4 j9 a1 F) ?_ F (v6, v7, s4.2)
      intro f13 hf13 s12
      unfold bX9_await0_33
      refine mv_iload (pc := 33) (i := 5) 4 dX9_await0_33 rfl ?_
      refine mv_iload_n (pc := 35) (i := 2) 2 dX9_await0_35 rfl rfl ?_
      refine mv_icmp_gt (pc := 36) (tgt := 86) dX9_await0_36 (by decide) ?_ ?_
      · refine mv_sub [0, 1, 2, 3] rfl ?_
        exact hj9 (s12.1, s12.2.2)
      · refine mv_lload_n (pc := 39) (i := 3) 3 dX9_await0_39 rfl rfl ?_
        refine mv_aload_n (pc := 40) (i := 0) 0 dX9_await0_40 rfl rfl ?_
        refine mv_getR (pc := 41) (i := 0) (j := 7) dX9_await0_41 flX9_28 lm_0 rfl ?_
        refine mv_bipush (pc := 44) dX9_await0_44 kcb25 ?_
        refine mv_iload_n (pc := 46) (i := 1) 1 dX9_await0_46 rfl rfl ?_
        refine mv_imul (pc := 47) dX9_await0_47 ?_
        refine mv_iload (pc := 48) (i := 5) 4 dX9_await0_48 rfl ?_
        refine mv_iadd (pc := 50) dX9_await0_50 ?_
        refine mv_lald (pc := 51) (i := 7) dX9_await0_51 lm_7 ?_
        refine mv_aload_n (pc := 52) (i := 0) 0 dX9_await0_52 rfl rfl ?_
        refine mv_getR (pc := 53) (i := 0) (j := 9) dX9_await0_53 flX9_35 lm_0 rfl ?_
        refine mv_bipush (pc := 56) dX9_await0_56 kcb25 ?_
        refine mv_aload_n (pc := 58) (i := 0) 0 dX9_await0_58 rfl rfl ?_
        refine mv_getI (pc := 59) (i := 0) dX9_await0_59 flX9_189 lm_0 rfl ?_
        refine mv_iconst (pc := 62) dX9_await0_62 kci1 ?_
        refine mv_isub (pc := 63) dX9_await0_63 ?_
        refine mv_imul (pc := 64) dX9_await0_64 ?_
        refine mv_iload_n (pc := 65) (i := 2) 2 dX9_await0_65 rfl rfl ?_
        refine mv_iadd (pc := 66) dX9_await0_66 ?_
        refine mv_iload (pc := 67) (i := 5) 4 dX9_await0_67 rfl ?_
        refine mv_isub (pc := 69) dX9_await0_69 ?_
        refine mv_lald (pc := 70) (i := 9) dX9_await0_70 lm_9 ?_
        refine mv_lmul (pc := 71) dX9_await0_71 ?_
        refine mv_callSl (pc := 72) (As := [.long ((s12.2.2.2 7 (((25 : Int32) * a1) + s12.2.1).toNatClampNeg) * (s12.2.2.2 9 ((((25 : Int32) * ((s12.2.2.1 0 15) - (1 : Int32))) + s4.1) - s12.2.1).toNatClampNeg))]) (st := [.long s12.1]) dX9_await0_72 mlX9_162 smX9_cut ⟨Nat.le_of_ble_eq_true rfl, Nat.le_of_ble_eq_true rfl⟩ rfl (Nat.le_of_ble_eq_true rfl) (ctX9_cut x.2.1 D cA ad F s12.2.2 ((s12.2.2.2 7 (((25 : Int32) * a1) + s12.2.1).toNatClampNeg) * (s12.2.2.2 9 ((((25 : Int32) * ((s12.2.2.1 0 15) - (1 : Int32))) + s4.1) - s12.2.1).toNatClampNeg))) (fun v15 M14 => ?_)
        refine mv_ladd (pc := 75) dX9_await0_75 ?_
        refine mv_callSl (pc := 76) (As := [.long (s12.1 + v15)]) (st := []) dX9_await0_76 mlX9_162 smX9_cut ⟨Nat.le_of_ble_eq_true rfl, Nat.le_of_ble_eq_true rfl⟩ rfl (Nat.le_of_ble_eq_true rfl) (ctX9_cut x.2.1 D cA ad F M14 (s12.1 + v15)) (fun v17 M16 => ?_)
        refine mv_lstore_n (pc := 79) (i := 3) (ls' := [(0, .ref (ad 0)), (1, .int a1), (2, .int s4.1), (5, .int s12.2.1)]) dX9_await0_79 rfl (Nat.le_of_ble_eq_true rfl) rfl (fun v18 => ?_)
        refine mv_iinc (pc := 80) (i := 5) (ls' := [(3, .long v18), (0, .ref (ad 0)), (1, .int a1), (2, .int s4.1)]) 4 dX9_await0_80 rfl kci1 (Nat.le_of_ble_eq_true rfl) rfl (fun v19 => ?_)
        refine mv_goto (pc := 83) (tgt := 33) dX9_await0_83 (by decide) ?_
        refine mv_sub [2, 3, 4, 1, 0] rfl ?_
        exact hf13 (v18, v19, M16)

set_option maxRecDepth 100000 in
set_option maxHeartbeats 4000000 in
theorem ctX9_awaitsFirst (l : Launch) (D : va_G) (cA : Nat → ClassId) (ad : Nat → Nat) (F : Nat) (M : mv_M) (a1 : Int32) : mv_C l (D, cA, ad, LM) yX9_awaitsFirst iX9_awaitsFirst mv_rv [.ref (ad 0), .int a1] M (fX9_awaitsFirst F M a1) := by
  refine mv_C.ofV (ls := [(0, .ref (ad 0)), (1, .int a1)]) (by decide) rfl (Nat.le_of_ble_eq_true rfl) rfl ?_
  intro x hxl
  subst hxl
  unfold fX9_awaitsFirst
  refine mv_aload_n (pc := 0) (i := 0) 0 dX9_awaitsFirst_0 rfl rfl ?_
  refine mv_iconst (pc := 1) dX9_awaitsFirst_1 kci0 ?_
  refine mv_putI (pc := 2) (i := 0) dX9_awaitsFirst_2 flX9_189 (Or.inl fpX9_15) lm_0 rfl (fun M1 => ?_)
  refine mv_iconst (pc := 5) dX9_awaitsFirst_5 kci0 ?_
  refine mv_istore_n (pc := 6) (i := 2) (ls' := [(0, .ref (ad 0)), (1, .int a1)]) dX9_awaitsFirst_6 rfl (Nat.le_of_ble_eq_true rfl) rfl (fun v2 => ?_)
  refine mv_sub [1, 2, 0] rfl ?_
  refine mv_loop (pc := 7) (lj := fun (s3 : Int32 × mv_M) => [(0, .ref (ad 0)), (1, .int a1), (2, .int s3.1)]) (Mj := fun (s3 : Int32 × mv_M) => s3.2) (B := bX9_awaitsFirst_7 F a1) ?_ F (v2, M1)
  intro f4 hf4 s3
  unfold bX9_awaitsFirst_7
  refine mv_iload_n (pc := 7) (i := 2) 2 dX9_awaitsFirst_7 rfl rfl ?_
  refine mv_bipush (pc := 8) dX9_awaitsFirst_8 kcb24 ?_
  refine mv_icmp_gt (pc := 10) (tgt := 34) dX9_awaitsFirst_10 (by decide) ?_ ?_
  · refine mv_aload_n (pc := 34) (i := 0) 0 dX9_awaitsFirst_34 rfl rfl ?_
    refine mv_iload_n (pc := 35) (i := 1) 1 dX9_awaitsFirst_35 rfl rfl ?_
    refine mv_callVv (pc := 36) (As := [.int a1]) (st := []) (i := 0) dX9_awaitsFirst_36 mlX9_192 vmX9_await0 ⟨Nat.le_of_ble_eq_true rfl, Nat.le_of_ble_eq_true rfl⟩ lm_0 rfl rfl (Nat.le_of_ble_eq_true rfl) (ctX9_await0 x.2.1 D cA ad F s3.2 a1) (fun M5 => ?_)
    exact mv_return (pc := 39) dX9_awaitsFirst_39 rfl
  · refine mv_aload_n (pc := 13) (i := 0) 0 dX9_awaitsFirst_13 rfl rfl ?_
    refine mv_getR (pc := 14) (i := 0) (j := 9) dX9_awaitsFirst_14 flX9_35 lm_0 rfl ?_
    refine mv_iload_n (pc := 17) (i := 2) 2 dX9_awaitsFirst_17 rfl rfl ?_
    refine mv_iload_n (pc := 18) (i := 2) 2 dX9_awaitsFirst_18 rfl rfl ?_
    refine mv_if_ne (pc := 19) (tgt := 26) dX9_awaitsFirst_19 (by decide) ?_ ?_
    · refine mv_lconst (pc := 26) dX9_awaitsFirst_26 (by decide +kernel : Int64.ofNat ((0 : Fin 2) : Nat) = (0 : Int64)) ?_
      refine mv_last (pc := 27) (i := 9) dX9_awaitsFirst_27 lm_9 (fun M6 => ?_)
      refine mv_iinc (pc := 28) (i := 2) (ls' := [(0, .ref (ad 0)), (1, .int a1)]) 2 dX9_awaitsFirst_28 rfl kci1 (Nat.le_of_ble_eq_true rfl) rfl (fun v7 => ?_)
      refine mv_goto (pc := 31) (tgt := 7) dX9_awaitsFirst_31 (by decide) ?_
      refine mv_sub [1, 2, 0] rfl ?_
      exact hf4 (v7, M6)
    · refine mv_lconst (pc := 22) dX9_awaitsFirst_22 (by decide +kernel : Int64.ofNat ((1 : Fin 2) : Nat) = (1 : Int64)) ?_
      refine mv_goto (pc := 23) (tgt := 27) dX9_awaitsFirst_23 (by decide) ?_
      refine mv_last (pc := 27) (i := 9) dX9_awaitsFirst_27 lm_9 (fun M8 => ?_)
      refine mv_iinc (pc := 28) (i := 2) (ls' := [(0, .ref (ad 0)), (1, .int a1)]) 2 dX9_awaitsFirst_28 rfl kci1 (Nat.le_of_ble_eq_true rfl) rfl (fun v9 => ?_)
      refine mv_goto (pc := 31) (tgt := 7) dX9_awaitsFirst_31 (by decide) ?_
      refine mv_sub [1, 2, 0] rfl ?_
      exact hf4 (v9, M8)

set_option maxRecDepth 100000 in
set_option maxHeartbeats 4000000 in
theorem ctX9_gives (l : Launch) (D : va_G) (cA : Nat → ClassId) (ad : Nat → Nat) (F : Nat) (M : mv_M) (a1 : Int32) : mv_C l (D, cA, ad, LM) yX9_gives iX9_gives mv_rv [.ref (ad 0), .int a1] M (fX9_gives F M a1) := by
  refine mv_C.ofV (ls := [(0, .ref (ad 0)), (1, .int a1)]) (by decide) rfl (Nat.le_of_ble_eq_true rfl) rfl ?_
  intro x hxl
  subst hxl
  unfold fX9_gives
  refine mv_aload_n (pc := 0) (i := 0) 0 dX9_gives_0 rfl rfl ?_
  refine mv_dup (pc := 1) dX9_gives_1 rfl ?_
  refine mv_getI (pc := 2) (i := 0) dX9_gives_2 flX9_189 lm_0 rfl ?_
  refine mv_iconst (pc := 5) dX9_gives_5 kci1 ?_
  refine mv_isub (pc := 6) dX9_gives_6 ?_
  refine mv_putI (pc := 7) (i := 0) dX9_gives_7 flX9_189 (Or.inl fpX9_15) lm_0 rfl (fun M1 => ?_)
  refine mv_aload_n (pc := 10) (i := 0) 0 dX9_gives_10 rfl rfl ?_
  refine mv_getR (pc := 11) (i := 0) (j := 1) dX9_gives_11 flX9_7 lm_0 rfl ?_
  refine mv_bipush (pc := 14) dX9_gives_14 kcb47 ?_
  refine mv_iload_n (pc := 16) (i := 1) 1 dX9_gives_16 rfl rfl ?_
  refine mv_iadd (pc := 17) dX9_gives_17 ?_
  refine mv_iald (pc := 18) (i := 1) dX9_gives_18 lm_1 ?_
  refine mv_iconst (pc := 19) dX9_gives_19 kci1 ?_
  refine mv_isub (pc := 20) dX9_gives_20 ?_
  refine mv_istore_n (pc := 21) (i := 2) (ls' := [(0, .ref (ad 0)), (1, .int a1)]) dX9_gives_21 rfl (Nat.le_of_ble_eq_true rfl) rfl (fun v2 => ?_)
  refine mv_sub [1, 2, 0] rfl ?_
  refine mv_loop (pc := 22) (lj := fun (s3 : Int32 × mv_M) => [(0, .ref (ad 0)), (1, .int a1), (2, .int s3.1)]) (Mj := fun (s3 : Int32 × mv_M) => s3.2) (B := bX9_gives_22 a1 F) ?_ F (v2, M1)
  intro f4 hf4 s3
  unfold bX9_gives_22
  refine mv_iload_n (pc := 22) (i := 2) 2 dX9_gives_22 rfl rfl ?_
  refine mv_if_lt (pc := 23) (tgt := 50) dX9_gives_23 (by decide) ?_ ?_
  · exact mv_return (pc := 50) dX9_gives_50 rfl
  · refine mv_aload_n (pc := 26) (i := 0) 0 dX9_gives_26 rfl rfl ?_
    refine mv_aload_n (pc := 27) (i := 0) 0 dX9_gives_27 rfl rfl ?_
    refine mv_getR (pc := 28) (i := 0) (j := 1) dX9_gives_28 flX9_7 lm_0 rfl ?_
    refine mv_bipush (pc := 31) dX9_gives_31 kcb59 ?_
    refine mv_bipush (pc := 33) dX9_gives_33 kcb12 ?_
    refine mv_iload_n (pc := 35) (i := 2) 2 dX9_gives_35 rfl rfl ?_
    refine mv_imul (pc := 36) dX9_gives_36 ?_
    refine mv_iadd (pc := 37) dX9_gives_37 ?_
    refine mv_iload_n (pc := 38) (i := 1) 1 dX9_gives_38 rfl rfl ?_
    refine mv_iadd (pc := 39) dX9_gives_39 ?_
    refine mv_iald (pc := 40) (i := 1) dX9_gives_40 lm_1 ?_
    refine mv_callVv (pc := 41) (As := [.int (s3.2.1 1 (((59 : Int32) + ((12 : Int32) * s3.1)) + a1).toNatClampNeg)]) (st := []) (i := 0) dX9_gives_41 mlX9_192 vmX9_await0 ⟨Nat.le_of_ble_eq_true rfl, Nat.le_of_ble_eq_true rfl⟩ lm_0 rfl rfl (Nat.le_of_ble_eq_true rfl) (ctX9_await0 x.2.1 D cA ad F s3.2 (s3.2.1 1 (((59 : Int32) + ((12 : Int32) * s3.1)) + a1).toNatClampNeg)) (fun M5 => ?_)
    refine mv_iinc (pc := 44) (i := 2) (ls' := [(0, .ref (ad 0)), (1, .int a1)]) 2 dX9_gives_44 rfl kcim1 (Nat.le_of_ble_eq_true rfl) rfl (fun v6 => ?_)
    refine mv_goto (pc := 47) (tgt := 22) dX9_gives_47 (by decide) ?_
    refine mv_sub [1, 2, 0] rfl ?_
    exact hf4 (v6, M5)

set_option maxRecDepth 100000 in
set_option maxHeartbeats 4000000 in
theorem ctX9_goesOn (l : Launch) (D : va_G) (cA : Nat → ClassId) (ad : Nat → Nat) (F : Nat) (M : mv_M) (a1 : Int32) (a2 : Int32) : mv_C l (D, cA, ad, LM) yX9_goesOn iX9_goesOn mv_rl [.ref (ad 0), .int a1, .int a2] M (fX9_goesOn F M a1 a2) := by
  refine mv_C.ofV (ls := [(0, .ref (ad 0)), (1, .int a1), (2, .int a2)]) (by decide) rfl (Nat.le_of_ble_eq_true rfl) rfl ?_
  intro x hxl
  subst hxl
  unfold fX9_goesOn
  refine mv_iload_n (pc := 0) (i := 2) 2 dX9_goesOn_0 rfl rfl ?_
  refine mv_aload_n (pc := 1) (i := 0) 0 dX9_goesOn_1 rfl rfl ?_
  refine mv_iload_n (pc := 2) (i := 1) 1 dX9_goesOn_2 rfl rfl ?_
  refine mv_callVi (pc := 3) (As := [.int a1]) (st := [.int a2]) (i := 0) dX9_goesOn_3 mlX9_146 vmX9_priceOf ⟨Nat.le_of_ble_eq_true rfl, Nat.le_of_ble_eq_true rfl⟩ lm_0 rfl rfl (Nat.le_of_ble_eq_true rfl) (ctX9_priceOf x.2.1 D cA ad F M a1) (fun v2 M1 => ?_)
  refine mv_isub (pc := 6) dX9_goesOn_6 ?_
  refine mv_istore_n (pc := 7) (i := 3) (ls' := [(0, .ref (ad 0)), (1, .int a1), (2, .int a2)]) dX9_goesOn_7 rfl (Nat.le_of_ble_eq_true rfl) rfl (fun v3 => ?_)
  refine mv_aload_n (pc := 8) (i := 0) 1 dX9_goesOn_8 rfl rfl ?_
  refine mv_getR (pc := 9) (i := 0) (j := 8) dX9_goesOn_9 flX9_32 lm_0 rfl ?_
  refine mv_aload_n (pc := 12) (i := 0) 1 dX9_goesOn_12 rfl rfl ?_
  refine mv_getI (pc := 13) (i := 0) dX9_goesOn_13 flX9_189 lm_0 rfl ?_
  refine mv_iconst (pc := 16) dX9_goesOn_16 kci1 ?_
  refine mv_isub (pc := 17) dX9_goesOn_17 ?_
  refine mv_iald (pc := 18) (i := 8) dX9_goesOn_18 lm_8 ?_
  refine mv_istore (pc := 19) (i := 4) (ls' := [(3, .int v3), (0, .ref (ad 0)), (1, .int a1), (2, .int a2)]) dX9_goesOn_19 (Nat.le_of_ble_eq_true rfl) rfl (fun v4 => ?_)
  refine mv_iload_n (pc := 21) (i := 3) 1 dX9_goesOn_21 rfl rfl ?_
  refine mv_if_lt (pc := 22) (tgt := 56) dX9_goesOn_22 (by decide) ?_ ?_
  · refine mv_lconst (pc := 56) dX9_goesOn_56 (by decide +kernel : Int64.ofNat ((0 : Fin 2) : Nat) = (0 : Int64)) ?_
    exact mv_lreturn (pc := 57) dX9_goesOn_57 rfl
  · refine mv_aload_n (pc := 25) (i := 0) 2 dX9_goesOn_25 rfl rfl ?_
    refine mv_getR (pc := 26) (i := 0) (j := 1) dX9_goesOn_26 flX9_7 lm_0 rfl ?_
    refine mv_iconst (pc := 29) dX9_goesOn_29 kci2 ?_
    refine mv_iald (pc := 30) (i := 1) dX9_goesOn_30 lm_1 ?_
    refine mv_iload_n (pc := 31) (i := 1) 3 dX9_goesOn_31 rfl rfl ?_
    refine mv_callSi (pc := 32) (As := [.int (M1.1 1 (2 : Int32).toNatClampNeg), .int a1]) (st := []) dX9_goesOn_32 mlX9_166 smX9_has ⟨Nat.le_of_ble_eq_true rfl, Nat.le_of_ble_eq_true rfl⟩ rfl (Nat.le_of_ble_eq_true rfl) (ctX9_has x.2.1 D cA ad F M1 (M1.1 1 (2 : Int32).toNatClampNeg) a1) (fun v6 M5 => ?_)
    refine mv_if_ne (pc := 35) (tgt := 56) dX9_goesOn_35 (by decide) ?_ ?_
    · refine mv_lconst (pc := 56) dX9_goesOn_56 (by decide +kernel : Int64.ofNat ((0 : Fin 2) : Nat) = (0 : Int64)) ?_
      exact mv_lreturn (pc := 57) dX9_goesOn_57 rfl
    · refine mv_aload_n (pc := 38) (i := 0) 2 dX9_goesOn_38 rfl rfl ?_
      refine mv_aload_n (pc := 39) (i := 0) 2 dX9_goesOn_39 rfl rfl ?_
      refine mv_getR (pc := 40) (i := 0) (j := 1) dX9_goesOn_40 flX9_7 lm_0 rfl ?_
      refine mv_bipush (pc := 43) dX9_goesOn_43 kcb23 ?_
      refine mv_iload_n (pc := 45) (i := 1) 3 dX9_goesOn_45 rfl rfl ?_
      refine mv_iadd (pc := 46) dX9_goesOn_46 ?_
      refine mv_iald (pc := 47) (i := 1) dX9_goesOn_47 lm_1 ?_
      refine mv_iload (pc := 48) (i := 4) 0 dX9_goesOn_48 rfl ?_
      refine mv_callVi (pc := 50) (As := [.int (M5.1 1 ((23 : Int32) + a1).toNatClampNeg), .int v4]) (st := []) (i := 0) dX9_goesOn_50 mlX9_150 vmX9_isOf ⟨Nat.le_of_ble_eq_true rfl, Nat.le_of_ble_eq_true rfl⟩ lm_0 rfl rfl (Nat.le_of_ble_eq_true rfl) (ctX9_isOf x.2.1 D cA ad F M5 (M5.1 1 ((23 : Int32) + a1).toNatClampNeg) v4) (fun v8 M7 => ?_)
      refine mv_if_ne (pc := 53) (tgt := 58) dX9_goesOn_53 (by decide) ?_ ?_
      · refine mv_aload_n (pc := 58) (i := 0) 2 dX9_goesOn_58 rfl rfl ?_
        refine mv_iload_n (pc := 59) (i := 1) 3 dX9_goesOn_59 rfl rfl ?_
        refine mv_callVv (pc := 60) (As := [.int a1]) (st := []) (i := 0) dX9_goesOn_60 mlX9_195 vmX9_gives ⟨Nat.le_of_ble_eq_true rfl, Nat.le_of_ble_eq_true rfl⟩ lm_0 rfl rfl (Nat.le_of_ble_eq_true rfl) (ctX9_gives x.2.1 D cA ad F M7 a1) (fun M9 => ?_)
        refine mv_aload_n (pc := 63) (i := 0) 2 dX9_goesOn_63 rfl rfl ?_
        refine mv_getR (pc := 64) (i := 0) (j := 9) dX9_goesOn_64 flX9_35 lm_0 rfl ?_
        refine mv_bipush (pc := 67) dX9_goesOn_67 kcb25 ?_
        refine mv_aload_n (pc := 69) (i := 0) 2 dX9_goesOn_69 rfl rfl ?_
        refine mv_getI (pc := 70) (i := 0) dX9_goesOn_70 flX9_189 lm_0 rfl ?_
        refine mv_imul (pc := 73) dX9_goesOn_73 ?_
        refine mv_iload_n (pc := 74) (i := 3) 1 dX9_goesOn_74 rfl rfl ?_
        refine mv_iadd (pc := 75) dX9_goesOn_75 ?_
        refine mv_lald (pc := 76) (i := 9) dX9_goesOn_76 lm_9 ?_
        refine mv_lstore (pc := 77) (i := 5) (ls' := [(4, .int v4), (3, .int v3), (0, .ref (ad 0)), (1, .int a1), (2, .int a2)]) dX9_goesOn_77 (Nat.le_of_ble_eq_true rfl) rfl (fun v10 => ?_)
        refine mv_aload_n (pc := 79) (i := 0) 3 dX9_goesOn_79 rfl rfl ?_
        refine mv_dup (pc := 80) dX9_goesOn_80 rfl ?_
        refine mv_getI (pc := 81) (i := 0) dX9_goesOn_81 flX9_189 lm_0 rfl ?_
        refine mv_aload_n (pc := 84) (i := 0) 3 dX9_goesOn_84 rfl rfl ?_
        refine mv_getR (pc := 85) (i := 0) (j := 1) dX9_goesOn_85 flX9_7 lm_0 rfl ?_
        refine mv_bipush (pc := 88) dX9_goesOn_88 kcb47 ?_
        refine mv_iload_n (pc := 90) (i := 1) 4 dX9_goesOn_90 rfl rfl ?_
        refine mv_iadd (pc := 91) dX9_goesOn_91 ?_
        refine mv_iald (pc := 92) (i := 1) dX9_goesOn_92 lm_1 ?_
        refine mv_isub (pc := 93) dX9_goesOn_93 ?_
        refine mv_putI (pc := 94) (i := 0) dX9_goesOn_94 flX9_189 (Or.inl fpX9_15) lm_0 rfl (fun M11 => ?_)
        refine mv_aload_n (pc := 97) (i := 0) 3 dX9_goesOn_97 rfl rfl ?_
        refine mv_iload (pc := 98) (i := 4) 1 dX9_goesOn_98 rfl ?_
        refine mv_callVv (pc := 100) (As := [.int v4]) (st := []) (i := 0) dX9_goesOn_100 mlX9_192 vmX9_await0 ⟨Nat.le_of_ble_eq_true rfl, Nat.le_of_ble_eq_true rfl⟩ lm_0 rfl rfl (Nat.le_of_ble_eq_true rfl) (ctX9_await0 x.2.1 D cA ad F M11 v4) (fun M12 => ?_)
        refine mv_lload (pc := 103) (i := 5) 0 dX9_goesOn_103 rfl ?_
        exact mv_lreturn (pc := 105) dX9_goesOn_105 rfl
      · refine mv_lconst (pc := 56) dX9_goesOn_56 (by decide +kernel : Int64.ofNat ((0 : Fin 2) : Nat) = (0 : Int64)) ?_
        exact mv_lreturn (pc := 57) dX9_goesOn_57 rfl

set_option maxRecDepth 100000 in
set_option maxHeartbeats 4000000 in
theorem ctX9_laysCode (l : Launch) (D : va_G) (cA : Nat → ClassId) (ad : Nat → Nat) (F : Nat) (M : mv_M) (a1 : Int32) (a2 : Int32) : mv_C l (D, cA, ad, LM) yX9_laysCode iX9_laysCode mv_ri [.ref (ad 0), .int a1, .int a2] M (fX9_laysCode F M a1 a2) := by
  refine mv_C.ofV (ls := [(0, .ref (ad 0)), (1, .int a1), (2, .int a2)]) (by decide) rfl (Nat.le_of_ble_eq_true rfl) rfl ?_
  intro x hxl
  subst hxl
  unfold fX9_laysCode
  refine mv_iload_n (pc := 0) (i := 2) 2 dX9_laysCode_0 rfl rfl ?_
  refine mv_i2l (pc := 1) dX9_laysCode_1 ?_
  refine mv_lstore_n (pc := 2) (i := 3) (ls' := [(0, .ref (ad 0)), (1, .int a1), (2, .int a2)]) dX9_laysCode_2 rfl (Nat.le_of_ble_eq_true rfl) rfl (fun v1 => ?_)
  refine mv_iconst (pc := 3) dX9_laysCode_3 kci1 ?_
  refine mv_istore (pc := 4) (i := 5) (ls' := [(3, .long v1), (0, .ref (ad 0)), (1, .int a1), (2, .int a2)]) dX9_laysCode_4 (Nat.le_of_ble_eq_true rfl) rfl (fun v2 => ?_)
  refine mv_jp (pj := 51) (lj := fun (s3 : Int64 × Int32 × mv_M) => [(0, .ref (ad 0)), (1, .int a1), (3, .long s3.1), (5, .int s3.2.1)]) (sj := fun (s3 : Int64 × Int32 × mv_M) => []) (Mj := fun (s3 : Int64 × Int32 × mv_M) => s3.2.2) ?_ ?_
  · intro s3
    refine mv_aload_n (pc := 51) (i := 0) 0 dX9_laysCode_51 rfl rfl ?_
    refine mv_iconst (pc := 52) dX9_laysCode_52 kci0 ?_
    refine mv_putI (pc := 53) (i := 0) dX9_laysCode_53 flX9_198 (Or.inl fpX9_18) lm_0 rfl (fun M5 => ?_)
    refine mv_aload_n (pc := 56) (i := 0) 0 dX9_laysCode_56 rfl rfl ?_
    refine mv_iload (pc := 57) (i := 5) 3 dX9_laysCode_57 rfl ?_
    refine mv_putI (pc := 59) (i := 0) dX9_laysCode_59 flX9_201 (Or.inl fpX9_19) lm_0 rfl (fun M6 => ?_)
    refine mv_iload (pc := 62) (i := 5) 3 dX9_laysCode_62 rfl ?_
    refine mv_bipush (pc := 64) dX9_laysCode_64 kcb24 ?_
    refine mv_icmp_le (pc := 66) (tgt := 71) dX9_laysCode_66 (by decide) ?_ ?_
    · refine mv_aload_n (pc := 71) (i := 0) 0 dX9_laysCode_71 rfl rfl ?_
      refine mv_iload_n (pc := 72) (i := 1) 1 dX9_laysCode_72 rfl rfl ?_
      refine mv_callVv (pc := 73) (As := [.int a1]) (st := []) (i := 0) dX9_laysCode_73 mlX9_204 vmX9_awaitsFirst ⟨Nat.le_of_ble_eq_true rfl, Nat.le_of_ble_eq_true rfl⟩ lm_0 rfl rfl (Nat.le_of_ble_eq_true rfl) (ctX9_awaitsFirst x.2.1 D cA ad F M6 a1) (fun M7 => ?_)
      refine mv_iload (pc := 76) (i := 5) 3 dX9_laysCode_76 rfl ?_
      refine mv_istore (pc := 78) (i := 6) (ls' := [(0, .ref (ad 0)), (1, .int a1), (3, .long s3.1), (5, .int s3.2.1)]) dX9_laysCode_78 (Nat.le_of_ble_eq_true rfl) rfl (fun v8 => ?_)
      refine mv_sub [1, 3, 0] rfl ?_
      refine mv_loop (pc := 80) (lj := fun (s9 : Int64 × Int32 × mv_M) => [(0, .ref (ad 0)), (3, .long s9.1), (6, .int s9.2.1)]) (Mj := fun (s9 : Int64 × Int32 × mv_M) => s9.2.2) (B := bX9_laysCode_80 F) ?_ F (s3.1, v8, M7)
      intro f10 hf10 s9
      unfold bX9_laysCode_80
      refine mv_aload_n (pc := 80) (i := 0) 0 dX9_laysCode_80 rfl rfl ?_
      refine mv_getI (pc := 81) (i := 0) dX9_laysCode_81 flX9_189 lm_0 rfl ?_
      refine mv_if_le (pc := 84) (tgt := 169) dX9_laysCode_84 (by decide) ?_ ?_
      · refine mv_iconst (pc := 169) dX9_laysCode_169 kci1 ?_
        exact mv_zreturn (pc := 170) dX9_laysCode_170 rfl
      · refine mv_iconst (pc := 87) dX9_laysCode_87 kci0 ?_
        refine mv_istore (pc := 88) (i := 7) (ls' := [(0, .ref (ad 0)), (3, .long s9.1), (6, .int s9.2.1)]) dX9_laysCode_88 (Nat.le_of_ble_eq_true rfl) rfl (fun v11 => ?_)
        refine mv_aload_n (pc := 90) (i := 0) 1 dX9_laysCode_90 rfl rfl ?_
        refine mv_iload (pc := 91) (i := 7) 0 dX9_laysCode_91 rfl ?_
        refine mv_iload (pc := 93) (i := 6) 3 dX9_laysCode_93 rfl ?_
        refine mv_callVl (pc := 95) (As := [.int v11, .int s9.2.1]) (st := []) (i := 0) dX9_laysCode_95 mlX9_207 vmX9_goesOn ⟨Nat.le_of_ble_eq_true rfl, Nat.le_of_ble_eq_true rfl⟩ lm_0 rfl rfl (Nat.le_of_ble_eq_true rfl) (ctX9_goesOn x.2.1 D cA ad F s9.2.2 v11 s9.2.1) (fun v13 M12 => ?_)
        refine mv_lstore (pc := 98) (i := 8) (ls' := [(7, .int v11), (0, .ref (ad 0)), (3, .long s9.1), (6, .int s9.2.1)]) dX9_laysCode_98 (Nat.le_of_ble_eq_true rfl) rfl (fun v14 => ?_)
        refine mv_jp (pj := 128) (lj := fun (s15 : Int64 × Int32 × mv_M) => [(0, .ref (ad 0)), (3, .long s15.1), (6, .int s9.2.1), (7, .int s15.2.1)]) (sj := fun (s15 : Int64 × Int32 × mv_M) => []) (Mj := fun (s15 : Int64 × Int32 × mv_M) => s15.2.2) ?_ ?_
        · intro s15
          refine mv_aload_n (pc := 128) (i := 0) 0 dX9_laysCode_128 rfl rfl ?_
          refine mv_getR (pc := 129) (i := 0) (j := 10) dX9_laysCode_129 flX9_38 lm_0 rfl ?_
          refine mv_aload_n (pc := 132) (i := 0) 0 dX9_laysCode_132 rfl rfl ?_
          refine mv_getI (pc := 133) (i := 0) dX9_laysCode_133 flX9_198 lm_0 rfl ?_
          refine mv_iload (pc := 136) (i := 7) 3 dX9_laysCode_136 rfl ?_
          refine mv_iast (pc := 138) (i := 10) dX9_laysCode_138 lm_10 (fun M17 => ?_)
          refine mv_aload_n (pc := 139) (i := 0) 0 dX9_laysCode_139 rfl rfl ?_
          refine mv_dup (pc := 140) dX9_laysCode_140 rfl ?_
          refine mv_getI (pc := 141) (i := 0) dX9_laysCode_141 flX9_198 lm_0 rfl ?_
          refine mv_iconst (pc := 144) dX9_laysCode_144 kci1 ?_
          refine mv_iadd (pc := 145) dX9_laysCode_145 ?_
          refine mv_putI (pc := 146) (i := 0) dX9_laysCode_146 flX9_198 (Or.inl fpX9_18) lm_0 rfl (fun M18 => ?_)
          refine mv_iload (pc := 149) (i := 6) 2 dX9_laysCode_149 rfl ?_
          refine mv_aload_n (pc := 151) (i := 0) 0 dX9_laysCode_151 rfl rfl ?_
          refine mv_iload (pc := 152) (i := 7) 3 dX9_laysCode_152 rfl ?_
          refine mv_callVi (pc := 154) (As := [.int s15.2.1]) (st := [.int s9.2.1]) (i := 0) dX9_laysCode_154 mlX9_146 vmX9_priceOf ⟨Nat.le_of_ble_eq_true rfl, Nat.le_of_ble_eq_true rfl⟩ lm_0 rfl rfl (Nat.le_of_ble_eq_true rfl) (ctX9_priceOf x.2.1 D cA ad F M18 s15.2.1) (fun v20 M19 => ?_)
          refine mv_isub (pc := 157) dX9_laysCode_157 ?_
          refine mv_istore (pc := 158) (i := 6) (ls' := [(0, .ref (ad 0)), (3, .long s15.1), (7, .int s15.2.1)]) dX9_laysCode_158 (Nat.le_of_ble_eq_true rfl) rfl (fun v21 => ?_)
          refine mv_aload_n (pc := 160) (i := 0) 1 dX9_laysCode_160 rfl rfl ?_
          refine mv_iload (pc := 161) (i := 7) 3 dX9_laysCode_161 rfl ?_
          refine mv_callVv (pc := 163) (As := [.int s15.2.1]) (st := []) (i := 0) dX9_laysCode_163 mlX9_195 vmX9_gives ⟨Nat.le_of_ble_eq_true rfl, Nat.le_of_ble_eq_true rfl⟩ lm_0 rfl rfl (Nat.le_of_ble_eq_true rfl) (ctX9_gives x.2.1 D cA ad F M19 s15.2.1) (fun M22 => ?_)
          refine mv_goto (pc := 166) (tgt := 80) dX9_laysCode_166 (by decide) ?_
          refine mv_sub [1, 2, 0] rfl ?_
          exact hf10 (s15.1, v21, M22)
        · intro j16 hj16
          refine mv_sub [2, 3, 4, 1, 0] rfl ?_
          refine mv_loop (pc := 100) (lj := fun (s23 : Int64 × Int32 × Int64 × mv_M) => [(0, .ref (ad 0)), (3, .long s23.1), (6, .int s9.2.1), (7, .int s23.2.1), (8, .long s23.2.2.1)]) (Mj := fun (s23 : Int64 × Int32 × Int64 × mv_M) => s23.2.2.2) (B := bX9_laysCode_100 j16 F s9) ?_ F (s9.1, v11, v14, M12)
          intro f24 hf24 s23
          unfold bX9_laysCode_100
          refine mv_lload_n (pc := 100) (i := 3) 1 dX9_laysCode_100 rfl rfl ?_
          refine mv_lload (pc := 101) (i := 8) 4 dX9_laysCode_101 rfl ?_
          refine mv_lcmp (pc := 103) dX9_laysCode_103 ?_
          refine mv_if_lt (pc := 104) (tgt := 128) dX9_laysCode_104 (by decide) ?_ ?_
          · refine mv_sub [0, 1, 2, 3] rfl ?_
            exact hj16 (s23.1, s23.2.1, s23.2.2.2)
          · refine mv_lload_n (pc := 107) (i := 3) 1 dX9_laysCode_107 rfl rfl ?_
            refine mv_lload (pc := 108) (i := 8) 4 dX9_laysCode_108 rfl ?_
            refine mv_lsub (pc := 110) dX9_laysCode_110 ?_
            refine mv_lstore_n (pc := 111) (i := 3) (ls' := [(0, .ref (ad 0)), (6, .int s9.2.1), (7, .int s23.2.1), (8, .long s23.2.2.1)]) dX9_laysCode_111 rfl (Nat.le_of_ble_eq_true rfl) rfl (fun v25 => ?_)
            refine mv_iinc (pc := 112) (i := 7) (ls' := [(3, .long v25), (0, .ref (ad 0)), (6, .int s9.2.1), (8, .long s23.2.2.1)]) 3 dX9_laysCode_112 rfl kci1 (Nat.le_of_ble_eq_true rfl) rfl (fun v26 => ?_)
            refine mv_aload_n (pc := 115) (i := 0) 2 dX9_laysCode_115 rfl rfl ?_
            refine mv_iload (pc := 116) (i := 7) 0 dX9_laysCode_116 rfl ?_
            refine mv_iload (pc := 118) (i := 6) 3 dX9_laysCode_118 rfl ?_
            refine mv_callVl (pc := 120) (As := [.int v26, .int s9.2.1]) (st := []) (i := 0) dX9_laysCode_120 mlX9_207 vmX9_goesOn ⟨Nat.le_of_ble_eq_true rfl, Nat.le_of_ble_eq_true rfl⟩ lm_0 rfl rfl (Nat.le_of_ble_eq_true rfl) (ctX9_goesOn x.2.1 D cA ad F s23.2.2.2 v26 s9.2.1) (fun v28 M27 => ?_)
            refine mv_lstore (pc := 123) (i := 8) (ls' := [(7, .int v26), (3, .long v25), (0, .ref (ad 0)), (6, .int s9.2.1)]) dX9_laysCode_123 (Nat.le_of_ble_eq_true rfl) rfl (fun v29 => ?_)
            refine mv_goto (pc := 125) (tgt := 100) dX9_laysCode_125 (by decide) ?_
            refine mv_sub [3, 2, 4, 1, 0] rfl ?_
            exact hf24 (v25, v26, v29, M27)
    · refine mv_iconst (pc := 69) dX9_laysCode_69 kci0 ?_
      exact mv_zreturn (pc := 70) dX9_laysCode_70 rfl
  · intro j4 hj4
    refine mv_sub [2, 3, 1, 0] rfl ?_
    refine mv_loop (pc := 6) (lj := fun (s30 : Int64 × Int32 × mv_M) => [(0, .ref (ad 0)), (1, .int a1), (3, .long s30.1), (5, .int s30.2.1)]) (Mj := fun (s30 : Int64 × Int32 × mv_M) => s30.2.2) (B := bX9_laysCode_6 j4 a1) ?_ F (v1, v2, M)
    intro f31 hf31 s30
    unfold bX9_laysCode_6
    refine mv_iload (pc := 6) (i := 5) 3 dX9_laysCode_6 rfl ?_
    refine mv_bipush (pc := 8) dX9_laysCode_8 kcb24 ?_
    refine mv_icmp_gt (pc := 10) (tgt := 51) dX9_laysCode_10 (by decide) ?_ ?_
    · exact hj4 (s30.1, s30.2.1, s30.2.2)
    · refine mv_lload_n (pc := 13) (i := 3) 2 dX9_laysCode_13 rfl rfl ?_
      refine mv_aload_n (pc := 14) (i := 0) 0 dX9_laysCode_14 rfl rfl ?_
      refine mv_getR (pc := 15) (i := 0) (j := 7) dX9_laysCode_15 flX9_28 lm_0 rfl ?_
      refine mv_bipush (pc := 18) dX9_laysCode_18 kcb25 ?_
      refine mv_iload_n (pc := 20) (i := 1) 1 dX9_laysCode_20 rfl rfl ?_
      refine mv_imul (pc := 21) dX9_laysCode_21 ?_
      refine mv_iload (pc := 22) (i := 5) 3 dX9_laysCode_22 rfl ?_
      refine mv_iadd (pc := 24) dX9_laysCode_24 ?_
      refine mv_lald (pc := 25) (i := 7) dX9_laysCode_25 lm_7 ?_
      refine mv_lcmp (pc := 26) dX9_laysCode_26 ?_
      refine mv_if_lt (pc := 27) (tgt := 51) dX9_laysCode_27 (by decide) ?_ ?_
      · exact hj4 (s30.1, s30.2.1, s30.2.2)
      · refine mv_lload_n (pc := 30) (i := 3) 2 dX9_laysCode_30 rfl rfl ?_
        refine mv_aload_n (pc := 31) (i := 0) 0 dX9_laysCode_31 rfl rfl ?_
        refine mv_getR (pc := 32) (i := 0) (j := 7) dX9_laysCode_32 flX9_28 lm_0 rfl ?_
        refine mv_bipush (pc := 35) dX9_laysCode_35 kcb25 ?_
        refine mv_iload_n (pc := 37) (i := 1) 1 dX9_laysCode_37 rfl rfl ?_
        refine mv_imul (pc := 38) dX9_laysCode_38 ?_
        refine mv_iload (pc := 39) (i := 5) 3 dX9_laysCode_39 rfl ?_
        refine mv_iadd (pc := 41) dX9_laysCode_41 ?_
        refine mv_lald (pc := 42) (i := 7) dX9_laysCode_42 lm_7 ?_
        refine mv_lsub (pc := 43) dX9_laysCode_43 ?_
        refine mv_lstore_n (pc := 44) (i := 3) (ls' := [(0, .ref (ad 0)), (1, .int a1), (5, .int s30.2.1)]) dX9_laysCode_44 rfl (Nat.le_of_ble_eq_true rfl) rfl (fun v32 => ?_)
        refine mv_iinc (pc := 45) (i := 5) (ls' := [(3, .long v32), (0, .ref (ad 0)), (1, .int a1)]) 3 dX9_laysCode_45 rfl kci1 (Nat.le_of_ble_eq_true rfl) rfl (fun v33 => ?_)
        refine mv_goto (pc := 48) (tgt := 6) dX9_laysCode_48 (by decide) ?_
        refine mv_sub [2, 3, 1, 0] rfl ?_
        exact hf31 (v32, v33, s30.2.2)
