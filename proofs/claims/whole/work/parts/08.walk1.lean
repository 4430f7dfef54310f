set_option maxRecDepth 100000 in
set_option maxHeartbeats 4000000 in
theorem ctX8_standAs_o43 (l : Launch) (D : va_G) (cA : Nat → ClassId) (ad : Nat → Nat) (F : Nat) (M : mv_M) : mv_C l (D, cA, ad, LX) yX8_standAs iX8_standAs mv_rv [.ref (ad 0), .ref (ad 43)] M (fX8_standAs_o43 F M) := by
  refine mv_C.ofV (ls := [(0, .ref (ad 0)), (1, .ref (ad 43))]) (by decide) rfl (Nat.le_of_ble_eq_true rfl) rfl ?_
  intro x hxl
  subst hxl
  unfold fX8_standAs_o43
  refine mv_aload_n (pc := 0) (i := 0) 0 dX8_standAs_0 rfl rfl ?_
  refine mv_getR (pc := 1) (i := 0) (j := 1) dX8_standAs_1 flX8_10 lx_0 rfl ?_
  refine mv_aload_n (pc := 4) (i := 1) 1 dX8_standAs_4 rfl rfl ?_
  refine mv_callVv (pc := 5) (As := [.ref (ad 43)]) (st := []) (i := 1) dX8_standAs_5 mlX8_278 vmX7_become ⟨Nat.le_of_ble_eq_true rfl, Nat.le_of_ble_eq_true rfl⟩ lx_1 rfl rfl (Nat.le_of_ble_eq_true rfl) (ctX7_become_o43 x.2.1 D cA ad F M) (fun M1 => ?_)
  refine mv_aload_n (pc := 8) (i := 0) 0 dX8_standAs_8 rfl rfl ?_
  refine mv_getR (pc := 9) (i := 0) (j := 52) dX8_standAs_9 flX8_37 lx_0 rfl ?_
  refine mv_iconst (pc := 12) dX8_standAs_12 kci0 ?_
  refine mv_putI (pc := 13) (i := 52) dX8_standAs_13 flX8_179 (Or.inl fpX0_3) lx_52 rfl (fun M2 => ?_)
  refine mv_aload_n (pc := 16) (i := 0) 0 dX8_standAs_16 rfl rfl ?_
  refine mv_getR (pc := 17) (i := 0) (j := 58) dX8_standAs_17 flX8_53 lx_0 rfl ?_
  refine mv_iconst (pc := 20) dX8_standAs_20 kci0 ?_
  refine mv_putI (pc := 21) (i := 58) dX8_standAs_21 flX8_309 (Or.inr ⟨fpX2_1, Or.inl rfl⟩) lx_58 rfl (fun M3 => ?_)
  exact mv_return (pc := 24) dX8_standAs_24 rfl

set_option maxRecDepth 100000 in
set_option maxHeartbeats 4000000 in
theorem ctX8_world (l : Launch) (D : va_G) (cA : Nat → ClassId) (ad : Nat → Nat) (F : Nat) (M : mv_M) : mv_C l (D, cA, ad, LX) yX8_world iX8_world mv_ri [.ref (ad 0)] M (fX8_world F M) := by
  refine mv_C.ofV (ls := [(0, .ref (ad 0))]) (by decide) rfl (Nat.le_of_ble_eq_true rfl) rfl ?_
  intro x hxl
  subst hxl
  unfold fX8_world
  refine mv_aload_n (pc := 0) (i := 0) 0 dX8_world_0 rfl rfl ?_
  refine mv_getR (pc := 1) (i := 0) (j := 41) dX8_world_1 flX8_30 lx_0 rfl ?_
  refine mv_callVi (pc := 4) (As := []) (st := []) (i := 41) dX8_world_4 mlX8_128 vmX4_readTape ⟨Nat.le_of_ble_eq_true rfl, Nat.le_of_ble_eq_true rfl⟩ lx_41 rfl rfl (Nat.le_of_ble_eq_true rfl) (ctX4_readTape x.2.1 D cA ad F M) (fun v2 M1 => ?_)
  refine mv_istore_n (pc := 7) (i := 1) (ls' := [(0, .ref (ad 0))]) dX8_world_7 rfl (Nat.le_of_ble_eq_true rfl) rfl (fun v3 => ?_)
  refine mv_aload_n (pc := 8) (i := 0) 1 dX8_world_8 rfl rfl ?_
  refine mv_getR (pc := 9) (i := 0) (j := 41) dX8_world_9 flX8_30 lx_0 rfl ?_
  refine mv_callVv (pc := 12) (As := []) (st := []) (i := 41) dX8_world_12 mlX8_131 vmX4_emptyTape ⟨Nat.le_of_ble_eq_true rfl, Nat.le_of_ble_eq_true rfl⟩ lx_41 rfl rfl (Nat.le_of_ble_eq_true rfl) (ctX4_emptyTape x.2.1 D cA ad F M1) (fun M4 => ?_)
  refine mv_iload_n (pc := 15) (i := 1) 0 dX8_world_15 rfl rfl ?_
  refine mv_if_ne (pc := 16) (tgt := 41) dX8_world_16 (by decide) ?_ ?_
  · refine mv_aload_n (pc := 41) (i := 0) 1 dX8_world_41 rfl rfl ?_
    refine mv_aload_n (pc := 42) (i := 0) 1 dX8_world_42 rfl rfl ?_
    refine mv_getR (pc := 43) (i := 0) (j := 41) dX8_world_43 flX8_30 lx_0 rfl ?_
    refine mv_getR (pc := 46) (i := 41) (j := 43) dX8_world_46 flX8_145 lx_41 rfl ?_
    refine mv_callVv (pc := 49) (As := [.ref (ad 43)]) (st := []) (i := 0) dX8_world_49 mlX8_148 vmX8_standAs ⟨Nat.le_of_ble_eq_true rfl, Nat.le_of_ble_eq_true rfl⟩ lx_0 rfl rfl (Nat.le_of_ble_eq_true rfl) (ctX8_standAs_o43 x.2.1 D cA ad F M4) (fun M5 => ?_)
    refine mv_aload_n (pc := 52) (i := 0) 1 dX8_world_52 rfl rfl ?_
    refine mv_getR (pc := 53) (i := 0) (j := 1) dX8_world_53 flX8_10 lx_0 rfl ?_
    refine mv_getI (pc := 56) (i := 1) dX8_world_56 flX8_151 lx_1 rfl ?_
    exact mv_ireturn (pc := 59) dX8_world_59 rfl
  · refine mv_aload_n (pc := 19) (i := 0) 1 dX8_world_19 rfl rfl ?_
    refine mv_aload_n (pc := 20) (i := 0) 1 dX8_world_20 rfl rfl ?_
    refine mv_getR (pc := 21) (i := 0) (j := 41) dX8_world_21 flX8_30 lx_0 rfl ?_
    refine mv_getI (pc := 24) (i := 41) dX8_world_24 flX8_134 lx_41 rfl ?_
    refine mv_putI (pc := 27) (i := 0) dX8_world_27 flX8_138 (Or.inl fpX8_9) lx_0 rfl (fun M6 => ?_)
    refine mv_ldc (pc := 30) dX8_world_30 kwX8_141 ?_
    refine mv_aload_n (pc := 32) (i := 0) 1 dX8_world_32 rfl rfl ?_
    refine mv_getR (pc := 33) (i := 0) (j := 41) dX8_world_33 flX8_30 lx_0 rfl ?_
    refine mv_getI (pc := 36) (i := 41) dX8_world_36 flX8_142 lx_41 rfl ?_
    refine mv_isub (pc := 39) dX8_world_39 ?_
    exact mv_ireturn (pc := 40) dX8_world_40 rfl

set_option maxRecDepth 100000 in
set_option maxHeartbeats 4000000 in
theorem ctX8_fault (l : Launch) (D : va_G) (cA : Nat → ClassId) (ad : Nat → Nat) (F : Nat) (M : mv_M) : mv_C l (D, cA, ad, LX) yX8_fault iX8_fault mv_ri [.ref (ad 0)] M (fX8_fault F M) := by
  refine mv_C.ofV (ls := [(0, .ref (ad 0))]) (by decide) rfl (Nat.le_of_ble_eq_true rfl) rfl ?_
  intro x hxl
  subst hxl
  unfold fX8_fault
  refine mv_aload_n (pc := 0) (i := 0) 0 dX8_fault_0 rfl rfl ?_
  refine mv_getI (pc := 1) (i := 0) dX8_fault_1 flX8_138 lx_0 rfl ?_
  exact mv_ireturn (pc := 4) dX8_fault_4 rfl

set_option maxRecDepth 100000 in
set_option maxHeartbeats 4000000 in
theorem ctX7_hasMember (l : Launch) (D : va_G) (cA : Nat → ClassId) (ad : Nat → Nat) (F : Nat) (M : mv_M) (a1 : Int32) : mv_C l (D, cA, ad, LX) yX7_hasMember iX7_hasMember mv_ri [.ref (ad 1), .int a1] M (fX7_hasMember F M a1) := by
  refine mv_C.ofV (ls := [(0, .ref (ad 1)), (1, .int a1)]) (by decide) rfl (Nat.le_of_ble_eq_true rfl) rfl ?_
  intro x hxl
  subst hxl
  unfold fX7_hasMember
  refine mv_iload_n (pc := 0) (i := 1) 1 dX7_hasMember_0 rfl rfl ?_
  refine mv_if_lt (pc := 1) (tgt := 16) dX7_hasMember_1 (by decide) ?_ ?_
  · refine mv_iconst (pc := 16) dX7_hasMember_16 kci0 ?_
    exact mv_zreturn (pc := 17) dX7_hasMember_17 rfl
  · refine mv_iload_n (pc := 4) (i := 1) 1 dX7_hasMember_4 rfl rfl ?_
    refine mv_aload_n (pc := 5) (i := 0) 0 dX7_hasMember_5 rfl rfl ?_
    refine mv_getI (pc := 6) (i := 1) dX7_hasMember_6 flX7_40 lx_1 rfl ?_
    refine mv_icmp_ge (pc := 9) (tgt := 16) dX7_hasMember_9 (by decide) ?_ ?_
    · refine mv_iconst (pc := 16) dX7_hasMember_16 kci0 ?_
      exact mv_zreturn (pc := 17) dX7_hasMember_17 rfl
    · refine mv_iconst (pc := 12) dX7_hasMember_12 kci1 ?_
      refine mv_goto (pc := 13) (tgt := 17) dX7_hasMember_13 (by decide) ?_
      exact mv_zreturn (pc := 17) dX7_hasMember_17 rfl

set_option maxRecDepth 100000 in
set_option maxHeartbeats 4000000 in
theorem ctX7_isHidden (l : Launch) (D : va_G) (cA : Nat → ClassId) (ad : Nat → Nat) (F : Nat) (M : mv_M) (a1 : Int32) : mv_C l (D, cA, ad, LX) yX7_isHidden iX7_isHidden mv_ri [.ref (ad 1), .int a1] M (fX7_isHidden F M a1) := by
  refine mv_C.ofV (ls := [(0, .ref (ad 1)), (1, .int a1)]) (by decide) rfl (Nat.le_of_ble_eq_true rfl) rfl ?_
  intro x hxl
  subst hxl
  unfold fX7_isHidden
  refine mv_aload_n (pc := 0) (i := 0) 0 dX7_isHidden_0 rfl rfl ?_
  refine mv_getI (pc := 1) (i := 1) dX7_isHidden_1 flX7_43 lx_1 rfl ?_
  refine mv_iload_n (pc := 4) (i := 1) 1 dX7_isHidden_4 rfl rfl ?_
  refine mv_ishr (pc := 5) dX7_isHidden_5 ?_
  refine mv_iconst (pc := 6) dX7_isHidden_6 kci1 ?_
  refine mv_iand (pc := 7) dX7_isHidden_7 ?_
  refine mv_if_eq (pc := 8) (tgt := 15) dX7_isHidden_8 (by decide) ?_ ?_
  · refine mv_iconst (pc := 15) dX7_isHidden_15 kci0 ?_
    exact mv_zreturn (pc := 16) dX7_isHidden_16 rfl
  · refine mv_iconst (pc := 11) dX7_isHidden_11 kci1 ?_
    refine mv_goto (pc := 12) (tgt := 16) dX7_isHidden_12 (by decide) ?_
    exact mv_zreturn (pc := 16) dX7_isHidden_16 rfl

set_option maxRecDepth 100000 in
set_option maxHeartbeats 4000000 in
theorem ctX0_forgetOldest (l : Launch) (D : va_G) (cA : Nat → ClassId) (ad : Nat → Nat) (F : Nat) (M : mv_M) : mv_C l (D, cA, ad, LX) yX0_forgetOldest iX0_forgetOldest mv_rv [.ref (ad 52)] M (fX0_forgetOldest F M) := by
  refine mv_C.ofV (ls := [(0, .ref (ad 52))]) (by decide) rfl (Nat.le_of_ble_eq_true rfl) rfl ?_
  intro x hxl
  subst hxl
  unfold fX0_forgetOldest
  refine mv_aload_n (pc := 0) (i := 0) 0 dX0_forgetOldest_0 rfl rfl ?_
  refine mv_bipush (pc := 1) dX0_forgetOldest_1 kcb23 ?_
  refine mv_putI (pc := 3) (i := 52) dX0_forgetOldest_3 flX0_19 (Or.inl fpX0_3) lx_52 rfl (fun M1 => ?_)
  refine mv_aload_n (pc := 6) (i := 0) 0 dX0_forgetOldest_6 rfl rfl ?_
  refine mv_getR (pc := 7) (i := 52) (j := 53) dX0_forgetOldest_7 flX0_9 lx_52 rfl ?_
  refine mv_iconst (pc := 10) dX0_forgetOldest_10 kci1 ?_
  refine mv_aload_n (pc := 11) (i := 0) 0 dX0_forgetOldest_11 rfl rfl ?_
  refine mv_getR (pc := 12) (i := 52) (j := 53) dX0_forgetOldest_12 flX0_9 lx_52 rfl ?_
  refine mv_iconst (pc := 15) dX0_forgetOldest_15 kci0 ?_
  refine mv_aload_n (pc := 16) (i := 0) 0 dX0_forgetOldest_16 rfl rfl ?_
  refine mv_getI (pc := 17) (i := 52) dX0_forgetOldest_17 flX0_19 lx_52 rfl ?_
  refine mv_copy (pc := 20) (i := 53) (j := 53) dX0_forgetOldest_20 mwX0_26 lx_53 lx_53 ⟨Nat.le_of_ble_eq_true rfl, Nat.le_of_ble_eq_true rfl⟩ (fun M2 => ?_)
  refine mv_aload_n (pc := 23) (i := 0) 0 dX0_forgetOldest_23 rfl rfl ?_
  refine mv_getR (pc := 24) (i := 52) (j := 54) dX0_forgetOldest_24 flX0_13 lx_52 rfl ?_
  refine mv_iconst (pc := 27) dX0_forgetOldest_27 kci1 ?_
  refine mv_aload_n (pc := 28) (i := 0) 0 dX0_forgetOldest_28 rfl rfl ?_
  refine mv_getR (pc := 29) (i := 52) (j := 54) dX0_forgetOldest_29 flX0_13 lx_52 rfl ?_
  refine mv_iconst (pc := 32) dX0_forgetOldest_32 kci0 ?_
  refine mv_aload_n (pc := 33) (i := 0) 0 dX0_forgetOldest_33 rfl rfl ?_
  refine mv_getI (pc := 34) (i := 52) dX0_forgetOldest_34 flX0_19 lx_52 rfl ?_
  refine mv_copy (pc := 37) (i := 54) (j := 54) dX0_forgetOldest_37 mwX0_26 lx_54 lx_54 ⟨Nat.le_of_ble_eq_true rfl, Nat.le_of_ble_eq_true rfl⟩ (fun M3 => ?_)
  refine mv_aload_n (pc := 40) (i := 0) 0 dX0_forgetOldest_40 rfl rfl ?_
  refine mv_getR (pc := 41) (i := 52) (j := 55) dX0_forgetOldest_41 flX0_16 lx_52 rfl ?_
  refine mv_iconst (pc := 44) dX0_forgetOldest_44 kci1 ?_
  refine mv_aload_n (pc := 45) (i := 0) 0 dX0_forgetOldest_45 rfl rfl ?_
  refine mv_getR (pc := 46) (i := 52) (j := 55) dX0_forgetOldest_46 flX0_16 lx_52 rfl ?_
  refine mv_iconst (pc := 49) dX0_forgetOldest_49 kci0 ?_
  refine mv_aload_n (pc := 50) (i := 0) 0 dX0_forgetOldest_50 rfl rfl ?_
  refine mv_getI (pc := 51) (i := 52) dX0_forgetOldest_51 flX0_19 lx_52 rfl ?_
  refine mv_copy (pc := 54) (i := 55) (j := 55) dX0_forgetOldest_54 mwX0_26 lx_55 lx_55 ⟨Nat.le_of_ble_eq_true rfl, Nat.le_of_ble_eq_true rfl⟩ (fun M4 => ?_)
  exact mv_return (pc := 57) dX0_forgetOldest_57 rfl

set_option maxRecDepth 100000 in
set_option maxHeartbeats 4000000 in
theorem ctX0_keep (l : Launch) (D : va_G) (cA : Nat → ClassId) (ad : Nat → Nat) (F : Nat) (M : mv_M) (a1 : Int32) (a2 : Int32) (a3 : Int32) : mv_C l (D, cA, ad, LX) yX0_keep iX0_keep mv_rv [.ref (ad 52), .int a1, .int a2, .int a3] M (fX0_keep F M a1 a2 a3) := by
  refine mv_C.ofV (ls := [(0, .ref (ad 52)), (1, .int a1), (2, .int a2), (3, .int a3)]) (by decide) rfl (Nat.le_of_ble_eq_true rfl) rfl ?_
  intro x hxl
  subst hxl
  unfold fX0_keep
  refine mv_aload_n (pc := 0) (i := 0) 0 dX0_keep_0 rfl rfl ?_
  refine mv_getI (pc := 1) (i := 52) dX0_keep_1 flX0_19 lx_52 rfl ?_
  refine mv_bipush (pc := 4) dX0_keep_4 kcb24 ?_
  refine mv_jp (pj := 13) (lj := fun (s1 : mv_M) => [(0, .ref (ad 52)), (1, .int a1), (2, .int a2), (3, .int a3)]) (sj := fun (s1 : mv_M) => []) (Mj := fun (s1 : mv_M) => s1) ?_ ?_
  · intro s1
    refine mv_aload_n (pc := 13) (i := 0) 0 dX0_keep_13 rfl rfl ?_
    refine mv_getR (pc := 14) (i := 52) (j := 53) dX0_keep_14 flX0_9 lx_52 rfl ?_
    refine mv_aload_n (pc := 17) (i := 0) 0 dX0_keep_17 rfl rfl ?_
    refine mv_getI (pc := 18) (i := 52) dX0_keep_18 flX0_19 lx_52 rfl ?_
    refine mv_iload_n (pc := 21) (i := 1) 1 dX0_keep_21 rfl rfl ?_
    refine mv_iast (pc := 22) (i := 53) dX0_keep_22 lx_53 (fun M3 => ?_)
    refine mv_aload_n (pc := 23) (i := 0) 0 dX0_keep_23 rfl rfl ?_
    refine mv_getR (pc := 24) (i := 52) (j := 54) dX0_keep_24 flX0_13 lx_52 rfl ?_
    refine mv_aload_n (pc := 27) (i := 0) 0 dX0_keep_27 rfl rfl ?_
    refine mv_getI (pc := 28) (i := 52) dX0_keep_28 flX0_19 lx_52 rfl ?_
    refine mv_iload_n (pc := 31) (i := 2) 2 dX0_keep_31 rfl rfl ?_
    refine mv_iast (pc := 32) (i := 54) dX0_keep_32 lx_54 (fun M4 => ?_)
    refine mv_aload_n (pc := 33) (i := 0) 0 dX0_keep_33 rfl rfl ?_
    refine mv_getR (pc := 34) (i := 52) (j := 55) dX0_keep_34 flX0_16 lx_52 rfl ?_
    refine mv_aload_n (pc := 37) (i := 0) 0 dX0_keep_37 rfl rfl ?_
    refine mv_getI (pc := 38) (i := 52) dX0_keep_38 flX0_19 lx_52 rfl ?_
    refine mv_iload_n (pc := 41) (i := 3) 3 dX0_keep_41 rfl rfl ?_
    refine mv_iast (pc := 42) (i := 55) dX0_keep_42 lx_55 (fun M5 => ?_)
    refine mv_aload_n (pc := 43) (i := 0) 0 dX0_keep_43 rfl rfl ?_
    refine mv_dup (pc := 44) dX0_keep_44 rfl ?_
    refine mv_getI (pc := 45) (i := 52) dX0_keep_45 flX0_19 lx_52 rfl ?_
    refine mv_iconst (pc := 48) dX0_keep_48 kci1 ?_
    refine mv_iadd (pc := 49) dX0_keep_49 ?_
    refine mv_putI (pc := 50) (i := 52) dX0_keep_50 flX0_19 (Or.inl fpX0_3) lx_52 rfl (fun M6 => ?_)
    exact mv_return (pc := 53) dX0_keep_53 rfl
  · intro j2 hj2
    refine mv_icmp_ne (pc := 6) (tgt := 13) dX0_keep_6 (by decide) ?_ ?_
    · exact hj2 M
    · refine mv_aload_n (pc := 9) (i := 0) 0 dX0_keep_9 rfl rfl ?_
      refine mv_callVv (pc := 10) (As := []) (st := []) (i := 52) dX0_keep_10 mlX0_23 vmX0_forgetOldest ⟨Nat.le_of_ble_eq_true rfl, Nat.le_of_ble_eq_true rfl⟩ lx_52 rfl rfl (Nat.le_of_ble_eq_true rfl) (ctX0_forgetOldest x.2.1 D cA ad F M) (fun M7 => ?_)
      exact hj2 M7

set_option maxRecDepth 100000 in
set_option maxHeartbeats 4000000 in
theorem ctX7_putHidden (l : Launch) (D : va_G) (cA : Nat → ClassId) (ad : Nat → Nat) (F : Nat) (M : mv_M) (a1 : Int32) (a2 : Int32) : mv_C l (D, cA, ad, LX) yX7_putHidden iX7_putHidden mv_rv [.ref (ad 1), .int a1, .int a2] M (fX7_putHidden F M a1 a2) := by
  refine mv_C.ofV (ls := [(0, .ref (ad 1)), (1, .int a1), (2, .int a2)]) (by decide) rfl (Nat.le_of_ble_eq_true rfl) rfl ?_
  intro x hxl
  subst hxl
  unfold fX7_putHidden
  refine mv_aload_n (pc := 0) (i := 0) 0 dX7_putHidden_0 rfl rfl ?_
  refine mv_iload_n (pc := 1) (i := 2) 2 dX7_putHidden_1 rfl rfl ?_
  refine mv_if_ne (pc := 2) (tgt := 18) dX7_putHidden_2 (by decide) ?_ ?_
  · refine mv_aload_n (pc := 18) (i := 0) 0 dX7_putHidden_18 rfl rfl ?_
    refine mv_getI (pc := 19) (i := 1) dX7_putHidden_19 flX7_43 lx_1 rfl ?_
    refine mv_iconst (pc := 22) dX7_putHidden_22 kci1 ?_
    refine mv_iload_n (pc := 23) (i := 1) 1 dX7_putHidden_23 rfl rfl ?_
    refine mv_ishl (pc := 24) dX7_putHidden_24 ?_
    refine mv_ior (pc := 25) dX7_putHidden_25 ?_
    refine mv_putI (pc := 26) (i := 1) dX7_putHidden_26 flX7_43 (Or.inl fpX7_2) lx_1 rfl (fun M1 => ?_)
    exact mv_return (pc := 29) dX7_putHidden_29 rfl
  · refine mv_aload_n (pc := 5) (i := 0) 0 dX7_putHidden_5 rfl rfl ?_
    refine mv_getI (pc := 6) (i := 1) dX7_putHidden_6 flX7_43 lx_1 rfl ?_
    refine mv_iconst (pc := 9) dX7_putHidden_9 kci1 ?_
    refine mv_iload_n (pc := 10) (i := 1) 1 dX7_putHidden_10 rfl rfl ?_
    refine mv_ishl (pc := 11) dX7_putHidden_11 ?_
    refine mv_iconst (pc := 12) dX7_putHidden_12 kcim1 ?_
    refine mv_ixor (pc := 13) dX7_putHidden_13 ?_
    refine mv_iand (pc := 14) dX7_putHidden_14 ?_
    refine mv_goto (pc := 15) (tgt := 26) dX7_putHidden_15 (by decide) ?_
    refine mv_putI (pc := 26) (i := 1) dX7_putHidden_26 flX7_43 (Or.inl fpX7_2) lx_1 rfl (fun M2 => ?_)
    exact mv_return (pc := 29) dX7_putHidden_29 rfl

set_option maxRecDepth 100000 in
set_option maxHeartbeats 4000000 in
theorem ctX7_seeAbove (l : Launch) (D : va_G) (cA : Nat → ClassId) (ad : Nat → Nat) (F : Nat) (M : mv_M) : mv_C l (D, cA, ad, LX) yX7_seeAbove iX7_seeAbove mv_rv [.ref (ad 1)] M (fX7_seeAbove F M) := by
  refine mv_C.ofV (ls := [(0, .ref (ad 1))]) (by decide) rfl (Nat.le_of_ble_eq_true rfl) rfl ?_
  intro x hxl
  subst hxl
  unfold fX7_seeAbove
  refine mv_iconst (pc := 0) dX7_seeAbove_0 kci0 ?_
  refine mv_istore_n (pc := 1) (i := 1) (ls' := [(0, .ref (ad 1))]) dX7_seeAbove_1 rfl (Nat.le_of_ble_eq_true rfl) rfl (fun v1 => ?_)
  refine mv_sub [1, 0] rfl ?_
  refine mv_loop (pc := 2) (lj := fun (s2 : Int32 × mv_M) => [(0, .ref (ad 1)), (1, .int s2.1)]) (Mj := fun (s2 : Int32 × mv_M) => s2.2) (B := bX7_seeAbove_2) ?_ F (v1, M)
  intro f3 hf3 s2
  unfold bX7_seeAbove_2
  refine mv_iload_n (pc := 2) (i := 1) 1 dX7_seeAbove_2 rfl rfl ?_
  refine mv_aload_n (pc := 3) (i := 0) 0 dX7_seeAbove_3 rfl rfl ?_
  refine mv_getI (pc := 4) (i := 1) dX7_seeAbove_4 flX7_36 lx_1 rfl ?_
  refine mv_icmp_ge (pc := 7) (tgt := 50) dX7_seeAbove_7 (by decide) ?_ ?_
  · exact mv_return (pc := 50) dX7_seeAbove_50 rfl
  · refine mv_aload_n (pc := 10) (i := 0) 0 dX7_seeAbove_10 rfl rfl ?_
    refine mv_getR (pc := 11) (i := 1) (j := 2) dX7_seeAbove_11 flX7_9 lx_1 rfl ?_
    refine mv_iload_n (pc := 14) (i := 1) 1 dX7_seeAbove_14 rfl rfl ?_
    refine mv_iald (pc := 15) (i := 2) dX7_seeAbove_15 lx_2 ?_
    refine mv_istore_n (pc := 16) (i := 2) (ls' := [(0, .ref (ad 1)), (1, .int s2.1)]) dX7_seeAbove_16 rfl (Nat.le_of_ble_eq_true rfl) rfl (fun v4 => ?_)
    refine mv_aload_n (pc := 17) (i := 0) 1 dX7_seeAbove_17 rfl rfl ?_
    refine mv_getR (pc := 18) (i := 1) (j := 3) dX7_seeAbove_18 flX7_15 lx_1 rfl ?_
    refine mv_iload_n (pc := 21) (i := 1) 2 dX7_seeAbove_21 rfl rfl ?_
    refine mv_iload_n (pc := 22) (i := 2) 0 dX7_seeAbove_22 rfl rfl ?_
    refine mv_iload_n (pc := 23) (i := 1) 2 dX7_seeAbove_23 rfl rfl ?_
    refine mv_icmp_ne (pc := 24) (tgt := 33) dX7_seeAbove_24 (by decide) ?_ ?_
    · refine mv_iconst (pc := 33) dX7_seeAbove_33 kci1 ?_
      refine mv_iload_n (pc := 34) (i := 1) 2 dX7_seeAbove_34 rfl rfl ?_
      refine mv_ishl (pc := 35) dX7_seeAbove_35 ?_
      refine mv_aload_n (pc := 36) (i := 0) 1 dX7_seeAbove_36 rfl rfl ?_
      refine mv_getR (pc := 37) (i := 1) (j := 3) dX7_seeAbove_37 flX7_15 lx_1 rfl ?_
      refine mv_iload_n (pc := 40) (i := 2) 0 dX7_seeAbove_40 rfl rfl ?_
      refine mv_iald (pc := 41) (i := 3) dX7_seeAbove_41 lx_3 ?_
      refine mv_ior (pc := 42) dX7_seeAbove_42 ?_
      refine mv_iast (pc := 43) (i := 3) dX7_seeAbove_43 lx_3 (fun M5 => ?_)
      refine mv_iinc (pc := 44) (i := 1) (ls' := [(2, .int v4), (0, .ref (ad 1))]) 2 dX7_seeAbove_44 rfl kci1 (Nat.le_of_ble_eq_true rfl) rfl (fun v6 => ?_)
      refine mv_goto (pc := 47) (tgt := 2) dX7_seeAbove_47 (by decide) ?_
      refine mv_sub [2, 0] rfl ?_
      exact hf3 (v6, M5)
    · refine mv_iconst (pc := 27) dX7_seeAbove_27 kci1 ?_
      refine mv_iload_n (pc := 28) (i := 1) 2 dX7_seeAbove_28 rfl rfl ?_
      refine mv_ishl (pc := 29) dX7_seeAbove_29 ?_
      refine mv_goto (pc := 30) (tgt := 43) dX7_seeAbove_30 (by decide) ?_
      refine mv_iast (pc := 43) (i := 3) dX7_seeAbove_43 lx_3 (fun M7 => ?_)
      refine mv_iinc (pc := 44) (i := 1) (ls' := [(2, .int v4), (0, .ref (ad 1))]) 2 dX7_seeAbove_44 rfl kci1 (Nat.le_of_ble_eq_true rfl) rfl (fun v8 => ?_)
      refine mv_goto (pc := 47) (tgt := 2) dX7_seeAbove_47 (by decide) ?_
      refine mv_sub [2, 0] rfl ?_
      exact hf3 (v8, M7)

set_option maxRecDepth 100000 in
set_option maxHeartbeats 4000000 in
theorem ctX8_change (l : Launch) (D : va_G) (cA : Nat → ClassId) (ad : Nat → Nat) (F : Nat) (M : mv_M) (a1 : Int32) (a2 : Int32) (a3 : Int32) : mv_C l (D, cA, ad, LX) yX8_change iX8_change mv_rv [.ref (ad 0), .int a1, .int a2, .int a3] M (fX8_change F M a1 a2 a3) := by
  refine mv_C.ofV (ls := [(0, .ref (ad 0)), (1, .int a1), (2, .int a2), (3, .int a3)]) (by decide) rfl (Nat.le_of_ble_eq_true rfl) rfl ?_
  intro x hxl
  subst hxl
  unfold fX8_change
  refine mv_iload_n (pc := 0) (i := 1) 1 dX8_change_0 rfl rfl ?_
  refine mv_lkc (pc := 1) (v := (0 : Int32)) (off := 27) (tgt := 28) dX8_change_1 (by decide +kernel) (by decide +kernel) (by decide) ?_ (fun h3 => ?_)
  · refine mv_aload_n (pc := 28) (i := 0) 0 dX8_change_28 rfl rfl ?_
    refine mv_getR (pc := 29) (i := 0) (j := 1) dX8_change_29 flX8_10 lx_0 rfl ?_
    refine mv_iload_n (pc := 32) (i := 2) 2 dX8_change_32 rfl rfl ?_
    refine mv_iload_n (pc := 33) (i := 3) 3 dX8_change_33 rfl rfl ?_
    refine mv_callVv (pc := 34) (As := [.int a2, .int a3]) (st := []) (i := 1) dX8_change_34 mlX8_313 vmX7_putHidden ⟨Nat.le_of_ble_eq_true rfl, Nat.le_of_ble_eq_true rfl⟩ lx_1 rfl rfl (Nat.le_of_ble_eq_true rfl) (ctX7_putHidden x.2.1 D cA ad F M a2 a3) (fun M1 => ?_)
    refine mv_goto (pc := 37) (tgt := 70) dX8_change_37 (by decide) ?_
    refine mv_aload_n (pc := 70) (i := 0) 0 dX8_change_70 rfl rfl ?_
    refine mv_getR (pc := 71) (i := 0) (j := 58) dX8_change_71 flX8_53 lx_0 rfl ?_
    refine mv_iconst (pc := 74) dX8_change_74 kci0 ?_
    refine mv_putI (pc := 75) (i := 58) dX8_change_75 flX8_309 (Or.inr ⟨fpX2_1, Or.inl rfl⟩) lx_58 rfl (fun M2 => ?_)
    exact mv_return (pc := 78) dX8_change_78 rfl
  refine mv_lkc (pc := 1) (v := (1 : Int32)) (off := 39) (tgt := 40) dX8_change_1 (by decide +kernel) (by decide +kernel) (by decide) ?_ (fun h6 => ?_)
  · refine mv_aload_n (pc := 40) (i := 0) 0 dX8_change_40 rfl rfl ?_
    refine mv_getR (pc := 41) (i := 0) (j := 1) dX8_change_41 flX8_10 lx_0 rfl ?_
    refine mv_getR (pc := 44) (i := 1) (j := 6) dX8_change_44 flX8_170 lx_1 rfl ?_
    refine mv_iload_n (pc := 47) (i := 2) 2 dX8_change_47 rfl rfl ?_
    refine mv_iload_n (pc := 48) (i := 3) 3 dX8_change_48 rfl rfl ?_
    refine mv_iast (pc := 49) (i := 6) dX8_change_49 lx_6 (fun M4 => ?_)
    refine mv_goto (pc := 50) (tgt := 70) dX8_change_50 (by decide) ?_
    refine mv_aload_n (pc := 70) (i := 0) 0 dX8_change_70 rfl rfl ?_
    refine mv_getR (pc := 71) (i := 0) (j := 58) dX8_change_71 flX8_53 lx_0 rfl ?_
    refine mv_iconst (pc := 74) dX8_change_74 kci0 ?_
    refine mv_putI (pc := 75) (i := 58) dX8_change_75 flX8_309 (Or.inr ⟨fpX2_1, Or.inl rfl⟩) lx_58 rfl (fun M5 => ?_)
    exact mv_return (pc := 78) dX8_change_78 rfl
  refine mv_lkd (pc := 1) (tgt := 53) dX8_change_1 (by decide +kernel) (by have e0 := mv_ne (n := 0) (by decide +kernel) h3; have e1 := mv_ne (n := 1) (by decide +kernel) h6; show Op.lookupswitch.offset [(0, 27), (1, 39)] 52 _ = 52; rw [Op.lookupswitch.offset_cons, if_neg (Ne.symm e0), Op.lookupswitch.offset_cons, if_neg (Ne.symm e1)]; rfl) (by decide) ?_
  refine mv_aload_n (pc := 53) (i := 0) 0 dX8_change_53 rfl rfl ?_
  refine mv_getR (pc := 54) (i := 0) (j := 1) dX8_change_54 flX8_10 lx_0 rfl ?_
  refine mv_getR (pc := 57) (i := 1) (j := 2) dX8_change_57 flX8_176 lx_1 rfl ?_
  refine mv_iload_n (pc := 60) (i := 2) 2 dX8_change_60 rfl rfl ?_
  refine mv_iload_n (pc := 61) (i := 3) 3 dX8_change_61 rfl rfl ?_
  refine mv_iast (pc := 62) (i := 2) dX8_change_62 lx_2 (fun M7 => ?_)
  refine mv_aload_n (pc := 63) (i := 0) 0 dX8_change_63 rfl rfl ?_
  refine mv_getR (pc := 64) (i := 0) (j := 1) dX8_change_64 flX8_10 lx_0 rfl ?_
  refine mv_callVv (pc := 67) (As := []) (st := []) (i := 1) dX8_change_67 mlX8_317 vmX7_seeAbove ⟨Nat.le_of_ble_eq_true rfl, Nat.le_of_ble_eq_true rfl⟩ lx_1 rfl rfl (Nat.le_of_ble_eq_true rfl) (ctX7_seeAbove x.2.1 D cA ad F M7) (fun M8 => ?_)
  refine mv_aload_n (pc := 70) (i := 0) 0 dX8_change_70 rfl rfl ?_
  refine mv_getR (pc := 71) (i := 0) (j := 58) dX8_change_71 flX8_53 lx_0 rfl ?_
  refine mv_iconst (pc := 74) dX8_change_74 kci0 ?_
  refine mv_putI (pc := 75) (i := 58) dX8_change_75 flX8_309 (Or.inr ⟨fpX2_1, Or.inl rfl⟩) lx_58 rfl (fun M9 => ?_)
  exact mv_return (pc := 78) dX8_change_78 rfl

set_option maxRecDepth 100000 in
set_option maxHeartbeats 4000000 in
theorem ctX8_hide (l : Launch) (D : va_G) (cA : Nat → ClassId) (ad : Nat → Nat) (F : Nat) (M : mv_M) (a1 : Int32) (a2 : Int32) : mv_C l (D, cA, ad, LX) yX8_hide iX8_hide mv_ri [.ref (ad 0), .int a1, .int a2] M (fX8_hide F M a1 a2) := by
  refine mv_C.ofV (ls := [(0, .ref (ad 0)), (1, .int a1), (2, .int a2)]) (by decide) rfl (Nat.le_of_ble_eq_true rfl) rfl ?_
  intro x hxl
  subst hxl
  unfold fX8_hide
  refine mv_aload_n (pc := 0) (i := 0) 0 dX8_hide_0 rfl rfl ?_
  refine mv_getR (pc := 1) (i := 0) (j := 1) dX8_hide_1 flX8_10 lx_0 rfl ?_
  refine mv_iload_n (pc := 4) (i := 1) 1 dX8_hide_4 rfl rfl ?_
  refine mv_callVi (pc := 5) (As := [.int a1]) (st := []) (i := 1) dX8_hide_5 mlX8_154 vmX7_hasMember ⟨Nat.le_of_ble_eq_true rfl, Nat.le_of_ble_eq_true rfl⟩ lx_1 rfl rfl (Nat.le_of_ble_eq_true rfl) (ctX7_hasMember x.2.1 D cA ad F M a1) (fun v2 M1 => ?_)
  refine mv_if_eq (pc := 8) (tgt := 20) dX8_hide_8 (by decide) ?_ ?_
  · refine mv_ldc (pc := 20) dX8_hide_20 kwX8_80 ?_
    exact mv_ireturn (pc := 22) dX8_hide_22 rfl
  · refine mv_iload_n (pc := 11) (i := 2) 2 dX8_hide_11 rfl rfl ?_
    refine mv_if_lt (pc := 12) (tgt := 20) dX8_hide_12 (by decide) ?_ ?_
    · refine mv_ldc (pc := 20) dX8_hide_20 kwX8_80 ?_
      exact mv_ireturn (pc := 22) dX8_hide_22 rfl
    · refine mv_iload_n (pc := 15) (i := 2) 2 dX8_hide_15 rfl rfl ?_
      refine mv_iconst (pc := 16) dX8_hide_16 kci1 ?_
      refine mv_icmp_le (pc := 17) (tgt := 23) dX8_hide_17 (by decide) ?_ ?_
      · refine mv_aload_n (pc := 23) (i := 0) 0 dX8_hide_23 rfl rfl ?_
        refine mv_getR (pc := 24) (i := 0) (j := 1) dX8_hide_24 flX8_10 lx_0 rfl ?_
        refine mv_iload_n (pc := 27) (i := 1) 1 dX8_hide_27 rfl rfl ?_
        refine mv_callVi (pc := 28) (As := [.int a1]) (st := []) (i := 1) dX8_hide_28 mlX8_157 vmX7_isHidden ⟨Nat.le_of_ble_eq_true rfl, Nat.le_of_ble_eq_true rfl⟩ lx_1 rfl rfl (Nat.le_of_ble_eq_true rfl) (ctX7_isHidden x.2.1 D cA ad F M1 a1) (fun v4 M3 => ?_)
        refine mv_jp (pj := 39) (lj := fun (s5 : Int32 × mv_M) => [(0, .ref (ad 0)), (1, .int a1), (2, .int a2)]) (sj := fun (s5 : Int32 × mv_M) => [.int s5.1]) (Mj := fun (s5 : Int32 × mv_M) => s5.2) ?_ ?_
        · intro s5
          refine mv_istore_n (pc := 39) (i := 3) (ls' := [(0, .ref (ad 0)), (1, .int a1), (2, .int a2)]) dX8_hide_39 rfl (Nat.le_of_ble_eq_true rfl) rfl (fun v7 => ?_)
          refine mv_iload_n (pc := 40) (i := 2) 3 dX8_hide_40 rfl rfl ?_
          refine mv_iload_n (pc := 41) (i := 3) 0 dX8_hide_41 rfl rfl ?_
          refine mv_icmp_ne (pc := 42) (tgt := 48) dX8_hide_42 (by decide) ?_ ?_
          · refine mv_aload_n (pc := 48) (i := 0) 1 dX8_hide_48 rfl rfl ?_
            refine mv_getR (pc := 49) (i := 0) (j := 52) dX8_hide_49 flX8_37 lx_0 rfl ?_
            refine mv_iconst (pc := 52) dX8_hide_52 kci0 ?_
            refine mv_iload_n (pc := 53) (i := 1) 2 dX8_hide_53 rfl rfl ?_
            refine mv_iload_n (pc := 54) (i := 3) 0 dX8_hide_54 rfl rfl ?_
            refine mv_callVv (pc := 55) (As := [.int (0 : Int32), .int a1, .int v7]) (st := []) (i := 52) dX8_hide_55 mlX8_161 vmX0_keep ⟨Nat.le_of_ble_eq_true rfl, Nat.le_of_ble_eq_true rfl⟩ lx_52 rfl rfl (Nat.le_of_ble_eq_true rfl) (ctX0_keep x.2.1 D cA ad F s5.2 (0 : Int32) a1 v7) (fun M8 => ?_)
            refine mv_aload_n (pc := 58) (i := 0) 1 dX8_hide_58 rfl rfl ?_
            refine mv_iconst (pc := 59) dX8_hide_59 kci0 ?_
            refine mv_iload_n (pc := 60) (i := 1) 2 dX8_hide_60 rfl rfl ?_
            refine mv_iload_n (pc := 61) (i := 2) 3 dX8_hide_61 rfl rfl ?_
            refine mv_callVv (pc := 62) (As := [.int (0 : Int32), .int a1, .int a2]) (st := []) (i := 0) dX8_hide_62 mlX8_164 vmX8_change ⟨Nat.le_of_ble_eq_true rfl, Nat.le_of_ble_eq_true rfl⟩ lx_0 rfl rfl (Nat.le_of_ble_eq_true rfl) (ctX8_change x.2.1 D cA ad F M8 (0 : Int32) a1 a2) (fun M9 => ?_)
            refine mv_aload_n (pc := 65) (i := 0) 1 dX8_hide_65 rfl rfl ?_
            refine mv_getR (pc := 66) (i := 0) (j := 1) dX8_hide_66 flX8_10 lx_0 rfl ?_
            refine mv_getI (pc := 69) (i := 1) dX8_hide_69 flX8_167 lx_1 rfl ?_
            exact mv_ireturn (pc := 72) dX8_hide_72 rfl
          · refine mv_ldc (pc := 45) dX8_hide_45 kwX8_160 ?_
            exact mv_ireturn (pc := 47) dX8_hide_47 rfl
        · intro j6 hj6
          refine mv_if_eq (pc := 31) (tgt := 38) dX8_hide_31 (by decide) ?_ ?_
          · refine mv_iconst (pc := 38) dX8_hide_38 kci0 ?_
            exact hj6 ((0 : Int32), M3)
          · refine mv_iconst (pc := 34) dX8_hide_34 kci1 ?_
            refine mv_goto (pc := 35) (tgt := 39) dX8_hide_35 (by decide) ?_
            exact hj6 ((1 : Int32), M3)
      · refine mv_ldc (pc := 20) dX8_hide_20 kwX8_80 ?_
        exact mv_ireturn (pc := 22) dX8_hide_22 rfl

set_option maxRecDepth 100000 in
set_option maxHeartbeats 4000000 in
theorem ctX8_cost (l : Launch) (D : va_G) (cA : Nat → ClassId) (ad : Nat → Nat) (F : Nat) (M : mv_M) (a1 : Int32) (a2 : Int32) : mv_C l (D, cA, ad, LX) yX8_cost iX8_cost mv_ri [.ref (ad 0), .int a1, .int a2] M (fX8_cost F M a1 a2) := by
  refine mv_C.ofV (ls := [(0, .ref (ad 0)), (1, .int a1), (2, .int a2)]) (by decide) rfl (Nat.le_of_ble_eq_true rfl) rfl ?_
  intro x hxl
  subst hxl
  unfold fX8_cost
  refine mv_aload_n (pc := 0) (i := 0) 0 dX8_cost_0 rfl rfl ?_
  refine mv_getR (pc := 1) (i := 0) (j := 1) dX8_cost_1 flX8_10 lx_0 rfl ?_
  refine mv_iload_n (pc := 4) (i := 1) 1 dX8_cost_4 rfl rfl ?_
  refine mv_callVi (pc := 5) (As := [.int a1]) (st := []) (i := 1) dX8_cost_5 mlX8_154 vmX7_hasMember ⟨Nat.le_of_ble_eq_true rfl, Nat.le_of_ble_eq_true rfl⟩ lx_1 rfl rfl (Nat.le_of_ble_eq_true rfl) (ctX7_hasMember x.2.1 D cA ad F M a1) (fun v2 M1 => ?_)
  refine mv_if_eq (pc := 8) (tgt := 22) dX8_cost_8 (by decide) ?_ ?_
  · refine mv_ldc (pc := 22) dX8_cost_22 kwX8_80 ?_
    exact mv_ireturn (pc := 24) dX8_cost_24 rfl
  · refine mv_iload_n (pc := 11) (i := 2) 2 dX8_cost_11 rfl rfl ?_
    refine mv_iconst (pc := 12) dX8_cost_12 kci1 ?_
    refine mv_icmp_lt (pc := 13) (tgt := 22) dX8_cost_13 (by decide) ?_ ?_
    · refine mv_ldc (pc := 22) dX8_cost_22 kwX8_80 ?_
      exact mv_ireturn (pc := 24) dX8_cost_24 rfl
    · refine mv_iload_n (pc := 16) (i := 2) 2 dX8_cost_16 rfl rfl ?_
      refine mv_bipush (pc := 17) dX8_cost_17 kcb9 ?_
      refine mv_icmp_le (pc := 19) (tgt := 25) dX8_cost_19 (by decide) ?_ ?_
      · refine mv_aload_n (pc := 25) (i := 0) 0 dX8_cost_25 rfl rfl ?_
        refine mv_getR (pc := 26) (i := 0) (j := 1) dX8_cost_26 flX8_10 lx_0 rfl ?_
        refine mv_getR (pc := 29) (i := 1) (j := 6) dX8_cost_29 flX8_170 lx_1 rfl ?_
        refine mv_iload_n (pc := 32) (i := 1) 1 dX8_cost_32 rfl rfl ?_
        refine mv_iald (pc := 33) (i := 6) dX8_cost_33 lx_6 ?_
        refine mv_istore_n (pc := 34) (i := 3) (ls' := [(0, .ref (ad 0)), (1, .int a1), (2, .int a2)]) dX8_cost_34 rfl (Nat.le_of_ble_eq_true rfl) rfl (fun v3 => ?_)
        refine mv_aload_n (pc := 35) (i := 0) 1 dX8_cost_35 rfl rfl ?_
        refine mv_getR (pc := 36) (i := 0) (j := 52) dX8_cost_36 flX8_37 lx_0 rfl ?_
        refine mv_iconst (pc := 39) dX8_cost_39 kci1 ?_
        refine mv_iload_n (pc := 40) (i := 1) 2 dX8_cost_40 rfl rfl ?_
        refine mv_iload_n (pc := 41) (i := 3) 0 dX8_cost_41 rfl rfl ?_
        refine mv_callVv (pc := 42) (As := [.int (1 : Int32), .int a1, .int v3]) (st := []) (i := 52) dX8_cost_42 mlX8_161 vmX0_keep ⟨Nat.le_of_ble_eq_true rfl, Nat.le_of_ble_eq_true rfl⟩ lx_52 rfl rfl (Nat.le_of_ble_eq_true rfl) (ctX0_keep x.2.1 D cA ad F M1 (1 : Int32) a1 v3) (fun M4 => ?_)
        refine mv_aload_n (pc := 45) (i := 0) 1 dX8_cost_45 rfl rfl ?_
        refine mv_iconst (pc := 46) dX8_cost_46 kci1 ?_
        refine mv_iload_n (pc := 47) (i := 1) 2 dX8_cost_47 rfl rfl ?_
        refine mv_iload_n (pc := 48) (i := 2) 3 dX8_cost_48 rfl rfl ?_
        refine mv_callVv (pc := 49) (As := [.int (1 : Int32), .int a1, .int a2]) (st := []) (i := 0) dX8_cost_49 mlX8_164 vmX8_change ⟨Nat.le_of_ble_eq_true rfl, Nat.le_of_ble_eq_true rfl⟩ lx_0 rfl rfl (Nat.le_of_ble_eq_true rfl) (ctX8_change x.2.1 D cA ad F M4 (1 : Int32) a1 a2) (fun M5 => ?_)
        refine mv_iload_n (pc := 52) (i := 3) 0 dX8_cost_52 rfl rfl ?_
        exact mv_ireturn (pc := 53) dX8_cost_53 rfl
      · refine mv_ldc (pc := 22) dX8_cost_22 kwX8_80 ?_
        exact mv_ireturn (pc := 24) dX8_cost_24 rfl

set_option maxRecDepth 100000 in
set_option maxHeartbeats 4000000 in
theorem ctX7_hasType (l : Launch) (D : va_G) (cA : Nat → ClassId) (ad : Nat → Nat) (F : Nat) (M : mv_M) (a1 : Int32) : mv_C l (D, cA, ad, LX) yX7_hasType iX7_hasType mv_ri [.ref (ad 1), .int a1] M (fX7_hasType F M a1) := by
  refine mv_C.ofV (ls := [(0, .ref (ad 1)), (1, .int a1)]) (by decide) rfl (Nat.le_of_ble_eq_true rfl) rfl ?_
  intro x hxl
  subst hxl
  unfold fX7_hasType
  refine mv_iload_n (pc := 0) (i := 1) 1 dX7_hasType_0 rfl rfl ?_
  refine mv_if_lt (pc := 1) (tgt := 16) dX7_hasType_1 (by decide) ?_ ?_
  · refine mv_iconst (pc := 16) dX7_hasType_16 kci0 ?_
    exact mv_zreturn (pc := 17) dX7_hasType_17 rfl
  · refine mv_iload_n (pc := 4) (i := 1) 1 dX7_hasType_4 rfl rfl ?_
    refine mv_aload_n (pc := 5) (i := 0) 0 dX7_hasType_5 rfl rfl ?_
    refine mv_getI (pc := 6) (i := 1) dX7_hasType_6 flX7_36 lx_1 rfl ?_
    refine mv_icmp_ge (pc := 9) (tgt := 16) dX7_hasType_9 (by decide) ?_ ?_
    · refine mv_iconst (pc := 16) dX7_hasType_16 kci0 ?_
      exact mv_zreturn (pc := 17) dX7_hasType_17 rfl
    · refine mv_iconst (pc := 12) dX7_hasType_12 kci1 ?_
      refine mv_goto (pc := 13) (tgt := 17) dX7_hasType_13 (by decide) ?_
      exact mv_zreturn (pc := 17) dX7_hasType_17 rfl

set_option maxRecDepth 100000 in
set_option maxHeartbeats 4000000 in
theorem ctX8_above (l : Launch) (D : va_G) (cA : Nat → ClassId) (ad : Nat → Nat) (F : Nat) (M : mv_M) (a1 : Int32) (a2 : Int32) : mv_C l (D, cA, ad, LX) yX8_above iX8_above mv_ri [.ref (ad 0), .int a1, .int a2] M (fX8_above F M a1 a2) := by
  refine mv_C.ofV (ls := [(0, .ref (ad 0)), (1, .int a1), (2, .int a2)]) (by decide) rfl (Nat.le_of_ble_eq_true rfl) rfl ?_
  intro x hxl
  subst hxl
  unfold fX8_above
  refine mv_aload_n (pc := 0) (i := 0) 0 dX8_above_0 rfl rfl ?_
  refine mv_getR (pc := 1) (i := 0) (j := 1) dX8_above_1 flX8_10 lx_0 rfl ?_
  refine mv_iload_n (pc := 4) (i := 1) 1 dX8_above_4 rfl rfl ?_
  refine mv_callVi (pc := 5) (As := [.int a1]) (st := []) (i := 1) dX8_above_5 mlX8_173 vmX7_hasType ⟨Nat.le_of_ble_eq_true rfl, Nat.le_of_ble_eq_true rfl⟩ lx_1 rfl rfl (Nat.le_of_ble_eq_true rfl) (ctX7_hasType x.2.1 D cA ad F M a1) (fun v2 M1 => ?_)
  refine mv_if_eq (pc := 8) (tgt := 20) dX8_above_8 (by decide) ?_ ?_
  · refine mv_ldc (pc := 20) dX8_above_20 kwX8_80 ?_
    exact mv_ireturn (pc := 22) dX8_above_22 rfl
  · refine mv_iload_n (pc := 11) (i := 2) 2 dX8_above_11 rfl rfl ?_
    refine mv_if_lt (pc := 12) (tgt := 20) dX8_above_12 (by decide) ?_ ?_
    · refine mv_ldc (pc := 20) dX8_above_20 kwX8_80 ?_
      exact mv_ireturn (pc := 22) dX8_above_22 rfl
    · refine mv_iload_n (pc := 15) (i := 2) 2 dX8_above_15 rfl rfl ?_
      refine mv_iload_n (pc := 16) (i := 1) 1 dX8_above_16 rfl rfl ?_
      refine mv_icmp_le (pc := 17) (tgt := 23) dX8_above_17 (by decide) ?_ ?_
      · refine mv_aload_n (pc := 23) (i := 0) 0 dX8_above_23 rfl rfl ?_
        refine mv_getR (pc := 24) (i := 0) (j := 1) dX8_above_24 flX8_10 lx_0 rfl ?_
        refine mv_getR (pc := 27) (i := 1) (j := 2) dX8_above_27 flX8_176 lx_1 rfl ?_
        refine mv_iload_n (pc := 30) (i := 1) 1 dX8_above_30 rfl rfl ?_
        refine mv_iald (pc := 31) (i := 2) dX8_above_31 lx_2 ?_
        refine mv_istore_n (pc := 32) (i := 3) (ls' := [(0, .ref (ad 0)), (1, .int a1), (2, .int a2)]) dX8_above_32 rfl (Nat.le_of_ble_eq_true rfl) rfl (fun v3 => ?_)
        refine mv_aload_n (pc := 33) (i := 0) 1 dX8_above_33 rfl rfl ?_
        refine mv_getR (pc := 34) (i := 0) (j := 52) dX8_above_34 flX8_37 lx_0 rfl ?_
        refine mv_iconst (pc := 37) dX8_above_37 kci2 ?_
        refine mv_iload_n (pc := 38) (i := 1) 2 dX8_above_38 rfl rfl ?_
        refine mv_iload_n (pc := 39) (i := 3) 0 dX8_above_39 rfl rfl ?_
        refine mv_callVv (pc := 40) (As := [.int (2 : Int32), .int a1, .int v3]) (st := []) (i := 52) dX8_above_40 mlX8_161 vmX0_keep ⟨Nat.le_of_ble_eq_true rfl, Nat.le_of_ble_eq_true rfl⟩ lx_52 rfl rfl (Nat.le_of_ble_eq_true rfl) (ctX0_keep x.2.1 D cA ad F M1 (2 : Int32) a1 v3) (fun M4 => ?_)
        refine mv_aload_n (pc := 43) (i := 0) 1 dX8_above_43 rfl rfl ?_
        refine mv_iconst (pc := 44) dX8_above_44 kci2 ?_
        refine mv_iload_n (pc := 45) (i := 1) 2 dX8_above_45 rfl rfl ?_
        refine mv_iload_n (pc := 46) (i := 2) 3 dX8_above_46 rfl rfl ?_
        refine mv_callVv (pc := 47) (As := [.int (2 : Int32), .int a1, .int a2]) (st := []) (i := 0) dX8_above_47 mlX8_164 vmX8_change ⟨Nat.le_of_ble_eq_true rfl, Nat.le_of_ble_eq_true rfl⟩ lx_0 rfl rfl (Nat.le_of_ble_eq_true rfl) (ctX8_change x.2.1 D cA ad F M4 (2 : Int32) a1 a2) (fun M5 => ?_)
        refine mv_iload_n (pc := 50) (i := 3) 0 dX8_above_50 rfl rfl ?_
        exact mv_ireturn (pc := 51) dX8_above_51 rfl
      · refine mv_ldc (pc := 20) dX8_above_20 kwX8_80 ?_
        exact mv_ireturn (pc := 22) dX8_above_22 rfl

set_option maxRecDepth 100000 in
set_option maxHeartbeats 4000000 in
theorem ctX8_undo (l : Launch) (D : va_G) (cA : Nat → ClassId) (ad : Nat → Nat) (F : Nat) (M : mv_M) : mv_C l (D, cA, ad, LX) yX8_undo iX8_undo mv_ri [.ref (ad 0)] M (fX8_undo F M) := by
  refine mv_C.ofV (ls := [(0, .ref (ad 0))]) (by decide) rfl (Nat.le_of_ble_eq_true rfl) rfl ?_
  intro x hxl
  subst hxl
  unfold fX8_undo
  refine mv_aload_n (pc := 0) (i := 0) 0 dX8_undo_0 rfl rfl ?_
  refine mv_getR (pc := 1) (i := 0) (j := 52) dX8_undo_1 flX8_37 lx_0 rfl ?_
  refine mv_getI (pc := 4) (i := 52) dX8_undo_4 flX8_179 lx_52 rfl ?_
  refine mv_if_ne (pc := 7) (tgt := 13) dX8_undo_7 (by decide) ?_ ?_
  · refine mv_aload_n (pc := 13) (i := 0) 0 dX8_undo_13 rfl rfl ?_
    refine mv_getR (pc := 14) (i := 0) (j := 52) dX8_undo_14 flX8_37 lx_0 rfl ?_
    refine mv_dup (pc := 17) dX8_undo_17 rfl ?_
    refine mv_getI (pc := 18) (i := 52) dX8_undo_18 flX8_179 lx_52 rfl ?_
    refine mv_iconst (pc := 21) dX8_undo_21 kci1 ?_
    refine mv_isub (pc := 22) dX8_undo_22 ?_
    refine mv_putI (pc := 23) (i := 52) dX8_undo_23 flX8_179 (Or.inl fpX0_3) lx_52 rfl (fun M1 => ?_)
    refine mv_aload_n (pc := 26) (i := 0) 0 dX8_undo_26 rfl rfl ?_
    refine mv_getR (pc := 27) (i := 0) (j := 52) dX8_undo_27 flX8_37 lx_0 rfl ?_
    refine mv_getI (pc := 30) (i := 52) dX8_undo_30 flX8_179 lx_52 rfl ?_
    refine mv_istore_n (pc := 33) (i := 1) (ls' := [(0, .ref (ad 0))]) dX8_undo_33 rfl (Nat.le_of_ble_eq_true rfl) rfl (fun v2 => ?_)
    refine mv_aload_n (pc := 34) (i := 0) 1 dX8_undo_34 rfl rfl ?_
    refine mv_aload_n (pc := 35) (i := 0) 1 dX8_undo_35 rfl rfl ?_
    refine mv_getR (pc := 36) (i := 0) (j := 52) dX8_undo_36 flX8_37 lx_0 rfl ?_
    refine mv_getR (pc := 39) (i := 52) (j := 53) dX8_undo_39 flX8_182 lx_52 rfl ?_
    refine mv_iload_n (pc := 42) (i := 1) 0 dX8_undo_42 rfl rfl ?_
    refine mv_iald (pc := 43) (i := 53) dX8_undo_43 lx_53 ?_
    refine mv_aload_n (pc := 44) (i := 0) 1 dX8_undo_44 rfl rfl ?_
    refine mv_getR (pc := 45) (i := 0) (j := 52) dX8_undo_45 flX8_37 lx_0 rfl ?_
    refine mv_getR (pc := 48) (i := 52) (j := 54) dX8_undo_48 flX8_185 lx_52 rfl ?_
    refine mv_iload_n (pc := 51) (i := 1) 0 dX8_undo_51 rfl rfl ?_
    refine mv_iald (pc := 52) (i := 54) dX8_undo_52 lx_54 ?_
    refine mv_aload_n (pc := 53) (i := 0) 1 dX8_undo_53 rfl rfl ?_
    refine mv_getR (pc := 54) (i := 0) (j := 52) dX8_undo_54 flX8_37 lx_0 rfl ?_
    refine mv_getR (pc := 57) (i := 52) (j := 55) dX8_undo_57 flX8_188 lx_52 rfl ?_
    refine mv_iload_n (pc := 60) (i := 1) 0 dX8_undo_60 rfl rfl ?_
    refine mv_iald (pc := 61) (i := 55) dX8_undo_61 lx_55 ?_
    refine mv_callVv (pc := 62) (As := [.int (M1.1 53 v2.toNatClampNeg), .int (M1.1 54 v2.toNatClampNeg), .int (M1.1 55 v2.toNatClampNeg)]) (st := []) (i := 0) dX8_undo_62 mlX8_164 vmX8_change ⟨Nat.le_of_ble_eq_true rfl, Nat.le_of_ble_eq_true rfl⟩ lx_0 rfl rfl (Nat.le_of_ble_eq_true rfl) (ctX8_change x.2.1 D cA ad F M1 (M1.1 53 v2.toNatClampNeg) (M1.1 54 v2.toNatClampNeg) (M1.1 55 v2.toNatClampNeg)) (fun M3 => ?_)
    refine mv_iload_n (pc := 65) (i := 1) 0 dX8_undo_65 rfl rfl ?_
    exact mv_ireturn (pc := 66) dX8_undo_66 rfl
  · refine mv_ldc (pc := 10) dX8_undo_10 kwX8_160 ?_
    exact mv_ireturn (pc := 12) dX8_undo_12 rfl

set_option maxRecDepth 100000 in
set_option maxHeartbeats 4000000 in
theorem ctX7_priceOf (l : Launch) (D : va_G) (cA : Nat → ClassId) (ad : Nat → Nat) (F : Nat) (M : mv_M) (a1 : Int32) : mv_C l (D, cA, ad, LX) yX7_priceOf iX7_priceOf mv_ri [.ref (ad 1), .int a1] M (fX7_priceOf F M a1) := by
  refine mv_C.ofV (ls := [(0, .ref (ad 1)), (1, .int a1)]) (by decide) rfl (Nat.le_of_ble_eq_true rfl) rfl ?_
  intro x hxl
  subst hxl
  unfold fX7_priceOf
  refine mv_aload_n (pc := 0) (i := 0) 0 dX7_priceOf_0 rfl rfl ?_
  refine mv_getR (pc := 1) (i := 1) (j := 4) dX7_priceOf_1 flX7_18 lx_1 rfl ?_
  refine mv_iload_n (pc := 4) (i := 1) 1 dX7_priceOf_4 rfl rfl ?_
  refine mv_iald (pc := 5) (i := 4) dX7_priceOf_5 lx_4 ?_
  refine mv_swc (pc := 6) (v := (2 : Int32)) (off := 30) (tgt := 36) dX7_priceOf_6 (by decide +kernel) (by decide +kernel) (by decide +kernel) (by decide) ?_ (fun h1 => ?_)
  · refine mv_aload_n (pc := 36) (i := 0) 0 dX7_priceOf_36 rfl rfl ?_
    refine mv_getR (pc := 37) (i := 1) (j := 6) dX7_priceOf_37 flX7_24 lx_1 rfl ?_
    refine mv_iload_n (pc := 40) (i := 1) 1 dX7_priceOf_40 rfl rfl ?_
    refine mv_iald (pc := 41) (i := 6) dX7_priceOf_41 lx_6 ?_
    refine mv_iconst (pc := 42) dX7_priceOf_42 kci2 ?_
    refine mv_iadd (pc := 43) dX7_priceOf_43 ?_
    exact mv_ireturn (pc := 44) dX7_priceOf_44 rfl
  refine mv_swc (pc := 6) (v := (3 : Int32)) (off := 39) (tgt := 45) dX7_priceOf_6 (by decide +kernel) (by decide +kernel) (by decide +kernel) (by decide) ?_ (fun h2 => ?_)
  · refine mv_aload_n (pc := 45) (i := 0) 0 dX7_priceOf_45 rfl rfl ?_
    refine mv_getR (pc := 46) (i := 1) (j := 6) dX7_priceOf_46 flX7_24 lx_1 rfl ?_
    refine mv_iload_n (pc := 49) (i := 1) 1 dX7_priceOf_49 rfl rfl ?_
    refine mv_iald (pc := 50) (i := 6) dX7_priceOf_50 lx_6 ?_
    refine mv_iconst (pc := 51) dX7_priceOf_51 kci3 ?_
    refine mv_imul (pc := 52) dX7_priceOf_52 ?_
    exact mv_ireturn (pc := 53) dX7_priceOf_53 rfl
  refine mv_swc (pc := 6) (v := (4 : Int32)) (off := 62) (tgt := 68) dX7_priceOf_6 (by decide +kernel) (by decide +kernel) (by decide +kernel) (by decide) ?_ (fun h3 => ?_)
  · refine mv_aload_n (pc := 68) (i := 0) 0 dX7_priceOf_68 rfl rfl ?_
    refine mv_getR (pc := 69) (i := 1) (j := 6) dX7_priceOf_69 flX7_24 lx_1 rfl ?_
    refine mv_iload_n (pc := 72) (i := 1) 1 dX7_priceOf_72 rfl rfl ?_
    refine mv_iald (pc := 73) (i := 6) dX7_priceOf_73 lx_6 ?_
    exact mv_ireturn (pc := 74) dX7_priceOf_74 rfl
  refine mv_swc (pc := 6) (v := (5 : Int32)) (off := 48) (tgt := 54) dX7_priceOf_6 (by decide +kernel) (by decide +kernel) (by decide +kernel) (by decide) ?_ (fun h4 => ?_)
  · refine mv_aload_n (pc := 54) (i := 0) 0 dX7_priceOf_54 rfl rfl ?_
    refine mv_getR (pc := 55) (i := 1) (j := 6) dX7_priceOf_55 flX7_24 lx_1 rfl ?_
    refine mv_iload_n (pc := 58) (i := 1) 1 dX7_priceOf_58 rfl rfl ?_
    refine mv_iald (pc := 59) (i := 6) dX7_priceOf_59 lx_6 ?_
    refine mv_aload_n (pc := 60) (i := 0) 0 dX7_priceOf_60 rfl rfl ?_
    refine mv_getR (pc := 61) (i := 1) (j := 7) dX7_priceOf_61 flX7_27 lx_1 rfl ?_
    refine mv_iload_n (pc := 64) (i := 1) 1 dX7_priceOf_64 rfl rfl ?_
    refine mv_iald (pc := 65) (i := 7) dX7_priceOf_65 lx_7 ?_
    refine mv_iadd (pc := 66) dX7_priceOf_66 ?_
    exact mv_ireturn (pc := 67) dX7_priceOf_67 rfl
  refine mv_swd (pc := 6) (tgt := 68) dX7_priceOf_6 (by have e0 := mv_ne (n := 2) (by decide +kernel) h1; have e1 := mv_ne (n := 3) (by decide +kernel) h2; have e2 := mv_ne (n := 4) (by decide +kernel) h3; have e3 := mv_ne (n := 5) (by decide +kernel) h4; omega) (by decide) ?_
  refine mv_aload_n (pc := 68) (i := 0) 0 dX7_priceOf_68 rfl rfl ?_
  refine mv_getR (pc := 69) (i := 1) (j := 6) dX7_priceOf_69 flX7_24 lx_1 rfl ?_
  refine mv_iload_n (pc := 72) (i := 1) 1 dX7_priceOf_72 rfl rfl ?_
  refine mv_iald (pc := 73) (i := 6) dX7_priceOf_73 lx_6 ?_
  exact mv_ireturn (pc := 74) dX7_priceOf_74 rfl

set_option maxRecDepth 100000 in
set_option maxHeartbeats 4000000 in
theorem ctX8_member (l : Launch) (D : va_G) (cA : Nat → ClassId) (ad : Nat → Nat) (F : Nat) (M : mv_M) (a1 : Int32) (a2 : Int32) : mv_C l (D, cA, ad, LX) yX8_member iX8_member mv_ri [.ref (ad 0), .int a1, .int a2] M (fX8_member F M a1 a2) := by
  refine mv_C.ofV (ls := [(0, .ref (ad 0)), (1, .int a1), (2, .int a2)]) (by decide) rfl (Nat.le_of_ble_eq_true rfl) rfl ?_
  intro x hxl
  subst hxl
  unfold fX8_member
  refine mv_aload_n (pc := 0) (i := 0) 0 dX8_member_0 rfl rfl ?_
  refine mv_getR (pc := 1) (i := 0) (j := 1) dX8_member_1 flX8_10 lx_0 rfl ?_
  refine mv_iload_n (pc := 4) (i := 1) 1 dX8_member_4 rfl rfl ?_
  refine mv_callVi (pc := 5) (As := [.int a1]) (st := []) (i := 1) dX8_member_5 mlX8_154 vmX7_hasMember ⟨Nat.le_of_ble_eq_true rfl, Nat.le_of_ble_eq_true rfl⟩ lx_1 rfl rfl (Nat.le_of_ble_eq_true rfl) (ctX7_hasMember x.2.1 D cA ad F M a1) (fun v2 M1 => ?_)
  refine mv_if_ne (pc := 8) (tgt := 14) dX8_member_8 (by decide) ?_ ?_
  · refine mv_iload_n (pc := 14) (i := 2) 2 dX8_member_14 rfl rfl ?_
    refine mv_swc (pc := 15) (v := (0 : Int32)) (off := 41) (tgt := 56) dX8_member_15 (by decide +kernel) (by decide +kernel) (by decide +kernel) (by decide) ?_ (fun h3 => ?_)
    · refine mv_aload_n (pc := 56) (i := 0) 0 dX8_member_56 rfl rfl ?_
      refine mv_getR (pc := 57) (i := 0) (j := 1) dX8_member_57 flX8_10 lx_0 rfl ?_
      refine mv_getR (pc := 60) (i := 1) (j := 5) dX8_member_60 flX8_191 lx_1 rfl ?_
      refine mv_iload_n (pc := 63) (i := 1) 1 dX8_member_63 rfl rfl ?_
      refine mv_iald (pc := 64) (i := 5) dX8_member_64 lx_5 ?_
      exact mv_ireturn (pc := 65) dX8_member_65 rfl
    refine mv_swc (pc := 15) (v := (1 : Int32)) (off := 51) (tgt := 66) dX8_member_15 (by decide +kernel) (by decide +kernel) (by decide +kernel) (by decide) ?_ (fun h4 => ?_)
    · refine mv_aload_n (pc := 66) (i := 0) 0 dX8_member_66 rfl rfl ?_
      refine mv_getR (pc := 67) (i := 0) (j := 1) dX8_member_67 flX8_10 lx_0 rfl ?_
      refine mv_getR (pc := 70) (i := 1) (j := 6) dX8_member_70 flX8_170 lx_1 rfl ?_
      refine mv_iload_n (pc := 73) (i := 1) 1 dX8_member_73 rfl rfl ?_
      refine mv_iald (pc := 74) (i := 6) dX8_member_74 lx_6 ?_
      exact mv_ireturn (pc := 75) dX8_member_75 rfl
    refine mv_swc (pc := 15) (v := (2 : Int32)) (off := 61) (tgt := 76) dX8_member_15 (by decide +kernel) (by decide +kernel) (by decide +kernel) (by decide) ?_ (fun h7 => ?_)
    · refine mv_aload_n (pc := 76) (i := 0) 0 dX8_member_76 rfl rfl ?_
      refine mv_getR (pc := 77) (i := 0) (j := 1) dX8_member_77 flX8_10 lx_0 rfl ?_
      refine mv_iload_n (pc := 80) (i := 1) 1 dX8_member_80 rfl rfl ?_
      refine mv_callVi (pc := 81) (As := [.int a1]) (st := []) (i := 1) dX8_member_81 mlX8_194 vmX7_priceOf ⟨Nat.le_of_ble_eq_true rfl, Nat.le_of_ble_eq_true rfl⟩ lx_1 rfl rfl (Nat.le_of_ble_eq_true rfl) (ctX7_priceOf x.2.1 D cA ad F M1 a1) (fun v6 M5 => ?_)
      exact mv_ireturn (pc := 84) dX8_member_84 rfl
    refine mv_swc (pc := 15) (v := (3 : Int32)) (off := 70) (tgt := 85) dX8_member_15 (by decide +kernel) (by decide +kernel) (by decide +kernel) (by decide) ?_ (fun h8 => ?_)
    · refine mv_aload_n (pc := 85) (i := 0) 0 dX8_member_85 rfl rfl ?_
      refine mv_getR (pc := 86) (i := 0) (j := 1) dX8_member_86 flX8_10 lx_0 rfl ?_
      refine mv_getR (pc := 89) (i := 1) (j := 7) dX8_member_89 flX8_197 lx_1 rfl ?_
      refine mv_iload_n (pc := 92) (i := 1) 1 dX8_member_92 rfl rfl ?_
      refine mv_iald (pc := 93) (i := 7) dX8_member_93 lx_7 ?_
      exact mv_ireturn (pc := 94) dX8_member_94 rfl
    refine mv_swc (pc := 15) (v := (4 : Int32)) (off := 80) (tgt := 95) dX8_member_15 (by decide +kernel) (by decide +kernel) (by decide +kernel) (by decide) ?_ (fun h9 => ?_)
    · refine mv_aload_n (pc := 95) (i := 0) 0 dX8_member_95 rfl rfl ?_
      refine mv_getR (pc := 96) (i := 0) (j := 1) dX8_member_96 flX8_10 lx_0 rfl ?_
      refine mv_getR (pc := 99) (i := 1) (j := 7) dX8_member_99 flX8_197 lx_1 rfl ?_
      refine mv_iload_n (pc := 102) (i := 1) 1 dX8_member_102 rfl rfl ?_
      refine mv_iald (pc := 103) (i := 7) dX8_member_103 lx_7 ?_
      refine mv_if_le (pc := 104) (tgt := 119) dX8_member_104 (by decide) ?_ ?_
      · refine mv_ldc (pc := 119) dX8_member_119 kwX8_203 ?_
        exact mv_ireturn (pc := 121) dX8_member_121 rfl
      · refine mv_aload_n (pc := 107) (i := 0) 0 dX8_member_107 rfl rfl ?_
        refine mv_getR (pc := 108) (i := 0) (j := 1) dX8_member_108 flX8_10 lx_0 rfl ?_
        refine mv_getR (pc := 111) (i := 1) (j := 8) dX8_member_111 flX8_200 lx_1 rfl ?_
        refine mv_iload_n (pc := 114) (i := 1) 1 dX8_member_114 rfl rfl ?_
        refine mv_iald (pc := 115) (i := 8) dX8_member_115 lx_8 ?_
        refine mv_goto (pc := 116) (tgt := 121) dX8_member_116 (by decide) ?_
        exact mv_ireturn (pc := 121) dX8_member_121 rfl
    refine mv_swc (pc := 15) (v := (5 : Int32)) (off := 107) (tgt := 122) dX8_member_15 (by decide +kernel) (by decide +kernel) (by decide +kernel) (by decide) ?_ (fun h10 => ?_)
    · refine mv_aload_n (pc := 122) (i := 0) 0 dX8_member_122 rfl rfl ?_
      refine mv_getR (pc := 123) (i := 0) (j := 1) dX8_member_123 flX8_10 lx_0 rfl ?_
      refine mv_getR (pc := 126) (i := 1) (j := 7) dX8_member_126 flX8_197 lx_1 rfl ?_
      refine mv_iload_n (pc := 129) (i := 1) 1 dX8_member_129 rfl rfl ?_
      refine mv_iald (pc := 130) (i := 7) dX8_member_130 lx_7 ?_
      refine mv_iconst (pc := 131) dX8_member_131 kci1 ?_
      refine mv_icmp_le (pc := 132) (tgt := 147) dX8_member_132 (by decide) ?_ ?_
      · refine mv_ldc (pc := 147) dX8_member_147 kwX8_203 ?_
        exact mv_ireturn (pc := 149) dX8_member_149 rfl
      · refine mv_aload_n (pc := 135) (i := 0) 0 dX8_member_135 rfl rfl ?_
        refine mv_getR (pc := 136) (i := 0) (j := 1) dX8_member_136 flX8_10 lx_0 rfl ?_
        refine mv_getR (pc := 139) (i := 1) (j := 9) dX8_member_139 flX8_204 lx_1 rfl ?_
        refine mv_iload_n (pc := 142) (i := 1) 1 dX8_member_142 rfl rfl ?_
        refine mv_iald (pc := 143) (i := 9) dX8_member_143 lx_9 ?_
        refine mv_goto (pc := 144) (tgt := 149) dX8_member_144 (by decide) ?_
        exact mv_ireturn (pc := 149) dX8_member_149 rfl
    refine mv_swc (pc := 15) (v := (6 : Int32)) (off := 135) (tgt := 150) dX8_member_15 (by decide +kernel) (by decide +kernel) (by decide +kernel) (by decide) ?_ (fun h13 => ?_)
    · refine mv_aload_n (pc := 150) (i := 0) 0 dX8_member_150 rfl rfl ?_
      refine mv_getR (pc := 151) (i := 0) (j := 1) dX8_member_151 flX8_10 lx_0 rfl ?_
      refine mv_iload_n (pc := 154) (i := 1) 1 dX8_member_154 rfl rfl ?_
      refine mv_callVi (pc := 155) (As := [.int a1]) (st := []) (i := 1) dX8_member_155 mlX8_157 vmX7_isHidden ⟨Nat.le_of_ble_eq_true rfl, Nat.le_of_ble_eq_true rfl⟩ lx_1 rfl rfl (Nat.le_of_ble_eq_true rfl) (ctX7_isHidden x.2.1 D cA ad F M1 a1) (fun v12 M11 => ?_)
      refine mv_if_eq (pc := 158) (tgt := 165) dX8_member_158 (by decide) ?_ ?_
      · refine mv_iconst (pc := 165) dX8_member_165 kci0 ?_
        exact mv_ireturn (pc := 166) dX8_member_166 rfl
      · refine mv_iconst (pc := 161) dX8_member_161 kci1 ?_
        refine mv_goto (pc := 162) (tgt := 166) dX8_member_162 (by decide) ?_
        exact mv_ireturn (pc := 166) dX8_member_166 rfl
    refine mv_swd (pc := 15) (tgt := 167) dX8_member_15 (by have e0 := mv_ne (n := 0) (by decide +kernel) h3; have e1 := mv_ne (n := 1) (by decide +kernel) h4; have e2 := mv_ne (n := 2) (by decide +kernel) h7; have e3 := mv_ne (n := 3) (by decide +kernel) h8; have e4 := mv_ne (n := 4) (by decide +kernel) h9; have e5 := mv_ne (n := 5) (by decide +kernel) h10; have e6 := mv_ne (n := 6) (by decide +kernel) h13; omega) (by decide) ?_
    refine mv_ldc (pc := 167) dX8_member_167 kwX8_80 ?_
    exact mv_ireturn (pc := 169) dX8_member_169 rfl
  · refine mv_ldc (pc := 11) dX8_member_11 kwX8_80 ?_
    exact mv_ireturn (pc := 13) dX8_member_13 rfl

set_option maxRecDepth 100000 in
set_option maxHeartbeats 4000000 in
theorem ctX7_isOf (l : Launch) (D : va_G) (cA : Nat → ClassId) (ad : Nat → Nat) (F : Nat) (M : mv_M) (a1 : Int32) (a2 : Int32) : mv_C l (D, cA, ad, LX) yX7_isOf iX7_isOf mv_ri [.ref (ad 1), .int a1, .int a2] M (fX7_isOf F M a1 a2) := by
  refine mv_C.ofV (ls := [(0, .ref (ad 1)), (1, .int a1), (2, .int a2)]) (by decide) rfl (Nat.le_of_ble_eq_true rfl) rfl ?_
  intro x hxl
  subst hxl
  unfold fX7_isOf
  refine mv_aload_n (pc := 0) (i := 0) 0 dX7_isOf_0 rfl rfl ?_
  refine mv_getR (pc := 1) (i := 1) (j := 3) dX7_isOf_1 flX7_15 lx_1 rfl ?_
  refine mv_iload_n (pc := 4) (i := 1) 1 dX7_isOf_4 rfl rfl ?_
  refine mv_iald (pc := 5) (i := 3) dX7_isOf_5 lx_3 ?_
  refine mv_iload_n (pc := 6) (i := 2) 2 dX7_isOf_6 rfl rfl ?_
  refine mv_ishr (pc := 7) dX7_isOf_7 ?_
  refine mv_iconst (pc := 8) dX7_isOf_8 kci1 ?_
  refine mv_iand (pc := 9) dX7_isOf_9 ?_
  refine mv_if_eq (pc := 10) (tgt := 17) dX7_isOf_10 (by decide) ?_ ?_
  · refine mv_iconst (pc := 17) dX7_isOf_17 kci0 ?_
    exact mv_zreturn (pc := 18) dX7_isOf_18 rfl
  · refine mv_iconst (pc := 13) dX7_isOf_13 kci1 ?_
    refine mv_goto (pc := 14) (tgt := 18) dX7_isOf_14 (by decide) ?_
    exact mv_zreturn (pc := 18) dX7_isOf_18 rfl

set_option maxRecDepth 100000 in
set_option maxHeartbeats 4000000 in
theorem ctX7_typesOf (l : Launch) (D : va_G) (cA : Nat → ClassId) (ad : Nat → Nat) (F : Nat) (M : mv_M) (a1 : Int32) : mv_C l (D, cA, ad, LX) yX7_typesOf iX7_typesOf mv_ri [.ref (ad 1), .int a1] M (fX7_typesOf F M a1) := by
  refine mv_C.ofV (ls := [(0, .ref (ad 1)), (1, .int a1)]) (by decide) rfl (Nat.le_of_ble_eq_true rfl) rfl ?_
  intro x hxl
  subst hxl
  unfold fX7_typesOf
  refine mv_iconst (pc := 0) dX7_typesOf_0 kci0 ?_
  refine mv_istore_n (pc := 1) (i := 2) (ls' := [(0, .ref (ad 1)), (1, .int a1)]) dX7_typesOf_1 rfl (Nat.le_of_ble_eq_true rfl) rfl (fun v1 => ?_)
  refine mv_iconst (pc := 2) dX7_typesOf_2 kci0 ?_
  refine mv_istore_n (pc := 3) (i := 3) (ls' := [(2, .int v1), (0, .ref (ad 1)), (1, .int a1)]) dX7_typesOf_3 rfl (Nat.le_of_ble_eq_true rfl) rfl (fun v2 => ?_)
  refine mv_sub [2, 3, 1, 0] rfl ?_
  refine mv_loop (pc := 4) (lj := fun (s3 : Int32 × Int32 × mv_M) => [(0, .ref (ad 1)), (1, .int a1), (2, .int s3.1), (3, .int s3.2.1)]) (Mj := fun (s3 : Int32 × Int32 × mv_M) => s3.2.2) (B := bX7_typesOf_4 F a1) ?_ F (v1, v2, M)
  intro f4 hf4 s3
  unfold bX7_typesOf_4
  refine mv_iload_n (pc := 4) (i := 3) 3 dX7_typesOf_4 rfl rfl ?_
  refine mv_aload_n (pc := 5) (i := 0) 0 dX7_typesOf_5 rfl rfl ?_
  refine mv_getI (pc := 6) (i := 1) dX7_typesOf_6 flX7_36 lx_1 rfl ?_
  refine mv_icmp_ge (pc := 9) (tgt := 33) dX7_typesOf_9 (by decide) ?_ ?_
  · refine mv_iload_n (pc := 33) (i := 2) 2 dX7_typesOf_33 rfl rfl ?_
    exact mv_ireturn (pc := 34) dX7_typesOf_34 rfl
  · refine mv_aload_n (pc := 12) (i := 0) 0 dX7_typesOf_12 rfl rfl ?_
    refine mv_iload_n (pc := 13) (i := 3) 3 dX7_typesOf_13 rfl rfl ?_
    refine mv_iload_n (pc := 14) (i := 1) 1 dX7_typesOf_14 rfl rfl ?_
    refine mv_callVi (pc := 15) (As := [.int s3.2.1, .int a1]) (st := []) (i := 1) dX7_typesOf_15 mlX7_52 vmX7_isOf ⟨Nat.le_of_ble_eq_true rfl, Nat.le_of_ble_eq_true rfl⟩ lx_1 rfl rfl (Nat.le_of_ble_eq_true rfl) (ctX7_isOf x.2.1 D cA ad F s3.2.2 s3.2.1 a1) (fun v6 M5 => ?_)
    refine mv_if_eq (pc := 18) (tgt := 27) dX7_typesOf_18 (by decide) ?_ ?_
    · refine mv_iinc (pc := 27) (i := 3) (ls' := [(0, .ref (ad 1)), (1, .int a1), (2, .int s3.1)]) 3 dX7_typesOf_27 rfl kci1 (Nat.le_of_ble_eq_true rfl) rfl (fun v7 => ?_)
      refine mv_goto (pc := 30) (tgt := 4) dX7_typesOf_30 (by decide) ?_
      refine mv_sub [1, 2, 3, 0] rfl ?_
      exact hf4 (s3.1, v7, M5)
    · refine mv_iload_n (pc := 21) (i := 2) 2 dX7_typesOf_21 rfl rfl ?_
      refine mv_iconst (pc := 22) dX7_typesOf_22 kci1 ?_
      refine mv_iload_n (pc := 23) (i := 3) 3 dX7_typesOf_23 rfl rfl ?_
      refine mv_ishl (pc := 24) dX7_typesOf_24 ?_
      refine mv_ior (pc := 25) dX7_typesOf_25 ?_
      refine mv_istore_n (pc := 26) (i := 2) (ls' := [(0, .ref (ad 1)), (1, .int a1), (3, .int s3.2.1)]) dX7_typesOf_26 rfl (Nat.le_of_ble_eq_true rfl) rfl (fun v8 => ?_)
      refine mv_iinc (pc := 27) (i := 3) (ls' := [(2, .int v8), (0, .ref (ad 1)), (1, .int a1)]) 3 dX7_typesOf_27 rfl kci1 (Nat.le_of_ble_eq_true rfl) rfl (fun v9 => ?_)
      refine mv_goto (pc := 30) (tgt := 4) dX7_typesOf_30 (by decide) ?_
      refine mv_sub [2, 3, 1, 0] rfl ?_
      exact hf4 (v8, v9, M5)

set_option maxRecDepth 100000 in
set_option maxHeartbeats 4000000 in
theorem ctX7_givesOne (l : Launch) (D : va_G) (cA : Nat → ClassId) (ad : Nat → Nat) (F : Nat) (M : mv_M) (a1 : Int32) (a2 : Int32) : mv_C l (D, cA, ad, LX) yX7_givesOne iX7_givesOne mv_ri [.ref (ad 1), .int a1, .int a2] M (fX7_givesOne F M a1 a2) := by
  refine mv_C.ofV (ls := [(0, .ref (ad 1)), (1, .int a1), (2, .int a2)]) (by decide) rfl (Nat.le_of_ble_eq_true rfl) rfl ?_
  intro x hxl
  subst hxl
  unfold fX7_givesOne
  refine mv_aload_n (pc := 0) (i := 0) 0 dX7_givesOne_0 rfl rfl ?_
  refine mv_aload_n (pc := 1) (i := 0) 0 dX7_givesOne_1 rfl rfl ?_
  refine mv_getR (pc := 2) (i := 1) (j := 5) dX7_givesOne_2 flX7_21 lx_1 rfl ?_
  refine mv_iload_n (pc := 5) (i := 1) 1 dX7_givesOne_5 rfl rfl ?_
  refine mv_iald (pc := 6) (i := 5) dX7_givesOne_6 lx_5 ?_
  refine mv_iload_n (pc := 7) (i := 2) 2 dX7_givesOne_7 rfl rfl ?_
  refine mv_callVi (pc := 8) (As := [.int (M.1 5 a1.toNatClampNeg), .int a2]) (st := []) (i := 1) dX7_givesOne_8 mlX7_52 vmX7_isOf ⟨Nat.le_of_ble_eq_true rfl, Nat.le_of_ble_eq_true rfl⟩ lx_1 rfl rfl (Nat.le_of_ble_eq_true rfl) (ctX7_isOf x.2.1 D cA ad F M (M.1 5 a1.toNatClampNeg) a2) (fun v2 M1 => ?_)
  exact mv_zreturn (pc := 11) dX7_givesOne_11 rfl

set_option maxRecDepth 100000 in
set_option maxHeartbeats 4000000 in
theorem ctX7_membersOf (l : Launch) (D : va_G) (cA : Nat → ClassId) (ad : Nat → Nat) (F : Nat) (M : mv_M) (a1 : Int32) : mv_C l (D, cA, ad, LX) yX7_membersOf iX7_membersOf mv_ri [.ref (ad 1), .int a1] M (fX7_membersOf F M a1) := by
  refine mv_C.ofV (ls := [(0, .ref (ad 1)), (1, .int a1)]) (by decide) rfl (Nat.le_of_ble_eq_true rfl) rfl ?_
  intro x hxl
  subst hxl
  unfold fX7_membersOf
  refine mv_iconst (pc := 0) dX7_membersOf_0 kci0 ?_
  refine mv_istore_n (pc := 1) (i := 2) (ls' := [(0, .ref (ad 1)), (1, .int a1)]) dX7_membersOf_1 rfl (Nat.le_of_ble_eq_true rfl) rfl (fun v1 => ?_)
  refine mv_iconst (pc := 2) dX7_membersOf_2 kci0 ?_
  refine mv_istore_n (pc := 3) (i := 3) (ls' := [(2, .int v1), (0, .ref (ad 1)), (1, .int a1)]) dX7_membersOf_3 rfl (Nat.le_of_ble_eq_true rfl) rfl (fun v2 => ?_)
  refine mv_sub [2, 3, 1, 0] rfl ?_
  refine mv_loop (pc := 4) (lj := fun (s3 : Int32 × Int32 × mv_M) => [(0, .ref (ad 1)), (1, .int a1), (2, .int s3.1), (3, .int s3.2.1)]) (Mj := fun (s3 : Int32 × Int32 × mv_M) => s3.2.2) (B := bX7_membersOf_4 F a1) ?_ F (v1, v2, M)
  intro f4 hf4 s3
  unfold bX7_membersOf_4
  refine mv_iload_n (pc := 4) (i := 3) 3 dX7_membersOf_4 rfl rfl ?_
  refine mv_aload_n (pc := 5) (i := 0) 0 dX7_membersOf_5 rfl rfl ?_
  refine mv_getI (pc := 6) (i := 1) dX7_membersOf_6 flX7_40 lx_1 rfl ?_
  refine mv_icmp_ge (pc := 9) (tgt := 33) dX7_membersOf_9 (by decide) ?_ ?_
  · refine mv_iload_n (pc := 33) (i := 2) 2 dX7_membersOf_33 rfl rfl ?_
    exact mv_ireturn (pc := 34) dX7_membersOf_34 rfl
  · refine mv_aload_n (pc := 12) (i := 0) 0 dX7_membersOf_12 rfl rfl ?_
    refine mv_iload_n (pc := 13) (i := 3) 3 dX7_membersOf_13 rfl rfl ?_
    refine mv_iload_n (pc := 14) (i := 1) 1 dX7_membersOf_14 rfl rfl ?_
    refine mv_callVi (pc := 15) (As := [.int s3.2.1, .int a1]) (st := []) (i := 1) dX7_membersOf_15 mlX7_56 vmX7_givesOne ⟨Nat.le_of_ble_eq_true rfl, Nat.le_of_ble_eq_true rfl⟩ lx_1 rfl rfl (Nat.le_of_ble_eq_true rfl) (ctX7_givesOne x.2.1 D cA ad F s3.2.2 s3.2.1 a1) (fun v6 M5 => ?_)
    refine mv_if_eq (pc := 18) (tgt := 27) dX7_membersOf_18 (by decide) ?_ ?_
    · refine mv_iinc (pc := 27) (i := 3) (ls' := [(0, .ref (ad 1)), (1, .int a1), (2, .int s3.1)]) 3 dX7_membersOf_27 rfl kci1 (Nat.le_of_ble_eq_true rfl) rfl (fun v7 => ?_)
      refine mv_goto (pc := 30) (tgt := 4) dX7_membersOf_30 (by decide) ?_
      refine mv_sub [1, 2, 3, 0] rfl ?_
      exact hf4 (s3.1, v7, M5)
    · refine mv_iload_n (pc := 21) (i := 2) 2 dX7_membersOf_21 rfl rfl ?_
      refine mv_iconst (pc := 22) dX7_membersOf_22 kci1 ?_
      refine mv_iload_n (pc := 23) (i := 3) 3 dX7_membersOf_23 rfl rfl ?_
      refine mv_ishl (pc := 24) dX7_membersOf_24 ?_
      refine mv_ior (pc := 25) dX7_membersOf_25 ?_
      refine mv_istore_n (pc := 26) (i := 2) (ls' := [(0, .ref (ad 1)), (1, .int a1), (3, .int s3.2.1)]) dX7_membersOf_26 rfl (Nat.le_of_ble_eq_true rfl) rfl (fun v8 => ?_)
      refine mv_iinc (pc := 27) (i := 3) (ls' := [(2, .int v8), (0, .ref (ad 1)), (1, .int a1)]) 3 dX7_membersOf_27 rfl kci1 (Nat.le_of_ble_eq_true rfl) rfl (fun v9 => ?_)
      refine mv_goto (pc := 30) (tgt := 4) dX7_membersOf_30 (by decide) ?_
      refine mv_sub [2, 3, 1, 0] rfl ?_
      exact hf4 (v8, v9, M5)

set_option maxRecDepth 100000 in
set_option maxHeartbeats 4000000 in
theorem ctX8_type (l : Launch) (D : va_G) (cA : Nat → ClassId) (ad : Nat → Nat) (F : Nat) (M : mv_M) (a1 : Int32) (a2 : Int32) : mv_C l (D, cA, ad, LX) yX8_type iX8_type mv_ri [.ref (ad 0), .int a1, .int a2] M (fX8_type F M a1 a2) := by
  refine mv_C.ofV (ls := [(0, .ref (ad 0)), (1, .int a1), (2, .int a2)]) (by decide) rfl (Nat.le_of_ble_eq_true rfl) rfl ?_
  intro x hxl
  subst hxl
  unfold fX8_type
  refine mv_aload_n (pc := 0) (i := 0) 0 dX8_type_0 rfl rfl ?_
  refine mv_getR (pc := 1) (i := 0) (j := 1) dX8_type_1 flX8_10 lx_0 rfl ?_
  refine mv_iload_n (pc := 4) (i := 1) 1 dX8_type_4 rfl rfl ?_
  refine mv_callVi (pc := 5) (As := [.int a1]) (st := []) (i := 1) dX8_type_5 mlX8_173 vmX7_hasType ⟨Nat.le_of_ble_eq_true rfl, Nat.le_of_ble_eq_true rfl⟩ lx_1 rfl rfl (Nat.le_of_ble_eq_true rfl) (ctX7_hasType x.2.1 D cA ad F M a1) (fun v2 M1 => ?_)
  refine mv_if_ne (pc := 8) (tgt := 14) dX8_type_8 (by decide) ?_ ?_
  · refine mv_iload_n (pc := 14) (i := 2) 2 dX8_type_14 rfl rfl ?_
    refine mv_swc (pc := 15) (v := (0 : Int32)) (off := 29) (tgt := 44) dX8_type_15 (by decide +kernel) (by decide +kernel) (by decide +kernel) (by decide) ?_ (fun h3 => ?_)
    · refine mv_aload_n (pc := 44) (i := 0) 0 dX8_type_44 rfl rfl ?_
      refine mv_getR (pc := 45) (i := 0) (j := 1) dX8_type_45 flX8_10 lx_0 rfl ?_
      refine mv_getR (pc := 48) (i := 1) (j := 2) dX8_type_48 flX8_176 lx_1 rfl ?_
      refine mv_iload_n (pc := 51) (i := 1) 1 dX8_type_51 rfl rfl ?_
      refine mv_iald (pc := 52) (i := 2) dX8_type_52 lx_2 ?_
      exact mv_ireturn (pc := 53) dX8_type_53 rfl
    refine mv_swc (pc := 15) (v := (1 : Int32)) (off := 39) (tgt := 54) dX8_type_15 (by decide +kernel) (by decide +kernel) (by decide +kernel) (by decide) ?_ (fun h4 => ?_)
    · refine mv_aload_n (pc := 54) (i := 0) 0 dX8_type_54 rfl rfl ?_
      refine mv_getR (pc := 55) (i := 0) (j := 1) dX8_type_55 flX8_10 lx_0 rfl ?_
      refine mv_getR (pc := 58) (i := 1) (j := 3) dX8_type_58 flX8_207 lx_1 rfl ?_
      refine mv_iload_n (pc := 61) (i := 1) 1 dX8_type_61 rfl rfl ?_
      refine mv_iald (pc := 62) (i := 3) dX8_type_62 lx_3 ?_
      exact mv_ireturn (pc := 63) dX8_type_63 rfl
    refine mv_swc (pc := 15) (v := (2 : Int32)) (off := 49) (tgt := 64) dX8_type_15 (by decide +kernel) (by decide +kernel) (by decide +kernel) (by decide) ?_ (fun h7 => ?_)
    · refine mv_aload_n (pc := 64) (i := 0) 0 dX8_type_64 rfl rfl ?_
      refine mv_getR (pc := 65) (i := 0) (j := 1) dX8_type_65 flX8_10 lx_0 rfl ?_
      refine mv_iload_n (pc := 68) (i := 1) 1 dX8_type_68 rfl rfl ?_
      refine mv_callVi (pc := 69) (As := [.int a1]) (st := []) (i := 1) dX8_type_69 mlX8_210 vmX7_typesOf ⟨Nat.le_of_ble_eq_true rfl, Nat.le_of_ble_eq_true rfl⟩ lx_1 rfl rfl (Nat.le_of_ble_eq_true rfl) (ctX7_typesOf x.2.1 D cA ad F M1 a1) (fun v6 M5 => ?_)
      exact mv_ireturn (pc := 72) dX8_type_72 rfl
    refine mv_swc (pc := 15) (v := (3 : Int32)) (off := 58) (tgt := 73) dX8_type_15 (by decide +kernel) (by decide +kernel) (by decide +kernel) (by decide) ?_ (fun h10 => ?_)
    · refine mv_aload_n (pc := 73) (i := 0) 0 dX8_type_73 rfl rfl ?_
      refine mv_getR (pc := 74) (i := 0) (j := 1) dX8_type_74 flX8_10 lx_0 rfl ?_
      refine mv_iload_n (pc := 77) (i := 1) 1 dX8_type_77 rfl rfl ?_
      refine mv_callVi (pc := 78) (As := [.int a1]) (st := []) (i := 1) dX8_type_78 mlX8_213 vmX7_membersOf ⟨Nat.le_of_ble_eq_true rfl, Nat.le_of_ble_eq_true rfl⟩ lx_1 rfl rfl (Nat.le_of_ble_eq_true rfl) (ctX7_membersOf x.2.1 D cA ad F M1 a1) (fun v9 M8 => ?_)
      exact mv_ireturn (pc := 81) dX8_type_81 rfl
    refine mv_swd (pc := 15) (tgt := 82) dX8_type_15 (by have e0 := mv_ne (n := 0) (by decide +kernel) h3; have e1 := mv_ne (n := 1) (by decide +kernel) h4; have e2 := mv_ne (n := 2) (by decide +kernel) h7; have e3 := mv_ne (n := 3) (by decide +kernel) h10; omega) (by decide) ?_
    refine mv_ldc (pc := 82) dX8_type_82 kwX8_80 ?_
    exact mv_ireturn (pc := 84) dX8_type_84 rfl
  · refine mv_ldc (pc := 11) dX8_type_11 kwX8_80 ?_
    exact mv_ireturn (pc := 13) dX8_type_13 rfl

set_option maxRecDepth 100000 in
set_option maxHeartbeats 4000000 in
theorem ctX2_addTo (l : Launch) (D : va_G) (cA : Nat → ClassId) (ad : Nat → Nat) (F : Nat) (M : mv_M) (a1 : Int32) (a2 : Int32) (a3 : Int64) : mv_C l (D, cA, ad, LX) yX2_addTo iX2_addTo mv_rv [.ref (ad 58), .int a1, .int a2, .long a3] M (fX2_addTo F M a1 a2 a3) := by
  refine mv_C.ofV (ls := [(0, .ref (ad 58)), (1, .int a1), (2, .int a2), (3, .long a3)]) (by decide) rfl (Nat.le_of_ble_eq_true rfl) rfl ?_
  intro x hxl
  subst hxl
  unfold fX2_addTo
  refine mv_iconst (pc := 0) dX2_addTo_0 kci0 ?_
  refine mv_istore (pc := 1) (i := 5) (ls' := [(0, .ref (ad 58)), (1, .int a1), (2, .int a2), (3, .long a3)]) dX2_addTo_1 (Nat.le_of_ble_eq_true rfl) rfl (fun v1 => ?_)
  refine mv_sub [1, 2, 3, 4, 0] rfl ?_
  refine mv_loop (pc := 3) (lj := fun (s2 : Int32 × mv_M) => [(0, .ref (ad 58)), (1, .int a1), (2, .int a2), (3, .long a3), (5, .int s2.1)]) (Mj := fun (s2 : Int32 × mv_M) => s2.2) (B := bX2_addTo_3 a1 a2 a3) ?_ F (v1, M)
  intro f3 hf3 s2
  unfold bX2_addTo_3
  refine mv_iload (pc := 3) (i := 5) 4 dX2_addTo_3 rfl ?_
  refine mv_aload_n (pc := 5) (i := 0) 0 dX2_addTo_5 rfl rfl ?_
  refine mv_getR (pc := 6) (i := 58) (j := 1) dX2_addTo_6 flX2_29 lx_58 rfl ?_
  refine mv_getI (pc := 9) (i := 1) dX2_addTo_9 flX2_113 lx_1 rfl ?_
  refine mv_icmp_ge (pc := 12) (tgt := 56) dX2_addTo_12 (by decide) ?_ ?_
  · exact mv_return (pc := 56) dX2_addTo_56 rfl
  · refine mv_iload_n (pc := 15) (i := 1) 1 dX2_addTo_15 rfl rfl ?_
    refine mv_iload (pc := 16) (i := 5) 4 dX2_addTo_16 rfl ?_
    refine mv_ishr (pc := 18) dX2_addTo_18 ?_
    refine mv_iconst (pc := 19) dX2_addTo_19 kci1 ?_
    refine mv_iand (pc := 20) dX2_addTo_20 ?_
    refine mv_if_eq (pc := 21) (tgt := 50) dX2_addTo_21 (by decide) ?_ ?_
    · refine mv_iinc (pc := 50) (i := 5) (ls' := [(0, .ref (ad 58)), (1, .int a1), (2, .int a2), (3, .long a3)]) 4 dX2_addTo_50 rfl kci1 (Nat.le_of_ble_eq_true rfl) rfl (fun v4 => ?_)
      refine mv_goto (pc := 53) (tgt := 3) dX2_addTo_53 (by decide) ?_
      refine mv_sub [1, 2, 3, 4, 0] rfl ?_
      exact hf3 (v4, s2.2)
    · refine mv_aload_n (pc := 24) (i := 0) 0 dX2_addTo_24 rfl rfl ?_
      refine mv_getR (pc := 25) (i := 58) (j := 72) dX2_addTo_25 flX2_16 lx_58 rfl ?_
      refine mv_iload (pc := 28) (i := 5) 4 dX2_addTo_28 rfl ?_
      refine mv_aald (pc := 30) (i := 72) (b := 73) (t := 2) dX2_addTo_30 lx_72 (by decide) (by decide) (fun h5 => ?_)
      refine mv_iload_n (pc := 31) (i := 2) 2 dX2_addTo_31 rfl rfl ?_
      refine mv_aload_n (pc := 32) (i := 0) 0 dX2_addTo_32 rfl rfl ?_
      refine mv_getR (pc := 33) (i := 58) (j := 72) dX2_addTo_33 flX2_16 lx_58 rfl ?_
      refine mv_iload (pc := 36) (i := 5) 4 dX2_addTo_36 rfl ?_
      refine mv_aald (pc := 38) (i := 72) (b := 73) (t := 2) dX2_addTo_38 lx_72 (by decide) (by decide) (fun h6 => ?_)
      refine mv_iload_n (pc := 39) (i := 2) 2 dX2_addTo_39 rfl rfl ?_
      refine mv_lald (pc := 40) (i := (73 + s2.1.toNatClampNeg)) dX2_addTo_40 (lxr_73 _ h6) ?_
      refine mv_lload_n (pc := 41) (i := 3) 3 dX2_addTo_41 rfl rfl ?_
      refine mv_ladd (pc := 42) dX2_addTo_42 ?_
      refine mv_ldc2_w (pc := 43) dX2_addTo_43 kwX2_129 ?_
      refine mv_minl (pc := 46) dX2_addTo_46 mwX2_38 mx_min ⟨Nat.le_of_ble_eq_true rfl, Nat.le_of_ble_eq_true rfl⟩ ?_
      refine mv_last (pc := 49) (i := (73 + s2.1.toNatClampNeg)) dX2_addTo_49 (lxr_73 _ h5) (fun M7 => ?_)
      refine mv_iinc (pc := 50) (i := 5) (ls' := [(0, .ref (ad 58)), (1, .int a1), (2, .int a2), (3, .long a3)]) 4 dX2_addTo_50 rfl kci1 (Nat.le_of_ble_eq_true rfl) rfl (fun v8 => ?_)
      refine mv_goto (pc := 53) (tgt := 3) dX2_addTo_53 (by decide) ?_
      refine mv_sub [1, 2, 3, 4, 0] rfl ?_
      exact hf3 (v8, M7)

set_option maxRecDepth 100000 in
set_option maxHeartbeats 4000000 in
theorem ctX2_ways (l : Launch) (D : va_G) (cA : Nat → ClassId) (ad : Nat → Nat) (F : Nat) (M : mv_M) (i1 : Nat) (i2 : Nat) (a3 : Int32) (hi1 : LX[i1]? = some (2, 25, [])) (hi2 : LX[i2]? = some (2, 25, [])) : mv_C l (D, cA, ad, LX) yX2_ways iX2_ways mv_rl [.ref (ad i1), .ref (ad i2), .int a3] M (fX2_ways F M i1 i2 a3) := by
  refine mv_C.ofV (ls := [(0, .ref (ad i1)), (1, .ref (ad i2)), (2, .int a3)]) (by decide) rfl (Nat.le_of_ble_eq_true rfl) rfl ?_
  intro x hxl
  subst hxl
  unfold fX2_ways
  refine mv_lconst (pc := 0) dX2_ways_0 (by decide +kernel : Int64.ofNat ((0 : Fin 2) : Nat) = (0 : Int64)) ?_
  refine mv_lstore_n (pc := 1) (i := 3) (ls' := [(0, .ref (ad i1)), (1, .ref (ad i2)), (2, .int a3)]) dX2_ways_1 rfl (Nat.le_of_ble_eq_true rfl) rfl (fun v1 => ?_)
  refine mv_iconst (pc := 2) dX2_ways_2 kci0 ?_
  refine mv_istore (pc := 3) (i := 5) (ls' := [(3, .long v1), (0, .ref (ad i1)), (1, .ref (ad i2)), (2, .int a3)]) dX2_ways_3 (Nat.le_of_ble_eq_true rfl) rfl (fun v2 => ?_)
  refine mv_sub [2, 3, 4, 1, 0] rfl ?_
  refine mv_loop (pc := 5) (lj := fun (s3 : Int64 × Int32 × mv_M) => [(0, .ref (ad i1)), (1, .ref (ad i2)), (2, .int a3), (3, .long s3.1), (5, .int s3.2.1)]) (Mj := fun (s3 : Int64 × Int32 × mv_M) => s3.2.2) (B := bX2_ways_5 a3 i1 i2) ?_ F (v1, v2, M)
  intro f4 hf4 s3
  unfold bX2_ways_5
  refine mv_iload (pc := 5) (i := 5) 4 dX2_ways_5 rfl ?_
  refine mv_iload_n (pc := 7) (i := 2) 2 dX2_ways_7 rfl rfl ?_
  refine mv_icmp_gt (pc := 8) (tgt := 39) dX2_ways_8 (by decide) ?_ ?_
  · refine mv_lload_n (pc := 39) (i := 3) 3 dX2_ways_39 rfl rfl ?_
    refine mv_ldc2_w (pc := 40) dX2_ways_40 kwX2_129 ?_
    refine mv_minl (pc := 43) dX2_ways_43 mwX2_38 mx_min ⟨Nat.le_of_ble_eq_true rfl, Nat.le_of_ble_eq_true rfl⟩ ?_
    exact mv_lreturn (pc := 46) dX2_ways_46 rfl
  · refine mv_lload_n (pc := 11) (i := 3) 3 dX2_ways_11 rfl rfl ?_
    refine mv_ldc2_w (pc := 12) dX2_ways_12 kwX2_129 ?_
    refine mv_lcmp (pc := 15) dX2_ways_15 ?_
    refine mv_if_ge (pc := 16) (tgt := 39) dX2_ways_16 (by decide) ?_ ?_
    · refine mv_lload_n (pc := 39) (i := 3) 3 dX2_ways_39 rfl rfl ?_
      refine mv_ldc2_w (pc := 40) dX2_ways_40 kwX2_129 ?_
      refine mv_minl (pc := 43) dX2_ways_43 mwX2_38 mx_min ⟨Nat.le_of_ble_eq_true rfl, Nat.le_of_ble_eq_true rfl⟩ ?_
      exact mv_lreturn (pc := 46) dX2_ways_46 rfl
    · refine mv_lload_n (pc := 19) (i := 3) 3 dX2_ways_19 rfl rfl ?_
      refine mv_aload_n (pc := 20) (i := 0) 0 dX2_ways_20 rfl rfl ?_
      refine mv_iload (pc := 21) (i := 5) 4 dX2_ways_21 rfl ?_
      refine mv_lald (pc := 23) (i := i1) dX2_ways_23 hi1 ?_
      refine mv_aload_n (pc := 24) (i := 1) 1 dX2_ways_24 rfl rfl ?_
      refine mv_iload_n (pc := 25) (i := 2) 2 dX2_ways_25 rfl rfl ?_
      refine mv_iload (pc := 26) (i := 5) 4 dX2_ways_26 rfl ?_
      refine mv_isub (pc := 28) dX2_ways_28 ?_
      refine mv_lald (pc := 29) (i := i2) dX2_ways_29 hi2 ?_
      refine mv_lmul (pc := 30) dX2_ways_30 ?_
      refine mv_ladd (pc := 31) dX2_ways_31 ?_
      refine mv_lstore_n (pc := 32) (i := 3) (ls' := [(0, .ref (ad i1)), (1, .ref (ad i2)), (2, .int a3), (5, .int s3.2.1)]) dX2_ways_32 rfl (Nat.le_of_ble_eq_true rfl) rfl (fun v5 => ?_)
      refine mv_iinc (pc := 33) (i := 5) (ls' := [(3, .long v5), (0, .ref (ad i1)), (1, .ref (ad i2)), (2, .int a3)]) 4 dX2_ways_33 rfl kci1 (Nat.le_of_ble_eq_true rfl) rfl (fun v6 => ?_)
      refine mv_goto (pc := 36) (tgt := 5) dX2_ways_36 (by decide) ?_
      refine mv_sub [2, 3, 4, 1, 0] rfl ?_
      exact hf4 (v5, v6, s3.2.2)

set_option maxRecDepth 100000 in
set_option maxHeartbeats 4000000 in
theorem ctX2_manyWith (l : Launch) (D : va_G) (cA : Nat → ClassId) (ad : Nat → Nat) (F : Nat) (M : mv_M) (a1 : Int32) (a2 : Int32) : mv_C l (D, cA, ad, LX) yX2_manyWith iX2_manyWith mv_rl [.ref (ad 58), .int a1, .int a2] M (fX2_manyWith F M a1 a2) := by
  refine mv_C.ofV (ls := [(0, .ref (ad 58)), (1, .int a1), (2, .int a2)]) (by decide) rfl (Nat.le_of_ble_eq_true rfl) rfl ?_
  intro x hxl
  subst hxl
  unfold fX2_manyWith
  refine mv_iload_n (pc := 0) (i := 2) 2 dX2_manyWith_0 rfl rfl ?_
  refine mv_aload_n (pc := 1) (i := 0) 0 dX2_manyWith_1 rfl rfl ?_
  refine mv_getR (pc := 2) (i := 58) (j := 1) dX2_manyWith_2 flX2_29 lx_58 rfl ?_
  refine mv_iload_n (pc := 5) (i := 1) 1 dX2_manyWith_5 rfl rfl ?_
  refine mv_callVi (pc := 6) (As := [.int a1]) (st := [.int a2]) (i := 1) dX2_manyWith_6 mlX2_65 vmX7_priceOf ⟨Nat.le_of_ble_eq_true rfl, Nat.le_of_ble_eq_true rfl⟩ lx_1 rfl rfl (Nat.le_of_ble_eq_true rfl) (ctX7_priceOf x.2.1 D cA ad F M a1) (fun v2 M1 => ?_)
  refine mv_isub (pc := 9) dX2_manyWith_9 ?_
  refine mv_istore_n (pc := 10) (i := 3) (ls' := [(0, .ref (ad 58)), (1, .int a1), (2, .int a2)]) dX2_manyWith_10 rfl (Nat.le_of_ble_eq_true rfl) rfl (fun v3 => ?_)
  refine mv_iload_n (pc := 11) (i := 3) 0 dX2_manyWith_11 rfl rfl ?_
  refine mv_if_ge (pc := 12) (tgt := 17) dX2_manyWith_12 (by decide) ?_ ?_
  · refine mv_aload_n (pc := 17) (i := 0) 1 dX2_manyWith_17 rfl rfl ?_
    refine mv_getR (pc := 18) (i := 58) (j := 1) dX2_manyWith_18 flX2_29 lx_58 rfl ?_
    refine mv_getR (pc := 21) (i := 1) (j := 7) dX2_manyWith_21 flX2_94 lx_1 rfl ?_
    refine mv_iload_n (pc := 24) (i := 1) 2 dX2_manyWith_24 rfl rfl ?_
    refine mv_iald (pc := 25) (i := 7) dX2_manyWith_25 lx_7 ?_
    refine mv_lkc (pc := 26) (v := (0 : Int32)) (off := 26) (tgt := 52) dX2_manyWith_26 (by decide +kernel) (by decide +kernel) (by decide) ?_ (fun h4 => ?_)
    · refine mv_iload_n (pc := 52) (i := 3) 0 dX2_manyWith_52 rfl rfl ?_
      refine mv_if_ne (pc := 53) (tgt := 60) dX2_manyWith_53 (by decide) ?_ ?_
      · refine mv_lconst (pc := 60) dX2_manyWith_60 (by decide +kernel : Int64.ofNat ((0 : Fin 2) : Nat) = (0 : Int64)) ?_
        exact mv_lreturn (pc := 61) dX2_manyWith_61 rfl
      · refine mv_lconst (pc := 56) dX2_manyWith_56 (by decide +kernel : Int64.ofNat ((1 : Fin 2) : Nat) = (1 : Int64)) ?_
        refine mv_goto (pc := 57) (tgt := 61) dX2_manyWith_57 (by decide) ?_
        exact mv_lreturn (pc := 61) dX2_manyWith_61 rfl
    refine mv_lkc (pc := 26) (v := (1 : Int32)) (off := 36) (tgt := 62) dX2_manyWith_26 (by decide +kernel) (by decide +kernel) (by decide) ?_ (fun h6 => ?_)
    · refine mv_aload_n (pc := 62) (i := 0) 1 dX2_manyWith_62 rfl rfl ?_
      refine mv_getR (pc := 63) (i := 58) (j := 72) dX2_manyWith_63 flX2_16 lx_58 rfl ?_
      refine mv_aload_n (pc := 66) (i := 0) 1 dX2_manyWith_66 rfl rfl ?_
      refine mv_getR (pc := 67) (i := 58) (j := 1) dX2_manyWith_67 flX2_29 lx_58 rfl ?_
      refine mv_getR (pc := 70) (i := 1) (j := 8) dX2_manyWith_70 flX2_103 lx_1 rfl ?_
      refine mv_iload_n (pc := 73) (i := 1) 2 dX2_manyWith_73 rfl rfl ?_
      refine mv_iald (pc := 74) (i := 8) dX2_manyWith_74 lx_8 ?_
      refine mv_aald (pc := 75) (i := 72) (b := 73) (t := 2) dX2_manyWith_75 lx_72 (by decide) (by decide) (fun h5 => ?_)
      refine mv_iload_n (pc := 76) (i := 3) 0 dX2_manyWith_76 rfl rfl ?_
      refine mv_lald (pc := 77) (i := (73 + (M1.1 8 a1.toNatClampNeg).toNatClampNeg)) dX2_manyWith_77 (lxr_73 _ h5) ?_
      exact mv_lreturn (pc := 78) dX2_manyWith_78 rfl
    refine mv_lkd (pc := 26) (tgt := 79) dX2_manyWith_26 (by decide +kernel) (by have e0 := mv_ne (n := 0) (by decide +kernel) h4; have e1 := mv_ne (n := 1) (by decide +kernel) h6; show Op.lookupswitch.offset [(0, 26), (1, 36)] 53 _ = 53; rw [Op.lookupswitch.offset_cons, if_neg (Ne.symm e0), Op.lookupswitch.offset_cons, if_neg (Ne.symm e1)]; rfl) (by decide) ?_
    refine mv_aload_n (pc := 79) (i := 0) 1 dX2_manyWith_79 rfl rfl ?_
    refine mv_getR (pc := 80) (i := 58) (j := 72) dX2_manyWith_80 flX2_16 lx_58 rfl ?_
    refine mv_aload_n (pc := 83) (i := 0) 1 dX2_manyWith_83 rfl rfl ?_
    refine mv_getR (pc := 84) (i := 58) (j := 1) dX2_manyWith_84 flX2_29 lx_58 rfl ?_
    refine mv_getR (pc := 87) (i := 1) (j := 8) dX2_manyWith_87 flX2_103 lx_1 rfl ?_
    refine mv_iload_n (pc := 90) (i := 1) 2 dX2_manyWith_90 rfl rfl ?_
    refine mv_iald (pc := 91) (i := 8) dX2_manyWith_91 lx_8 ?_
    refine mv_aald (pc := 92) (i := 72) (b := 73) (t := 2) dX2_manyWith_92 lx_72 (by decide) (by decide) (fun h7 => ?_)
    refine mv_aload_n (pc := 93) (i := 0) 1 dX2_manyWith_93 rfl rfl ?_
    refine mv_getR (pc := 94) (i := 58) (j := 72) dX2_manyWith_94 flX2_16 lx_58 rfl ?_
    refine mv_aload_n (pc := 97) (i := 0) 1 dX2_manyWith_97 rfl rfl ?_
    refine mv_getR (pc := 98) (i := 58) (j := 1) dX2_manyWith_98 flX2_29 lx_58 rfl ?_
    refine mv_getR (pc := 101) (i := 1) (j := 9) dX2_manyWith_101 flX2_97 lx_1 rfl ?_
    refine mv_iload_n (pc := 104) (i := 1) 2 dX2_manyWith_104 rfl rfl ?_
    refine mv_iald (pc := 105) (i := 9) dX2_manyWith_105 lx_9 ?_
    refine mv_aald (pc := 106) (i := 72) (b := 73) (t := 2) dX2_manyWith_106 lx_72 (by decide) (by decide) (fun h8 => ?_)
    refine mv_iload_n (pc := 107) (i := 3) 0 dX2_manyWith_107 rfl rfl ?_
    refine mv_callSl (pc := 108) (As := [.ref (ad (73 + (M1.1 8 a1.toNatClampNeg).toNatClampNeg)), .ref (ad (73 + (M1.1 9 a1.toNatClampNeg).toNatClampNeg)), .int v3]) (st := []) dX2_manyWith_108 mlX2_90 smX2_ways ⟨Nat.le_of_ble_eq_true rfl, Nat.le_of_ble_eq_true rfl⟩ rfl (Nat.le_of_ble_eq_true rfl) (ctX2_ways x.2.1 D cA ad F M1 (73 + (M1.1 8 a1.toNatClampNeg).toNatClampNeg) (73 + (M1.1 9 a1.toNatClampNeg).toNatClampNeg) v3 (lxr_73 _ h7) (lxr_73 _ h8)) (fun v10 M9 => ?_)
    exact mv_lreturn (pc := 111) dX2_manyWith_111 rfl
  · refine mv_lconst (pc := 15) dX2_manyWith_15 (by decide +kernel : Int64.ofNat ((0 : Fin 2) : Nat) = (0 : Int64)) ?_
    exact mv_lreturn (pc := 16) dX2_manyWith_16 rfl

set_option maxRecDepth 100000 in
set_option maxHeartbeats 4000000 in
theorem ctX2_countPrice (l : Launch) (D : va_G) (cA : Nat → ClassId) (ad : Nat → Nat) (F : Nat) (M : mv_M) (a1 : Int32) : mv_C l (D, cA, ad, LX) yX2_countPrice iX2_countPrice mv_rv [.ref (ad 58), .int a1] M (fX2_countPrice F M a1) := by
  refine mv_C.ofV (ls := [(0, .ref (ad 58)), (1, .int a1)]) (by decide) rfl (Nat.le_of_ble_eq_true rfl) rfl ?_
  intro x hxl
  subst hxl
  unfold fX2_countPrice
  refine mv_iconst (pc := 0) dX2_countPrice_0 kci0 ?_
  refine mv_istore_n (pc := 1) (i := 2) (ls' := [(0, .ref (ad 58)), (1, .int a1)]) dX2_countPrice_1 rfl (Nat.le_of_ble_eq_true rfl) rfl (fun v1 => ?_)
  refine mv_jp (pj := 28) (lj := fun (s2 : mv_M) => [(0, .ref (ad 58)), (1, .int a1)]) (sj := fun (s2 : mv_M) => []) (Mj := fun (s2 : mv_M) => s2) ?_ ?_
  · intro s2
    refine mv_iconst (pc := 28) dX2_countPrice_28 kci0 ?_
    refine mv_istore_n (pc := 29) (i := 2) (ls' := [(0, .ref (ad 58)), (1, .int a1)]) dX2_countPrice_29 rfl (Nat.le_of_ble_eq_true rfl) rfl (fun v4 => ?_)
    refine mv_sub [1, 2, 0] rfl ?_
    refine mv_loop (pc := 30) (lj := fun (s5 : Int32 × mv_M) => [(0, .ref (ad 58)), (1, .int a1), (2, .int s5.1)]) (Mj := fun (s5 : Int32 × mv_M) => s5.2) (B := bX2_countPrice_30 F a1) ?_ F (v4, s2)
    intro f6 hf6 s5
    unfold bX2_countPrice_30
    refine mv_iload_n (pc := 30) (i := 2) 2 dX2_countPrice_30 rfl rfl ?_
    refine mv_aload_n (pc := 31) (i := 0) 0 dX2_countPrice_31 rfl rfl ?_
    refine mv_getR (pc := 32) (i := 58) (j := 1) dX2_countPrice_32 flX2_29 lx_58 rfl ?_
    refine mv_getI (pc := 35) (i := 1) dX2_countPrice_35 flX2_75 lx_1 rfl ?_
    refine mv_icmp_ge (pc := 38) (tgt := 107) dX2_countPrice_38 (by decide) ?_ ?_
    · exact mv_return (pc := 107) dX2_countPrice_107 rfl
    · refine mv_aload_n (pc := 41) (i := 0) 0 dX2_countPrice_41 rfl rfl ?_
      refine mv_getR (pc := 42) (i := 58) (j := 1) dX2_countPrice_42 flX2_29 lx_58 rfl ?_
      refine mv_iload_n (pc := 45) (i := 2) 2 dX2_countPrice_45 rfl rfl ?_
      refine mv_callVi (pc := 46) (As := [.int s5.1]) (st := []) (i := 1) dX2_countPrice_46 mlX2_82 vmX7_isHidden ⟨Nat.le_of_ble_eq_true rfl, Nat.le_of_ble_eq_true rfl⟩ lx_1 rfl rfl (Nat.le_of_ble_eq_true rfl) (ctX7_isHidden x.2.1 D cA ad F s5.2 s5.1) (fun v8 M7 => ?_)
      refine mv_jp (pj := 62) (lj := fun (s9 : Int64 × mv_M) => [(0, .ref (ad 58)), (1, .int a1), (2, .int s5.1)]) (sj := fun (s9 : Int64 × mv_M) => [.long s9.1]) (Mj := fun (s9 : Int64 × mv_M) => s9.2) ?_ ?_
      · intro s9
        refine mv_lstore_n (pc := 62) (i := 3) (ls' := [(0, .ref (ad 58)), (1, .int a1), (2, .int s5.1)]) dX2_countPrice_62 rfl (Nat.le_of_ble_eq_true rfl) rfl (fun v11 => ?_)
        refine mv_aload_n (pc := 63) (i := 0) 1 dX2_countPrice_63 rfl rfl ?_
        refine mv_getR (pc := 64) (i := 58) (j := 59) dX2_countPrice_64 flX2_11 lx_58 rfl ?_
        refine mv_iload_n (pc := 67) (i := 2) 3 dX2_countPrice_67 rfl rfl ?_
        refine mv_aald (pc := 68) (i := 59) (b := 60) (t := 2) dX2_countPrice_68 lx_59 (by decide) (by decide) (fun h12 => ?_)
        refine mv_iload_n (pc := 69) (i := 1) 2 dX2_countPrice_69 rfl rfl ?_
        refine mv_lload_n (pc := 70) (i := 3) 0 dX2_countPrice_70 rfl rfl ?_
        refine mv_last (pc := 71) (i := (60 + s5.1.toNatClampNeg)) dX2_countPrice_71 (lxr_60 _ h12) (fun M13 => ?_)
        refine mv_lload_n (pc := 72) (i := 3) 0 dX2_countPrice_72 rfl rfl ?_
        refine mv_lconst (pc := 73) dX2_countPrice_73 (by decide +kernel : Int64.ofNat ((0 : Fin 2) : Nat) = (0 : Int64)) ?_
        refine mv_lcmp (pc := 74) dX2_countPrice_74 ?_
        refine mv_if_le (pc := 75) (tgt := 101) dX2_countPrice_75 (by decide) ?_ ?_
        · refine mv_iinc (pc := 101) (i := 2) (ls' := [(3, .long v11), (0, .ref (ad 58)), (1, .int a1)]) 3 dX2_countPrice_101 rfl kci1 (Nat.le_of_ble_eq_true rfl) rfl (fun v14 => ?_)
          refine mv_goto (pc := 104) (tgt := 30) dX2_countPrice_104 (by decide) ?_
          refine mv_sub [2, 3, 0] rfl ?_
          exact hf6 (v14, M13)
        · refine mv_aload_n (pc := 78) (i := 0) 1 dX2_countPrice_78 rfl rfl ?_
          refine mv_aload_n (pc := 79) (i := 0) 1 dX2_countPrice_79 rfl rfl ?_
          refine mv_getR (pc := 80) (i := 58) (j := 1) dX2_countPrice_80 flX2_29 lx_58 rfl ?_
          refine mv_getR (pc := 83) (i := 1) (j := 3) dX2_countPrice_83 flX2_119 lx_1 rfl ?_
          refine mv_aload_n (pc := 86) (i := 0) 1 dX2_countPrice_86 rfl rfl ?_
          refine mv_getR (pc := 87) (i := 58) (j := 1) dX2_countPrice_87 flX2_29 lx_58 rfl ?_
          refine mv_getR (pc := 90) (i := 1) (j := 5) dX2_countPrice_90 flX2_122 lx_1 rfl ?_
          refine mv_iload_n (pc := 93) (i := 2) 3 dX2_countPrice_93 rfl rfl ?_
          refine mv_iald (pc := 94) (i := 5) dX2_countPrice_94 lx_5 ?_
          refine mv_iald (pc := 95) (i := 3) dX2_countPrice_95 lx_3 ?_
          refine mv_iload_n (pc := 96) (i := 1) 2 dX2_countPrice_96 rfl rfl ?_
          refine mv_lload_n (pc := 97) (i := 3) 0 dX2_countPrice_97 rfl rfl ?_
          refine mv_callVv (pc := 98) (As := [.int (M13.1 3 (M13.1 5 s5.1.toNatClampNeg).toNatClampNeg), .int a1, .long v11]) (st := []) (i := 58) dX2_countPrice_98 mlX2_125 vmX2_addTo ⟨Nat.le_of_ble_eq_true rfl, Nat.le_of_ble_eq_true rfl⟩ lx_58 rfl rfl (Nat.le_of_ble_eq_true rfl) (ctX2_addTo x.2.1 D cA ad F M13 (M13.1 3 (M13.1 5 s5.1.toNatClampNeg).toNatClampNeg) a1 v11) (fun M15 => ?_)
          refine mv_iinc (pc := 101) (i := 2) (ls' := [(3, .long v11), (0, .ref (ad 58)), (1, .int a1)]) 3 dX2_countPrice_101 rfl kci1 (Nat.le_of_ble_eq_true rfl) rfl (fun v16 => ?_)
          refine mv_goto (pc := 104) (tgt := 30) dX2_countPrice_104 (by decide) ?_
          refine mv_sub [2, 3, 0] rfl ?_
          exact hf6 (v16, M15)
      · intro j10 hj10
        refine mv_if_eq (pc := 49) (tgt := 56) dX2_countPrice_49 (by decide) ?_ ?_
        · refine mv_aload_n (pc := 56) (i := 0) 0 dX2_countPrice_56 rfl rfl ?_
          refine mv_iload_n (pc := 57) (i := 2) 2 dX2_countPrice_57 rfl rfl ?_
          refine mv_iload_n (pc := 58) (i := 1) 1 dX2_countPrice_58 rfl rfl ?_
          refine mv_callVl (pc := 59) (As := [.int s5.1, .int a1]) (st := []) (i := 58) dX2_countPrice_59 mlX2_116 vmX2_manyWith ⟨Nat.le_of_ble_eq_true rfl, Nat.le_of_ble_eq_true rfl⟩ lx_58 rfl rfl (Nat.le_of_ble_eq_true rfl) (ctX2_manyWith x.2.1 D cA ad F M7 s5.1 a1) (fun v18 M17 => ?_)
          exact hj10 (v18, M17)
        · refine mv_lconst (pc := 52) dX2_countPrice_52 (by decide +kernel : Int64.ofNat ((0 : Fin 2) : Nat) = (0 : Int64)) ?_
          refine mv_goto (pc := 53) (tgt := 62) dX2_countPrice_53 (by decide) ?_
          exact hj10 ((0 : Int64), M7)
  · intro j3 hj3
    refine mv_sub [1, 2, 0] rfl ?_
    refine mv_loop (pc := 2) (lj := fun (s19 : Int32 × mv_M) => [(0, .ref (ad 58)), (1, .int a1), (2, .int s19.1)]) (Mj := fun (s19 : Int32 × mv_M) => s19.2) (B := bX2_countPrice_2 j3 a1) ?_ F (v1, M)
    intro f20 hf20 s19
    unfold bX2_countPrice_2
    refine mv_iload_n (pc := 2) (i := 2) 2 dX2_countPrice_2 rfl rfl ?_
    refine mv_aload_n (pc := 3) (i := 0) 0 dX2_countPrice_3 rfl rfl ?_
    refine mv_getR (pc := 4) (i := 58) (j := 1) dX2_countPrice_4 flX2_29 lx_58 rfl ?_
    refine mv_getI (pc := 7) (i := 1) dX2_countPrice_7 flX2_113 lx_1 rfl ?_
    refine mv_icmp_ge (pc := 10) (tgt := 28) dX2_countPrice_10 (by decide) ?_ ?_
    · refine mv_sub [0, 1] rfl ?_
      exact hj3 (s19.2)
    · refine mv_aload_n (pc := 13) (i := 0) 0 dX2_countPrice_13 rfl rfl ?_
      refine mv_getR (pc := 14) (i := 58) (j := 72) dX2_countPrice_14 flX2_16 lx_58 rfl ?_
      refine mv_iload_n (pc := 17) (i := 2) 2 dX2_countPrice_17 rfl rfl ?_
      refine mv_aald (pc := 18) (i := 72) (b := 73) (t := 2) dX2_countPrice_18 lx_72 (by decide) (by decide) (fun h21 => ?_)
      refine mv_iload_n (pc := 19) (i := 1) 1 dX2_countPrice_19 rfl rfl ?_
      refine mv_lconst (pc := 20) dX2_countPrice_20 (by decide +kernel : Int64.ofNat ((0 : Fin 2) : Nat) = (0 : Int64)) ?_
      refine mv_last (pc := 21) (i := (73 + s19.1.toNatClampNeg)) dX2_countPrice_21 (lxr_73 _ h21) (fun M22 => ?_)
      refine mv_iinc (pc := 22) (i := 2) (ls' := [(0, .ref (ad 58)), (1, .int a1)]) 2 dX2_countPrice_22 rfl kci1 (Nat.le_of_ble_eq_true rfl) rfl (fun v23 => ?_)
      refine mv_goto (pc := 25) (tgt := 2) dX2_countPrice_25 (by decide) ?_
      refine mv_sub [1, 2, 0] rfl ?_
      exact hf20 (v23, M22)

set_option maxRecDepth 100000 in
set_option maxHeartbeats 4000000 in
theorem ctX2_countAll (l : Launch) (D : va_G) (cA : Nat → ClassId) (ad : Nat → Nat) (F : Nat) (M : mv_M) : mv_C l (D, cA, ad, LX) yX2_countAll iX2_countAll mv_rv [.ref (ad 58)] M (fX2_countAll F M) := by
  refine mv_C.ofV (ls := [(0, .ref (ad 58))]) (by decide) rfl (Nat.le_of_ble_eq_true rfl) rfl ?_
  intro x hxl
  subst hxl
  unfold fX2_countAll
  refine mv_aload_n (pc := 0) (i := 0) 0 dX2_countAll_0 rfl rfl ?_
  refine mv_getI (pc := 1) (i := 58) dX2_countAll_1 flX2_106 lx_58 rfl ?_
  refine mv_if_eq (pc := 4) (tgt := 8) dX2_countAll_4 (by decide) ?_ ?_
  · refine mv_iconst (pc := 8) dX2_countAll_8 kci1 ?_
    refine mv_istore_n (pc := 9) (i := 1) (ls' := [(0, .ref (ad 58))]) dX2_countAll_9 rfl (Nat.le_of_ble_eq_true rfl) rfl (fun v1 => ?_)
    refine mv_sub [1, 0] rfl ?_
    refine mv_loop (pc := 10) (lj := fun (s2 : Int32 × mv_M) => [(0, .ref (ad 58)), (1, .int s2.1)]) (Mj := fun (s2 : Int32 × mv_M) => s2.2) (B := bX2_countAll_10 F) ?_ F (v1, M)
    intro f3 hf3 s2
    unfold bX2_countAll_10
    refine mv_iload_n (pc := 10) (i := 1) 1 dX2_countAll_10 rfl rfl ?_
    refine mv_bipush (pc := 11) dX2_countAll_11 kcb24 ?_
    refine mv_icmp_gt (pc := 13) (tgt := 27) dX2_countAll_13 (by decide) ?_ ?_
    · refine mv_aload_n (pc := 27) (i := 0) 0 dX2_countAll_27 rfl rfl ?_
      refine mv_iconst (pc := 28) dX2_countAll_28 kci1 ?_
      refine mv_putI (pc := 29) (i := 58) dX2_countAll_29 flX2_106 (Or.inr ⟨fpX2_1, Or.inr rfl⟩) lx_58 rfl (fun M4 => ?_)
      exact mv_return (pc := 32) dX2_countAll_32 rfl
    · refine mv_aload_n (pc := 16) (i := 0) 0 dX2_countAll_16 rfl rfl ?_
      refine mv_iload_n (pc := 17) (i := 1) 1 dX2_countAll_17 rfl rfl ?_
      refine mv_callVv (pc := 18) (As := [.int s2.1]) (st := []) (i := 58) dX2_countAll_18 mlX2_110 vmX2_countPrice ⟨Nat.le_of_ble_eq_true rfl, Nat.le_of_ble_eq_true rfl⟩ lx_58 rfl rfl (Nat.le_of_ble_eq_true rfl) (ctX2_countPrice x.2.1 D cA ad F s2.2 s2.1) (fun M5 => ?_)
      refine mv_iinc (pc := 21) (i := 1) (ls' := [(0, .ref (ad 58))]) 1 dX2_countAll_21 rfl kci1 (Nat.le_of_ble_eq_true rfl) rfl (fun v6 => ?_)
      refine mv_goto (pc := 24) (tgt := 10) dX2_countAll_24 (by decide) ?_
      refine mv_sub [1, 0] rfl ?_
      exact hf3 (v6, M5)
  · exact mv_return (pc := 7) dX2_countAll_7 rfl

set_option maxRecDepth 100000 in
set_option maxHeartbeats 4000000 in
theorem ctX2_manyOfPrice (l : Launch) (D : va_G) (cA : Nat → ClassId) (ad : Nat → Nat) (F : Nat) (M : mv_M) (a1 : Int32) (a2 : Int32) : mv_C l (D, cA, ad, LX) yX2_manyOfPrice iX2_manyOfPrice mv_ri [.ref (ad 58), .int a1, .int a2] M (fX2_manyOfPrice F M a1 a2) := by
  refine mv_C.ofV (ls := [(0, .ref (ad 58)), (1, .int a1), (2, .int a2)]) (by decide) rfl (Nat.le_of_ble_eq_true rfl) rfl ?_
  intro x hxl
  subst hxl
  unfold fX2_manyOfPrice
  refine mv_aload_n (pc := 0) (i := 0) 0 dX2_manyOfPrice_0 rfl rfl ?_
  refine mv_callVv (pc := 1) (As := []) (st := []) (i := 58) dX2_manyOfPrice_1 mlX2_33 vmX2_countAll ⟨Nat.le_of_ble_eq_true rfl, Nat.le_of_ble_eq_true rfl⟩ lx_58 rfl rfl (Nat.le_of_ble_eq_true rfl) (ctX2_countAll x.2.1 D cA ad F M) (fun M1 => ?_)
  refine mv_aload_n (pc := 4) (i := 0) 0 dX2_manyOfPrice_4 rfl rfl ?_
  refine mv_getR (pc := 5) (i := 58) (j := 72) dX2_manyOfPrice_5 flX2_16 lx_58 rfl ?_
  refine mv_iload_n (pc := 8) (i := 1) 1 dX2_manyOfPrice_8 rfl rfl ?_
  refine mv_aald (pc := 9) (i := 72) (b := 73) (t := 2) dX2_manyOfPrice_9 lx_72 (by decide) (by decide) (fun h2 => ?_)
  refine mv_iload_n (pc := 10) (i := 2) 2 dX2_manyOfPrice_10 rfl rfl ?_
  refine mv_lald (pc := 11) (i := (73 + a1.toNatClampNeg)) dX2_manyOfPrice_11 (lxr_73 _ h2) ?_
  refine mv_ldc2_w (pc := 12) dX2_manyOfPrice_12 kwX2_36 ?_
  refine mv_minl (pc := 15) dX2_manyOfPrice_15 mwX2_38 mx_min ⟨Nat.le_of_ble_eq_true rfl, Nat.le_of_ble_eq_true rfl⟩ ?_
  refine mv_l2i (pc := 18) dX2_manyOfPrice_18 ?_
  exact mv_ireturn (pc := 19) dX2_manyOfPrice_19 rfl

set_option maxRecDepth 100000 in
set_option maxHeartbeats 4000000 in
theorem ctX8_many (l : Launch) (D : va_G) (cA : Nat → ClassId) (ad : Nat → Nat) (F : Nat) (M : mv_M) (a1 : Int32) (a2 : Int32) : mv_C l (D, cA, ad, LX) yX8_many iX8_many mv_ri [.ref (ad 0), .int a1, .int a2] M (fX8_many F M a1 a2) := by
  refine mv_C.ofV (ls := [(0, .ref (ad 0)), (1, .int a1), (2, .int a2)]) (by decide) rfl (Nat.le_of_ble_eq_true rfl) rfl ?_
  intro x hxl
  subst hxl
  unfold fX8_many
  refine mv_aload_n (pc := 0) (i := 0) 0 dX8_many_0 rfl rfl ?_
  refine mv_getR (pc := 1) (i := 0) (j := 1) dX8_many_1 flX8_10 lx_0 rfl ?_
  refine mv_iload_n (pc := 4) (i := 1) 1 dX8_many_4 rfl rfl ?_
  refine mv_callVi (pc := 5) (As := [.int a1]) (st := []) (i := 1) dX8_many_5 mlX8_173 vmX7_hasType ⟨Nat.le_of_ble_eq_true rfl, Nat.le_of_ble_eq_true rfl⟩ lx_1 rfl rfl (Nat.le_of_ble_eq_true rfl) (ctX7_hasType x.2.1 D cA ad F M a1) (fun v2 M1 => ?_)
  refine mv_if_eq (pc := 8) (tgt := 22) dX8_many_8 (by decide) ?_ ?_
  · refine mv_ldc (pc := 22) dX8_many_22 kwX8_80 ?_
    exact mv_ireturn (pc := 24) dX8_many_24 rfl
  · refine mv_iload_n (pc := 11) (i := 2) 2 dX8_many_11 rfl rfl ?_
    refine mv_iconst (pc := 12) dX8_many_12 kci1 ?_
    refine mv_icmp_lt (pc := 13) (tgt := 22) dX8_many_13 (by decide) ?_ ?_
    · refine mv_ldc (pc := 22) dX8_many_22 kwX8_80 ?_
      exact mv_ireturn (pc := 24) dX8_many_24 rfl
    · refine mv_iload_n (pc := 16) (i := 2) 2 dX8_many_16 rfl rfl ?_
      refine mv_bipush (pc := 17) dX8_many_17 kcb24 ?_
      refine mv_icmp_le (pc := 19) (tgt := 25) dX8_many_19 (by decide) ?_ ?_
      · refine mv_aload_n (pc := 25) (i := 0) 0 dX8_many_25 rfl rfl ?_
        refine mv_getR (pc := 26) (i := 0) (j := 58) dX8_many_26 flX8_53 lx_0 rfl ?_
        refine mv_iload_n (pc := 29) (i := 1) 1 dX8_many_29 rfl rfl ?_
        refine mv_iload_n (pc := 30) (i := 2) 2 dX8_many_30 rfl rfl ?_
        refine mv_callVi (pc := 31) (As := [.int a1, .int a2]) (st := []) (i := 58) dX8_many_31 mlX8_216 vmX2_manyOfPrice ⟨Nat.le_of_ble_eq_true rfl, Nat.le_of_ble_eq_true rfl⟩ lx_58 rfl rfl (Nat.le_of_ble_eq_true rfl) (ctX2_manyOfPrice x.2.1 D cA ad F M1 a1 a2) (fun v4 M3 => ?_)
        exact mv_ireturn (pc := 34) dX8_many_34 rfl
      · refine mv_ldc (pc := 22) dX8_many_22 kwX8_80 ?_
        exact mv_ireturn (pc := 24) dX8_many_24 rfl

set_option maxRecDepth 100000 in
set_option maxHeartbeats 4000000 in
theorem ctX3_leastWith (l : Launch) (D : va_G) (cA : Nat → ClassId) (ad : Nat → Nat) (F : Nat) (M : mv_M) (a1 : Int32) : mv_C l (D, cA, ad, LX) yX3_leastWith iX3_leastWith mv_ri [.ref (ad 56), .int a1] M (fX3_leastWith F M a1) := by
  refine mv_C.ofV (ls := [(0, .ref (ad 56)), (1, .int a1)]) (by decide) rfl (Nat.le_of_ble_eq_true rfl) rfl ?_
  intro x hxl
  subst hxl
  unfold fX3_leastWith
  refine mv_aload_n (pc := 0) (i := 0) 0 dX3_leastWith_0 rfl rfl ?_
  refine mv_getR (pc := 1) (i := 56) (j := 1) dX3_leastWith_1 flX3_15 lx_56 rfl ?_
  refine mv_iload_n (pc := 4) (i := 1) 1 dX3_leastWith_4 rfl rfl ?_
  refine mv_callVi (pc := 5) (As := [.int a1]) (st := []) (i := 1) dX3_leastWith_5 mlX3_60 vmX7_priceOf ⟨Nat.le_of_ble_eq_true rfl, Nat.le_of_ble_eq_true rfl⟩ lx_1 rfl rfl (Nat.le_of_ble_eq_true rfl) (ctX7_priceOf x.2.1 D cA ad F M a1) (fun v2 M1 => ?_)
  refine mv_istore_n (pc := 8) (i := 2) (ls' := [(0, .ref (ad 56)), (1, .int a1)]) dX3_leastWith_8 rfl (Nat.le_of_ble_eq_true rfl) rfl (fun v3 => ?_)
  refine mv_aload_n (pc := 9) (i := 0) 1 dX3_leastWith_9 rfl rfl ?_
  refine mv_getR (pc := 10) (i := 56) (j := 1) dX3_leastWith_10 flX3_15 lx_56 rfl ?_
  refine mv_getR (pc := 13) (i := 1) (j := 7) dX3_leastWith_13 flX3_63 lx_1 rfl ?_
  refine mv_iload_n (pc := 16) (i := 1) 2 dX3_leastWith_16 rfl rfl ?_
  refine mv_iald (pc := 17) (i := 7) dX3_leastWith_17 lx_7 ?_
  refine mv_jp (pj := 38) (lj := fun (s4 : Int32 × mv_M) => [(0, .ref (ad 56)), (1, .int a1), (2, .int s4.1)]) (sj := fun (s4 : Int32 × mv_M) => []) (Mj := fun (s4 : Int32 × mv_M) => s4.2) ?_ ?_
  · intro s4
    refine mv_aload_n (pc := 38) (i := 0) 0 dX3_leastWith_38 rfl rfl ?_
    refine mv_getR (pc := 39) (i := 56) (j := 1) dX3_leastWith_39 flX3_15 lx_56 rfl ?_
    refine mv_getR (pc := 42) (i := 1) (j := 7) dX3_leastWith_42 flX3_63 lx_1 rfl ?_
    refine mv_iload_n (pc := 45) (i := 1) 1 dX3_leastWith_45 rfl rfl ?_
    refine mv_iald (pc := 46) (i := 7) dX3_leastWith_46 lx_7 ?_
    refine mv_iconst (pc := 47) dX3_leastWith_47 kci1 ?_
    refine mv_icmp_le (pc := 48) (tgt := 68) dX3_leastWith_48 (by decide) ?_ ?_
    · refine mv_iload_n (pc := 68) (i := 2) 2 dX3_leastWith_68 rfl rfl ?_
      exact mv_ireturn (pc := 69) dX3_leastWith_69 rfl
    · refine mv_iload_n (pc := 51) (i := 2) 2 dX3_leastWith_51 rfl rfl ?_
      refine mv_aload_n (pc := 52) (i := 0) 0 dX3_leastWith_52 rfl rfl ?_
      refine mv_getR (pc := 53) (i := 56) (j := 57) dX3_leastWith_53 flX3_9 lx_56 rfl ?_
      refine mv_aload_n (pc := 56) (i := 0) 0 dX3_leastWith_56 rfl rfl ?_
      refine mv_getR (pc := 57) (i := 56) (j := 1) dX3_leastWith_57 flX3_15 lx_56 rfl ?_
      refine mv_getR (pc := 60) (i := 1) (j := 9) dX3_leastWith_60 flX3_69 lx_1 rfl ?_
      refine mv_iload_n (pc := 63) (i := 1) 1 dX3_leastWith_63 rfl rfl ?_
      refine mv_iald (pc := 64) (i := 9) dX3_leastWith_64 lx_9 ?_
      refine mv_iald (pc := 65) (i := 57) dX3_leastWith_65 lx_57 ?_
      refine mv_iadd (pc := 66) dX3_leastWith_66 ?_
      refine mv_istore_n (pc := 67) (i := 2) (ls' := [(0, .ref (ad 56)), (1, .int a1)]) dX3_leastWith_67 rfl (Nat.le_of_ble_eq_true rfl) rfl (fun v6 => ?_)
      refine mv_iload_n (pc := 68) (i := 2) 0 dX3_leastWith_68 rfl rfl ?_
      exact mv_ireturn (pc := 69) dX3_leastWith_69 rfl
  · intro j5 hj5
    refine mv_if_le (pc := 18) (tgt := 38) dX3_leastWith_18 (by decide) ?_ ?_
    · refine mv_sub [1, 2, 0] rfl ?_
      exact hj5 (v3, M1)
    · refine mv_iload_n (pc := 21) (i := 2) 0 dX3_leastWith_21 rfl rfl ?_
      refine mv_aload_n (pc := 22) (i := 0) 1 dX3_leastWith_22 rfl rfl ?_
      refine mv_getR (pc := 23) (i := 56) (j := 57) dX3_leastWith_23 flX3_9 lx_56 rfl ?_
      refine mv_aload_n (pc := 26) (i := 0) 1 dX3_leastWith_26 rfl rfl ?_
      refine mv_getR (pc := 27) (i := 56) (j := 1) dX3_leastWith_27 flX3_15 lx_56 rfl ?_
      refine mv_getR (pc := 30) (i := 1) (j := 8) dX3_leastWith_30 flX3_66 lx_1 rfl ?_
      refine mv_iload_n (pc := 33) (i := 1) 2 dX3_leastWith_33 rfl rfl ?_
      refine mv_iald (pc := 34) (i := 8) dX3_leastWith_34 lx_8 ?_
      refine mv_iald (pc := 35) (i := 57) dX3_leastWith_35 lx_57 ?_
      refine mv_iadd (pc := 36) dX3_leastWith_36 ?_
      refine mv_istore_n (pc := 37) (i := 2) (ls' := [(0, .ref (ad 56)), (1, .int a1)]) dX3_leastWith_37 rfl (Nat.le_of_ble_eq_true rfl) rfl (fun v7 => ?_)
      refine mv_sub [1, 2, 0] rfl ?_
      exact hj5 (v7, M1)

set_option maxRecDepth 100000 in
set_option maxHeartbeats 4000000 in
theorem ctX3_lower (l : Launch) (D : va_G) (cA : Nat → ClassId) (ad : Nat → Nat) (F : Nat) (M : mv_M) (a1 : Int32) (a2 : Int32) : mv_C l (D, cA, ad, LX) yX3_lower iX3_lower mv_ri [.ref (ad 56), .int a1, .int a2] M (fX3_lower F M a1 a2) := by
  refine mv_C.ofV (ls := [(0, .ref (ad 56)), (1, .int a1), (2, .int a2)]) (by decide) rfl (Nat.le_of_ble_eq_true rfl) rfl ?_
  intro x hxl
  subst hxl
  unfold fX3_lower
  refine mv_iconst (pc := 0) dX3_lower_0 kci0 ?_
  refine mv_istore_n (pc := 1) (i := 3) (ls' := [(0, .ref (ad 56)), (1, .int a1), (2, .int a2)]) dX3_lower_1 rfl (Nat.le_of_ble_eq_true rfl) rfl (fun v1 => ?_)
  refine mv_iconst (pc := 2) dX3_lower_2 kci0 ?_
  refine mv_istore (pc := 3) (i := 4) (ls' := [(3, .int v1), (0, .ref (ad 56)), (1, .int a1), (2, .int a2)]) dX3_lower_3 (Nat.le_of_ble_eq_true rfl) rfl (fun v2 => ?_)
  refine mv_sub [2, 3, 4, 1, 0] rfl ?_
  refine mv_loop (pc := 5) (lj := fun (s3 : Int32 × Int32 × mv_M) => [(0, .ref (ad 56)), (1, .int a1), (2, .int a2), (3, .int s3.1), (4, .int s3.2.1)]) (Mj := fun (s3 : Int32 × Int32 × mv_M) => s3.2.2) (B := bX3_lower_5 a1 a2) ?_ F (v1, v2, M)
  intro f4 hf4 s3
  unfold bX3_lower_5
  refine mv_iload (pc := 5) (i := 4) 4 dX3_lower_5 rfl ?_
  refine mv_aload_n (pc := 7) (i := 0) 0 dX3_lower_7 rfl rfl ?_
  refine mv_getR (pc := 8) (i := 56) (j := 1) dX3_lower_8 flX3_15 lx_56 rfl ?_
  refine mv_getI (pc := 11) (i := 1) dX3_lower_11 flX3_24 lx_1 rfl ?_
  refine mv_icmp_ge (pc := 14) (tgt := 53) dX3_lower_14 (by decide) ?_ ?_
  · refine mv_iload_n (pc := 53) (i := 3) 3 dX3_lower_53 rfl rfl ?_
    exact mv_zreturn (pc := 54) dX3_lower_54 rfl
  · refine mv_iload_n (pc := 17) (i := 1) 1 dX3_lower_17 rfl rfl ?_
    refine mv_iload (pc := 18) (i := 4) 4 dX3_lower_18 rfl ?_
    refine mv_ishr (pc := 20) dX3_lower_20 ?_
    refine mv_iconst (pc := 21) dX3_lower_21 kci1 ?_
    refine mv_iand (pc := 22) dX3_lower_22 ?_
    refine mv_if_eq (pc := 23) (tgt := 47) dX3_lower_23 (by decide) ?_ ?_
    · refine mv_iinc (pc := 47) (i := 4) (ls' := [(0, .ref (ad 56)), (1, .int a1), (2, .int a2), (3, .int s3.1)]) 4 dX3_lower_47 rfl kci1 (Nat.le_of_ble_eq_true rfl) rfl (fun v5 => ?_)
      refine mv_goto (pc := 50) (tgt := 5) dX3_lower_50 (by decide) ?_
      refine mv_sub [1, 2, 3, 4, 0] rfl ?_
      exact hf4 (s3.1, v5, s3.2.2)
    · refine mv_iload_n (pc := 26) (i := 2) 2 dX3_lower_26 rfl rfl ?_
      refine mv_aload_n (pc := 27) (i := 0) 0 dX3_lower_27 rfl rfl ?_
      refine mv_getR (pc := 28) (i := 56) (j := 57) dX3_lower_28 flX3_9 lx_56 rfl ?_
      refine mv_iload (pc := 31) (i := 4) 4 dX3_lower_31 rfl ?_
      refine mv_iald (pc := 33) (i := 57) dX3_lower_33 lx_57 ?_
      refine mv_icmp_ge (pc := 34) (tgt := 47) dX3_lower_34 (by decide) ?_ ?_
      · refine mv_iinc (pc := 47) (i := 4) (ls' := [(0, .ref (ad 56)), (1, .int a1), (2, .int a2), (3, .int s3.1)]) 4 dX3_lower_47 rfl kci1 (Nat.le_of_ble_eq_true rfl) rfl (fun v6 => ?_)
        refine mv_goto (pc := 50) (tgt := 5) dX3_lower_50 (by decide) ?_
        refine mv_sub [1, 2, 3, 4, 0] rfl ?_
        exact hf4 (s3.1, v6, s3.2.2)
      · refine mv_aload_n (pc := 37) (i := 0) 0 dX3_lower_37 rfl rfl ?_
        refine mv_getR (pc := 38) (i := 56) (j := 57) dX3_lower_38 flX3_9 lx_56 rfl ?_
        refine mv_iload (pc := 41) (i := 4) 4 dX3_lower_41 rfl ?_
        refine mv_iload_n (pc := 43) (i := 2) 2 dX3_lower_43 rfl rfl ?_
        refine mv_iast (pc := 44) (i := 57) dX3_lower_44 lx_57 (fun M7 => ?_)
        refine mv_iconst (pc := 45) dX3_lower_45 kci1 ?_
        refine mv_istore_n (pc := 46) (i := 3) (ls' := [(0, .ref (ad 56)), (1, .int a1), (2, .int a2), (4, .int s3.2.1)]) dX3_lower_46 rfl (Nat.le_of_ble_eq_true rfl) rfl (fun v8 => ?_)
        refine mv_iinc (pc := 47) (i := 4) (ls' := [(3, .int v8), (0, .ref (ad 56)), (1, .int a1), (2, .int a2)]) 4 dX3_lower_47 rfl kci1 (Nat.le_of_ble_eq_true rfl) rfl (fun v9 => ?_)
        refine mv_goto (pc := 50) (tgt := 5) dX3_lower_50 (by decide) ?_
        refine mv_sub [2, 3, 4, 1, 0] rfl ?_
        exact hf4 (v8, v9, M7)

set_option maxRecDepth 100000 in
set_option maxHeartbeats 4000000 in
theorem ctX3_seek (l : Launch) (D : va_G) (cA : Nat → ClassId) (ad : Nat → Nat) (F : Nat) (M : mv_M) (a1 : Int32) : mv_C l (D, cA, ad, LX) yX3_seek iX3_seek mv_rv [.ref (ad 56), .int a1] M (fX3_seek F M a1) := by
  refine mv_C.ofV (ls := [(0, .ref (ad 56)), (1, .int a1)]) (by decide) rfl (Nat.le_of_ble_eq_true rfl) rfl ?_
  intro x hxl
  subst hxl
  unfold fX3_seek
  refine mv_aload_n (pc := 0) (i := 0) 0 dX3_seek_0 rfl rfl ?_
  refine mv_getR (pc := 1) (i := 56) (j := 57) dX3_seek_1 flX3_9 lx_56 rfl ?_
  refine mv_ldc (pc := 4) dX3_seek_4 kwX3_30 ?_
  refine mv_callSv (pc := 6) (As := [.ref (ad 57), .int (100000000 : Int32)]) (st := []) dX3_seek_6 mlX3_41 smJ7_fill_53178 ⟨Nat.le_of_ble_eq_true rfl, Nat.le_of_ble_eq_true rfl⟩ rfl (Nat.le_of_ble_eq_true rfl) (ctJ7_fill_53178 x.2.1 D cA ad F M 57 8 (100000000 : Int32) lx_57) (fun M1 => ?_)
  refine mv_iconst (pc := 9) dX3_seek_9 kci1 ?_
  refine mv_istore_n (pc := 10) (i := 2) (ls' := [(0, .ref (ad 56)), (1, .int a1)]) dX3_seek_10 rfl (Nat.le_of_ble_eq_true rfl) rfl (fun v2 => ?_)
  refine mv_iconst (pc := 11) dX3_seek_11 kci0 ?_
  refine mv_istore_n (pc := 12) (i := 3) (ls' := [(2, .int v2), (0, .ref (ad 56)), (1, .int a1)]) dX3_seek_12 rfl (Nat.le_of_ble_eq_true rfl) rfl (fun v3 => ?_)
  refine mv_sub [2, 3, 1, 0] rfl ?_
  refine mv_loop (pc := 13) (lj := fun (s4 : Int32 × Int32 × mv_M) => [(0, .ref (ad 56)), (1, .int a1), (2, .int s4.1), (3, .int s4.2.1)]) (Mj := fun (s4 : Int32 × Int32 × mv_M) => s4.2.2) (B := bX3_seek_13 a1 F) ?_ F (v2, v3, M1)
  intro f5 hf5 s4
  unfold bX3_seek_13
  refine mv_iload_n (pc := 13) (i := 3) 3 dX3_seek_13 rfl rfl ?_
  refine mv_bipush (pc := 14) dX3_seek_14 kcb8 ?_
  refine mv_icmp_gt (pc := 16) (tgt := 94) dX3_seek_16 (by decide) ?_ ?_
  · exact mv_return (pc := 94) dX3_seek_94 rfl
  · refine mv_iload_n (pc := 19) (i := 2) 2 dX3_seek_19 rfl rfl ?_
    refine mv_if_eq (pc := 20) (tgt := 94) dX3_seek_20 (by decide) ?_ ?_
    · exact mv_return (pc := 94) dX3_seek_94 rfl
    · refine mv_iconst (pc := 23) dX3_seek_23 kci0 ?_
      refine mv_istore_n (pc := 24) (i := 2) (ls' := [(0, .ref (ad 56)), (1, .int a1), (3, .int s4.2.1)]) dX3_seek_24 rfl (Nat.le_of_ble_eq_true rfl) rfl (fun v6 => ?_)
      refine mv_iconst (pc := 25) dX3_seek_25 kci0 ?_
      refine mv_istore (pc := 26) (i := 4) (ls' := [(2, .int v6), (0, .ref (ad 56)), (1, .int a1), (3, .int s4.2.1)]) dX3_seek_26 (Nat.le_of_ble_eq_true rfl) rfl (fun v7 => ?_)
      refine mv_sub [2, 3, 1, 4, 0] rfl ?_
      refine mv_loop (pc := 28) (lj := fun (s8 : Int32 × Int32 × mv_M) => [(0, .ref (ad 56)), (1, .int a1), (2, .int s8.1), (3, .int s4.2.1), (4, .int s8.2.1)]) (Mj := fun (s8 : Int32 × Int32 × mv_M) => s8.2.2) (B := bX3_seek_28 s4 f5 a1 F) ?_ F (v6, v7, s4.2.2)
      intro f9 hf9 s8
      unfold bX3_seek_28
      refine mv_iload (pc := 28) (i := 4) 4 dX3_seek_28 rfl ?_
      refine mv_aload_n (pc := 30) (i := 0) 0 dX3_seek_30 rfl rfl ?_
      refine mv_getR (pc := 31) (i := 56) (j := 1) dX3_seek_31 flX3_15 lx_56 rfl ?_
      refine mv_getI (pc := 34) (i := 1) dX3_seek_34 flX3_38 lx_1 rfl ?_
      refine mv_icmp_ge (pc := 37) (tgt := 88) dX3_seek_37 (by decide) ?_ ?_
      · refine mv_iinc (pc := 88) (i := 3) (ls' := [(0, .ref (ad 56)), (1, .int a1), (2, .int s8.1), (4, .int s8.2.1)]) 3 dX3_seek_88 rfl kci1 (Nat.le_of_ble_eq_true rfl) rfl (fun v10 => ?_)
        refine mv_goto (pc := 91) (tgt := 13) dX3_seek_91 (by decide) ?_
        refine mv_sub [1, 2, 3, 0] rfl ?_
        exact hf5 (s8.1, v10, s8.2.2)
      · refine mv_iload_n (pc := 40) (i := 1) 1 dX3_seek_40 rfl rfl ?_
        refine mv_iload (pc := 41) (i := 4) 4 dX3_seek_41 rfl ?_
        refine mv_ishr (pc := 43) dX3_seek_43 ?_
        refine mv_iconst (pc := 44) dX3_seek_44 kci1 ?_
        refine mv_iand (pc := 45) dX3_seek_45 ?_
        refine mv_if_ne (pc := 46) (tgt := 82) dX3_seek_46 (by decide) ?_ ?_
        · refine mv_iinc (pc := 82) (i := 4) (ls' := [(0, .ref (ad 56)), (1, .int a1), (2, .int s8.1), (3, .int s4.2.1)]) 4 dX3_seek_82 rfl kci1 (Nat.le_of_ble_eq_true rfl) rfl (fun v11 => ?_)
          refine mv_goto (pc := 85) (tgt := 28) dX3_seek_85 (by decide) ?_
          refine mv_sub [1, 2, 3, 4, 0] rfl ?_
          exact hf9 (s8.1, v11, s8.2.2)
        · refine mv_aload_n (pc := 49) (i := 0) 0 dX3_seek_49 rfl rfl ?_
          refine mv_aload_n (pc := 50) (i := 0) 0 dX3_seek_50 rfl rfl ?_
          refine mv_getR (pc := 51) (i := 56) (j := 1) dX3_seek_51 flX3_15 lx_56 rfl ?_
          refine mv_getR (pc := 54) (i := 1) (j := 3) dX3_seek_54 flX3_47 lx_1 rfl ?_
          refine mv_aload_n (pc := 57) (i := 0) 0 dX3_seek_57 rfl rfl ?_
          refine mv_getR (pc := 58) (i := 56) (j := 1) dX3_seek_58 flX3_15 lx_56 rfl ?_
          refine mv_getR (pc := 61) (i := 1) (j := 5) dX3_seek_61 flX3_50 lx_1 rfl ?_
          refine mv_iload (pc := 64) (i := 4) 4 dX3_seek_64 rfl ?_
          refine mv_iald (pc := 66) (i := 5) dX3_seek_66 lx_5 ?_
          refine mv_iald (pc := 67) (i := 3) dX3_seek_67 lx_3 ?_
          refine mv_aload_n (pc := 68) (i := 0) 0 dX3_seek_68 rfl rfl ?_
          refine mv_iload (pc := 69) (i := 4) 4 dX3_seek_69 rfl ?_
          refine mv_callVi (pc := 71) (As := [.int s8.2.1]) (st := [.int (s8.2.2.1 3 (s8.2.2.1 5 s8.2.1.toNatClampNeg).toNatClampNeg), .ref (ad 56)]) (i := 56) dX3_seek_71 mlX3_53 vmX3_leastWith ⟨Nat.le_of_ble_eq_true rfl, Nat.le_of_ble_eq_true rfl⟩ lx_56 rfl rfl (Nat.le_of_ble_eq_true rfl) (ctX3_leastWith x.2.1 D cA ad F s8.2.2 s8.2.1) (fun v13 M12 => ?_)
          refine mv_callVi (pc := 74) (As := [.int (s8.2.2.1 3 (s8.2.2.1 5 s8.2.1.toNatClampNeg).toNatClampNeg), .int v13]) (st := []) (i := 56) dX3_seek_74 mlX3_56 vmX3_lower ⟨Nat.le_of_ble_eq_true rfl, Nat.le_of_ble_eq_true rfl⟩ lx_56 rfl rfl (Nat.le_of_ble_eq_true rfl) (ctX3_lower x.2.1 D cA ad F M12 (s8.2.2.1 3 (s8.2.2.1 5 s8.2.1.toNatClampNeg).toNatClampNeg) v13) (fun v15 M14 => ?_)
          refine mv_if_eq (pc := 77) (tgt := 82) dX3_seek_77 (by decide) ?_ ?_
          · refine mv_iinc (pc := 82) (i := 4) (ls' := [(0, .ref (ad 56)), (1, .int a1), (2, .int s8.1), (3, .int s4.2.1)]) 4 dX3_seek_82 rfl kci1 (Nat.le_of_ble_eq_true rfl) rfl (fun v16 => ?_)
            refine mv_goto (pc := 85) (tgt := 28) dX3_seek_85 (by decide) ?_
            refine mv_sub [1, 2, 3, 4, 0] rfl ?_
            exact hf9 (s8.1, v16, M14)
          · refine mv_iconst (pc := 80) dX3_seek_80 kci1 ?_
            refine mv_istore_n (pc := 81) (i := 2) (ls' := [(0, .ref (ad 56)), (1, .int a1), (3, .int s4.2.1), (4, .int s8.2.1)]) dX3_seek_81 rfl (Nat.le_of_ble_eq_true rfl) rfl (fun v17 => ?_)
            refine mv_iinc (pc := 82) (i := 4) (ls' := [(2, .int v17), (0, .ref (ad 56)), (1, .int a1), (3, .int s4.2.1)]) 4 dX3_seek_82 rfl kci1 (Nat.le_of_ble_eq_true rfl) rfl (fun v18 => ?_)
            refine mv_goto (pc := 85) (tgt := 28) dX3_seek_85 (by decide) ?_
            refine mv_sub [2, 3, 1, 4, 0] rfl ?_
            exact hf9 (v17, v18, M14)
