set_option maxRecDepth 100000 in
set_option maxHeartbeats 4000000 in
theorem ctX3_leastListed (l : Launch) (D : va_G) (cA : Nat → ClassId) (ad : Nat → Nat) (F : Nat) (M : mv_M) (a1 : Int32) (a2 : Int32) : mv_C l (D, cA, ad, LX) yX3_leastListed iX3_leastListed mv_ri [.ref (ad 56), .int a1, .int a2] M (fX3_leastListed F M a1 a2) := by
  refine mv_C.ofV (ls := [(0, .ref (ad 56)), (1, .int a1), (2, .int a2)]) (by decide) rfl (Nat.le_of_ble_eq_true rfl) rfl ?_
  intro x hxl
  subst hxl
  unfold fX3_leastListed
  refine mv_aload_n (pc := 0) (i := 0) 0 dX3_leastListed_0 rfl rfl ?_
  refine mv_iload_n (pc := 1) (i := 2) 2 dX3_leastListed_1 rfl rfl ?_
  refine mv_callVv (pc := 2) (As := [.int a2]) (st := []) (i := 56) dX3_leastListed_2 mlX3_19 vmX3_seek ⟨Nat.le_of_ble_eq_true rfl, Nat.le_of_ble_eq_true rfl⟩ lx_56 rfl rfl (Nat.le_of_ble_eq_true rfl) (ctX3_seek x.2.1 D cA ad F M a2) (fun M1 => ?_)
  refine mv_aload_n (pc := 5) (i := 0) 0 dX3_leastListed_5 rfl rfl ?_
  refine mv_getR (pc := 6) (i := 56) (j := 57) dX3_leastListed_6 flX3_9 lx_56 rfl ?_
  refine mv_iload_n (pc := 9) (i := 1) 1 dX3_leastListed_9 rfl rfl ?_
  refine mv_iald (pc := 10) (i := 57) dX3_leastListed_10 lx_57 ?_
  refine mv_bipush (pc := 11) dX3_leastListed_11 kcb24 ?_
  refine mv_icmp_gt (pc := 13) (tgt := 25) dX3_leastListed_13 (by decide) ?_ ?_
  · refine mv_ldc (pc := 25) dX3_leastListed_25 kwX3_23 ?_
    exact mv_ireturn (pc := 27) dX3_leastListed_27 rfl
  · refine mv_aload_n (pc := 16) (i := 0) 0 dX3_leastListed_16 rfl rfl ?_
    refine mv_getR (pc := 17) (i := 56) (j := 57) dX3_leastListed_17 flX3_9 lx_56 rfl ?_
    refine mv_iload_n (pc := 20) (i := 1) 1 dX3_leastListed_20 rfl rfl ?_
    refine mv_iald (pc := 21) (i := 57) dX3_leastListed_21 lx_57 ?_
    refine mv_goto (pc := 22) (tgt := 27) dX3_leastListed_22 (by decide) ?_
    exact mv_ireturn (pc := 27) dX3_leastListed_27 rfl

set_option maxRecDepth 100000 in
set_option maxHeartbeats 4000000 in
theorem ctX8_cheapest (l : Launch) (D : va_G) (cA : Nat → ClassId) (ad : Nat → Nat) (F : Nat) (M : mv_M) (a1 : Int32) : mv_C l (D, cA, ad, LX) yX8_cheapest iX8_cheapest mv_ri [.ref (ad 0), .int a1] M (fX8_cheapest F M a1) := by
  refine mv_C.ofV (ls := [(0, .ref (ad 0)), (1, .int a1)]) (by decide) rfl (Nat.le_of_ble_eq_true rfl) rfl ?_
  intro x hxl
  subst hxl
  unfold fX8_cheapest
  refine mv_aload_n (pc := 0) (i := 0) 0 dX8_cheapest_0 rfl rfl ?_
  refine mv_getR (pc := 1) (i := 0) (j := 1) dX8_cheapest_1 flX8_10 lx_0 rfl ?_
  refine mv_iload_n (pc := 4) (i := 1) 1 dX8_cheapest_4 rfl rfl ?_
  refine mv_callVi (pc := 5) (As := [.int a1]) (st := []) (i := 1) dX8_cheapest_5 mlX8_173 vmX7_hasType ⟨Nat.le_of_ble_eq_true rfl, Nat.le_of_ble_eq_true rfl⟩ lx_1 rfl rfl (Nat.le_of_ble_eq_true rfl) (ctX7_hasType x.2.1 D cA ad F M a1) (fun v2 M1 => ?_)
  refine mv_if_ne (pc := 8) (tgt := 14) dX8_cheapest_8 (by decide) ?_ ?_
  · refine mv_aload_n (pc := 14) (i := 0) 0 dX8_cheapest_14 rfl rfl ?_
    refine mv_getR (pc := 15) (i := 0) (j := 56) dX8_cheapest_15 flX8_46 lx_0 rfl ?_
    refine mv_iload_n (pc := 18) (i := 1) 1 dX8_cheapest_18 rfl rfl ?_
    refine mv_aload_n (pc := 19) (i := 0) 0 dX8_cheapest_19 rfl rfl ?_
    refine mv_getR (pc := 20) (i := 0) (j := 1) dX8_cheapest_20 flX8_10 lx_0 rfl ?_
    refine mv_getI (pc := 23) (i := 1) dX8_cheapest_23 flX8_167 lx_1 rfl ?_
    refine mv_callVi (pc := 26) (As := [.int a1, .int (M1.1 1 2)]) (st := []) (i := 56) dX8_cheapest_26 mlX8_220 vmX3_leastListed ⟨Nat.le_of_ble_eq_true rfl, Nat.le_of_ble_eq_true rfl⟩ lx_56 rfl rfl (Nat.le_of_ble_eq_true rfl) (ctX3_leastListed x.2.1 D cA ad F M1 a1 (M1.1 1 2)) (fun v4 M3 => ?_)
    exact mv_ireturn (pc := 29) dX8_cheapest_29 rfl
  · refine mv_ldc (pc := 11) dX8_cheapest_11 kwX8_80 ?_
    exact mv_ireturn (pc := 13) dX8_cheapest_13 rfl

set_option maxRecDepth 100000 in
set_option maxHeartbeats 4000000 in
theorem ctX2_findPlace (l : Launch) (D : va_G) (cA : Nat → ClassId) (ad : Nat → Nat) (F : Nat) (M : mv_M) (a1 : Int32) (a2 : Int32) : mv_C l (D, cA, ad, LX) yX2_findPlace iX2_findPlace mv_ri [.ref (ad 58), .int a1, .int a2] M (fX2_findPlace F M a1 a2) := by
  refine mv_C.ofV (ls := [(0, .ref (ad 58)), (1, .int a1), (2, .int a2)]) (by decide) rfl (Nat.le_of_ble_eq_true rfl) rfl ?_
  intro x hxl
  subst hxl
  unfold fX2_findPlace
  refine mv_aload_n (pc := 0) (i := 0) 0 dX2_findPlace_0 rfl rfl ?_
  refine mv_callVv (pc := 1) (As := []) (st := []) (i := 58) dX2_findPlace_1 mlX2_33 vmX2_countAll ⟨Nat.le_of_ble_eq_true rfl, Nat.le_of_ble_eq_true rfl⟩ lx_58 rfl rfl (Nat.le_of_ble_eq_true rfl) (ctX2_countAll x.2.1 D cA ad F M) (fun M1 => ?_)
  refine mv_aload_n (pc := 4) (i := 0) 0 dX2_findPlace_4 rfl rfl ?_
  refine mv_iload_n (pc := 5) (i := 2) 2 dX2_findPlace_5 rfl rfl ?_
  refine mv_i2l (pc := 6) dX2_findPlace_6 ?_
  refine mv_putL (pc := 7) (i := 58) dX2_findPlace_7 flX2_48 fpX2_8 lx_58 rfl (fun M2 => ?_)
  refine mv_iconst (pc := 10) dX2_findPlace_10 kci1 ?_
  refine mv_istore_n (pc := 11) (i := 3) (ls' := [(0, .ref (ad 58)), (1, .int a1), (2, .int a2)]) dX2_findPlace_11 rfl (Nat.le_of_ble_eq_true rfl) rfl (fun v3 => ?_)
  refine mv_sub [1, 2, 0] rfl ?_
  refine mv_loop (pc := 12) (lj := fun (s4 : Int32 × mv_M) => [(0, .ref (ad 58)), (1, .int a1), (3, .int s4.1)]) (Mj := fun (s4 : Int32 × mv_M) => s4.2) (B := bX2_findPlace_12 a1) ?_ F (v3, M2)
  intro f5 hf5 s4
  unfold bX2_findPlace_12
  refine mv_iload_n (pc := 12) (i := 3) 2 dX2_findPlace_12 rfl rfl ?_
  refine mv_bipush (pc := 13) dX2_findPlace_13 kcb24 ?_
  refine mv_icmp_gt (pc := 15) (tgt := 59) dX2_findPlace_15 (by decide) ?_ ?_
  · refine mv_ldc (pc := 59) dX2_findPlace_59 kwX2_52 ?_
    exact mv_ireturn (pc := 61) dX2_findPlace_61 rfl
  · refine mv_aload_n (pc := 18) (i := 0) 0 dX2_findPlace_18 rfl rfl ?_
    refine mv_getL (pc := 19) (i := 58) dX2_findPlace_19 flX2_48 lx_58 rfl ?_
    refine mv_aload_n (pc := 22) (i := 0) 0 dX2_findPlace_22 rfl rfl ?_
    refine mv_getR (pc := 23) (i := 58) (j := 72) dX2_findPlace_23 flX2_16 lx_58 rfl ?_
    refine mv_iload_n (pc := 26) (i := 1) 1 dX2_findPlace_26 rfl rfl ?_
    refine mv_aald (pc := 27) (i := 72) (b := 73) (t := 2) dX2_findPlace_27 lx_72 (by decide) (by decide) (fun h6 => ?_)
    refine mv_iload_n (pc := 28) (i := 3) 2 dX2_findPlace_28 rfl rfl ?_
    refine mv_lald (pc := 29) (i := (73 + a1.toNatClampNeg)) dX2_findPlace_29 (lxr_73 _ h6) ?_
    refine mv_lcmp (pc := 30) dX2_findPlace_30 ?_
    refine mv_if_ge (pc := 31) (tgt := 36) dX2_findPlace_31 (by decide) ?_ ?_
    · refine mv_aload_n (pc := 36) (i := 0) 0 dX2_findPlace_36 rfl rfl ?_
      refine mv_dup (pc := 37) dX2_findPlace_37 rfl ?_
      refine mv_getL (pc := 38) (i := 58) dX2_findPlace_38 flX2_48 lx_58 rfl ?_
      refine mv_aload_n (pc := 41) (i := 0) 0 dX2_findPlace_41 rfl rfl ?_
      refine mv_getR (pc := 42) (i := 58) (j := 72) dX2_findPlace_42 flX2_16 lx_58 rfl ?_
      refine mv_iload_n (pc := 45) (i := 1) 1 dX2_findPlace_45 rfl rfl ?_
      refine mv_aald (pc := 46) (i := 72) (b := 73) (t := 2) dX2_findPlace_46 lx_72 (by decide) (by decide) (fun h7 => ?_)
      refine mv_iload_n (pc := 47) (i := 3) 2 dX2_findPlace_47 rfl rfl ?_
      refine mv_lald (pc := 48) (i := (73 + a1.toNatClampNeg)) dX2_findPlace_48 (lxr_73 _ h7) ?_
      refine mv_lsub (pc := 49) dX2_findPlace_49 ?_
      refine mv_putL (pc := 50) (i := 58) dX2_findPlace_50 flX2_48 fpX2_8 lx_58 rfl (fun M8 => ?_)
      refine mv_iinc (pc := 53) (i := 3) (ls' := [(0, .ref (ad 58)), (1, .int a1)]) 2 dX2_findPlace_53 rfl kci1 (Nat.le_of_ble_eq_true rfl) rfl (fun v9 => ?_)
      refine mv_goto (pc := 56) (tgt := 12) dX2_findPlace_56 (by decide) ?_
      refine mv_sub [1, 2, 0] rfl ?_
      exact hf5 (v9, M8)
    · refine mv_iload_n (pc := 34) (i := 3) 2 dX2_findPlace_34 rfl rfl ?_
      exact mv_ireturn (pc := 35) dX2_findPlace_35 rfl

set_option maxRecDepth 100000 in
set_option maxHeartbeats 4000000 in
theorem ctX2_want (l : Launch) (D : va_G) (cA : Nat → ClassId) (ad : Nat → Nat) (F : Nat) (M : mv_M) (a1 : Int32) : mv_C l (D, cA, ad, LX) yX2_want iX2_want mv_rv [.ref (ad 58), .int a1] M (fX2_want F M a1) := by
  refine mv_C.ofV (ls := [(0, .ref (ad 58)), (1, .int a1)]) (by decide) rfl (Nat.le_of_ble_eq_true rfl) rfl ?_
  intro x hxl
  subst hxl
  unfold fX2_want
  refine mv_aload_n (pc := 0) (i := 0) 0 dX2_want_0 rfl rfl ?_
  refine mv_getI (pc := 1) (i := 58) dX2_want_1 flX2_53 lx_58 rfl ?_
  refine mv_bipush (pc := 4) dX2_want_4 kcb24 ?_
  refine mv_icmp_ge (pc := 6) (tgt := 29) dX2_want_6 (by decide) ?_ ?_
  · exact mv_return (pc := 29) dX2_want_29 rfl
  · refine mv_aload_n (pc := 9) (i := 0) 0 dX2_want_9 rfl rfl ?_
    refine mv_getR (pc := 10) (i := 58) (j := 107) dX2_want_10 flX2_22 lx_58 rfl ?_
    refine mv_aload_n (pc := 13) (i := 0) 0 dX2_want_13 rfl rfl ?_
    refine mv_getI (pc := 14) (i := 58) dX2_want_14 flX2_53 lx_58 rfl ?_
    refine mv_iload_n (pc := 17) (i := 1) 1 dX2_want_17 rfl rfl ?_
    refine mv_iast (pc := 18) (i := 107) dX2_want_18 lx_107 (fun M1 => ?_)
    refine mv_aload_n (pc := 19) (i := 0) 0 dX2_want_19 rfl rfl ?_
    refine mv_dup (pc := 20) dX2_want_20 rfl ?_
    refine mv_getI (pc := 21) (i := 58) dX2_want_21 flX2_53 lx_58 rfl ?_
    refine mv_iconst (pc := 24) dX2_want_24 kci1 ?_
    refine mv_iadd (pc := 25) dX2_want_25 ?_
    refine mv_putI (pc := 26) (i := 58) dX2_want_26 flX2_53 (Or.inl fpX2_6) lx_58 rfl (fun M2 => ?_)
    exact mv_return (pc := 29) dX2_want_29 rfl

set_option maxRecDepth 100000 in
set_option maxHeartbeats 4000000 in
theorem ctX2_waysWith (l : Launch) (D : va_G) (cA : Nat → ClassId) (ad : Nat → Nat) (F : Nat) (M : mv_M) (a1 : Int32) (a2 : Int32) (a3 : Int32) : mv_C l (D, cA, ad, LX) yX2_waysWith iX2_waysWith mv_rl [.ref (ad 58), .int a1, .int a2, .int a3] M (fX2_waysWith F M a1 a2 a3) := by
  refine mv_C.ofV (ls := [(0, .ref (ad 58)), (1, .int a1), (2, .int a2), (3, .int a3)]) (by decide) rfl (Nat.le_of_ble_eq_true rfl) rfl ?_
  intro x hxl
  subst hxl
  unfold fX2_waysWith
  refine mv_aload_n (pc := 0) (i := 0) 0 dX2_waysWith_0 rfl rfl ?_
  refine mv_getR (pc := 1) (i := 58) (j := 1) dX2_waysWith_1 flX2_29 lx_58 rfl ?_
  refine mv_iload_n (pc := 4) (i := 1) 1 dX2_waysWith_4 rfl rfl ?_
  refine mv_callVi (pc := 5) (As := [.int a1]) (st := []) (i := 1) dX2_waysWith_5 mlX2_82 vmX7_isHidden ⟨Nat.le_of_ble_eq_true rfl, Nat.le_of_ble_eq_true rfl⟩ lx_1 rfl rfl (Nat.le_of_ble_eq_true rfl) (ctX7_isHidden x.2.1 D cA ad F M a1) (fun v2 M1 => ?_)
  refine mv_if_ne (pc := 8) (tgt := 23) dX2_waysWith_8 (by decide) ?_ ?_
  · refine mv_lconst (pc := 23) dX2_waysWith_23 (by decide +kernel : Int64.ofNat ((0 : Fin 2) : Nat) = (0 : Int64)) ?_
    exact mv_lreturn (pc := 24) dX2_waysWith_24 rfl
  · refine mv_aload_n (pc := 11) (i := 0) 0 dX2_waysWith_11 rfl rfl ?_
    refine mv_getR (pc := 12) (i := 58) (j := 1) dX2_waysWith_12 flX2_29 lx_58 rfl ?_
    refine mv_iload_n (pc := 15) (i := 1) 1 dX2_waysWith_15 rfl rfl ?_
    refine mv_iload_n (pc := 16) (i := 2) 2 dX2_waysWith_16 rfl rfl ?_
    refine mv_callVi (pc := 17) (As := [.int a1, .int a2]) (st := []) (i := 1) dX2_waysWith_17 mlX2_86 vmX7_givesOne ⟨Nat.le_of_ble_eq_true rfl, Nat.le_of_ble_eq_true rfl⟩ lx_1 rfl rfl (Nat.le_of_ble_eq_true rfl) (ctX7_givesOne x.2.1 D cA ad F M1 a1 a2) (fun v4 M3 => ?_)
    refine mv_if_ne (pc := 20) (tgt := 25) dX2_waysWith_20 (by decide) ?_ ?_
    · refine mv_aload_n (pc := 25) (i := 0) 0 dX2_waysWith_25 rfl rfl ?_
      refine mv_getR (pc := 26) (i := 58) (j := 59) dX2_waysWith_26 flX2_11 lx_58 rfl ?_
      refine mv_iload_n (pc := 29) (i := 1) 1 dX2_waysWith_29 rfl rfl ?_
      refine mv_aald (pc := 30) (i := 59) (b := 60) (t := 2) dX2_waysWith_30 lx_59 (by decide) (by decide) (fun h5 => ?_)
      refine mv_aload_n (pc := 31) (i := 0) 0 dX2_waysWith_31 rfl rfl ?_
      refine mv_getR (pc := 32) (i := 58) (j := 81) dX2_waysWith_32 flX2_19 lx_58 rfl ?_
      refine mv_aload_n (pc := 35) (i := 0) 0 dX2_waysWith_35 rfl rfl ?_
      refine mv_getI (pc := 36) (i := 58) dX2_waysWith_36 flX2_53 lx_58 rfl ?_
      refine mv_aald (pc := 39) (i := 81) (b := 82) (t := 2) dX2_waysWith_39 lx_81 (by decide) (by decide) (fun h6 => ?_)
      refine mv_iload_n (pc := 40) (i := 3) 3 dX2_waysWith_40 rfl rfl ?_
      refine mv_callSl (pc := 41) (As := [.ref (ad (60 + a1.toNatClampNeg)), .ref (ad (82 + (M3.1 58 6).toNatClampNeg)), .int a3]) (st := []) dX2_waysWith_41 mlX2_90 smX2_ways ⟨Nat.le_of_ble_eq_true rfl, Nat.le_of_ble_eq_true rfl⟩ rfl (Nat.le_of_ble_eq_true rfl) (ctX2_ways x.2.1 D cA ad F M3 (60 + a1.toNatClampNeg) (82 + (M3.1 58 6).toNatClampNeg) a3 (lxr_60 _ h5) (lxr_82 _ h6)) (fun v8 M7 => ?_)
      exact mv_lreturn (pc := 44) dX2_waysWith_44 rfl
    · refine mv_lconst (pc := 23) dX2_waysWith_23 (by decide +kernel : Int64.ofNat ((0 : Fin 2) : Nat) = (0 : Int64)) ?_
      exact mv_lreturn (pc := 24) dX2_waysWith_24 rfl

set_option maxRecDepth 100000 in
set_option maxHeartbeats 4000000 in
theorem ctX2_choose (l : Launch) (D : va_G) (cA : Nat → ClassId) (ad : Nat → Nat) (F : Nat) (M : mv_M) (a1 : Int32) (a2 : Int32) : mv_C l (D, cA, ad, LX) yX2_choose iX2_choose mv_ri [.ref (ad 58), .int a1, .int a2] M (fX2_choose F M a1 a2) := by
  refine mv_C.ofV (ls := [(0, .ref (ad 58)), (1, .int a1), (2, .int a2)]) (by decide) rfl (Nat.le_of_ble_eq_true rfl) rfl ?_
  intro x hxl
  subst hxl
  unfold fX2_choose
  refine mv_iconst (pc := 0) dX2_choose_0 kci0 ?_
  refine mv_istore_n (pc := 1) (i := 3) (ls' := [(0, .ref (ad 58)), (1, .int a1), (2, .int a2)]) dX2_choose_1 rfl (Nat.le_of_ble_eq_true rfl) rfl (fun v1 => ?_)
  refine mv_sub [1, 2, 3, 0] rfl ?_
  refine mv_loop (pc := 2) (lj := fun (s2 : Int32 × mv_M) => [(0, .ref (ad 58)), (1, .int a1), (2, .int a2), (3, .int s2.1)]) (Mj := fun (s2 : Int32 × mv_M) => s2.2) (B := bX2_choose_2 F a1 a2) ?_ F (v1, M)
  intro f3 hf3 s2
  unfold bX2_choose_2
  refine mv_iload_n (pc := 2) (i := 3) 3 dX2_choose_2 rfl rfl ?_
  refine mv_aload_n (pc := 3) (i := 0) 0 dX2_choose_3 rfl rfl ?_
  refine mv_getR (pc := 4) (i := 58) (j := 1) dX2_choose_4 flX2_29 lx_58 rfl ?_
  refine mv_getI (pc := 7) (i := 1) dX2_choose_7 flX2_75 lx_1 rfl ?_
  refine mv_icmp_ge (pc := 10) (tgt := 51) dX2_choose_10 (by decide) ?_ ?_
  · refine mv_iconst (pc := 51) dX2_choose_51 kcim1 ?_
    exact mv_ireturn (pc := 52) dX2_choose_52 rfl
  · refine mv_aload_n (pc := 13) (i := 0) 0 dX2_choose_13 rfl rfl ?_
    refine mv_iload_n (pc := 14) (i := 3) 3 dX2_choose_14 rfl rfl ?_
    refine mv_iload_n (pc := 15) (i := 1) 1 dX2_choose_15 rfl rfl ?_
    refine mv_iload_n (pc := 16) (i := 2) 2 dX2_choose_16 rfl rfl ?_
    refine mv_callVl (pc := 17) (As := [.int s2.1, .int a1, .int a2]) (st := []) (i := 58) dX2_choose_17 mlX2_78 vmX2_waysWith ⟨Nat.le_of_ble_eq_true rfl, Nat.le_of_ble_eq_true rfl⟩ lx_58 rfl rfl (Nat.le_of_ble_eq_true rfl) (ctX2_waysWith x.2.1 D cA ad F s2.2 s2.1 a1 a2) (fun v5 M4 => ?_)
    refine mv_lstore (pc := 20) (i := 4) (ls' := [(0, .ref (ad 58)), (1, .int a1), (2, .int a2), (3, .int s2.1)]) dX2_choose_20 (Nat.le_of_ble_eq_true rfl) rfl (fun v6 => ?_)
    refine mv_aload_n (pc := 22) (i := 0) 1 dX2_choose_22 rfl rfl ?_
    refine mv_getL (pc := 23) (i := 58) dX2_choose_23 flX2_48 lx_58 rfl ?_
    refine mv_lload (pc := 26) (i := 4) 0 dX2_choose_26 rfl ?_
    refine mv_lcmp (pc := 28) dX2_choose_28 ?_
    refine mv_if_ge (pc := 29) (tgt := 34) dX2_choose_29 (by decide) ?_ ?_
    · refine mv_aload_n (pc := 34) (i := 0) 1 dX2_choose_34 rfl rfl ?_
      refine mv_dup (pc := 35) dX2_choose_35 rfl ?_
      refine mv_getL (pc := 36) (i := 58) dX2_choose_36 flX2_48 lx_58 rfl ?_
      refine mv_lload (pc := 39) (i := 4) 0 dX2_choose_39 rfl ?_
      refine mv_lsub (pc := 41) dX2_choose_41 ?_
      refine mv_putL (pc := 42) (i := 58) dX2_choose_42 flX2_48 fpX2_8 lx_58 rfl (fun M7 => ?_)
      refine mv_iinc (pc := 45) (i := 3) (ls' := [(4, .long v6), (0, .ref (ad 58)), (1, .int a1), (2, .int a2)]) 4 dX2_choose_45 rfl kci1 (Nat.le_of_ble_eq_true rfl) rfl (fun v8 => ?_)
      refine mv_goto (pc := 48) (tgt := 2) dX2_choose_48 (by decide) ?_
      refine mv_sub [2, 3, 4, 0] rfl ?_
      exact hf3 (v8, M7)
    · refine mv_iload_n (pc := 32) (i := 3) 4 dX2_choose_32 rfl rfl ?_
      exact mv_ireturn (pc := 33) dX2_choose_33 rfl

set_option maxRecDepth 100000 in
set_option maxHeartbeats 4000000 in
theorem ctX2_fillRest (l : Launch) (D : va_G) (cA : Nat → ClassId) (ad : Nat → Nat) (F : Nat) (M : mv_M) (a1 : Int32) : mv_C l (D, cA, ad, LX) yX2_fillRest iX2_fillRest mv_rv [.ref (ad 58), .int a1] M (fX2_fillRest F M a1) := by
  refine mv_C.ofV (ls := [(0, .ref (ad 58)), (1, .int a1)]) (by decide) rfl (Nat.le_of_ble_eq_true rfl) rfl ?_
  intro x hxl
  subst hxl
  unfold fX2_fillRest
  refine mv_aload_n (pc := 0) (i := 0) 0 dX2_fillRest_0 rfl rfl ?_
  refine mv_getR (pc := 1) (i := 58) (j := 72) dX2_fillRest_1 flX2_16 lx_58 rfl ?_
  refine mv_aload_n (pc := 4) (i := 0) 0 dX2_fillRest_4 rfl rfl ?_
  refine mv_getR (pc := 5) (i := 58) (j := 107) dX2_fillRest_5 flX2_22 lx_58 rfl ?_
  refine mv_aload_n (pc := 8) (i := 0) 0 dX2_fillRest_8 rfl rfl ?_
  refine mv_getI (pc := 9) (i := 58) dX2_fillRest_9 flX2_53 lx_58 rfl ?_
  refine mv_iconst (pc := 12) dX2_fillRest_12 kci1 ?_
  refine mv_isub (pc := 13) dX2_fillRest_13 ?_
  refine mv_iald (pc := 14) (i := 107) dX2_fillRest_14 lx_107 ?_
  refine mv_aald (pc := 15) (i := 72) (b := 73) (t := 2) dX2_fillRest_15 lx_72 (by decide) (by decide) (fun h1 => ?_)
  refine mv_astore_n (pc := 16) (i := 2) (ls' := [(0, .ref (ad 58)), (1, .int a1)]) dX2_fillRest_16 rfl (Nat.le_of_ble_eq_true rfl) rfl ?_
  refine mv_iconst (pc := 17) dX2_fillRest_17 kci0 ?_
  refine mv_istore_n (pc := 18) (i := 3) (ls' := [(2, .ref (ad (73 + (M.1 107 ((M.1 58 6) - (1 : Int32)).toNatClampNeg).toNatClampNeg))), (0, .ref (ad 58)), (1, .int a1)]) dX2_fillRest_18 rfl (Nat.le_of_ble_eq_true rfl) rfl (fun v2 => ?_)
  refine mv_sub [2, 3, 1, 0] rfl ?_
  refine mv_loop (pc := 19) (lj := fun (s3 : Int32 × mv_M) => [(0, .ref (ad 58)), (1, .int a1), (2, .ref (ad (73 + (M.1 107 ((M.1 58 6) - (1 : Int32)).toNatClampNeg).toNatClampNeg))), (3, .int s3.1)]) (Mj := fun (s3 : Int32 × mv_M) => s3.2) (B := bX2_fillRest_19 a1 F M) ?_ F (v2, M)
  intro f4 hf4 s3
  unfold bX2_fillRest_19
  refine mv_iload_n (pc := 19) (i := 3) 3 dX2_fillRest_19 rfl rfl ?_
  refine mv_iload_n (pc := 20) (i := 1) 1 dX2_fillRest_20 rfl rfl ?_
  refine mv_icmp_gt (pc := 21) (tgt := 57) dX2_fillRest_21 (by decide) ?_ ?_
  · exact mv_return (pc := 57) dX2_fillRest_57 rfl
  · refine mv_aload_n (pc := 24) (i := 0) 0 dX2_fillRest_24 rfl rfl ?_
    refine mv_getR (pc := 25) (i := 58) (j := 81) dX2_fillRest_25 flX2_19 lx_58 rfl ?_
    refine mv_aload_n (pc := 28) (i := 0) 0 dX2_fillRest_28 rfl rfl ?_
    refine mv_getI (pc := 29) (i := 58) dX2_fillRest_29 flX2_53 lx_58 rfl ?_
    refine mv_aald (pc := 32) (i := 81) (b := 82) (t := 2) dX2_fillRest_32 lx_81 (by decide) (by decide) (fun h5 => ?_)
    refine mv_iload_n (pc := 33) (i := 3) 3 dX2_fillRest_33 rfl rfl ?_
    refine mv_aload_n (pc := 34) (i := 2) 2 dX2_fillRest_34 rfl rfl ?_
    refine mv_aload_n (pc := 35) (i := 0) 0 dX2_fillRest_35 rfl rfl ?_
    refine mv_getR (pc := 36) (i := 58) (j := 81) dX2_fillRest_36 flX2_19 lx_58 rfl ?_
    refine mv_aload_n (pc := 39) (i := 0) 0 dX2_fillRest_39 rfl rfl ?_
    refine mv_getI (pc := 40) (i := 58) dX2_fillRest_40 flX2_53 lx_58 rfl ?_
    refine mv_iconst (pc := 43) dX2_fillRest_43 kci1 ?_
    refine mv_isub (pc := 44) dX2_fillRest_44 ?_
    refine mv_aald (pc := 45) (i := 81) (b := 82) (t := 2) dX2_fillRest_45 lx_81 (by decide) (by decide) (fun h6 => ?_)
    refine mv_iload_n (pc := 46) (i := 3) 3 dX2_fillRest_46 rfl rfl ?_
    refine mv_callSl (pc := 47) (As := [.ref (ad (73 + (M.1 107 ((M.1 58 6) - (1 : Int32)).toNatClampNeg).toNatClampNeg)), .ref (ad (82 + ((s3.2.1 58 6) - (1 : Int32)).toNatClampNeg)), .int s3.1]) (st := [.int s3.1, .ref (ad (82 + (s3.2.1 58 6).toNatClampNeg))]) dX2_fillRest_47 mlX2_90 smX2_ways ⟨Nat.le_of_ble_eq_true rfl, Nat.le_of_ble_eq_true rfl⟩ rfl (Nat.le_of_ble_eq_true rfl) (ctX2_ways x.2.1 D cA ad F s3.2 (73 + (M.1 107 ((M.1 58 6) - (1 : Int32)).toNatClampNeg).toNatClampNeg) (82 + ((s3.2.1 58 6) - (1 : Int32)).toNatClampNeg) s3.1 (lxr_73 _ h1) (lxr_82 _ h6)) (fun v8 M7 => ?_)
    refine mv_last (pc := 50) (i := (82 + (s3.2.1 58 6).toNatClampNeg)) dX2_fillRest_50 (lxr_82 _ h5) (fun M9 => ?_)
    refine mv_iinc (pc := 51) (i := 3) (ls' := [(0, .ref (ad 58)), (1, .int a1), (2, .ref (ad (73 + (M.1 107 ((M.1 58 6) - (1 : Int32)).toNatClampNeg).toNatClampNeg)))]) 3 dX2_fillRest_51 rfl kci1 (Nat.le_of_ble_eq_true rfl) rfl (fun v10 => ?_)
    refine mv_goto (pc := 54) (tgt := 19) dX2_fillRest_54 (by decide) ?_
    refine mv_sub [1, 2, 3, 0] rfl ?_
    exact hf4 (v10, M9)

set_option maxRecDepth 100000 in
set_option maxHeartbeats 4000000 in
theorem ctX2_wantTaken (l : Launch) (D : va_G) (cA : Nat → ClassId) (ad : Nat → Nat) (F : Nat) (M : mv_M) (a1 : Int32) (a2 : Int32) : mv_C l (D, cA, ad, LX) yX2_wantTaken iX2_wantTaken mv_rv [.ref (ad 58), .int a1, .int a2] M (fX2_wantTaken F M a1 a2) := by
  refine mv_C.ofV (ls := [(0, .ref (ad 58)), (1, .int a1), (2, .int a2)]) (by decide) rfl (Nat.le_of_ble_eq_true rfl) rfl ?_
  intro x hxl
  subst hxl
  unfold fX2_wantTaken
  refine mv_aload_n (pc := 0) (i := 0) 0 dX2_wantTaken_0 rfl rfl ?_
  refine mv_getR (pc := 1) (i := 58) (j := 1) dX2_wantTaken_1 flX2_29 lx_58 rfl ?_
  refine mv_getR (pc := 4) (i := 1) (j := 7) dX2_wantTaken_4 flX2_94 lx_1 rfl ?_
  refine mv_iload_n (pc := 7) (i := 1) 1 dX2_wantTaken_7 rfl rfl ?_
  refine mv_iald (pc := 8) (i := 7) dX2_wantTaken_8 lx_7 ?_
  refine mv_iconst (pc := 9) dX2_wantTaken_9 kci1 ?_
  refine mv_jp (pj := 31) (lj := fun (s1 : mv_M) => [(0, .ref (ad 58)), (1, .int a1)]) (sj := fun (s1 : mv_M) => []) (Mj := fun (s1 : mv_M) => s1) ?_ ?_
  · intro s1
    refine mv_aload_n (pc := 31) (i := 0) 0 dX2_wantTaken_31 rfl rfl ?_
    refine mv_getR (pc := 32) (i := 58) (j := 1) dX2_wantTaken_32 flX2_29 lx_58 rfl ?_
    refine mv_getR (pc := 35) (i := 1) (j := 7) dX2_wantTaken_35 flX2_94 lx_1 rfl ?_
    refine mv_iload_n (pc := 38) (i := 1) 1 dX2_wantTaken_38 rfl rfl ?_
    refine mv_iald (pc := 39) (i := 7) dX2_wantTaken_39 lx_7 ?_
    refine mv_if_le (pc := 40) (tgt := 56) dX2_wantTaken_40 (by decide) ?_ ?_
    · exact mv_return (pc := 56) dX2_wantTaken_56 rfl
    · refine mv_aload_n (pc := 43) (i := 0) 0 dX2_wantTaken_43 rfl rfl ?_
      refine mv_aload_n (pc := 44) (i := 0) 0 dX2_wantTaken_44 rfl rfl ?_
      refine mv_getR (pc := 45) (i := 58) (j := 1) dX2_wantTaken_45 flX2_29 lx_58 rfl ?_
      refine mv_getR (pc := 48) (i := 1) (j := 8) dX2_wantTaken_48 flX2_103 lx_1 rfl ?_
      refine mv_iload_n (pc := 51) (i := 1) 1 dX2_wantTaken_51 rfl rfl ?_
      refine mv_iald (pc := 52) (i := 8) dX2_wantTaken_52 lx_8 ?_
      refine mv_callVv (pc := 53) (As := [.int (s1.1 8 a1.toNatClampNeg)]) (st := []) (i := 58) dX2_wantTaken_53 mlX2_57 vmX2_want ⟨Nat.le_of_ble_eq_true rfl, Nat.le_of_ble_eq_true rfl⟩ lx_58 rfl rfl (Nat.le_of_ble_eq_true rfl) (ctX2_want x.2.1 D cA ad F s1 (s1.1 8 a1.toNatClampNeg)) (fun M3 => ?_)
      exact mv_return (pc := 56) dX2_wantTaken_56 rfl
  · intro j2 hj2
    refine mv_icmp_le (pc := 10) (tgt := 31) dX2_wantTaken_10 (by decide) ?_ ?_
    · refine mv_sub [0, 1] rfl ?_
      exact hj2 M
    · refine mv_aload_n (pc := 13) (i := 0) 0 dX2_wantTaken_13 rfl rfl ?_
      refine mv_aload_n (pc := 14) (i := 0) 0 dX2_wantTaken_14 rfl rfl ?_
      refine mv_getR (pc := 15) (i := 58) (j := 1) dX2_wantTaken_15 flX2_29 lx_58 rfl ?_
      refine mv_getR (pc := 18) (i := 1) (j := 9) dX2_wantTaken_18 flX2_97 lx_1 rfl ?_
      refine mv_iload_n (pc := 21) (i := 1) 1 dX2_wantTaken_21 rfl rfl ?_
      refine mv_iald (pc := 22) (i := 9) dX2_wantTaken_22 lx_9 ?_
      refine mv_callVv (pc := 23) (As := [.int (M.1 9 a1.toNatClampNeg)]) (st := []) (i := 58) dX2_wantTaken_23 mlX2_57 vmX2_want ⟨Nat.le_of_ble_eq_true rfl, Nat.le_of_ble_eq_true rfl⟩ lx_58 rfl rfl (Nat.le_of_ble_eq_true rfl) (ctX2_want x.2.1 D cA ad F M (M.1 9 a1.toNatClampNeg)) (fun M4 => ?_)
      refine mv_aload_n (pc := 26) (i := 0) 0 dX2_wantTaken_26 rfl rfl ?_
      refine mv_iload_n (pc := 27) (i := 2) 2 dX2_wantTaken_27 rfl rfl ?_
      refine mv_callVv (pc := 28) (As := [.int a2]) (st := []) (i := 58) dX2_wantTaken_28 mlX2_100 vmX2_fillRest ⟨Nat.le_of_ble_eq_true rfl, Nat.le_of_ble_eq_true rfl⟩ lx_58 rfl rfl (Nat.le_of_ble_eq_true rfl) (ctX2_fillRest x.2.1 D cA ad F M4 a2) (fun M5 => ?_)
      refine mv_sub [0, 1] rfl ?_
      exact hj2 M5

set_option maxRecDepth 100000 in
set_option maxHeartbeats 4000000 in
theorem ctX2_spell (l : Launch) (D : va_G) (cA : Nat → ClassId) (ad : Nat → Nat) (F : Nat) (M : mv_M) (a1 : Int32) (a2 : Int32) : mv_C l (D, cA, ad, LX) yX2_spell iX2_spell mv_ri [.ref (ad 58), .int a1, .int a2] M (fX2_spell F M a1 a2) := by
  refine mv_C.ofV (ls := [(0, .ref (ad 58)), (1, .int a1), (2, .int a2)]) (by decide) rfl (Nat.le_of_ble_eq_true rfl) rfl ?_
  intro x hxl
  subst hxl
  unfold fX2_spell
  refine mv_iload_n (pc := 0) (i := 2) 2 dX2_spell_0 rfl rfl ?_
  refine mv_istore_n (pc := 1) (i := 3) (ls' := [(0, .ref (ad 58)), (1, .int a1), (2, .int a2)]) dX2_spell_1 rfl (Nat.le_of_ble_eq_true rfl) rfl (fun v1 => ?_)
  refine mv_iconst (pc := 2) dX2_spell_2 kci0 ?_
  refine mv_istore (pc := 3) (i := 4) (ls' := [(3, .int v1), (0, .ref (ad 58)), (1, .int a1), (2, .int a2)]) dX2_spell_3 (Nat.le_of_ble_eq_true rfl) rfl (fun v2 => ?_)
  refine mv_aload_n (pc := 5) (i := 0) 2 dX2_spell_5 rfl rfl ?_
  refine mv_iconst (pc := 6) dX2_spell_6 kci0 ?_
  refine mv_putI (pc := 7) (i := 58) dX2_spell_7 flX2_53 (Or.inl fpX2_6) lx_58 rfl (fun M3 => ?_)
  refine mv_aload_n (pc := 10) (i := 0) 2 dX2_spell_10 rfl rfl ?_
  refine mv_iload_n (pc := 11) (i := 1) 3 dX2_spell_11 rfl rfl ?_
  refine mv_callVv (pc := 12) (As := [.int a1]) (st := []) (i := 58) dX2_spell_12 mlX2_57 vmX2_want ⟨Nat.le_of_ble_eq_true rfl, Nat.le_of_ble_eq_true rfl⟩ lx_58 rfl rfl (Nat.le_of_ble_eq_true rfl) (ctX2_want x.2.1 D cA ad F M3 a1) (fun M4 => ?_)
  refine mv_iconst (pc := 15) dX2_spell_15 kci0 ?_
  refine mv_istore (pc := 16) (i := 5) (ls' := [(4, .int v2), (3, .int v1), (0, .ref (ad 58)), (1, .int a1), (2, .int a2)]) dX2_spell_16 (Nat.le_of_ble_eq_true rfl) rfl (fun v5 => ?_)
  refine mv_sub [3, 2, 1, 0] rfl ?_
  refine mv_loop (pc := 18) (lj := fun (s6 : Int32 × Int32 × Int32 × mv_M) => [(0, .ref (ad 58)), (3, .int s6.1), (4, .int s6.2.1), (5, .int s6.2.2.1)]) (Mj := fun (s6 : Int32 × Int32 × Int32 × mv_M) => s6.2.2.2) (B := bX2_spell_18 F) ?_ F (v1, v2, v5, M4)
  intro f7 hf7 s6
  unfold bX2_spell_18
  refine mv_iload (pc := 18) (i := 5) 3 dX2_spell_18 rfl ?_
  refine mv_bipush (pc := 20) dX2_spell_20 kcb24 ?_
  refine mv_icmp_ge (pc := 22) (tgt := 106) dX2_spell_22 (by decide) ?_ ?_
  · refine mv_iload (pc := 106) (i := 4) 2 dX2_spell_106 rfl ?_
    exact mv_ireturn (pc := 108) dX2_spell_108 rfl
  · refine mv_aload_n (pc := 25) (i := 0) 0 dX2_spell_25 rfl rfl ?_
    refine mv_getI (pc := 26) (i := 58) dX2_spell_26 flX2_53 lx_58 rfl ?_
    refine mv_if_le (pc := 29) (tgt := 106) dX2_spell_29 (by decide) ?_ ?_
    · refine mv_iload (pc := 106) (i := 4) 2 dX2_spell_106 rfl ?_
      exact mv_ireturn (pc := 108) dX2_spell_108 rfl
    · refine mv_aload_n (pc := 32) (i := 0) 0 dX2_spell_32 rfl rfl ?_
      refine mv_dup (pc := 33) dX2_spell_33 rfl ?_
      refine mv_getI (pc := 34) (i := 58) dX2_spell_34 flX2_53 lx_58 rfl ?_
      refine mv_iconst (pc := 37) dX2_spell_37 kci1 ?_
      refine mv_isub (pc := 38) dX2_spell_38 ?_
      refine mv_putI (pc := 39) (i := 58) dX2_spell_39 flX2_53 (Or.inl fpX2_6) lx_58 rfl (fun M8 => ?_)
      refine mv_aload_n (pc := 42) (i := 0) 0 dX2_spell_42 rfl rfl ?_
      refine mv_aload_n (pc := 43) (i := 0) 0 dX2_spell_43 rfl rfl ?_
      refine mv_getR (pc := 44) (i := 58) (j := 107) dX2_spell_44 flX2_22 lx_58 rfl ?_
      refine mv_aload_n (pc := 47) (i := 0) 0 dX2_spell_47 rfl rfl ?_
      refine mv_getI (pc := 48) (i := 58) dX2_spell_48 flX2_53 lx_58 rfl ?_
      refine mv_iald (pc := 51) (i := 107) dX2_spell_51 lx_107 ?_
      refine mv_iload_n (pc := 52) (i := 3) 1 dX2_spell_52 rfl rfl ?_
      refine mv_callVi (pc := 53) (As := [.int (M8.1 107 (M8.1 58 6).toNatClampNeg), .int s6.1]) (st := []) (i := 58) dX2_spell_53 mlX2_61 vmX2_choose ⟨Nat.le_of_ble_eq_true rfl, Nat.le_of_ble_eq_true rfl⟩ lx_58 rfl rfl (Nat.le_of_ble_eq_true rfl) (ctX2_choose x.2.1 D cA ad F M8 (M8.1 107 (M8.1 58 6).toNatClampNeg) s6.1) (fun v10 M9 => ?_)
      refine mv_istore (pc := 56) (i := 6) (ls' := [(0, .ref (ad 58)), (3, .int s6.1), (4, .int s6.2.1), (5, .int s6.2.2.1)]) dX2_spell_56 (Nat.le_of_ble_eq_true rfl) rfl (fun v11 => ?_)
      refine mv_iload (pc := 58) (i := 6) 0 dX2_spell_58 rfl ?_
      refine mv_if_ge (pc := 60) (tgt := 66) dX2_spell_60 (by decide) ?_ ?_
      · refine mv_aload_n (pc := 66) (i := 0) 1 dX2_spell_66 rfl rfl ?_
        refine mv_getR (pc := 67) (i := 58) (j := 108) dX2_spell_67 flX2_26 lx_58 rfl ?_
        refine mv_iload (pc := 70) (i := 5) 4 dX2_spell_70 rfl ?_
        refine mv_iload (pc := 72) (i := 6) 0 dX2_spell_72 rfl ?_
        refine mv_iast (pc := 74) (i := 108) dX2_spell_74 lx_108 (fun M12 => ?_)
        refine mv_iload (pc := 75) (i := 5) 4 dX2_spell_75 rfl ?_
        refine mv_iconst (pc := 77) dX2_spell_77 kci1 ?_
        refine mv_iadd (pc := 78) dX2_spell_78 ?_
        refine mv_istore (pc := 79) (i := 4) (ls' := [(6, .int v11), (0, .ref (ad 58)), (3, .int s6.1), (5, .int s6.2.2.1)]) dX2_spell_79 (Nat.le_of_ble_eq_true rfl) rfl (fun v13 => ?_)
        refine mv_iload_n (pc := 81) (i := 3) 3 dX2_spell_81 rfl rfl ?_
        refine mv_aload_n (pc := 82) (i := 0) 2 dX2_spell_82 rfl rfl ?_
        refine mv_getR (pc := 83) (i := 58) (j := 1) dX2_spell_83 flX2_29 lx_58 rfl ?_
        refine mv_iload (pc := 86) (i := 6) 1 dX2_spell_86 rfl ?_
        refine mv_callVi (pc := 88) (As := [.int v11]) (st := [.int s6.1]) (i := 1) dX2_spell_88 mlX2_65 vmX7_priceOf ⟨Nat.le_of_ble_eq_true rfl, Nat.le_of_ble_eq_true rfl⟩ lx_1 rfl rfl (Nat.le_of_ble_eq_true rfl) (ctX7_priceOf x.2.1 D cA ad F M12 v11) (fun v15 M14 => ?_)
        refine mv_isub (pc := 91) dX2_spell_91 ?_
        refine mv_istore_n (pc := 92) (i := 3) (ls' := [(4, .int v13), (6, .int v11), (0, .ref (ad 58)), (5, .int s6.2.2.1)]) dX2_spell_92 rfl (Nat.le_of_ble_eq_true rfl) rfl (fun v16 => ?_)
        refine mv_aload_n (pc := 93) (i := 0) 3 dX2_spell_93 rfl rfl ?_
        refine mv_iload (pc := 94) (i := 6) 2 dX2_spell_94 rfl ?_
        refine mv_iload_n (pc := 96) (i := 3) 0 dX2_spell_96 rfl rfl ?_
        refine mv_callVv (pc := 97) (As := [.int v11, .int v16]) (st := []) (i := 58) dX2_spell_97 mlX2_71 vmX2_wantTaken ⟨Nat.le_of_ble_eq_true rfl, Nat.le_of_ble_eq_true rfl⟩ lx_58 rfl rfl (Nat.le_of_ble_eq_true rfl) (ctX2_wantTaken x.2.1 D cA ad F M14 v11 v16) (fun M17 => ?_)
        refine mv_iinc (pc := 100) (i := 5) (ls' := [(3, .int v16), (4, .int v13), (6, .int v11), (0, .ref (ad 58))]) 4 dX2_spell_100 rfl kci1 (Nat.le_of_ble_eq_true rfl) rfl (fun v18 => ?_)
        refine mv_goto (pc := 103) (tgt := 18) dX2_spell_103 (by decide) ?_
        refine mv_sub [4, 1, 2, 0] rfl ?_
        exact hf7 (v16, v13, v18, M17)
      · refine mv_iload (pc := 63) (i := 4) 3 dX2_spell_63 rfl ?_
        exact mv_ireturn (pc := 65) dX2_spell_65 rfl

set_option maxRecDepth 100000 in
set_option maxHeartbeats 4000000 in
theorem ctX8_listed (l : Launch) (D : va_G) (cA : Nat → ClassId) (ad : Nat → Nat) (F : Nat) (M : mv_M) (a1 : Int32) (a2 : Int32) (a3 : Int32) : mv_C l (D, cA, ad, LX) yX8_listed iX8_listed mv_ri [.ref (ad 0), .int a1, .int a2, .int a3] M (fX8_listed F M a1 a2 a3) := by
  refine mv_C.ofV (ls := [(0, .ref (ad 0)), (1, .int a1), (2, .int a2), (3, .int a3)]) (by decide) rfl (Nat.le_of_ble_eq_true rfl) rfl ?_
  intro x hxl
  subst hxl
  unfold fX8_listed
  refine mv_aload_n (pc := 0) (i := 0) 0 dX8_listed_0 rfl rfl ?_
  refine mv_getR (pc := 1) (i := 0) (j := 1) dX8_listed_1 flX8_10 lx_0 rfl ?_
  refine mv_iload_n (pc := 4) (i := 1) 1 dX8_listed_4 rfl rfl ?_
  refine mv_callVi (pc := 5) (As := [.int a1]) (st := []) (i := 1) dX8_listed_5 mlX8_173 vmX7_hasType ⟨Nat.le_of_ble_eq_true rfl, Nat.le_of_ble_eq_true rfl⟩ lx_1 rfl rfl (Nat.le_of_ble_eq_true rfl) (ctX7_hasType x.2.1 D cA ad F M a1) (fun v2 M1 => ?_)
  refine mv_if_eq (pc := 8) (tgt := 26) dX8_listed_8 (by decide) ?_ ?_
  · refine mv_ldc (pc := 26) dX8_listed_26 kwX8_80 ?_
    exact mv_ireturn (pc := 28) dX8_listed_28 rfl
  · refine mv_iload_n (pc := 11) (i := 2) 2 dX8_listed_11 rfl rfl ?_
    refine mv_if_lt (pc := 12) (tgt := 26) dX8_listed_12 (by decide) ?_ ?_
    · refine mv_ldc (pc := 26) dX8_listed_26 kwX8_80 ?_
      exact mv_ireturn (pc := 28) dX8_listed_28 rfl
    · refine mv_iload_n (pc := 15) (i := 2) 2 dX8_listed_15 rfl rfl ?_
      refine mv_ldc (pc := 16) dX8_listed_16 kwX8_223 ?_
      refine mv_icmp_ge (pc := 18) (tgt := 26) dX8_listed_18 (by decide) ?_ ?_
      · refine mv_ldc (pc := 26) dX8_listed_26 kwX8_80 ?_
        exact mv_ireturn (pc := 28) dX8_listed_28 rfl
      · refine mv_iload_n (pc := 21) (i := 3) 3 dX8_listed_21 rfl rfl ?_
        refine mv_iconst (pc := 22) dX8_listed_22 kcim1 ?_
        refine mv_icmp_ge (pc := 23) (tgt := 29) dX8_listed_23 (by decide) ?_ ?_
        · refine mv_aload_n (pc := 29) (i := 0) 0 dX8_listed_29 rfl rfl ?_
          refine mv_getR (pc := 30) (i := 0) (j := 58) dX8_listed_30 flX8_53 lx_0 rfl ?_
          refine mv_iload_n (pc := 33) (i := 1) 1 dX8_listed_33 rfl rfl ?_
          refine mv_iload_n (pc := 34) (i := 2) 2 dX8_listed_34 rfl rfl ?_
          refine mv_callVi (pc := 35) (As := [.int a1, .int a2]) (st := []) (i := 58) dX8_listed_35 mlX8_224 vmX2_findPlace ⟨Nat.le_of_ble_eq_true rfl, Nat.le_of_ble_eq_true rfl⟩ lx_58 rfl rfl (Nat.le_of_ble_eq_true rfl) (ctX2_findPlace x.2.1 D cA ad F M1 a1 a2) (fun v4 M3 => ?_)
          refine mv_istore (pc := 38) (i := 4) (ls' := [(0, .ref (ad 0)), (1, .int a1), (2, .int a2), (3, .int a3)]) dX8_listed_38 (Nat.le_of_ble_eq_true rfl) rfl (fun v5 => ?_)
          refine mv_iload (pc := 40) (i := 4) 0 dX8_listed_40 rfl ?_
          refine mv_ldc (pc := 42) dX8_listed_42 kwX8_203 ?_
          refine mv_icmp_eq (pc := 44) (tgt := 52) dX8_listed_44 (by decide) ?_ ?_
          · refine mv_iload (pc := 52) (i := 4) 0 dX8_listed_52 rfl ?_
            exact mv_ireturn (pc := 54) dX8_listed_54 rfl
          · refine mv_iload_n (pc := 47) (i := 3) 4 dX8_listed_47 rfl rfl ?_
            refine mv_iconst (pc := 48) dX8_listed_48 kcim1 ?_
            refine mv_icmp_ne (pc := 49) (tgt := 55) dX8_listed_49 (by decide) ?_ ?_
            · refine mv_aload_n (pc := 55) (i := 0) 1 dX8_listed_55 rfl rfl ?_
              refine mv_getR (pc := 56) (i := 0) (j := 58) dX8_listed_56 flX8_53 lx_0 rfl ?_
              refine mv_iload_n (pc := 59) (i := 1) 2 dX8_listed_59 rfl rfl ?_
              refine mv_iload (pc := 60) (i := 4) 0 dX8_listed_60 rfl ?_
              refine mv_callVi (pc := 62) (As := [.int a1, .int v5]) (st := []) (i := 58) dX8_listed_62 mlX8_227 vmX2_spell ⟨Nat.le_of_ble_eq_true rfl, Nat.le_of_ble_eq_true rfl⟩ lx_58 rfl rfl (Nat.le_of_ble_eq_true rfl) (ctX2_spell x.2.1 D cA ad F M3 a1 v5) (fun v7 M6 => ?_)
              refine mv_istore (pc := 65) (i := 5) (ls' := [(4, .int v5), (0, .ref (ad 0)), (1, .int a1), (2, .int a2), (3, .int a3)]) dX8_listed_65 (Nat.le_of_ble_eq_true rfl) rfl (fun v8 => ?_)
              refine mv_iload_n (pc := 67) (i := 3) 5 dX8_listed_67 rfl rfl ?_
              refine mv_iload (pc := 68) (i := 5) 0 dX8_listed_68 rfl ?_
              refine mv_icmp_ge (pc := 70) (tgt := 85) dX8_listed_70 (by decide) ?_ ?_
              · refine mv_ldc (pc := 85) dX8_listed_85 kwX8_203 ?_
                exact mv_ireturn (pc := 87) dX8_listed_87 rfl
              · refine mv_aload_n (pc := 73) (i := 0) 2 dX8_listed_73 rfl rfl ?_
                refine mv_getR (pc := 74) (i := 0) (j := 58) dX8_listed_74 flX8_53 lx_0 rfl ?_
                refine mv_getR (pc := 77) (i := 58) (j := 108) dX8_listed_77 flX8_230 lx_58 rfl ?_
                refine mv_iload_n (pc := 80) (i := 3) 5 dX8_listed_80 rfl rfl ?_
                refine mv_iald (pc := 81) (i := 108) dX8_listed_81 lx_108 ?_
                refine mv_goto (pc := 82) (tgt := 87) dX8_listed_82 (by decide) ?_
                exact mv_ireturn (pc := 87) dX8_listed_87 rfl
            · refine mv_iload (pc := 52) (i := 4) 0 dX8_listed_52 rfl ?_
              exact mv_ireturn (pc := 54) dX8_listed_54 rfl
        · refine mv_ldc (pc := 26) dX8_listed_26 kwX8_80 ?_
          exact mv_ireturn (pc := 28) dX8_listed_28 rfl

set_option maxRecDepth 100000 in
set_option maxHeartbeats 4000000 in
theorem ctX6_isLength (l : Launch) (D : va_G) (cA : Nat → ClassId) (ad : Nat → Nat) (F : Nat) (M : mv_M) (a1 : Int32) : mv_C l (D, cA, ad, LX) yX6_isLength iX6_isLength mv_ri [.int a1] M (fX6_isLength F M a1) := by
  refine mv_C.ofV (ls := [(0, .int a1)]) (by decide) rfl (Nat.le_of_ble_eq_true rfl) rfl ?_
  intro x hxl
  subst hxl
  unfold fX6_isLength
  refine mv_iload_n (pc := 0) (i := 0) 0 dX6_isLength_0 rfl rfl ?_
  refine mv_iconst (pc := 1) dX6_isLength_1 kci1 ?_
  refine mv_icmp_lt (pc := 2) (tgt := 15) dX6_isLength_2 (by decide) ?_ ?_
  · refine mv_iconst (pc := 15) dX6_isLength_15 kci0 ?_
    exact mv_zreturn (pc := 16) dX6_isLength_16 rfl
  · refine mv_iload_n (pc := 5) (i := 0) 0 dX6_isLength_5 rfl rfl ?_
    refine mv_bipush (pc := 6) dX6_isLength_6 kcb24 ?_
    refine mv_icmp_gt (pc := 8) (tgt := 15) dX6_isLength_8 (by decide) ?_ ?_
    · refine mv_iconst (pc := 15) dX6_isLength_15 kci0 ?_
      exact mv_zreturn (pc := 16) dX6_isLength_16 rfl
    · refine mv_iconst (pc := 11) dX6_isLength_11 kci1 ?_
      refine mv_goto (pc := 12) (tgt := 16) dX6_isLength_12 (by decide) ?_
      exact mv_zreturn (pc := 16) dX6_isLength_16 rfl

set_option maxRecDepth 100000 in
set_option maxHeartbeats 4000000 in
theorem ctX6_take (l : Launch) (D : va_G) (cA : Nat → ClassId) (ad : Nat → Nat) (F : Nat) (M : mv_M) (a1 : Int32) (a2 : Int32) (a3 : Int32) : mv_C l (D, cA, ad, LX) yX6_take iX6_take mv_ri [.ref (ad 109), .int a1, .int a2, .int a3] M (fX6_take F M a1 a2 a3) := by
  refine mv_C.ofV (ls := [(0, .ref (ad 109)), (1, .int a1), (2, .int a2), (3, .int a3)]) (by decide) rfl (Nat.le_of_ble_eq_true rfl) rfl ?_
  intro x hxl
  subst hxl
  unfold fX6_take
  refine mv_aload_n (pc := 0) (i := 0) 0 dX6_take_0 rfl rfl ?_
  refine mv_getR (pc := 1) (i := 109) (j := 29) dX6_take_1 flX6_22 lx_109 rfl ?_
  refine mv_iload_n (pc := 4) (i := 1) 1 dX6_take_4 rfl rfl ?_
  refine mv_callVi (pc := 5) (As := [.int a1]) (st := []) (i := 29) dX6_take_5 mlX6_26 vmX5_isMissing ⟨Nat.le_of_ble_eq_true rfl, Nat.le_of_ble_eq_true rfl⟩ lx_29 rfl rfl (Nat.le_of_ble_eq_true rfl) (ctX5_isMissing x.2.1 D cA ad F M a1) (fun v2 M1 => ?_)
  refine mv_if_eq (pc := 8) (tgt := 13) dX6_take_8 (by decide) ?_ ?_
  · refine mv_aload_n (pc := 13) (i := 0) 0 dX6_take_13 rfl rfl ?_
    refine mv_getR (pc := 14) (i := 109) (j := 29) dX6_take_14 flX6_22 lx_109 rfl ?_
    refine mv_iload_n (pc := 17) (i := 1) 1 dX6_take_17 rfl rfl ?_
    refine mv_iload_n (pc := 18) (i := 2) 2 dX6_take_18 rfl rfl ?_
    refine mv_iload_n (pc := 19) (i := 3) 3 dX6_take_19 rfl rfl ?_
    refine mv_callVi (pc := 20) (As := [.int a1, .int a2, .int a3]) (st := []) (i := 29) dX6_take_20 mlX6_32 vmX5_hasPlaces ⟨Nat.le_of_ble_eq_true rfl, Nat.le_of_ble_eq_true rfl⟩ lx_29 rfl rfl (Nat.le_of_ble_eq_true rfl) (ctX5_hasPlaces x.2.1 D cA ad F M1 a1 a2 a3) (fun v4 M3 => ?_)
    refine mv_if_ne (pc := 23) (tgt := 28) dX6_take_23 (by decide) ?_ ?_
    · refine mv_aload_n (pc := 28) (i := 0) 0 dX6_take_28 rfl rfl ?_
      refine mv_getR (pc := 29) (i := 109) (j := 29) dX6_take_29 flX6_22 lx_109 rfl ?_
      refine mv_getR (pc := 32) (i := 29) (j := 30) dX6_take_32 flX6_36 lx_29 rfl ?_
      refine mv_iload_n (pc := 35) (i := 1) 1 dX6_take_35 rfl rfl ?_
      refine mv_aald (pc := 36) (i := 30) (b := 31) (t := 1) dX6_take_36 lx_30 (by decide) (by decide) (fun h5 => ?_)
      refine mv_iload_n (pc := 37) (i := 2) 2 dX6_take_37 rfl rfl ?_
      refine mv_aload_n (pc := 38) (i := 0) 0 dX6_take_38 rfl rfl ?_
      refine mv_getR (pc := 39) (i := 109) (j := 110) dX6_take_39 flX6_11 lx_109 rfl ?_
      refine mv_iconst (pc := 42) dX6_take_42 kci0 ?_
      refine mv_iload_n (pc := 43) (i := 3) 3 dX6_take_43 rfl rfl ?_
      refine mv_copy (pc := 44) (i := (31 + a1.toNatClampNeg)) (j := 110) dX6_take_44 mwX6_40 (lxr_31 _ h5) lx_110 ⟨Nat.le_of_ble_eq_true rfl, Nat.le_of_ble_eq_true rfl⟩ (fun M6 => ?_)
      refine mv_aload_n (pc := 47) (i := 0) 0 dX6_take_47 rfl rfl ?_
      refine mv_iload_n (pc := 48) (i := 3) 3 dX6_take_48 rfl rfl ?_
      refine mv_putI (pc := 49) (i := 109) dX6_take_49 flX6_46 (Or.inl fpX6_3) lx_109 rfl (fun M7 => ?_)
      refine mv_iconst (pc := 52) dX6_take_52 kci0 ?_
      exact mv_ireturn (pc := 53) dX6_take_53 rfl
    · refine mv_iconst (pc := 26) dX6_take_26 kci2 ?_
      exact mv_ireturn (pc := 27) dX6_take_27 rfl
  · refine mv_iconst (pc := 11) dX6_take_11 kci1 ?_
    exact mv_ireturn (pc := 12) dX6_take_12 rfl

set_option maxRecDepth 100000 in
set_option maxHeartbeats 4000000 in
theorem ctX6_fits (l : Launch) (D : va_G) (cA : Nat → ClassId) (ad : Nat → Nat) (F : Nat) (M : mv_M) (a1 : Int32) (a2 : Int32) : mv_C l (D, cA, ad, LX) yX6_fits iX6_fits mv_ri [.ref (ad 109), .int a1, .int a2] M (fX6_fits F M a1 a2) := by
  refine mv_C.ofV (ls := [(0, .ref (ad 109)), (1, .int a1), (2, .int a2)]) (by decide) rfl (Nat.le_of_ble_eq_true rfl) rfl ?_
  intro x hxl
  subst hxl
  unfold fX6_fits
  refine mv_aload_n (pc := 0) (i := 0) 0 dX6_fits_0 rfl rfl ?_
  refine mv_getR (pc := 1) (i := 109) (j := 110) dX6_fits_1 flX6_11 lx_109 rfl ?_
  refine mv_iload_n (pc := 4) (i := 1) 1 dX6_fits_4 rfl rfl ?_
  refine mv_iald (pc := 5) (i := 110) dX6_fits_5 lx_110 ?_
  refine mv_istore_n (pc := 6) (i := 3) (ls' := [(0, .ref (ad 109)), (1, .int a1), (2, .int a2)]) dX6_fits_6 rfl (Nat.le_of_ble_eq_true rfl) rfl (fun v1 => ?_)
  refine mv_aload_n (pc := 7) (i := 0) 1 dX6_fits_7 rfl rfl ?_
  refine mv_getR (pc := 8) (i := 109) (j := 1) dX6_fits_8 flX6_18 lx_109 rfl ?_
  refine mv_iload_n (pc := 11) (i := 3) 0 dX6_fits_11 rfl rfl ?_
  refine mv_callVi (pc := 12) (As := [.int v1]) (st := []) (i := 1) dX6_fits_12 mlX6_63 vmX7_hasMember ⟨Nat.le_of_ble_eq_true rfl, Nat.le_of_ble_eq_true rfl⟩ lx_1 rfl rfl (Nat.le_of_ble_eq_true rfl) (ctX7_hasMember x.2.1 D cA ad F M v1) (fun v3 M2 => ?_)
  refine mv_if_eq (pc := 15) (tgt := 29) dX6_fits_15 (by decide) ?_ ?_
  · refine mv_iconst (pc := 29) dX6_fits_29 kci0 ?_
    exact mv_zreturn (pc := 30) dX6_fits_30 rfl
  · refine mv_aload_n (pc := 18) (i := 0) 1 dX6_fits_18 rfl rfl ?_
    refine mv_getR (pc := 19) (i := 109) (j := 1) dX6_fits_19 flX6_18 lx_109 rfl ?_
    refine mv_iload_n (pc := 22) (i := 3) 0 dX6_fits_22 rfl rfl ?_
    refine mv_callVi (pc := 23) (As := [.int v1]) (st := []) (i := 1) dX6_fits_23 mlX6_68 vmX7_isHidden ⟨Nat.le_of_ble_eq_true rfl, Nat.le_of_ble_eq_true rfl⟩ lx_1 rfl rfl (Nat.le_of_ble_eq_true rfl) (ctX7_isHidden x.2.1 D cA ad F M2 v1) (fun v5 M4 => ?_)
    refine mv_if_eq (pc := 26) (tgt := 31) dX6_fits_26 (by decide) ?_ ?_
    · refine mv_iload_n (pc := 31) (i := 1) 2 dX6_fits_31 rfl rfl ?_
      refine mv_if_eq (pc := 32) (tgt := 54) dX6_fits_32 (by decide) ?_ ?_
      · refine mv_iconst (pc := 54) dX6_fits_54 kci1 ?_
        refine mv_goto (pc := 55) (tgt := 59) dX6_fits_55 (by decide) ?_
        exact mv_zreturn (pc := 59) dX6_fits_59 rfl
      · refine mv_aload_n (pc := 35) (i := 0) 1 dX6_fits_35 rfl rfl ?_
        refine mv_getR (pc := 36) (i := 109) (j := 1) dX6_fits_36 flX6_18 lx_109 rfl ?_
        refine mv_iload_n (pc := 39) (i := 3) 0 dX6_fits_39 rfl rfl ?_
        refine mv_aload_n (pc := 40) (i := 0) 1 dX6_fits_40 rfl rfl ?_
        refine mv_getR (pc := 41) (i := 109) (j := 111) dX6_fits_41 flX6_15 lx_109 rfl ?_
        refine mv_iload_n (pc := 44) (i := 2) 3 dX6_fits_44 rfl rfl ?_
        refine mv_iconst (pc := 45) dX6_fits_45 kci1 ?_
        refine mv_isub (pc := 46) dX6_fits_46 ?_
        refine mv_iald (pc := 47) (i := 111) dX6_fits_47 lx_111 ?_
        refine mv_callVi (pc := 48) (As := [.int v1, .int (M4.1 111 (a2 - (1 : Int32)).toNatClampNeg)]) (st := []) (i := 1) dX6_fits_48 mlX6_71 vmX7_givesOne ⟨Nat.le_of_ble_eq_true rfl, Nat.le_of_ble_eq_true rfl⟩ lx_1 rfl rfl (Nat.le_of_ble_eq_true rfl) (ctX7_givesOne x.2.1 D cA ad F M4 v1 (M4.1 111 (a2 - (1 : Int32)).toNatClampNeg)) (fun v7 M6 => ?_)
        refine mv_if_eq (pc := 51) (tgt := 58) dX6_fits_51 (by decide) ?_ ?_
        · refine mv_iconst (pc := 58) dX6_fits_58 kci0 ?_
          exact mv_zreturn (pc := 59) dX6_fits_59 rfl
        · refine mv_iconst (pc := 54) dX6_fits_54 kci1 ?_
          refine mv_goto (pc := 55) (tgt := 59) dX6_fits_55 (by decide) ?_
          exact mv_zreturn (pc := 59) dX6_fits_59 rfl
    · refine mv_iconst (pc := 29) dX6_fits_29 kci0 ?_
      exact mv_zreturn (pc := 30) dX6_fits_30 rfl

set_option maxRecDepth 100000 in
set_option maxHeartbeats 4000000 in
theorem ctX6_wantTaken (l : Launch) (D : va_G) (cA : Nat → ClassId) (ad : Nat → Nat) (F : Nat) (M : mv_M) (a1 : Int32) (a2 : Int32) : mv_C l (D, cA, ad, LX) yX6_wantTaken iX6_wantTaken mv_ri [.ref (ad 109), .int a1, .int a2] M (fX6_wantTaken F M a1 a2) := by
  refine mv_C.ofV (ls := [(0, .ref (ad 109)), (1, .int a1), (2, .int a2)]) (by decide) rfl (Nat.le_of_ble_eq_true rfl) rfl ?_
  intro x hxl
  subst hxl
  unfold fX6_wantTaken
  refine mv_iload_n (pc := 0) (i := 2) 2 dX6_wantTaken_0 rfl rfl ?_
  refine mv_istore_n (pc := 1) (i := 3) (ls' := [(0, .ref (ad 109)), (1, .int a1), (2, .int a2)]) dX6_wantTaken_1 rfl (Nat.le_of_ble_eq_true rfl) rfl (fun v1 => ?_)
  refine mv_aload_n (pc := 2) (i := 0) 1 dX6_wantTaken_2 rfl rfl ?_
  refine mv_getR (pc := 3) (i := 109) (j := 1) dX6_wantTaken_3 flX6_18 lx_109 rfl ?_
  refine mv_getR (pc := 6) (i := 1) (j := 7) dX6_wantTaken_6 flX6_74 lx_1 rfl ?_
  refine mv_iload_n (pc := 9) (i := 1) 2 dX6_wantTaken_9 rfl rfl ?_
  refine mv_iald (pc := 10) (i := 7) dX6_wantTaken_10 lx_7 ?_
  refine mv_iconst (pc := 11) dX6_wantTaken_11 kci1 ?_
  refine mv_jp (pj := 33) (lj := fun (s2 : Int32 × mv_M) => [(0, .ref (ad 109)), (1, .int a1), (3, .int s2.1)]) (sj := fun (s2 : Int32 × mv_M) => []) (Mj := fun (s2 : Int32 × mv_M) => s2.2) ?_ ?_
  · intro s2
    refine mv_aload_n (pc := 33) (i := 0) 0 dX6_wantTaken_33 rfl rfl ?_
    refine mv_getR (pc := 34) (i := 109) (j := 1) dX6_wantTaken_34 flX6_18 lx_109 rfl ?_
    refine mv_getR (pc := 37) (i := 1) (j := 7) dX6_wantTaken_37 flX6_74 lx_1 rfl ?_
    refine mv_iload_n (pc := 40) (i := 1) 1 dX6_wantTaken_40 rfl rfl ?_
    refine mv_iald (pc := 41) (i := 7) dX6_wantTaken_41 lx_7 ?_
    refine mv_if_le (pc := 42) (tgt := 63) dX6_wantTaken_42 (by decide) ?_ ?_
    · refine mv_iload_n (pc := 63) (i := 3) 2 dX6_wantTaken_63 rfl rfl ?_
      exact mv_ireturn (pc := 64) dX6_wantTaken_64 rfl
    · refine mv_aload_n (pc := 45) (i := 0) 0 dX6_wantTaken_45 rfl rfl ?_
      refine mv_getR (pc := 46) (i := 109) (j := 111) dX6_wantTaken_46 flX6_15 lx_109 rfl ?_
      refine mv_iload_n (pc := 49) (i := 3) 2 dX6_wantTaken_49 rfl rfl ?_
      refine mv_aload_n (pc := 50) (i := 0) 0 dX6_wantTaken_50 rfl rfl ?_
      refine mv_getR (pc := 51) (i := 109) (j := 1) dX6_wantTaken_51 flX6_18 lx_109 rfl ?_
      refine mv_getR (pc := 54) (i := 1) (j := 8) dX6_wantTaken_54 flX6_80 lx_1 rfl ?_
      refine mv_iload_n (pc := 57) (i := 1) 1 dX6_wantTaken_57 rfl rfl ?_
      refine mv_iald (pc := 58) (i := 8) dX6_wantTaken_58 lx_8 ?_
      refine mv_iast (pc := 59) (i := 111) dX6_wantTaken_59 lx_111 (fun M4 => ?_)
      refine mv_iinc (pc := 60) (i := 3) (ls' := [(0, .ref (ad 109)), (1, .int a1)]) 2 dX6_wantTaken_60 rfl kci1 (Nat.le_of_ble_eq_true rfl) rfl (fun v5 => ?_)
      refine mv_iload_n (pc := 63) (i := 3) 0 dX6_wantTaken_63 rfl rfl ?_
      exact mv_ireturn (pc := 64) dX6_wantTaken_64 rfl
  · intro j3 hj3
    refine mv_icmp_le (pc := 12) (tgt := 33) dX6_wantTaken_12 (by decide) ?_ ?_
    · refine mv_sub [1, 2, 0] rfl ?_
      exact hj3 (v1, M)
    · refine mv_aload_n (pc := 15) (i := 0) 1 dX6_wantTaken_15 rfl rfl ?_
      refine mv_getR (pc := 16) (i := 109) (j := 111) dX6_wantTaken_16 flX6_15 lx_109 rfl ?_
      refine mv_iload_n (pc := 19) (i := 3) 0 dX6_wantTaken_19 rfl rfl ?_
      refine mv_aload_n (pc := 20) (i := 0) 1 dX6_wantTaken_20 rfl rfl ?_
      refine mv_getR (pc := 21) (i := 109) (j := 1) dX6_wantTaken_21 flX6_18 lx_109 rfl ?_
      refine mv_getR (pc := 24) (i := 1) (j := 9) dX6_wantTaken_24 flX6_77 lx_1 rfl ?_
      refine mv_iload_n (pc := 27) (i := 1) 2 dX6_wantTaken_27 rfl rfl ?_
      refine mv_iald (pc := 28) (i := 9) dX6_wantTaken_28 lx_9 ?_
      refine mv_iast (pc := 29) (i := 111) dX6_wantTaken_29 lx_111 (fun M6 => ?_)
      refine mv_iinc (pc := 30) (i := 3) (ls' := [(0, .ref (ad 109)), (1, .int a1), (2, .int a2)]) 0 dX6_wantTaken_30 rfl kci1 (Nat.le_of_ble_eq_true rfl) rfl (fun v7 => ?_)
      refine mv_sub [1, 2, 0] rfl ?_
      exact hj3 (v7, M6)

set_option maxRecDepth 100000 in
set_option maxHeartbeats 4000000 in
theorem ctX6_isWhole (l : Launch) (D : va_G) (cA : Nat → ClassId) (ad : Nat → Nat) (F : Nat) (M : mv_M) : mv_C l (D, cA, ad, LX) yX6_isWhole iX6_isWhole mv_ri [.ref (ad 109)] M (fX6_isWhole F M) := by
  refine mv_C.ofV (ls := [(0, .ref (ad 109))]) (by decide) rfl (Nat.le_of_ble_eq_true rfl) rfl ?_
  intro x hxl
  subst hxl
  unfold fX6_isWhole
  refine mv_iconst (pc := 0) dX6_isWhole_0 kci0 ?_
  refine mv_istore_n (pc := 1) (i := 1) (ls' := [(0, .ref (ad 109))]) dX6_isWhole_1 rfl (Nat.le_of_ble_eq_true rfl) rfl (fun v1 => ?_)
  refine mv_iconst (pc := 2) dX6_isWhole_2 kci0 ?_
  refine mv_istore_n (pc := 3) (i := 2) (ls' := [(1, .int v1), (0, .ref (ad 109))]) dX6_isWhole_3 rfl (Nat.le_of_ble_eq_true rfl) rfl (fun v2 => ?_)
  refine mv_jp (pj := 55) (lj := fun (s3 : Int32 × mv_M) => [(1, .int s3.1)]) (sj := fun (s3 : Int32 × mv_M) => []) (Mj := fun (s3 : Int32 × mv_M) => s3.2) ?_ ?_
  · intro s3
    refine mv_iload_n (pc := 55) (i := 1) 0 dX6_isWhole_55 rfl rfl ?_
    refine mv_if_ne (pc := 56) (tgt := 63) dX6_isWhole_56 (by decide) ?_ ?_
    · refine mv_iconst (pc := 63) dX6_isWhole_63 kci0 ?_
      exact mv_zreturn (pc := 64) dX6_isWhole_64 rfl
    · refine mv_iconst (pc := 59) dX6_isWhole_59 kci1 ?_
      refine mv_goto (pc := 60) (tgt := 64) dX6_isWhole_60 (by decide) ?_
      exact mv_zreturn (pc := 64) dX6_isWhole_64 rfl
  · intro j4 hj4
    refine mv_sub [2, 1, 0] rfl ?_
    refine mv_loop (pc := 4) (lj := fun (s5 : Int32 × Int32 × mv_M) => [(0, .ref (ad 109)), (1, .int s5.1), (2, .int s5.2.1)]) (Mj := fun (s5 : Int32 × Int32 × mv_M) => s5.2.2) (B := bX6_isWhole_4 j4 F) ?_ F (v1, v2, M)
    intro f6 hf6 s5
    unfold bX6_isWhole_4
    refine mv_iload_n (pc := 4) (i := 2) 2 dX6_isWhole_4 rfl rfl ?_
    refine mv_aload_n (pc := 5) (i := 0) 0 dX6_isWhole_5 rfl rfl ?_
    refine mv_getI (pc := 6) (i := 109) dX6_isWhole_6 flX6_46 lx_109 rfl ?_
    refine mv_icmp_ge (pc := 9) (tgt := 55) dX6_isWhole_9 (by decide) ?_ ?_
    · refine mv_sub [1] rfl ?_
      exact hj4 (s5.1, s5.2.2)
    · refine mv_iload_n (pc := 12) (i := 2) 2 dX6_isWhole_12 rfl rfl ?_
      refine mv_if_le (pc := 13) (tgt := 20) dX6_isWhole_13 (by decide) ?_ ?_
      · refine mv_aload_n (pc := 20) (i := 0) 0 dX6_isWhole_20 rfl rfl ?_
        refine mv_iload_n (pc := 21) (i := 2) 2 dX6_isWhole_21 rfl rfl ?_
        refine mv_iload_n (pc := 22) (i := 1) 1 dX6_isWhole_22 rfl rfl ?_
        refine mv_callVi (pc := 23) (As := [.int s5.2.1, .int s5.1]) (st := []) (i := 109) dX6_isWhole_23 mlX6_50 vmX6_fits ⟨Nat.le_of_ble_eq_true rfl, Nat.le_of_ble_eq_true rfl⟩ lx_109 rfl rfl (Nat.le_of_ble_eq_true rfl) (ctX6_fits x.2.1 D cA ad F s5.2.2 s5.2.1 s5.1) (fun v8 M7 => ?_)
        refine mv_if_ne (pc := 26) (tgt := 31) dX6_isWhole_26 (by decide) ?_ ?_
        · refine mv_aload_n (pc := 31) (i := 0) 0 dX6_isWhole_31 rfl rfl ?_
          refine mv_aload_n (pc := 32) (i := 0) 0 dX6_isWhole_32 rfl rfl ?_
          refine mv_getR (pc := 33) (i := 109) (j := 110) dX6_isWhole_33 flX6_11 lx_109 rfl ?_
          refine mv_iload_n (pc := 36) (i := 2) 2 dX6_isWhole_36 rfl rfl ?_
          refine mv_iald (pc := 37) (i := 110) dX6_isWhole_37 lx_110 ?_
          refine mv_iload_n (pc := 38) (i := 1) 1 dX6_isWhole_38 rfl rfl ?_
          refine mv_iconst (pc := 39) dX6_isWhole_39 kci1 ?_
          refine mv_isub (pc := 40) dX6_isWhole_40 ?_
          refine mv_iconst (pc := 41) dX6_isWhole_41 kci0 ?_
          refine mv_max (pc := 42) dX6_isWhole_42 mwX6_54 mx_max ⟨Nat.le_of_ble_eq_true rfl, Nat.le_of_ble_eq_true rfl⟩ ?_
          refine mv_callVi (pc := 45) (As := [.int (M7.1 110 s5.2.1.toNatClampNeg), .int (if (s5.1 - (1 : Int32)) < (0 : Int32) then (0 : Int32) else (s5.1 - (1 : Int32)))]) (st := []) (i := 109) dX6_isWhole_45 mlX6_60 vmX6_wantTaken ⟨Nat.le_of_ble_eq_true rfl, Nat.le_of_ble_eq_true rfl⟩ lx_109 rfl rfl (Nat.le_of_ble_eq_true rfl) (ctX6_wantTaken x.2.1 D cA ad F M7 (M7.1 110 s5.2.1.toNatClampNeg) (if (s5.1 - (1 : Int32)) < (0 : Int32) then (0 : Int32) else (s5.1 - (1 : Int32)))) (fun v10 M9 => ?_)
          refine mv_istore_n (pc := 48) (i := 1) (ls' := [(0, .ref (ad 109)), (2, .int s5.2.1)]) dX6_isWhole_48 rfl (Nat.le_of_ble_eq_true rfl) rfl (fun v11 => ?_)
          refine mv_iinc (pc := 49) (i := 2) (ls' := [(1, .int v11), (0, .ref (ad 109))]) 2 dX6_isWhole_49 rfl kci1 (Nat.le_of_ble_eq_true rfl) rfl (fun v12 => ?_)
          refine mv_goto (pc := 52) (tgt := 4) dX6_isWhole_52 (by decide) ?_
          refine mv_sub [2, 1, 0] rfl ?_
          exact hf6 (v11, v12, M9)
        · refine mv_iconst (pc := 29) dX6_isWhole_29 kci0 ?_
          exact mv_zreturn (pc := 30) dX6_isWhole_30 rfl
      · refine mv_iload_n (pc := 16) (i := 1) 1 dX6_isWhole_16 rfl rfl ?_
        refine mv_if_eq (pc := 17) (tgt := 29) dX6_isWhole_17 (by decide) ?_ ?_
        · refine mv_iconst (pc := 29) dX6_isWhole_29 kci0 ?_
          exact mv_zreturn (pc := 30) dX6_isWhole_30 rfl
        · refine mv_aload_n (pc := 20) (i := 0) 0 dX6_isWhole_20 rfl rfl ?_
          refine mv_iload_n (pc := 21) (i := 2) 2 dX6_isWhole_21 rfl rfl ?_
          refine mv_iload_n (pc := 22) (i := 1) 1 dX6_isWhole_22 rfl rfl ?_
          refine mv_callVi (pc := 23) (As := [.int s5.2.1, .int s5.1]) (st := []) (i := 109) dX6_isWhole_23 mlX6_50 vmX6_fits ⟨Nat.le_of_ble_eq_true rfl, Nat.le_of_ble_eq_true rfl⟩ lx_109 rfl rfl (Nat.le_of_ble_eq_true rfl) (ctX6_fits x.2.1 D cA ad F s5.2.2 s5.2.1 s5.1) (fun v14 M13 => ?_)
          refine mv_if_ne (pc := 26) (tgt := 31) dX6_isWhole_26 (by decide) ?_ ?_
          · refine mv_aload_n (pc := 31) (i := 0) 0 dX6_isWhole_31 rfl rfl ?_
            refine mv_aload_n (pc := 32) (i := 0) 0 dX6_isWhole_32 rfl rfl ?_
            refine mv_getR (pc := 33) (i := 109) (j := 110) dX6_isWhole_33 flX6_11 lx_109 rfl ?_
            refine mv_iload_n (pc := 36) (i := 2) 2 dX6_isWhole_36 rfl rfl ?_
            refine mv_iald (pc := 37) (i := 110) dX6_isWhole_37 lx_110 ?_
            refine mv_iload_n (pc := 38) (i := 1) 1 dX6_isWhole_38 rfl rfl ?_
            refine mv_iconst (pc := 39) dX6_isWhole_39 kci1 ?_
            refine mv_isub (pc := 40) dX6_isWhole_40 ?_
            refine mv_iconst (pc := 41) dX6_isWhole_41 kci0 ?_
            refine mv_max (pc := 42) dX6_isWhole_42 mwX6_54 mx_max ⟨Nat.le_of_ble_eq_true rfl, Nat.le_of_ble_eq_true rfl⟩ ?_
            refine mv_callVi (pc := 45) (As := [.int (M13.1 110 s5.2.1.toNatClampNeg), .int (if (s5.1 - (1 : Int32)) < (0 : Int32) then (0 : Int32) else (s5.1 - (1 : Int32)))]) (st := []) (i := 109) dX6_isWhole_45 mlX6_60 vmX6_wantTaken ⟨Nat.le_of_ble_eq_true rfl, Nat.le_of_ble_eq_true rfl⟩ lx_109 rfl rfl (Nat.le_of_ble_eq_true rfl) (ctX6_wantTaken x.2.1 D cA ad F M13 (M13.1 110 s5.2.1.toNatClampNeg) (if (s5.1 - (1 : Int32)) < (0 : Int32) then (0 : Int32) else (s5.1 - (1 : Int32)))) (fun v16 M15 => ?_)
            refine mv_istore_n (pc := 48) (i := 1) (ls' := [(0, .ref (ad 109)), (2, .int s5.2.1)]) dX6_isWhole_48 rfl (Nat.le_of_ble_eq_true rfl) rfl (fun v17 => ?_)
            refine mv_iinc (pc := 49) (i := 2) (ls' := [(1, .int v17), (0, .ref (ad 109))]) 2 dX6_isWhole_49 rfl kci1 (Nat.le_of_ble_eq_true rfl) rfl (fun v18 => ?_)
            refine mv_goto (pc := 52) (tgt := 4) dX6_isWhole_52 (by decide) ?_
            refine mv_sub [2, 1, 0] rfl ?_
            exact hf6 (v17, v18, M15)
          · refine mv_iconst (pc := 29) dX6_isWhole_29 kci0 ?_
            exact mv_zreturn (pc := 30) dX6_isWhole_30 rfl

set_option maxRecDepth 100000 in
set_option maxHeartbeats 4000000 in
theorem ctX6_priceTogether (l : Launch) (D : va_G) (cA : Nat → ClassId) (ad : Nat → Nat) (F : Nat) (M : mv_M) : mv_C l (D, cA, ad, LX) yX6_priceTogether iX6_priceTogether mv_ri [.ref (ad 109)] M (fX6_priceTogether F M) := by
  refine mv_C.ofV (ls := [(0, .ref (ad 109))]) (by decide) rfl (Nat.le_of_ble_eq_true rfl) rfl ?_
  intro x hxl
  subst hxl
  unfold fX6_priceTogether
  refine mv_iconst (pc := 0) dX6_priceTogether_0 kci0 ?_
  refine mv_istore_n (pc := 1) (i := 1) (ls' := [(0, .ref (ad 109))]) dX6_priceTogether_1 rfl (Nat.le_of_ble_eq_true rfl) rfl (fun v1 => ?_)
  refine mv_iconst (pc := 2) dX6_priceTogether_2 kci0 ?_
  refine mv_istore_n (pc := 3) (i := 2) (ls' := [(1, .int v1), (0, .ref (ad 109))]) dX6_priceTogether_3 rfl (Nat.le_of_ble_eq_true rfl) rfl (fun v2 => ?_)
  refine mv_sub [2, 1, 0] rfl ?_
  refine mv_loop (pc := 4) (lj := fun (s3 : Int32 × Int32 × mv_M) => [(0, .ref (ad 109)), (1, .int s3.1), (2, .int s3.2.1)]) (Mj := fun (s3 : Int32 × Int32 × mv_M) => s3.2.2) (B := bX6_priceTogether_4 F) ?_ F (v1, v2, M)
  intro f4 hf4 s3
  unfold bX6_priceTogether_4
  refine mv_iload_n (pc := 4) (i := 2) 2 dX6_priceTogether_4 rfl rfl ?_
  refine mv_aload_n (pc := 5) (i := 0) 0 dX6_priceTogether_5 rfl rfl ?_
  refine mv_getI (pc := 6) (i := 109) dX6_priceTogether_6 flX6_46 lx_109 rfl ?_
  refine mv_icmp_ge (pc := 9) (tgt := 34) dX6_priceTogether_9 (by decide) ?_ ?_
  · refine mv_iload_n (pc := 34) (i := 1) 1 dX6_priceTogether_34 rfl rfl ?_
    exact mv_ireturn (pc := 35) dX6_priceTogether_35 rfl
  · refine mv_iload_n (pc := 12) (i := 1) 1 dX6_priceTogether_12 rfl rfl ?_
    refine mv_aload_n (pc := 13) (i := 0) 0 dX6_priceTogether_13 rfl rfl ?_
    refine mv_getR (pc := 14) (i := 109) (j := 1) dX6_priceTogether_14 flX6_18 lx_109 rfl ?_
    refine mv_aload_n (pc := 17) (i := 0) 0 dX6_priceTogether_17 rfl rfl ?_
    refine mv_getR (pc := 18) (i := 109) (j := 110) dX6_priceTogether_18 flX6_11 lx_109 rfl ?_
    refine mv_iload_n (pc := 21) (i := 2) 2 dX6_priceTogether_21 rfl rfl ?_
    refine mv_iald (pc := 22) (i := 110) dX6_priceTogether_22 lx_110 ?_
    refine mv_callVi (pc := 23) (As := [.int (s3.2.2.1 110 s3.2.1.toNatClampNeg)]) (st := [.int s3.1]) (i := 1) dX6_priceTogether_23 mlX6_86 vmX7_priceOf ⟨Nat.le_of_ble_eq_true rfl, Nat.le_of_ble_eq_true rfl⟩ lx_1 rfl rfl (Nat.le_of_ble_eq_true rfl) (ctX7_priceOf x.2.1 D cA ad F s3.2.2 (s3.2.2.1 110 s3.2.1.toNatClampNeg)) (fun v6 M5 => ?_)
    refine mv_iadd (pc := 26) dX6_priceTogether_26 ?_
    refine mv_istore_n (pc := 27) (i := 1) (ls' := [(0, .ref (ad 109)), (2, .int s3.2.1)]) dX6_priceTogether_27 rfl (Nat.le_of_ble_eq_true rfl) rfl (fun v7 => ?_)
    refine mv_iinc (pc := 28) (i := 2) (ls' := [(1, .int v7), (0, .ref (ad 109))]) 2 dX6_priceTogether_28 rfl kci1 (Nat.le_of_ble_eq_true rfl) rfl (fun v8 => ?_)
    refine mv_goto (pc := 31) (tgt := 4) dX6_priceTogether_31 (by decide) ?_
    refine mv_sub [2, 1, 0] rfl ?_
    exact hf4 (v7, v8, M5)

set_option maxRecDepth 100000 in
set_option maxHeartbeats 4000000 in
theorem ctX6_given (l : Launch) (D : va_G) (cA : Nat → ClassId) (ad : Nat → Nat) (F : Nat) (M : mv_M) : mv_C l (D, cA, ad, LX) yX6_given iX6_given mv_ri [.ref (ad 109)] M (fX6_given F M) := by
  refine mv_C.ofV (ls := [(0, .ref (ad 109))]) (by decide) rfl (Nat.le_of_ble_eq_true rfl) rfl ?_
  intro x hxl
  subst hxl
  unfold fX6_given
  refine mv_aload_n (pc := 0) (i := 0) 0 dX6_given_0 rfl rfl ?_
  refine mv_getR (pc := 1) (i := 109) (j := 1) dX6_given_1 flX6_18 lx_109 rfl ?_
  refine mv_getR (pc := 4) (i := 1) (j := 5) dX6_given_4 flX6_83 lx_1 rfl ?_
  refine mv_aload_n (pc := 7) (i := 0) 0 dX6_given_7 rfl rfl ?_
  refine mv_getR (pc := 8) (i := 109) (j := 110) dX6_given_8 flX6_11 lx_109 rfl ?_
  refine mv_iconst (pc := 11) dX6_given_11 kci0 ?_
  refine mv_iald (pc := 12) (i := 110) dX6_given_12 lx_110 ?_
  refine mv_iald (pc := 13) (i := 5) dX6_given_13 lx_5 ?_
  exact mv_ireturn (pc := 14) dX6_given_14 rfl

set_option maxRecDepth 100000 in
set_option maxHeartbeats 4000000 in
theorem ctX8_word (l : Launch) (D : va_G) (cA : Nat → ClassId) (ad : Nat → Nat) (F : Nat) (M : mv_M) (a1 : Int32) (a2 : Int32) (a3 : Int32) (a4 : Int32) : mv_C l (D, cA, ad, LX) yX8_word iX8_word mv_ri [.ref (ad 0), .int a1, .int a2, .int a3, .int a4] M (fX8_word F M a1 a2 a3 a4) := by
  refine mv_C.ofV (ls := [(0, .ref (ad 0)), (1, .int a1), (2, .int a2), (3, .int a3), (4, .int a4)]) (by decide) rfl (Nat.le_of_ble_eq_true rfl) rfl ?_
  intro x hxl
  subst hxl
  unfold fX8_word
  refine mv_iload_n (pc := 0) (i := 1) 1 dX8_word_0 rfl rfl ?_
  refine mv_callSi (pc := 1) (As := [.int a1]) (st := []) dX8_word_1 mlX8_73 smX5_isRow ⟨Nat.le_of_ble_eq_true rfl, Nat.le_of_ble_eq_true rfl⟩ rfl (Nat.le_of_ble_eq_true rfl) (ctX5_isRow x.2.1 D cA ad F M a1) (fun v2 M1 => ?_)
  refine mv_if_eq (pc := 4) (tgt := 25) dX8_word_4 (by decide) ?_ ?_
  · refine mv_ldc (pc := 25) dX8_word_25 kwX8_80 ?_
    exact mv_ireturn (pc := 27) dX8_word_27 rfl
  · refine mv_iload_n (pc := 7) (i := 3) 3 dX8_word_7 rfl rfl ?_
    refine mv_callSi (pc := 8) (As := [.int a3]) (st := []) dX8_word_8 mlX8_233 smX6_isLength ⟨Nat.le_of_ble_eq_true rfl, Nat.le_of_ble_eq_true rfl⟩ rfl (Nat.le_of_ble_eq_true rfl) (ctX6_isLength x.2.1 D cA ad F M1 a3) (fun v4 M3 => ?_)
    refine mv_if_eq (pc := 11) (tgt := 25) dX8_word_11 (by decide) ?_ ?_
    · refine mv_ldc (pc := 25) dX8_word_25 kwX8_80 ?_
      exact mv_ireturn (pc := 27) dX8_word_27 rfl
    · refine mv_iload (pc := 14) (i := 4) 4 dX8_word_14 rfl ?_
      refine mv_if_lt (pc := 16) (tgt := 25) dX8_word_16 (by decide) ?_ ?_
      · refine mv_ldc (pc := 25) dX8_word_25 kwX8_80 ?_
        exact mv_ireturn (pc := 27) dX8_word_27 rfl
      · refine mv_iload (pc := 19) (i := 4) 4 dX8_word_19 rfl ?_
        refine mv_iconst (pc := 21) dX8_word_21 kci1 ?_
        refine mv_icmp_le (pc := 22) (tgt := 28) dX8_word_22 (by decide) ?_ ?_
        · refine mv_aload_n (pc := 28) (i := 0) 0 dX8_word_28 rfl rfl ?_
          refine mv_getR (pc := 29) (i := 0) (j := 1) dX8_word_29 flX8_10 lx_0 rfl ?_
          refine mv_getI (pc := 32) (i := 1) dX8_word_32 flX8_236 lx_1 rfl ?_
          refine mv_if_ne (pc := 35) (tgt := 41) dX8_word_35 (by decide) ?_ ?_
          · refine mv_aload_n (pc := 41) (i := 0) 0 dX8_word_41 rfl rfl ?_
            refine mv_getR (pc := 42) (i := 0) (j := 109) dX8_word_42 flX8_62 lx_0 rfl ?_
            refine mv_iload_n (pc := 45) (i := 1) 1 dX8_word_45 rfl rfl ?_
            refine mv_iload_n (pc := 46) (i := 2) 2 dX8_word_46 rfl rfl ?_
            refine mv_iload_n (pc := 47) (i := 3) 3 dX8_word_47 rfl rfl ?_
            refine mv_callVi (pc := 48) (As := [.int a1, .int a2, .int a3]) (st := []) (i := 109) dX8_word_48 mlX8_239 vmX6_take ⟨Nat.le_of_ble_eq_true rfl, Nat.le_of_ble_eq_true rfl⟩ lx_109 rfl rfl (Nat.le_of_ble_eq_true rfl) (ctX6_take x.2.1 D cA ad F M3 a1 a2 a3) (fun v6 M5 => ?_)
            refine mv_istore (pc := 51) (i := 5) (ls' := [(0, .ref (ad 0)), (1, .int a1), (2, .int a2), (3, .int a3), (4, .int a4)]) dX8_word_51 (Nat.le_of_ble_eq_true rfl) rfl (fun v7 => ?_)
            refine mv_iload (pc := 53) (i := 5) 0 dX8_word_53 rfl ?_
            refine mv_if_eq (pc := 55) (tgt := 65) dX8_word_55 (by decide) ?_ ?_
            · refine mv_aload_n (pc := 65) (i := 0) 1 dX8_word_65 rfl rfl ?_
              refine mv_getR (pc := 66) (i := 0) (j := 109) dX8_word_66 flX8_62 lx_0 rfl ?_
              refine mv_callVi (pc := 69) (As := []) (st := []) (i := 109) dX8_word_69 mlX8_242 vmX6_isWhole ⟨Nat.le_of_ble_eq_true rfl, Nat.le_of_ble_eq_true rfl⟩ lx_109 rfl rfl (Nat.le_of_ble_eq_true rfl) (ctX6_isWhole x.2.1 D cA ad F M5) (fun v9 M8 => ?_)
              refine mv_if_ne (pc := 72) (tgt := 82) dX8_word_72 (by decide) ?_ ?_
              · refine mv_aload_n (pc := 82) (i := 0) 1 dX8_word_82 rfl rfl ?_
                refine mv_iload (pc := 83) (i := 4) 5 dX8_word_83 rfl ?_
                refine mv_if_ne (pc := 85) (tgt := 98) dX8_word_85 (by decide) ?_ ?_
                · refine mv_aload_n (pc := 98) (i := 0) 1 dX8_word_98 rfl rfl ?_
                  refine mv_getR (pc := 99) (i := 0) (j := 109) dX8_word_99 flX8_62 lx_0 rfl ?_
                  refine mv_callVi (pc := 102) (As := []) (st := [.ref (ad 0)]) (i := 109) dX8_word_102 mlX8_249 vmX6_priceTogether ⟨Nat.le_of_ble_eq_true rfl, Nat.le_of_ble_eq_true rfl⟩ lx_109 rfl rfl (Nat.le_of_ble_eq_true rfl) (ctX6_priceTogether x.2.1 D cA ad F M8) (fun v11 M10 => ?_)
                  refine mv_callVi (pc := 105) (As := [.int v11]) (st := []) (i := 0) dX8_word_105 mlX8_89 vmX8_unfound ⟨Nat.le_of_ble_eq_true rfl, Nat.le_of_ble_eq_true rfl⟩ lx_0 rfl rfl (Nat.le_of_ble_eq_true rfl) (ctX8_unfound x.2.1 D cA ad F M10 v11) (fun v13 M12 => ?_)
                  exact mv_ireturn (pc := 108) dX8_word_108 rfl
                · refine mv_aload_n (pc := 88) (i := 0) 1 dX8_word_88 rfl rfl ?_
                  refine mv_getR (pc := 89) (i := 0) (j := 109) dX8_word_89 flX8_62 lx_0 rfl ?_
                  refine mv_callVi (pc := 92) (As := []) (st := [.ref (ad 0)]) (i := 109) dX8_word_92 mlX8_245 vmX6_given ⟨Nat.le_of_ble_eq_true rfl, Nat.le_of_ble_eq_true rfl⟩ lx_109 rfl rfl (Nat.le_of_ble_eq_true rfl) (ctX6_given x.2.1 D cA ad F M8) (fun v15 M14 => ?_)
                  refine mv_goto (pc := 95) (tgt := 105) dX8_word_95 (by decide) ?_
                  refine mv_callVi (pc := 105) (As := [.int v15]) (st := []) (i := 0) dX8_word_105 mlX8_89 vmX8_unfound ⟨Nat.le_of_ble_eq_true rfl, Nat.le_of_ble_eq_true rfl⟩ lx_0 rfl rfl (Nat.le_of_ble_eq_true rfl) (ctX8_unfound x.2.1 D cA ad F M14 v15) (fun v17 M16 => ?_)
                  exact mv_ireturn (pc := 108) dX8_word_108 rfl
              · refine mv_aload_n (pc := 75) (i := 0) 1 dX8_word_75 rfl rfl ?_
                refine mv_ldc (pc := 76) dX8_word_76 kwX8_203 ?_
                refine mv_callVi (pc := 78) (As := [.int (-1000000 : Int32)]) (st := []) (i := 0) dX8_word_78 mlX8_89 vmX8_unfound ⟨Nat.le_of_ble_eq_true rfl, Nat.le_of_ble_eq_true rfl⟩ lx_0 rfl rfl (Nat.le_of_ble_eq_true rfl) (ctX8_unfound x.2.1 D cA ad F M8 (-1000000 : Int32)) (fun v19 M18 => ?_)
                exact mv_ireturn (pc := 81) dX8_word_81 rfl
            · refine mv_aload_n (pc := 58) (i := 0) 1 dX8_word_58 rfl rfl ?_
              refine mv_iload (pc := 59) (i := 5) 0 dX8_word_59 rfl ?_
              refine mv_callVi (pc := 61) (As := [.int v7]) (st := []) (i := 0) dX8_word_61 mlX8_81 vmX8_found ⟨Nat.le_of_ble_eq_true rfl, Nat.le_of_ble_eq_true rfl⟩ lx_0 rfl rfl (Nat.le_of_ble_eq_true rfl) (ctX8_found x.2.1 D cA ad F M5 v7) (fun v21 M20 => ?_)
              exact mv_ireturn (pc := 64) dX8_word_64 rfl
          · refine mv_ldc (pc := 38) dX8_word_38 kwX8_160 ?_
            exact mv_ireturn (pc := 40) dX8_word_40 rfl
        · refine mv_ldc (pc := 25) dX8_word_25 kwX8_80 ?_
          exact mv_ireturn (pc := 27) dX8_word_27 rfl

set_option maxRecDepth 100000 in
set_option maxHeartbeats 4000000 in
theorem ctX2_manyBelow (l : Launch) (D : va_G) (cA : Nat → ClassId) (ad : Nat → Nat) (F : Nat) (M : mv_M) (a1 : Int32) (a2 : Int32) : mv_C l (D, cA, ad, LX) yX2_manyBelow iX2_manyBelow mv_rl [.ref (ad 58), .int a1, .int a2] M (fX2_manyBelow F M a1 a2) := by
  refine mv_C.ofV (ls := [(0, .ref (ad 58)), (1, .int a1), (2, .int a2)]) (by decide) rfl (Nat.le_of_ble_eq_true rfl) rfl ?_
  intro x hxl
  subst hxl
  unfold fX2_manyBelow
  refine mv_aload_n (pc := 0) (i := 0) 0 dX2_manyBelow_0 rfl rfl ?_
  refine mv_callVv (pc := 1) (As := []) (st := []) (i := 58) dX2_manyBelow_1 mlX2_33 vmX2_countAll ⟨Nat.le_of_ble_eq_true rfl, Nat.le_of_ble_eq_true rfl⟩ lx_58 rfl rfl (Nat.le_of_ble_eq_true rfl) (ctX2_countAll x.2.1 D cA ad F M) (fun M1 => ?_)
  refine mv_lconst (pc := 4) dX2_manyBelow_4 (by decide +kernel : Int64.ofNat ((0 : Fin 2) : Nat) = (0 : Int64)) ?_
  refine mv_lstore_n (pc := 5) (i := 3) (ls' := [(0, .ref (ad 58)), (1, .int a1), (2, .int a2)]) dX2_manyBelow_5 rfl (Nat.le_of_ble_eq_true rfl) rfl (fun v2 => ?_)
  refine mv_iconst (pc := 6) dX2_manyBelow_6 kci1 ?_
  refine mv_istore (pc := 7) (i := 5) (ls' := [(3, .long v2), (0, .ref (ad 58)), (1, .int a1), (2, .int a2)]) dX2_manyBelow_7 (Nat.le_of_ble_eq_true rfl) rfl (fun v3 => ?_)
  refine mv_sub [2, 3, 4, 1, 0] rfl ?_
  refine mv_loop (pc := 9) (lj := fun (s4 : Int64 × Int32 × mv_M) => [(0, .ref (ad 58)), (1, .int a1), (2, .int a2), (3, .long s4.1), (5, .int s4.2.1)]) (Mj := fun (s4 : Int64 × Int32 × mv_M) => s4.2.2) (B := bX2_manyBelow_9 a2 a1) ?_ F (v2, v3, M1)
  intro f5 hf5 s4
  unfold bX2_manyBelow_9
  refine mv_iload (pc := 9) (i := 5) 4 dX2_manyBelow_9 rfl ?_
  refine mv_iload_n (pc := 11) (i := 2) 2 dX2_manyBelow_11 rfl rfl ?_
  refine mv_icmp_ge (pc := 12) (tgt := 33) dX2_manyBelow_12 (by decide) ?_ ?_
  · refine mv_lload_n (pc := 33) (i := 3) 3 dX2_manyBelow_33 rfl rfl ?_
    exact mv_lreturn (pc := 34) dX2_manyBelow_34 rfl
  · refine mv_lload_n (pc := 15) (i := 3) 3 dX2_manyBelow_15 rfl rfl ?_
    refine mv_aload_n (pc := 16) (i := 0) 0 dX2_manyBelow_16 rfl rfl ?_
    refine mv_getR (pc := 17) (i := 58) (j := 72) dX2_manyBelow_17 flX2_16 lx_58 rfl ?_
    refine mv_iload_n (pc := 20) (i := 1) 1 dX2_manyBelow_20 rfl rfl ?_
    refine mv_aald (pc := 21) (i := 72) (b := 73) (t := 2) dX2_manyBelow_21 lx_72 (by decide) (by decide) (fun h6 => ?_)
    refine mv_iload (pc := 22) (i := 5) 4 dX2_manyBelow_22 rfl ?_
    refine mv_lald (pc := 24) (i := (73 + a1.toNatClampNeg)) dX2_manyBelow_24 (lxr_73 _ h6) ?_
    refine mv_ladd (pc := 25) dX2_manyBelow_25 ?_
    refine mv_lstore_n (pc := 26) (i := 3) (ls' := [(0, .ref (ad 58)), (1, .int a1), (2, .int a2), (5, .int s4.2.1)]) dX2_manyBelow_26 rfl (Nat.le_of_ble_eq_true rfl) rfl (fun v7 => ?_)
    refine mv_iinc (pc := 27) (i := 5) (ls' := [(3, .long v7), (0, .ref (ad 58)), (1, .int a1), (2, .int a2)]) 4 dX2_manyBelow_27 rfl kci1 (Nat.le_of_ble_eq_true rfl) rfl (fun v8 => ?_)
    refine mv_goto (pc := 30) (tgt := 9) dX2_manyBelow_30 (by decide) ?_
    refine mv_sub [2, 3, 4, 1, 0] rfl ?_
    exact hf5 (v7, v8, s4.2.2)

set_option maxRecDepth 100000 in
set_option maxHeartbeats 4000000 in
theorem ctX2_placeOf (l : Launch) (D : va_G) (cA : Nat → ClassId) (ad : Nat → Nat) (F : Nat) (M : mv_M) (a1 : Int32) (i2 : Nat) (a3 : Int32) (a4 : Int32) (hi2 : LX[i2]? = some (1, 24, [])) : mv_C l (D, cA, ad, LX) yX2_placeOf iX2_placeOf mv_ri [.ref (ad 58), .int a1, .ref (ad i2), .int a3, .int a4] M (fX2_placeOf F M a1 i2 a3 a4) := by
  refine mv_C.ofV (ls := [(0, .ref (ad 58)), (1, .int a1), (2, .ref (ad i2)), (3, .int a3), (4, .int a4)]) (by decide) rfl (Nat.le_of_ble_eq_true rfl) rfl ?_
  intro x hxl
  subst hxl
  unfold fX2_placeOf
  refine mv_aload_n (pc := 0) (i := 0) 0 dX2_placeOf_0 rfl rfl ?_
  refine mv_iload_n (pc := 1) (i := 1) 1 dX2_placeOf_1 rfl rfl ?_
  refine mv_iload (pc := 2) (i := 4) 4 dX2_placeOf_2 rfl ?_
  refine mv_callVl (pc := 4) (As := [.int a1, .int a4]) (st := []) (i := 58) dX2_placeOf_4 mlX2_44 vmX2_manyBelow ⟨Nat.le_of_ble_eq_true rfl, Nat.le_of_ble_eq_true rfl⟩ lx_58 rfl rfl (Nat.le_of_ble_eq_true rfl) (ctX2_manyBelow x.2.1 D cA ad F M a1 a4) (fun v2 M1 => ?_)
  refine mv_lstore (pc := 7) (i := 5) (ls' := [(0, .ref (ad 58)), (1, .int a1), (2, .ref (ad i2)), (3, .int a3), (4, .int a4)]) dX2_placeOf_7 (Nat.le_of_ble_eq_true rfl) rfl (fun v3 => ?_)
  refine mv_iload (pc := 9) (i := 4) 5 dX2_placeOf_9 rfl ?_
  refine mv_istore (pc := 11) (i := 7) (ls' := [(5, .long v3), (0, .ref (ad 58)), (1, .int a1), (2, .ref (ad i2)), (3, .int a3), (4, .int a4)]) dX2_placeOf_11 (Nat.le_of_ble_eq_true rfl) rfl (fun v4 => ?_)
  refine mv_aload_n (pc := 13) (i := 0) 2 dX2_placeOf_13 rfl rfl ?_
  refine mv_iconst (pc := 14) dX2_placeOf_14 kci0 ?_
  refine mv_putI (pc := 15) (i := 58) dX2_placeOf_15 flX2_53 (Or.inl fpX2_6) lx_58 rfl (fun M5 => ?_)
  refine mv_aload_n (pc := 18) (i := 0) 2 dX2_placeOf_18 rfl rfl ?_
  refine mv_iload_n (pc := 19) (i := 1) 3 dX2_placeOf_19 rfl rfl ?_
  refine mv_callVv (pc := 20) (As := [.int a1]) (st := []) (i := 58) dX2_placeOf_20 mlX2_57 vmX2_want ⟨Nat.le_of_ble_eq_true rfl, Nat.le_of_ble_eq_true rfl⟩ lx_58 rfl rfl (Nat.le_of_ble_eq_true rfl) (ctX2_want x.2.1 D cA ad F M5 a1) (fun M6 => ?_)
  refine mv_iconst (pc := 23) dX2_placeOf_23 kci0 ?_
  refine mv_istore (pc := 24) (i := 8) (ls' := [(7, .int v4), (5, .long v3), (0, .ref (ad 58)), (1, .int a1), (2, .ref (ad i2)), (3, .int a3), (4, .int a4)]) dX2_placeOf_24 (Nat.le_of_ble_eq_true rfl) rfl (fun v7 => ?_)
  refine mv_jp (pj := 121) (lj := fun (s8 : Int64 × mv_M) => [(5, .long s8.1)]) (sj := fun (s8 : Int64 × mv_M) => []) (Mj := fun (s8 : Int64 × mv_M) => s8.2) ?_ ?_
  · intro s8
    refine mv_lload (pc := 121) (i := 5) 0 dX2_placeOf_121 rfl ?_
    refine mv_ldc2_w (pc := 123) dX2_placeOf_123 kwX2_36 ?_
    refine mv_lcmp (pc := 126) dX2_placeOf_126 ?_
    refine mv_if_ge (pc := 127) (tgt := 136) dX2_placeOf_127 (by decide) ?_ ?_
    · refine mv_ldc (pc := 136) dX2_placeOf_136 kwX2_52 ?_
      exact mv_ireturn (pc := 138) dX2_placeOf_138 rfl
    · refine mv_lload (pc := 130) (i := 5) 0 dX2_placeOf_130 rfl ?_
      refine mv_l2i (pc := 132) dX2_placeOf_132 ?_
      refine mv_goto (pc := 133) (tgt := 138) dX2_placeOf_133 (by decide) ?_
      exact mv_ireturn (pc := 138) dX2_placeOf_138 rfl
  · intro j9 hj9
    refine mv_sub [3, 5, 6, 2, 1, 0] rfl ?_
    refine mv_loop (pc := 26) (lj := fun (s10 : Int64 × Int32 × Int32 × mv_M) => [(0, .ref (ad 58)), (2, .ref (ad i2)), (3, .int a3), (5, .long s10.1), (7, .int s10.2.1), (8, .int s10.2.2.1)]) (Mj := fun (s10 : Int64 × Int32 × Int32 × mv_M) => s10.2.2.2) (B := bX2_placeOf_26 a3 j9 F i2) ?_ F (v3, v4, v7, M6)
    intro f11 hf11 s10
    unfold bX2_placeOf_26
    refine mv_iload (pc := 26) (i := 8) 5 dX2_placeOf_26 rfl ?_
    refine mv_iload_n (pc := 28) (i := 3) 2 dX2_placeOf_28 rfl rfl ?_
    refine mv_icmp_ge (pc := 29) (tgt := 121) dX2_placeOf_29 (by decide) ?_ ?_
    · refine mv_sub [3] rfl ?_
      exact hj9 (s10.1, s10.2.2.2)
    · refine mv_aload_n (pc := 32) (i := 0) 0 dX2_placeOf_32 rfl rfl ?_
      refine mv_getI (pc := 33) (i := 58) dX2_placeOf_33 flX2_53 lx_58 rfl ?_
      refine mv_if_le (pc := 36) (tgt := 121) dX2_placeOf_36 (by decide) ?_ ?_
      · refine mv_sub [3] rfl ?_
        exact hj9 (s10.1, s10.2.2.2)
      · refine mv_aload_n (pc := 39) (i := 0) 0 dX2_placeOf_39 rfl rfl ?_
        refine mv_dup (pc := 40) dX2_placeOf_40 rfl ?_
        refine mv_getI (pc := 41) (i := 58) dX2_placeOf_41 flX2_53 lx_58 rfl ?_
        refine mv_iconst (pc := 44) dX2_placeOf_44 kci1 ?_
        refine mv_isub (pc := 45) dX2_placeOf_45 ?_
        refine mv_putI (pc := 46) (i := 58) dX2_placeOf_46 flX2_53 (Or.inl fpX2_6) lx_58 rfl (fun M12 => ?_)
        refine mv_iconst (pc := 49) dX2_placeOf_49 kci0 ?_
        refine mv_istore (pc := 50) (i := 9) (ls' := [(0, .ref (ad 58)), (2, .ref (ad i2)), (3, .int a3), (5, .long s10.1), (7, .int s10.2.1), (8, .int s10.2.2.1)]) dX2_placeOf_50 (Nat.le_of_ble_eq_true rfl) rfl (fun v13 => ?_)
        refine mv_jp (pj := 89) (lj := fun (s14 : Int64 × mv_M) => [(0, .ref (ad 58)), (2, .ref (ad i2)), (3, .int a3), (5, .long s14.1), (7, .int s10.2.1), (8, .int s10.2.2.1)]) (sj := fun (s14 : Int64 × mv_M) => []) (Mj := fun (s14 : Int64 × mv_M) => s14.2) ?_ ?_
        · intro s14
          refine mv_iload (pc := 89) (i := 7) 4 dX2_placeOf_89 rfl ?_
          refine mv_aload_n (pc := 91) (i := 0) 0 dX2_placeOf_91 rfl rfl ?_
          refine mv_getR (pc := 92) (i := 58) (j := 1) dX2_placeOf_92 flX2_29 lx_58 rfl ?_
          refine mv_aload_n (pc := 95) (i := 2) 1 dX2_placeOf_95 rfl rfl ?_
          refine mv_iload (pc := 96) (i := 8) 5 dX2_placeOf_96 rfl ?_
          refine mv_iald (pc := 98) (i := i2) dX2_placeOf_98 hi2 ?_
          refine mv_callVi (pc := 99) (As := [.int (s14.2.1 i2 s10.2.2.1.toNatClampNeg)]) (st := [.int s10.2.1]) (i := 1) dX2_placeOf_99 mlX2_65 vmX7_priceOf ⟨Nat.le_of_ble_eq_true rfl, Nat.le_of_ble_eq_true rfl⟩ lx_1 rfl rfl (Nat.le_of_ble_eq_true rfl) (ctX7_priceOf x.2.1 D cA ad F s14.2 (s14.2.1 i2 s10.2.2.1.toNatClampNeg)) (fun v17 M16 => ?_)
          refine mv_isub (pc := 102) dX2_placeOf_102 ?_
          refine mv_istore (pc := 103) (i := 7) (ls' := [(0, .ref (ad 58)), (2, .ref (ad i2)), (3, .int a3), (5, .long s14.1), (8, .int s10.2.2.1)]) dX2_placeOf_103 (Nat.le_of_ble_eq_true rfl) rfl (fun v18 => ?_)
          refine mv_aload_n (pc := 105) (i := 0) 1 dX2_placeOf_105 rfl rfl ?_
          refine mv_aload_n (pc := 106) (i := 2) 2 dX2_placeOf_106 rfl rfl ?_
          refine mv_iload (pc := 107) (i := 8) 5 dX2_placeOf_107 rfl ?_
          refine mv_iald (pc := 109) (i := i2) dX2_placeOf_109 hi2 ?_
          refine mv_iload (pc := 110) (i := 7) 0 dX2_placeOf_110 rfl ?_
          refine mv_callVv (pc := 112) (As := [.int (M16.1 i2 s10.2.2.1.toNatClampNeg), .int v18]) (st := []) (i := 58) dX2_placeOf_112 mlX2_71 vmX2_wantTaken ⟨Nat.le_of_ble_eq_true rfl, Nat.le_of_ble_eq_true rfl⟩ lx_58 rfl rfl (Nat.le_of_ble_eq_true rfl) (ctX2_wantTaken x.2.1 D cA ad F M16 (M16.1 i2 s10.2.2.1.toNatClampNeg) v18) (fun M19 => ?_)
          refine mv_iinc (pc := 115) (i := 8) (ls' := [(7, .int v18), (0, .ref (ad 58)), (2, .ref (ad i2)), (3, .int a3), (5, .long s14.1)]) 5 dX2_placeOf_115 rfl kci1 (Nat.le_of_ble_eq_true rfl) rfl (fun v20 => ?_)
          refine mv_goto (pc := 118) (tgt := 26) dX2_placeOf_118 (by decide) ?_
          refine mv_sub [2, 3, 4, 5, 1, 0] rfl ?_
          exact hf11 (s14.1, v18, v20, M19)
        · intro j15 hj15
          refine mv_sub [1, 2, 3, 4, 5, 6, 0] rfl ?_
          refine mv_loop (pc := 52) (lj := fun (s21 : Int64 × Int32 × mv_M) => [(0, .ref (ad 58)), (2, .ref (ad i2)), (3, .int a3), (5, .long s21.1), (7, .int s10.2.1), (8, .int s10.2.2.1), (9, .int s21.2.1)]) (Mj := fun (s21 : Int64 × Int32 × mv_M) => s21.2.2) (B := bX2_placeOf_52 s10 i2 j15 F) ?_ F (s10.1, v13, M12)
          intro f22 hf22 s21
          unfold bX2_placeOf_52
          refine mv_iload (pc := 52) (i := 9) 6 dX2_placeOf_52 rfl ?_
          refine mv_aload_n (pc := 54) (i := 2) 1 dX2_placeOf_54 rfl rfl ?_
          refine mv_iload (pc := 55) (i := 8) 5 dX2_placeOf_55 rfl ?_
          refine mv_iald (pc := 57) (i := i2) dX2_placeOf_57 hi2 ?_
          refine mv_icmp_ge (pc := 58) (tgt := 89) dX2_placeOf_58 (by decide) ?_ ?_
          · refine mv_sub [0, 1, 2, 3, 4, 5] rfl ?_
            exact hj15 (s21.1, s21.2.2)
          · refine mv_lload (pc := 61) (i := 5) 3 dX2_placeOf_61 rfl ?_
            refine mv_aload_n (pc := 63) (i := 0) 0 dX2_placeOf_63 rfl rfl ?_
            refine mv_iload (pc := 64) (i := 9) 6 dX2_placeOf_64 rfl ?_
            refine mv_aload_n (pc := 66) (i := 0) 0 dX2_placeOf_66 rfl rfl ?_
            refine mv_getR (pc := 67) (i := 58) (j := 107) dX2_placeOf_67 flX2_22 lx_58 rfl ?_
            refine mv_aload_n (pc := 70) (i := 0) 0 dX2_placeOf_70 rfl rfl ?_
            refine mv_getI (pc := 71) (i := 58) dX2_placeOf_71 flX2_53 lx_58 rfl ?_
            refine mv_iald (pc := 74) (i := 107) dX2_placeOf_74 lx_107 ?_
            refine mv_iload (pc := 75) (i := 7) 4 dX2_placeOf_75 rfl ?_
            refine mv_callVl (pc := 77) (As := [.int s21.2.1, .int (s21.2.2.1 107 (s21.2.2.1 58 6).toNatClampNeg), .int s10.2.1]) (st := [.long s21.1]) (i := 58) dX2_placeOf_77 mlX2_78 vmX2_waysWith ⟨Nat.le_of_ble_eq_true rfl, Nat.le_of_ble_eq_true rfl⟩ lx_58 rfl rfl (Nat.le_of_ble_eq_true rfl) (ctX2_waysWith x.2.1 D cA ad F s21.2.2 s21.2.1 (s21.2.2.1 107 (s21.2.2.1 58 6).toNatClampNeg) s10.2.1) (fun v24 M23 => ?_)
            refine mv_ladd (pc := 80) dX2_placeOf_80 ?_
            refine mv_lstore (pc := 81) (i := 5) (ls' := [(0, .ref (ad 58)), (2, .ref (ad i2)), (3, .int a3), (7, .int s10.2.1), (8, .int s10.2.2.1), (9, .int s21.2.1)]) dX2_placeOf_81 (Nat.le_of_ble_eq_true rfl) rfl (fun v25 => ?_)
            refine mv_iinc (pc := 83) (i := 9) (ls' := [(5, .long v25), (0, .ref (ad 58)), (2, .ref (ad i2)), (3, .int a3), (7, .int s10.2.1), (8, .int s10.2.2.1)]) 6 dX2_placeOf_83 rfl kci1 (Nat.le_of_ble_eq_true rfl) rfl (fun v26 => ?_)
            refine mv_goto (pc := 86) (tgt := 52) dX2_placeOf_86 (by decide) ?_
            refine mv_sub [2, 3, 4, 1, 5, 6, 0] rfl ?_
            exact hf22 (v25, v26, M23)

set_option maxRecDepth 100000 in
set_option maxHeartbeats 4000000 in
theorem ctX8_place (l : Launch) (D : va_G) (cA : Nat → ClassId) (ad : Nat → Nat) (F : Nat) (M : mv_M) (a1 : Int32) (a2 : Int32) (a3 : Int32) : mv_C l (D, cA, ad, LX) yX8_place iX8_place mv_ri [.ref (ad 0), .int a1, .int a2, .int a3] M (fX8_place F M a1 a2 a3) := by
  refine mv_C.ofV (ls := [(0, .ref (ad 0)), (1, .int a1), (2, .int a2), (3, .int a3)]) (by decide) rfl (Nat.le_of_ble_eq_true rfl) rfl ?_
  intro x hxl
  subst hxl
  unfold fX8_place
  refine mv_aload_n (pc := 0) (i := 0) 0 dX8_place_0 rfl rfl ?_
  refine mv_getR (pc := 1) (i := 0) (j := 1) dX8_place_1 flX8_10 lx_0 rfl ?_
  refine mv_iload_n (pc := 4) (i := 1) 1 dX8_place_4 rfl rfl ?_
  refine mv_callVi (pc := 5) (As := [.int a1]) (st := []) (i := 1) dX8_place_5 mlX8_173 vmX7_hasType ⟨Nat.le_of_ble_eq_true rfl, Nat.le_of_ble_eq_true rfl⟩ lx_1 rfl rfl (Nat.le_of_ble_eq_true rfl) (ctX7_hasType x.2.1 D cA ad F M a1) (fun v2 M1 => ?_)
  refine mv_if_eq (pc := 8) (tgt := 25) dX8_place_8 (by decide) ?_ ?_
  · refine mv_ldc (pc := 25) dX8_place_25 kwX8_80 ?_
    exact mv_ireturn (pc := 27) dX8_place_27 rfl
  · refine mv_iload_n (pc := 11) (i := 2) 2 dX8_place_11 rfl rfl ?_
    refine mv_callSi (pc := 12) (As := [.int a2]) (st := []) dX8_place_12 mlX8_73 smX5_isRow ⟨Nat.le_of_ble_eq_true rfl, Nat.le_of_ble_eq_true rfl⟩ rfl (Nat.le_of_ble_eq_true rfl) (ctX5_isRow x.2.1 D cA ad F M1 a2) (fun v4 M3 => ?_)
    refine mv_if_eq (pc := 15) (tgt := 25) dX8_place_15 (by decide) ?_ ?_
    · refine mv_ldc (pc := 25) dX8_place_25 kwX8_80 ?_
      exact mv_ireturn (pc := 27) dX8_place_27 rfl
    · refine mv_iload_n (pc := 18) (i := 3) 3 dX8_place_18 rfl rfl ?_
      refine mv_callSi (pc := 19) (As := [.int a3]) (st := []) dX8_place_19 mlX8_233 smX6_isLength ⟨Nat.le_of_ble_eq_true rfl, Nat.le_of_ble_eq_true rfl⟩ rfl (Nat.le_of_ble_eq_true rfl) (ctX6_isLength x.2.1 D cA ad F M3 a3) (fun v6 M5 => ?_)
      refine mv_if_ne (pc := 22) (tgt := 28) dX8_place_22 (by decide) ?_ ?_
      · refine mv_aload_n (pc := 28) (i := 0) 0 dX8_place_28 rfl rfl ?_
        refine mv_getR (pc := 29) (i := 0) (j := 109) dX8_place_29 flX8_62 lx_0 rfl ?_
        refine mv_iload_n (pc := 32) (i := 2) 2 dX8_place_32 rfl rfl ?_
        refine mv_iconst (pc := 33) dX8_place_33 kci0 ?_
        refine mv_iload_n (pc := 34) (i := 3) 3 dX8_place_34 rfl rfl ?_
        refine mv_callVi (pc := 35) (As := [.int a2, .int (0 : Int32), .int a3]) (st := []) (i := 109) dX8_place_35 mlX8_239 vmX6_take ⟨Nat.le_of_ble_eq_true rfl, Nat.le_of_ble_eq_true rfl⟩ lx_109 rfl rfl (Nat.le_of_ble_eq_true rfl) (ctX6_take x.2.1 D cA ad F M5 a2 (0 : Int32) a3) (fun v8 M7 => ?_)
        refine mv_istore (pc := 38) (i := 4) (ls' := [(0, .ref (ad 0)), (1, .int a1), (2, .int a2), (3, .int a3)]) dX8_place_38 (Nat.le_of_ble_eq_true rfl) rfl (fun v9 => ?_)
        refine mv_iload (pc := 40) (i := 4) 0 dX8_place_40 rfl ?_
        refine mv_if_eq (pc := 42) (tgt := 52) dX8_place_42 (by decide) ?_ ?_
        · refine mv_aload_n (pc := 52) (i := 0) 1 dX8_place_52 rfl rfl ?_
          refine mv_getR (pc := 53) (i := 0) (j := 109) dX8_place_53 flX8_62 lx_0 rfl ?_
          refine mv_callVi (pc := 56) (As := []) (st := []) (i := 109) dX8_place_56 mlX8_242 vmX6_isWhole ⟨Nat.le_of_ble_eq_true rfl, Nat.le_of_ble_eq_true rfl⟩ lx_109 rfl rfl (Nat.le_of_ble_eq_true rfl) (ctX6_isWhole x.2.1 D cA ad F M7) (fun v11 M10 => ?_)
          refine mv_if_eq (pc := 59) (tgt := 80) dX8_place_59 (by decide) ?_ ?_
          · refine mv_aload_n (pc := 80) (i := 0) 1 dX8_place_80 rfl rfl ?_
            refine mv_ldc (pc := 81) dX8_place_81 kwX8_203 ?_
            refine mv_callVi (pc := 83) (As := [.int (-1000000 : Int32)]) (st := []) (i := 0) dX8_place_83 mlX8_89 vmX8_unfound ⟨Nat.le_of_ble_eq_true rfl, Nat.le_of_ble_eq_true rfl⟩ lx_0 rfl rfl (Nat.le_of_ble_eq_true rfl) (ctX8_unfound x.2.1 D cA ad F M10 (-1000000 : Int32)) (fun v13 M12 => ?_)
            exact mv_ireturn (pc := 86) dX8_place_86 rfl
          · refine mv_aload_n (pc := 62) (i := 0) 1 dX8_place_62 rfl rfl ?_
            refine mv_getR (pc := 63) (i := 0) (j := 1) dX8_place_63 flX8_10 lx_0 rfl ?_
            refine mv_aload_n (pc := 66) (i := 0) 1 dX8_place_66 rfl rfl ?_
            refine mv_getR (pc := 67) (i := 0) (j := 109) dX8_place_67 flX8_62 lx_0 rfl ?_
            refine mv_callVi (pc := 70) (As := []) (st := [.ref (ad 1)]) (i := 109) dX8_place_70 mlX8_245 vmX6_given ⟨Nat.le_of_ble_eq_true rfl, Nat.le_of_ble_eq_true rfl⟩ lx_109 rfl rfl (Nat.le_of_ble_eq_true rfl) (ctX6_given x.2.1 D cA ad F M10) (fun v15 M14 => ?_)
            refine mv_iload_n (pc := 73) (i := 1) 2 dX8_place_73 rfl rfl ?_
            refine mv_callVi (pc := 74) (As := [.int v15, .int a1]) (st := []) (i := 1) dX8_place_74 mlX8_252 vmX7_isOf ⟨Nat.le_of_ble_eq_true rfl, Nat.le_of_ble_eq_true rfl⟩ lx_1 rfl rfl (Nat.le_of_ble_eq_true rfl) (ctX7_isOf x.2.1 D cA ad F M14 v15 a1) (fun v17 M16 => ?_)
            refine mv_if_ne (pc := 77) (tgt := 87) dX8_place_77 (by decide) ?_ ?_
            · refine mv_aload_n (pc := 87) (i := 0) 1 dX8_place_87 rfl rfl ?_
              refine mv_getR (pc := 88) (i := 0) (j := 109) dX8_place_88 flX8_62 lx_0 rfl ?_
              refine mv_callVi (pc := 91) (As := []) (st := []) (i := 109) dX8_place_91 mlX8_249 vmX6_priceTogether ⟨Nat.le_of_ble_eq_true rfl, Nat.le_of_ble_eq_true rfl⟩ lx_109 rfl rfl (Nat.le_of_ble_eq_true rfl) (ctX6_priceTogether x.2.1 D cA ad F M16) (fun v19 M18 => ?_)
              refine mv_istore (pc := 94) (i := 5) (ls' := [(4, .int v9), (0, .ref (ad 0)), (1, .int a1), (2, .int a2), (3, .int a3)]) dX8_place_94 (Nat.le_of_ble_eq_true rfl) rfl (fun v20 => ?_)
              refine mv_iload (pc := 96) (i := 5) 0 dX8_place_96 rfl ?_
              refine mv_bipush (pc := 98) dX8_place_98 kcb24 ?_
              refine mv_icmp_le (pc := 100) (tgt := 110) dX8_place_100 (by decide) ?_ ?_
              · refine mv_aload_n (pc := 110) (i := 0) 2 dX8_place_110 rfl rfl ?_
                refine mv_aload_n (pc := 111) (i := 0) 2 dX8_place_111 rfl rfl ?_
                refine mv_getR (pc := 112) (i := 0) (j := 58) dX8_place_112 flX8_53 lx_0 rfl ?_
                refine mv_iload_n (pc := 115) (i := 1) 3 dX8_place_115 rfl rfl ?_
                refine mv_aload_n (pc := 116) (i := 0) 2 dX8_place_116 rfl rfl ?_
                refine mv_getR (pc := 117) (i := 0) (j := 109) dX8_place_117 flX8_62 lx_0 rfl ?_
                refine mv_getR (pc := 120) (i := 109) (j := 110) dX8_place_120 flX8_256 lx_109 rfl ?_
                refine mv_iload_n (pc := 123) (i := 3) 5 dX8_place_123 rfl rfl ?_
                refine mv_iload (pc := 124) (i := 5) 0 dX8_place_124 rfl ?_
                refine mv_callVi (pc := 126) (As := [.int a1, .ref (ad 110), .int a3, .int v20]) (st := [.ref (ad 0)]) (i := 58) dX8_place_126 mlX8_257 vmX2_placeOf ⟨Nat.le_of_ble_eq_true rfl, Nat.le_of_ble_eq_true rfl⟩ lx_58 rfl rfl (Nat.le_of_ble_eq_true rfl) (ctX2_placeOf x.2.1 D cA ad F M18 a1 110 a3 v20 lx_110) (fun v22 M21 => ?_)
                refine mv_callVi (pc := 129) (As := [.int v22]) (st := []) (i := 0) dX8_place_129 mlX8_89 vmX8_unfound ⟨Nat.le_of_ble_eq_true rfl, Nat.le_of_ble_eq_true rfl⟩ lx_0 rfl rfl (Nat.le_of_ble_eq_true rfl) (ctX8_unfound x.2.1 D cA ad F M21 v22) (fun v24 M23 => ?_)
                exact mv_ireturn (pc := 132) dX8_place_132 rfl
              · refine mv_aload_n (pc := 103) (i := 0) 2 dX8_place_103 rfl rfl ?_
                refine mv_ldc (pc := 104) dX8_place_104 kwX8_203 ?_
                refine mv_callVi (pc := 106) (As := [.int (-1000000 : Int32)]) (st := []) (i := 0) dX8_place_106 mlX8_89 vmX8_unfound ⟨Nat.le_of_ble_eq_true rfl, Nat.le_of_ble_eq_true rfl⟩ lx_0 rfl rfl (Nat.le_of_ble_eq_true rfl) (ctX8_unfound x.2.1 D cA ad F M18 (-1000000 : Int32)) (fun v26 M25 => ?_)
                exact mv_ireturn (pc := 109) dX8_place_109 rfl
            · refine mv_aload_n (pc := 80) (i := 0) 1 dX8_place_80 rfl rfl ?_
              refine mv_ldc (pc := 81) dX8_place_81 kwX8_203 ?_
              refine mv_callVi (pc := 83) (As := [.int (-1000000 : Int32)]) (st := []) (i := 0) dX8_place_83 mlX8_89 vmX8_unfound ⟨Nat.le_of_ble_eq_true rfl, Nat.le_of_ble_eq_true rfl⟩ lx_0 rfl rfl (Nat.le_of_ble_eq_true rfl) (ctX8_unfound x.2.1 D cA ad F M16 (-1000000 : Int32)) (fun v28 M27 => ?_)
              exact mv_ireturn (pc := 86) dX8_place_86 rfl
        · refine mv_aload_n (pc := 45) (i := 0) 1 dX8_place_45 rfl rfl ?_
          refine mv_iload (pc := 46) (i := 4) 0 dX8_place_46 rfl ?_
          refine mv_callVi (pc := 48) (As := [.int v9]) (st := []) (i := 0) dX8_place_48 mlX8_81 vmX8_found ⟨Nat.le_of_ble_eq_true rfl, Nat.le_of_ble_eq_true rfl⟩ lx_0 rfl rfl (Nat.le_of_ble_eq_true rfl) (ctX8_found x.2.1 D cA ad F M7 v9) (fun v30 M29 => ?_)
          exact mv_ireturn (pc := 51) dX8_place_51 rfl
      · refine mv_ldc (pc := 25) dX8_place_25 kwX8_80 ?_
        exact mv_ireturn (pc := 27) dX8_place_27 rfl

set_option maxRecDepth 100000 in
set_option maxHeartbeats 4000000 in
theorem ctX3_typesHad (l : Launch) (D : va_G) (cA : Nat → ClassId) (ad : Nat → Nat) (F : Nat) (M : mv_M) (a1 : Int32) : mv_C l (D, cA, ad, LX) yX3_typesHad iX3_typesHad mv_ri [.ref (ad 56), .int a1] M (fX3_typesHad F M a1) := by
  refine mv_C.ofV (ls := [(0, .ref (ad 56)), (1, .int a1)]) (by decide) rfl (Nat.le_of_ble_eq_true rfl) rfl ?_
  intro x hxl
  subst hxl
  unfold fX3_typesHad
  refine mv_aload_n (pc := 0) (i := 0) 0 dX3_typesHad_0 rfl rfl ?_
  refine mv_iload_n (pc := 1) (i := 1) 1 dX3_typesHad_1 rfl rfl ?_
  refine mv_callVv (pc := 2) (As := [.int a1]) (st := []) (i := 56) dX3_typesHad_2 mlX3_19 vmX3_seek ⟨Nat.le_of_ble_eq_true rfl, Nat.le_of_ble_eq_true rfl⟩ lx_56 rfl rfl (Nat.le_of_ble_eq_true rfl) (ctX3_seek x.2.1 D cA ad F M a1) (fun M1 => ?_)
  refine mv_iconst (pc := 5) dX3_typesHad_5 kci0 ?_
  refine mv_istore_n (pc := 6) (i := 2) (ls' := [(0, .ref (ad 56)), (1, .int a1)]) dX3_typesHad_6 rfl (Nat.le_of_ble_eq_true rfl) rfl (fun v2 => ?_)
  refine mv_iconst (pc := 7) dX3_typesHad_7 kci0 ?_
  refine mv_istore_n (pc := 8) (i := 3) (ls' := [(2, .int v2), (0, .ref (ad 56)), (1, .int a1)]) dX3_typesHad_8 rfl (Nat.le_of_ble_eq_true rfl) rfl (fun v3 => ?_)
  refine mv_sub [2, 1, 0] rfl ?_
  refine mv_loop (pc := 9) (lj := fun (s4 : Int32 × Int32 × mv_M) => [(0, .ref (ad 56)), (2, .int s4.1), (3, .int s4.2.1)]) (Mj := fun (s4 : Int32 × Int32 × mv_M) => s4.2.2) (B := bX3_typesHad_9) ?_ F (v2, v3, M1)
  intro f5 hf5 s4
  unfold bX3_typesHad_9
  refine mv_iload_n (pc := 9) (i := 3) 2 dX3_typesHad_9 rfl rfl ?_
  refine mv_aload_n (pc := 10) (i := 0) 0 dX3_typesHad_10 rfl rfl ?_
  refine mv_getR (pc := 11) (i := 56) (j := 1) dX3_typesHad_11 flX3_15 lx_56 rfl ?_
  refine mv_getI (pc := 14) (i := 1) dX3_typesHad_14 flX3_24 lx_1 rfl ?_
  refine mv_icmp_ge (pc := 17) (tgt := 43) dX3_typesHad_17 (by decide) ?_ ?_
  · refine mv_iload_n (pc := 43) (i := 2) 1 dX3_typesHad_43 rfl rfl ?_
    exact mv_ireturn (pc := 44) dX3_typesHad_44 rfl
  · refine mv_aload_n (pc := 20) (i := 0) 0 dX3_typesHad_20 rfl rfl ?_
    refine mv_getR (pc := 21) (i := 56) (j := 57) dX3_typesHad_21 flX3_9 lx_56 rfl ?_
    refine mv_iload_n (pc := 24) (i := 3) 2 dX3_typesHad_24 rfl rfl ?_
    refine mv_iald (pc := 25) (i := 57) dX3_typesHad_25 lx_57 ?_
    refine mv_ldc (pc := 26) dX3_typesHad_26 kwX3_30 ?_
    refine mv_icmp_ge (pc := 28) (tgt := 37) dX3_typesHad_28 (by decide) ?_ ?_
    · refine mv_iinc (pc := 37) (i := 3) (ls' := [(0, .ref (ad 56)), (2, .int s4.1)]) 2 dX3_typesHad_37 rfl kci1 (Nat.le_of_ble_eq_true rfl) rfl (fun v6 => ?_)
      refine mv_goto (pc := 40) (tgt := 9) dX3_typesHad_40 (by decide) ?_
      refine mv_sub [1, 2, 0] rfl ?_
      exact hf5 (s4.1, v6, s4.2.2)
    · refine mv_iload_n (pc := 31) (i := 2) 1 dX3_typesHad_31 rfl rfl ?_
      refine mv_iconst (pc := 32) dX3_typesHad_32 kci1 ?_
      refine mv_iload_n (pc := 33) (i := 3) 2 dX3_typesHad_33 rfl rfl ?_
      refine mv_ishl (pc := 34) dX3_typesHad_34 ?_
      refine mv_ior (pc := 35) dX3_typesHad_35 ?_
      refine mv_istore_n (pc := 36) (i := 2) (ls' := [(0, .ref (ad 56)), (3, .int s4.2.1)]) dX3_typesHad_36 rfl (Nat.le_of_ble_eq_true rfl) rfl (fun v7 => ?_)
      refine mv_iinc (pc := 37) (i := 3) (ls' := [(2, .int v7), (0, .ref (ad 56))]) 2 dX3_typesHad_37 rfl kci1 (Nat.le_of_ble_eq_true rfl) rfl (fun v8 => ?_)
      refine mv_goto (pc := 40) (tgt := 9) dX3_typesHad_40 (by decide) ?_
      refine mv_sub [2, 1, 0] rfl ?_
      exact hf5 (v7, v8, s4.2.2)

set_option maxRecDepth 100000 in
set_option maxHeartbeats 4000000 in
theorem ctX8_had (l : Launch) (D : va_G) (cA : Nat → ClassId) (ad : Nat → Nat) (F : Nat) (M : mv_M) : mv_C l (D, cA, ad, LX) yX8_had iX8_had mv_ri [.ref (ad 0)] M (fX8_had F M) := by
  refine mv_C.ofV (ls := [(0, .ref (ad 0))]) (by decide) rfl (Nat.le_of_ble_eq_true rfl) rfl ?_
  intro x hxl
  subst hxl
  unfold fX8_had
  refine mv_aload_n (pc := 0) (i := 0) 0 dX8_had_0 rfl rfl ?_
  refine mv_getR (pc := 1) (i := 0) (j := 1) dX8_had_1 flX8_10 lx_0 rfl ?_
  refine mv_getI (pc := 4) (i := 1) dX8_had_4 flX8_236 lx_1 rfl ?_
  refine mv_if_ne (pc := 7) (tgt := 13) dX8_had_7 (by decide) ?_ ?_
  · refine mv_aload_n (pc := 13) (i := 0) 0 dX8_had_13 rfl rfl ?_
    refine mv_getR (pc := 14) (i := 0) (j := 56) dX8_had_14 flX8_46 lx_0 rfl ?_
    refine mv_aload_n (pc := 17) (i := 0) 0 dX8_had_17 rfl rfl ?_
    refine mv_getR (pc := 18) (i := 0) (j := 1) dX8_had_18 flX8_10 lx_0 rfl ?_
    refine mv_getI (pc := 21) (i := 1) dX8_had_21 flX8_167 lx_1 rfl ?_
    refine mv_callVi (pc := 24) (As := [.int (M.1 1 2)]) (st := []) (i := 56) dX8_had_24 mlX8_261 vmX3_typesHad ⟨Nat.le_of_ble_eq_true rfl, Nat.le_of_ble_eq_true rfl⟩ lx_56 rfl rfl (Nat.le_of_ble_eq_true rfl) (ctX3_typesHad x.2.1 D cA ad F M (M.1 1 2)) (fun v2 M1 => ?_)
    exact mv_ireturn (pc := 27) dX8_had_27 rfl
  · refine mv_ldc (pc := 10) dX8_had_10 kwX8_160 ?_
    exact mv_ireturn (pc := 12) dX8_had_12 rfl

set_option maxRecDepth 100000 in
set_option maxHeartbeats 4000000 in
theorem ctX3_membersNeeded (l : Launch) (D : va_G) (cA : Nat → ClassId) (ad : Nat → Nat) (F : Nat) (M : mv_M) (a1 : Int32) : mv_C l (D, cA, ad, LX) yX3_membersNeeded iX3_membersNeeded mv_ri [.ref (ad 56), .int a1] M (fX3_membersNeeded F M a1) := by
  refine mv_C.ofV (ls := [(0, .ref (ad 56)), (1, .int a1)]) (by decide) rfl (Nat.le_of_ble_eq_true rfl) rfl ?_
  intro x hxl
  subst hxl
  unfold fX3_membersNeeded
  refine mv_aload_n (pc := 0) (i := 0) 0 dX3_membersNeeded_0 rfl rfl ?_
  refine mv_aload_n (pc := 1) (i := 0) 0 dX3_membersNeeded_1 rfl rfl ?_
  refine mv_getR (pc := 2) (i := 56) (j := 1) dX3_membersNeeded_2 flX3_15 lx_56 rfl ?_
  refine mv_getI (pc := 5) (i := 1) dX3_membersNeeded_5 flX3_31 lx_1 rfl ?_
  refine mv_callVi (pc := 8) (As := [.int (M.1 1 2)]) (st := []) (i := 56) dX3_membersNeeded_8 mlX3_34 vmX3_typesHad ⟨Nat.le_of_ble_eq_true rfl, Nat.le_of_ble_eq_true rfl⟩ lx_56 rfl rfl (Nat.le_of_ble_eq_true rfl) (ctX3_typesHad x.2.1 D cA ad F M (M.1 1 2)) (fun v2 M1 => ?_)
  refine mv_iload_n (pc := 11) (i := 1) 1 dX3_membersNeeded_11 rfl rfl ?_
  refine mv_ishr (pc := 12) dX3_membersNeeded_12 ?_
  refine mv_iconst (pc := 13) dX3_membersNeeded_13 kci1 ?_
  refine mv_iand (pc := 14) dX3_membersNeeded_14 ?_
  refine mv_if_ne (pc := 15) (tgt := 20) dX3_membersNeeded_15 (by decide) ?_ ?_
  · refine mv_iconst (pc := 20) dX3_membersNeeded_20 kci0 ?_
    refine mv_istore_n (pc := 21) (i := 2) (ls' := [(0, .ref (ad 56)), (1, .int a1)]) dX3_membersNeeded_21 rfl (Nat.le_of_ble_eq_true rfl) rfl (fun v3 => ?_)
    refine mv_iconst (pc := 22) dX3_membersNeeded_22 kci0 ?_
    refine mv_istore_n (pc := 23) (i := 3) (ls' := [(2, .int v3), (0, .ref (ad 56)), (1, .int a1)]) dX3_membersNeeded_23 rfl (Nat.le_of_ble_eq_true rfl) rfl (fun v4 => ?_)
    refine mv_sub [2, 3, 1, 0] rfl ?_
    refine mv_loop (pc := 24) (lj := fun (s5 : Int32 × Int32 × mv_M) => [(0, .ref (ad 56)), (1, .int a1), (2, .int s5.1), (3, .int s5.2.1)]) (Mj := fun (s5 : Int32 × Int32 × mv_M) => s5.2.2) (B := bX3_membersNeeded_24 F a1) ?_ F (v3, v4, M1)
    intro f6 hf6 s5
    unfold bX3_membersNeeded_24
    refine mv_iload_n (pc := 24) (i := 3) 3 dX3_membersNeeded_24 rfl rfl ?_
    refine mv_aload_n (pc := 25) (i := 0) 0 dX3_membersNeeded_25 rfl rfl ?_
    refine mv_getR (pc := 26) (i := 56) (j := 1) dX3_membersNeeded_26 flX3_15 lx_56 rfl ?_
    refine mv_getI (pc := 29) (i := 1) dX3_membersNeeded_29 flX3_38 lx_1 rfl ?_
    refine mv_icmp_ge (pc := 32) (tgt := 69) dX3_membersNeeded_32 (by decide) ?_ ?_
    · refine mv_iload_n (pc := 69) (i := 2) 2 dX3_membersNeeded_69 rfl rfl ?_
      exact mv_ireturn (pc := 70) dX3_membersNeeded_70 rfl
    · refine mv_aload_n (pc := 35) (i := 0) 0 dX3_membersNeeded_35 rfl rfl ?_
      refine mv_aload_n (pc := 36) (i := 0) 0 dX3_membersNeeded_36 rfl rfl ?_
      refine mv_getR (pc := 37) (i := 56) (j := 1) dX3_membersNeeded_37 flX3_15 lx_56 rfl ?_
      refine mv_getI (pc := 40) (i := 1) dX3_membersNeeded_40 flX3_31 lx_1 rfl ?_
      refine mv_iconst (pc := 43) dX3_membersNeeded_43 kci1 ?_
      refine mv_iload_n (pc := 44) (i := 3) 3 dX3_membersNeeded_44 rfl rfl ?_
      refine mv_ishl (pc := 45) dX3_membersNeeded_45 ?_
      refine mv_ior (pc := 46) dX3_membersNeeded_46 ?_
      refine mv_callVi (pc := 47) (As := [.int ((s5.2.2.1 1 2) ||| ((1 : Int32) <<< (s5.2.1 &&& 31)))]) (st := []) (i := 56) dX3_membersNeeded_47 mlX3_34 vmX3_typesHad ⟨Nat.le_of_ble_eq_true rfl, Nat.le_of_ble_eq_true rfl⟩ lx_56 rfl rfl (Nat.le_of_ble_eq_true rfl) (ctX3_typesHad x.2.1 D cA ad F s5.2.2 ((s5.2.2.1 1 2) ||| ((1 : Int32) <<< (s5.2.1 &&& 31)))) (fun v8 M7 => ?_)
      refine mv_iload_n (pc := 50) (i := 1) 1 dX3_membersNeeded_50 rfl rfl ?_
      refine mv_ishr (pc := 51) dX3_membersNeeded_51 ?_
      refine mv_iconst (pc := 52) dX3_membersNeeded_52 kci1 ?_
      refine mv_iand (pc := 53) dX3_membersNeeded_53 ?_
      refine mv_if_ne (pc := 54) (tgt := 63) dX3_membersNeeded_54 (by decide) ?_ ?_
      · refine mv_iinc (pc := 63) (i := 3) (ls' := [(0, .ref (ad 56)), (1, .int a1), (2, .int s5.1)]) 3 dX3_membersNeeded_63 rfl kci1 (Nat.le_of_ble_eq_true rfl) rfl (fun v9 => ?_)
        refine mv_goto (pc := 66) (tgt := 24) dX3_membersNeeded_66 (by decide) ?_
        refine mv_sub [1, 2, 3, 0] rfl ?_
        exact hf6 (s5.1, v9, M7)
      · refine mv_iload_n (pc := 57) (i := 2) 2 dX3_membersNeeded_57 rfl rfl ?_
        refine mv_iconst (pc := 58) dX3_membersNeeded_58 kci1 ?_
        refine mv_iload_n (pc := 59) (i := 3) 3 dX3_membersNeeded_59 rfl rfl ?_
        refine mv_ishl (pc := 60) dX3_membersNeeded_60 ?_
        refine mv_ior (pc := 61) dX3_membersNeeded_61 ?_
        refine mv_istore_n (pc := 62) (i := 2) (ls' := [(0, .ref (ad 56)), (1, .int a1), (3, .int s5.2.1)]) dX3_membersNeeded_62 rfl (Nat.le_of_ble_eq_true rfl) rfl (fun v10 => ?_)
        refine mv_iinc (pc := 63) (i := 3) (ls' := [(2, .int v10), (0, .ref (ad 56)), (1, .int a1)]) 3 dX3_membersNeeded_63 rfl kci1 (Nat.le_of_ble_eq_true rfl) rfl (fun v11 => ?_)
        refine mv_goto (pc := 66) (tgt := 24) dX3_membersNeeded_66 (by decide) ?_
        refine mv_sub [2, 3, 1, 0] rfl ?_
        exact hf6 (v10, v11, M7)
  · refine mv_iconst (pc := 18) dX3_membersNeeded_18 kci0 ?_
    exact mv_ireturn (pc := 19) dX3_membersNeeded_19 rfl

set_option maxRecDepth 100000 in
set_option maxHeartbeats 4000000 in
theorem ctX8_needed (l : Launch) (D : va_G) (cA : Nat → ClassId) (ad : Nat → Nat) (F : Nat) (M : mv_M) (a1 : Int32) : mv_C l (D, cA, ad, LX) yX8_needed iX8_needed mv_ri [.ref (ad 0), .int a1] M (fX8_needed F M a1) := by
  refine mv_C.ofV (ls := [(0, .ref (ad 0)), (1, .int a1)]) (by decide) rfl (Nat.le_of_ble_eq_true rfl) rfl ?_
  intro x hxl
  subst hxl
  unfold fX8_needed
  refine mv_aload_n (pc := 0) (i := 0) 0 dX8_needed_0 rfl rfl ?_
  refine mv_getR (pc := 1) (i := 0) (j := 1) dX8_needed_1 flX8_10 lx_0 rfl ?_
  refine mv_iload_n (pc := 4) (i := 1) 1 dX8_needed_4 rfl rfl ?_
  refine mv_callVi (pc := 5) (As := [.int a1]) (st := []) (i := 1) dX8_needed_5 mlX8_173 vmX7_hasType ⟨Nat.le_of_ble_eq_true rfl, Nat.le_of_ble_eq_true rfl⟩ lx_1 rfl rfl (Nat.le_of_ble_eq_true rfl) (ctX7_hasType x.2.1 D cA ad F M a1) (fun v2 M1 => ?_)
  refine mv_if_ne (pc := 8) (tgt := 14) dX8_needed_8 (by decide) ?_ ?_
  · refine mv_aload_n (pc := 14) (i := 0) 0 dX8_needed_14 rfl rfl ?_
    refine mv_getR (pc := 15) (i := 0) (j := 56) dX8_needed_15 flX8_46 lx_0 rfl ?_
    refine mv_iload_n (pc := 18) (i := 1) 1 dX8_needed_18 rfl rfl ?_
    refine mv_callVi (pc := 19) (As := [.int a1]) (st := []) (i := 56) dX8_needed_19 mlX8_264 vmX3_membersNeeded ⟨Nat.le_of_ble_eq_true rfl, Nat.le_of_ble_eq_true rfl⟩ lx_56 rfl rfl (Nat.le_of_ble_eq_true rfl) (ctX3_membersNeeded x.2.1 D cA ad F M1 a1) (fun v4 M3 => ?_)
    exact mv_ireturn (pc := 22) dX8_needed_22 rfl
  · refine mv_ldc (pc := 11) dX8_needed_11 kwX8_80 ?_
    exact mv_ireturn (pc := 13) dX8_needed_13 rfl

set_option maxRecDepth 100000 in
set_option maxHeartbeats 4000000 in
theorem ctX8_without (l : Launch) (D : va_G) (cA : Nat → ClassId) (ad : Nat → Nat) (F : Nat) (M : mv_M) (a1 : Int32) (a2 : Int32) : mv_C l (D, cA, ad, LX) yX8_without iX8_without mv_ri [.ref (ad 0), .int a1, .int a2] M (fX8_without F M a1 a2) := by
  refine mv_C.ofV (ls := [(0, .ref (ad 0)), (1, .int a1), (2, .int a2)]) (by decide) rfl (Nat.le_of_ble_eq_true rfl) rfl ?_
  intro x hxl
  subst hxl
  unfold fX8_without
  refine mv_aload_n (pc := 0) (i := 0) 0 dX8_without_0 rfl rfl ?_
  refine mv_getR (pc := 1) (i := 0) (j := 1) dX8_without_1 flX8_10 lx_0 rfl ?_
  refine mv_iload_n (pc := 4) (i := 1) 1 dX8_without_4 rfl rfl ?_
  refine mv_callVi (pc := 5) (As := [.int a1]) (st := []) (i := 1) dX8_without_5 mlX8_173 vmX7_hasType ⟨Nat.le_of_ble_eq_true rfl, Nat.le_of_ble_eq_true rfl⟩ lx_1 rfl rfl (Nat.le_of_ble_eq_true rfl) (ctX7_hasType x.2.1 D cA ad F M a1) (fun v2 M1 => ?_)
  refine mv_if_eq (pc := 8) (tgt := 22) dX8_without_8 (by decide) ?_ ?_
  · refine mv_ldc (pc := 22) dX8_without_22 kwX8_80 ?_
    exact mv_ireturn (pc := 24) dX8_without_24 rfl
  · refine mv_aload_n (pc := 11) (i := 0) 0 dX8_without_11 rfl rfl ?_
    refine mv_getR (pc := 12) (i := 0) (j := 1) dX8_without_12 flX8_10 lx_0 rfl ?_
    refine mv_iload_n (pc := 15) (i := 2) 2 dX8_without_15 rfl rfl ?_
    refine mv_callVi (pc := 16) (As := [.int a2]) (st := []) (i := 1) dX8_without_16 mlX8_154 vmX7_hasMember ⟨Nat.le_of_ble_eq_true rfl, Nat.le_of_ble_eq_true rfl⟩ lx_1 rfl rfl (Nat.le_of_ble_eq_true rfl) (ctX7_hasMember x.2.1 D cA ad F M1 a2) (fun v4 M3 => ?_)
    refine mv_if_ne (pc := 19) (tgt := 25) dX8_without_19 (by decide) ?_ ?_
    · refine mv_aload_n (pc := 25) (i := 0) 0 dX8_without_25 rfl rfl ?_
      refine mv_getR (pc := 26) (i := 0) (j := 56) dX8_without_26 flX8_46 lx_0 rfl ?_
      refine mv_iload_n (pc := 29) (i := 1) 1 dX8_without_29 rfl rfl ?_
      refine mv_aload_n (pc := 30) (i := 0) 0 dX8_without_30 rfl rfl ?_
      refine mv_getR (pc := 31) (i := 0) (j := 1) dX8_without_31 flX8_10 lx_0 rfl ?_
      refine mv_getI (pc := 34) (i := 1) dX8_without_34 flX8_167 lx_1 rfl ?_
      refine mv_iconst (pc := 37) dX8_without_37 kci1 ?_
      refine mv_iload_n (pc := 38) (i := 2) 2 dX8_without_38 rfl rfl ?_
      refine mv_ishl (pc := 39) dX8_without_39 ?_
      refine mv_ior (pc := 40) dX8_without_40 ?_
      refine mv_callVi (pc := 41) (As := [.int a1, .int ((M3.1 1 2) ||| ((1 : Int32) <<< (a2 &&& 31)))]) (st := []) (i := 56) dX8_without_41 mlX8_220 vmX3_leastListed ⟨Nat.le_of_ble_eq_true rfl, Nat.le_of_ble_eq_true rfl⟩ lx_56 rfl rfl (Nat.le_of_ble_eq_true rfl) (ctX3_leastListed x.2.1 D cA ad F M3 a1 ((M3.1 1 2) ||| ((1 : Int32) <<< (a2 &&& 31)))) (fun v6 M5 => ?_)
      exact mv_ireturn (pc := 44) dX8_without_44 rfl
    · refine mv_ldc (pc := 22) dX8_without_22 kwX8_80 ?_
      exact mv_ireturn (pc := 24) dX8_without_24 rfl
