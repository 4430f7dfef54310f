set_option maxRecDepth 100000 in
set_option maxHeartbeats 4000000 in
theorem ctX5_present (l : Launch) (D : va_G) (cA : Nat → ClassId) (ad : Nat → Nat) (F : Nat) (M : mv_M) : mv_C l (D, cA, ad, LX) yX5_present iX5_present mv_ri [.ref (ad 29)] M (fX5_present F M) := by
  refine mv_C.ofV (ls := [(0, .ref (ad 29))]) (by decide) rfl (Nat.le_of_ble_eq_true rfl) rfl ?_
  intro x hxl
  subst hxl
  unfold fX5_present
  refine mv_iconst (pc := 0) dX5_present_0 kci0 ?_
  refine mv_istore_n (pc := 1) (i := 1) (ls' := [(0, .ref (ad 29))]) dX5_present_1 rfl (Nat.le_of_ble_eq_true rfl) rfl (fun v1 => ?_)
  refine mv_iconst (pc := 2) dX5_present_2 kci0 ?_
  refine mv_istore_n (pc := 3) (i := 2) (ls' := [(1, .int v1), (0, .ref (ad 29))]) dX5_present_3 rfl (Nat.le_of_ble_eq_true rfl) rfl (fun v2 => ?_)
  refine mv_sub [2, 1, 0] rfl ?_
  refine mv_loop (pc := 4) (lj := fun (s3 : Int32 × Int32 × mv_M) => [(0, .ref (ad 29)), (1, .int s3.1), (2, .int s3.2.1)]) (Mj := fun (s3 : Int32 × Int32 × mv_M) => s3.2.2) (B := bX5_present_4 F) ?_ F (v1, v2, M)
  intro f4 hf4 s3
  unfold bX5_present_4
  refine mv_iload_n (pc := 4) (i := 2) 2 dX5_present_4 rfl rfl ?_
  refine mv_bipush (pc := 5) dX5_present_5 kcb8 ?_
  refine mv_icmp_ge (pc := 7) (tgt := 32) dX5_present_7 (by decide) ?_ ?_
  · refine mv_iload_n (pc := 32) (i := 1) 1 dX5_present_32 rfl rfl ?_
    exact mv_ireturn (pc := 33) dX5_present_33 rfl
  · refine mv_iload_n (pc := 10) (i := 1) 1 dX5_present_10 rfl rfl ?_
    refine mv_aload_n (pc := 11) (i := 0) 0 dX5_present_11 rfl rfl ?_
    refine mv_iload_n (pc := 12) (i := 2) 2 dX5_present_12 rfl rfl ?_
    refine mv_callVi (pc := 13) (As := [.int s3.2.1]) (st := [.int s3.1]) (i := 29) dX5_present_13 mlX5_27 vmX5_isMissing ⟨Nat.le_of_ble_eq_true rfl, Nat.le_of_ble_eq_true rfl⟩ lx_29 rfl rfl (Nat.le_of_ble_eq_true rfl) (ctX5_isMissing x.2.1 D cA ad F s3.2.2 s3.2.1) (fun v6 M5 => ?_)
    refine mv_if_eq (pc := 16) (tgt := 23) dX5_present_16 (by decide) ?_ ?_
    · refine mv_iconst (pc := 23) dX5_present_23 kci1 ?_
      refine mv_iadd (pc := 24) dX5_present_24 ?_
      refine mv_istore_n (pc := 25) (i := 1) (ls' := [(0, .ref (ad 29)), (2, .int s3.2.1)]) dX5_present_25 rfl (Nat.le_of_ble_eq_true rfl) rfl (fun v7 => ?_)
      refine mv_iinc (pc := 26) (i := 2) (ls' := [(1, .int v7), (0, .ref (ad 29))]) 2 dX5_present_26 rfl kci1 (Nat.le_of_ble_eq_true rfl) rfl (fun v8 => ?_)
      refine mv_goto (pc := 29) (tgt := 4) dX5_present_29 (by decide) ?_
      refine mv_sub [2, 1, 0] rfl ?_
      exact hf4 (v7, v8, M5)
    · refine mv_iconst (pc := 19) dX5_present_19 kci0 ?_
      refine mv_goto (pc := 20) (tgt := 24) dX5_present_20 (by decide) ?_
      refine mv_iadd (pc := 24) dX5_present_24 ?_
      refine mv_istore_n (pc := 25) (i := 1) (ls' := [(0, .ref (ad 29)), (2, .int s3.2.1)]) dX5_present_25 rfl (Nat.le_of_ble_eq_true rfl) rfl (fun v9 => ?_)
      refine mv_iinc (pc := 26) (i := 2) (ls' := [(1, .int v9), (0, .ref (ad 29))]) 2 dX5_present_26 rfl kci1 (Nat.le_of_ble_eq_true rfl) rfl (fun v10 => ?_)
      refine mv_goto (pc := 29) (tgt := 4) dX5_present_29 (by decide) ?_
      refine mv_sub [2, 1, 0] rfl ?_
      exact hf4 (v9, v10, M5)

set_option maxRecDepth 100000 in
set_option maxHeartbeats 4000000 in
theorem ctX8_count (l : Launch) (D : va_G) (cA : Nat → ClassId) (ad : Nat → Nat) (F : Nat) (M : mv_M) (a1 : Int32) : mv_C l (D, cA, ad, LX) yX8_count iX8_count mv_ri [.ref (ad 0), .int a1] M (fX8_count F M a1) := by
  refine mv_C.ofV (ls := [(0, .ref (ad 0)), (1, .int a1)]) (by decide) rfl (Nat.le_of_ble_eq_true rfl) rfl ?_
  intro x hxl
  subst hxl
  unfold fX8_count
  refine mv_iload_n (pc := 0) (i := 1) 1 dX8_count_0 rfl rfl ?_
  refine mv_swc (pc := 1) (v := (0 : Int32)) (off := 39) (tgt := 40) dX8_count_1 (by decide +kernel) (by decide +kernel) (by decide +kernel) (by decide) ?_ (fun h3 => ?_)
  · refine mv_aload_n (pc := 40) (i := 0) 0 dX8_count_40 rfl rfl ?_
    refine mv_getR (pc := 41) (i := 0) (j := 29) dX8_count_41 flX8_23 lx_0 rfl ?_
    refine mv_callVi (pc := 44) (As := []) (st := []) (i := 29) dX8_count_44 mlX8_299 vmX5_present ⟨Nat.le_of_ble_eq_true rfl, Nat.le_of_ble_eq_true rfl⟩ lx_29 rfl rfl (Nat.le_of_ble_eq_true rfl) (ctX5_present x.2.1 D cA ad F M) (fun v2 M1 => ?_)
    exact mv_ireturn (pc := 47) dX8_count_47 rfl
  refine mv_swc (pc := 1) (v := (1 : Int32)) (off := 47) (tgt := 48) dX8_count_1 (by decide +kernel) (by decide +kernel) (by decide +kernel) (by decide) ?_ (fun h4 => ?_)
  · refine mv_aload_n (pc := 48) (i := 0) 0 dX8_count_48 rfl rfl ?_
    refine mv_getR (pc := 49) (i := 0) (j := 1) dX8_count_49 flX8_10 lx_0 rfl ?_
    refine mv_getI (pc := 52) (i := 1) dX8_count_52 flX8_236 lx_1 rfl ?_
    exact mv_ireturn (pc := 55) dX8_count_55 rfl
  refine mv_swc (pc := 1) (v := (2 : Int32)) (off := 55) (tgt := 56) dX8_count_1 (by decide +kernel) (by decide +kernel) (by decide +kernel) (by decide) ?_ (fun h5 => ?_)
  · refine mv_aload_n (pc := 56) (i := 0) 0 dX8_count_56 rfl rfl ?_
    refine mv_getR (pc := 57) (i := 0) (j := 1) dX8_count_57 flX8_10 lx_0 rfl ?_
    refine mv_getI (pc := 60) (i := 1) dX8_count_60 flX8_151 lx_1 rfl ?_
    exact mv_ireturn (pc := 63) dX8_count_63 rfl
  refine mv_swc (pc := 1) (v := (3 : Int32)) (off := 63) (tgt := 64) dX8_count_1 (by decide +kernel) (by decide +kernel) (by decide +kernel) (by decide) ?_ (fun h6 => ?_)
  · refine mv_aload_n (pc := 64) (i := 0) 0 dX8_count_64 rfl rfl ?_
    refine mv_getR (pc := 65) (i := 0) (j := 1) dX8_count_65 flX8_10 lx_0 rfl ?_
    refine mv_getI (pc := 68) (i := 1) dX8_count_68 flX8_167 lx_1 rfl ?_
    exact mv_ireturn (pc := 71) dX8_count_71 rfl
  refine mv_swc (pc := 1) (v := (4 : Int32)) (off := 71) (tgt := 72) dX8_count_1 (by decide +kernel) (by decide +kernel) (by decide +kernel) (by decide) ?_ (fun h7 => ?_)
  · refine mv_aload_n (pc := 72) (i := 0) 0 dX8_count_72 rfl rfl ?_
    refine mv_getR (pc := 73) (i := 0) (j := 52) dX8_count_73 flX8_37 lx_0 rfl ?_
    refine mv_getI (pc := 76) (i := 52) dX8_count_76 flX8_179 lx_52 rfl ?_
    exact mv_ireturn (pc := 79) dX8_count_79 rfl
  refine mv_swc (pc := 1) (v := (5 : Int32)) (off := 79) (tgt := 80) dX8_count_1 (by decide +kernel) (by decide +kernel) (by decide +kernel) (by decide) ?_ (fun h8 => ?_)
  · refine mv_aload_n (pc := 80) (i := 0) 0 dX8_count_80 rfl rfl ?_
    refine mv_getR (pc := 81) (i := 0) (j := 41) dX8_count_81 flX8_30 lx_0 rfl ?_
    refine mv_getI (pc := 84) (i := 41) dX8_count_84 flX8_302 lx_41 rfl ?_
    exact mv_ireturn (pc := 87) dX8_count_87 rfl
  refine mv_swd (pc := 1) (tgt := 88) dX8_count_1 (by have e0 := mv_ne (n := 0) (by decide +kernel) h3; have e1 := mv_ne (n := 1) (by decide +kernel) h4; have e2 := mv_ne (n := 2) (by decide +kernel) h5; have e3 := mv_ne (n := 3) (by decide +kernel) h6; have e4 := mv_ne (n := 4) (by decide +kernel) h7; have e5 := mv_ne (n := 5) (by decide +kernel) h8; omega) (by decide) ?_
  refine mv_ldc (pc := 88) dX8_count_88 kwX8_80 ?_
  exact mv_ireturn (pc := 90) dX8_count_90 rfl

set_option maxRecDepth 100000 in
set_option maxHeartbeats 4000000 in
theorem ctX8_status (l : Launch) (D : va_G) (cA : Nat → ClassId) (ad : Nat → Nat) (F : Nat) (M : mv_M) : mv_C l (D, cA, ad, LX) yX8_status iX8_status mv_ri [.ref (ad 0)] M (fX8_status F M) := by
  refine mv_C.ofV (ls := [(0, .ref (ad 0))]) (by decide) rfl (Nat.le_of_ble_eq_true rfl) rfl ?_
  intro x hxl
  subst hxl
  unfold fX8_status
  refine mv_aload_n (pc := 0) (i := 0) 0 dX8_status_0 rfl rfl ?_
  refine mv_getI (pc := 1) (i := 0) dX8_status_1 flX8_305 lx_0 rfl ?_
  exact mv_ireturn (pc := 4) dX8_status_4 rfl

set_option maxRecDepth 100000 in
set_option maxHeartbeats 4000000 in
theorem ctX9_in (l : Launch) (D : va_G) (cA : Nat → ClassId) (ad : Nat → Nat) (F : Nat) (M : mv_M) (a1 : Int64) (a2 : Int64) (a3 : Int64) : mv_C l (D, cA, ad, LM) yX9_in iX9_in mv_ri [.long a1, .long a2, .long a3] M (fX9_in F M a1 a2 a3) := by
  refine mv_C.ofV (ls := [(0, .long a1), (2, .long a2), (4, .long a3)]) (by decide) rfl (Nat.le_of_ble_eq_true rfl) rfl ?_
  intro x hxl
  subst hxl
  unfold fX9_in
  refine mv_lload_n (pc := 0) (i := 0) 0 dX9_in_0 rfl rfl ?_
  refine mv_lload_n (pc := 1) (i := 2) 1 dX9_in_1 rfl rfl ?_
  refine mv_lcmp (pc := 2) dX9_in_2 ?_
  refine mv_if_lt (pc := 3) (tgt := 17) dX9_in_3 (by decide) ?_ ?_
  · refine mv_iconst (pc := 17) dX9_in_17 kci0 ?_
    exact mv_zreturn (pc := 18) dX9_in_18 rfl
  · refine mv_lload_n (pc := 6) (i := 0) 0 dX9_in_6 rfl rfl ?_
    refine mv_lload (pc := 7) (i := 4) 2 dX9_in_7 rfl ?_
    refine mv_lcmp (pc := 9) dX9_in_9 ?_
    refine mv_if_gt (pc := 10) (tgt := 17) dX9_in_10 (by decide) ?_ ?_
    · refine mv_iconst (pc := 17) dX9_in_17 kci0 ?_
      exact mv_zreturn (pc := 18) dX9_in_18 rfl
    · refine mv_iconst (pc := 13) dX9_in_13 kci1 ?_
      refine mv_goto (pc := 14) (tgt := 18) dX9_in_14 (by decide) ?_
      exact mv_zreturn (pc := 18) dX9_in_18 rfl

set_option maxRecDepth 100000 in
set_option maxHeartbeats 4000000 in
theorem ctX9_isRow (l : Launch) (D : va_G) (cA : Nat → ClassId) (ad : Nat → Nat) (F : Nat) (M : mv_M) (a1 : Int32) : mv_C l (D, cA, ad, LM) yX9_isRow iX9_isRow mv_ri [.int a1] M (fX9_isRow F M a1) := by
  refine mv_C.ofV (ls := [(0, .int a1)]) (by decide) rfl (Nat.le_of_ble_eq_true rfl) rfl ?_
  intro x hxl
  subst hxl
  unfold fX9_isRow
  refine mv_iload_n (pc := 0) (i := 0) 0 dX9_isRow_0 rfl rfl ?_
  refine mv_i2l (pc := 1) dX9_isRow_1 ?_
  refine mv_lconst (pc := 2) dX9_isRow_2 (by decide +kernel : Int64.ofNat ((0 : Fin 2) : Nat) = (0 : Int64)) ?_
  refine mv_ldc2_w (pc := 3) dX9_isRow_3 kwX9_52 ?_
  refine mv_callSi (pc := 6) (As := [.long a1.toInt64, .long (0 : Int64), .long (7 : Int64)]) (st := []) dX9_isRow_6 mlX9_48 smX9_in ⟨Nat.le_of_ble_eq_true rfl, Nat.le_of_ble_eq_true rfl⟩ rfl (Nat.le_of_ble_eq_true rfl) (ctX9_in x.2.1 D cA ad F M a1.toInt64 (0 : Int64) (7 : Int64)) (fun v2 M1 => ?_)
  exact mv_zreturn (pc := 9) dX9_isRow_9 rfl

set_option maxRecDepth 100000 in
set_option maxHeartbeats 4000000 in
theorem ctX9_finds (l : Launch) (D : va_G) (cA : Nat → ClassId) (ad : Nat → Nat) (F : Nat) (M : mv_M) (a1 : Int32) : mv_C l (D, cA, ad, LM) yX9_finds iX9_finds mv_ri [.ref (ad 0), .int a1] M (fX9_finds F M a1) := by
  refine mv_C.ofV (ls := [(0, .ref (ad 0)), (1, .int a1)]) (by decide) rfl (Nat.le_of_ble_eq_true rfl) rfl ?_
  intro x hxl
  subst hxl
  unfold fX9_finds
  refine mv_aload_n (pc := 0) (i := 0) 0 dX9_finds_0 rfl rfl ?_
  refine mv_iload_n (pc := 1) (i := 1) 1 dX9_finds_1 rfl rfl ?_
  refine mv_putI (pc := 2) (i := 0) dX9_finds_2 flX9_54 (Or.inl fpX9_5) lm_0 rfl (fun M1 => ?_)
  refine mv_ldc (pc := 5) dX9_finds_5 kwX9_58 ?_
  refine mv_iload_n (pc := 7) (i := 1) 1 dX9_finds_7 rfl rfl ?_
  refine mv_isub (pc := 8) dX9_finds_8 ?_
  exact mv_ireturn (pc := 9) dX9_finds_9 rfl

set_option maxRecDepth 100000 in
set_option maxHeartbeats 4000000 in
theorem ctX9_row (l : Launch) (D : va_G) (cA : Nat → ClassId) (ad : Nat → Nat) (F : Nat) (M : mv_M) (a1 : Int32) (a2 : Int32) (a3 : Int32) : mv_C l (D, cA, ad, LM) yX9_row iX9_row mv_ri [.ref (ad 0), .int a1, .int a2, .int a3] M (fX9_row F M a1 a2 a3) := by
  refine mv_C.ofV (ls := [(0, .ref (ad 0)), (1, .int a1), (2, .int a2), (3, .int a3)]) (by decide) rfl (Nat.le_of_ble_eq_true rfl) rfl ?_
  intro x hxl
  subst hxl
  unfold fX9_row
  refine mv_iload_n (pc := 0) (i := 1) 1 dX9_row_0 rfl rfl ?_
  refine mv_callSi (pc := 1) (As := [.int a1]) (st := []) dX9_row_1 mlX9_59 smX9_isRow ⟨Nat.le_of_ble_eq_true rfl, Nat.le_of_ble_eq_true rfl⟩ rfl (Nat.le_of_ble_eq_true rfl) (ctX9_isRow x.2.1 D cA ad F M a1) (fun v2 M1 => ?_)
  refine mv_if_eq (pc := 4) (tgt := 25) dX9_row_4 (by decide) ?_ ?_
  · refine mv_ldc (pc := 25) dX9_row_25 kwX9_65 ?_
    exact mv_ireturn (pc := 27) dX9_row_27 rfl
  · refine mv_iload_n (pc := 7) (i := 2) 2 dX9_row_7 rfl rfl ?_
    refine mv_i2l (pc := 8) dX9_row_8 ?_
    refine mv_lconst (pc := 9) dX9_row_9 (by decide +kernel : Int64.ofNat ((0 : Fin 2) : Nat) = (0 : Int64)) ?_
    refine mv_ldc2_w (pc := 10) dX9_row_10 kwX9_63 ?_
    refine mv_callSi (pc := 13) (As := [.long a2.toInt64, .long (0 : Int64), .long (2 : Int64)]) (st := []) dX9_row_13 mlX9_48 smX9_in ⟨Nat.le_of_ble_eq_true rfl, Nat.le_of_ble_eq_true rfl⟩ rfl (Nat.le_of_ble_eq_true rfl) (ctX9_in x.2.1 D cA ad F M1 a2.toInt64 (0 : Int64) (2 : Int64)) (fun v4 M3 => ?_)
    refine mv_if_eq (pc := 16) (tgt := 25) dX9_row_16 (by decide) ?_ ?_
    · refine mv_ldc (pc := 25) dX9_row_25 kwX9_65 ?_
      exact mv_ireturn (pc := 27) dX9_row_27 rfl
    · refine mv_iload_n (pc := 19) (i := 3) 3 dX9_row_19 rfl rfl ?_
      refine mv_bipush (pc := 20) dX9_row_20 kcb40 ?_
      refine mv_icmp_le (pc := 22) (tgt := 28) dX9_row_22 (by decide) ?_ ?_
      · refine mv_iload_n (pc := 28) (i := 3) 3 dX9_row_28 rfl rfl ?_
        refine mv_if_ge (pc := 29) (tgt := 38) dX9_row_29 (by decide) ?_ ?_
        · refine mv_aload_n (pc := 38) (i := 0) 0 dX9_row_38 rfl rfl ?_
          refine mv_iconst (pc := 39) dX9_row_39 kci0 ?_
          refine mv_putI (pc := 40) (i := 0) dX9_row_40 flX9_54 (Or.inl fpX9_5) lm_0 rfl (fun M5 => ?_)
          refine mv_aload_n (pc := 43) (i := 0) 0 dX9_row_43 rfl rfl ?_
          refine mv_getR (pc := 44) (i := 0) (j := 3) dX9_row_44 flX9_16 lm_0 rfl ?_
          refine mv_iload_n (pc := 47) (i := 1) 1 dX9_row_47 rfl rfl ?_
          refine mv_iload_n (pc := 48) (i := 3) 3 dX9_row_48 rfl rfl ?_
          refine mv_iast (pc := 49) (i := 3) dX9_row_49 lm_3 (fun M6 => ?_)
          refine mv_aload_n (pc := 50) (i := 0) 0 dX9_row_50 rfl rfl ?_
          refine mv_getR (pc := 51) (i := 0) (j := 4) dX9_row_51 flX9_19 lm_0 rfl ?_
          refine mv_iload_n (pc := 54) (i := 1) 1 dX9_row_54 rfl rfl ?_
          refine mv_iload_n (pc := 55) (i := 2) 2 dX9_row_55 rfl rfl ?_
          refine mv_iast (pc := 56) (i := 4) dX9_row_56 lm_4 (fun M7 => ?_)
          refine mv_iconst (pc := 57) dX9_row_57 kci0 ?_
          refine mv_istore (pc := 58) (i := 4) (ls' := [(0, .ref (ad 0)), (1, .int a1), (2, .int a2), (3, .int a3)]) dX9_row_58 (Nat.le_of_ble_eq_true rfl) rfl (fun v8 => ?_)
          refine mv_sub [1, 2, 4, 0] rfl ?_
          refine mv_loop (pc := 60) (lj := fun (s9 : Int32 × mv_M) => [(0, .ref (ad 0)), (1, .int a1), (3, .int a3), (4, .int s9.1)]) (Mj := fun (s9 : Int32 × mv_M) => s9.2) (B := bX9_row_60 a3 a1) ?_ F (v8, M7)
          intro f10 hf10 s9
          unfold bX9_row_60
          refine mv_iload (pc := 60) (i := 4) 3 dX9_row_60 rfl ?_
          refine mv_bipush (pc := 62) dX9_row_62 kcb40 ?_
          refine mv_icmp_ge (pc := 64) (tgt := 86) dX9_row_64 (by decide) ?_ ?_
          · refine mv_iload_n (pc := 86) (i := 3) 2 dX9_row_86 rfl rfl ?_
            exact mv_ireturn (pc := 87) dX9_row_87 rfl
          · refine mv_aload_n (pc := 67) (i := 0) 0 dX9_row_67 rfl rfl ?_
            refine mv_getR (pc := 68) (i := 0) (j := 5) dX9_row_68 flX9_22 lm_0 rfl ?_
            refine mv_bipush (pc := 71) dX9_row_71 kcb40 ?_
            refine mv_iload_n (pc := 73) (i := 1) 1 dX9_row_73 rfl rfl ?_
            refine mv_imul (pc := 74) dX9_row_74 ?_
            refine mv_iload (pc := 75) (i := 4) 3 dX9_row_75 rfl ?_
            refine mv_iadd (pc := 77) dX9_row_77 ?_
            refine mv_iconst (pc := 78) dX9_row_78 kci0 ?_
            refine mv_iast (pc := 79) (i := 5) dX9_row_79 lm_5 (fun M11 => ?_)
            refine mv_iinc (pc := 80) (i := 4) (ls' := [(0, .ref (ad 0)), (1, .int a1), (3, .int a3)]) 3 dX9_row_80 rfl kci1 (Nat.le_of_ble_eq_true rfl) rfl (fun v12 => ?_)
            refine mv_goto (pc := 83) (tgt := 60) dX9_row_83 (by decide) ?_
            refine mv_sub [1, 2, 3, 0] rfl ?_
            exact hf10 (v12, M11)
        · refine mv_aload_n (pc := 32) (i := 0) 0 dX9_row_32 rfl rfl ?_
          refine mv_iconst (pc := 33) dX9_row_33 kci4 ?_
          refine mv_callVi (pc := 34) (As := [.int (4 : Int32)]) (st := []) (i := 0) dX9_row_34 mlX9_66 vmX9_finds ⟨Nat.le_of_ble_eq_true rfl, Nat.le_of_ble_eq_true rfl⟩ lm_0 rfl rfl (Nat.le_of_ble_eq_true rfl) (ctX9_finds x.2.1 D cA ad F M3 (4 : Int32)) (fun v14 M13 => ?_)
          exact mv_ireturn (pc := 37) dX9_row_37 rfl
      · refine mv_ldc (pc := 25) dX9_row_25 kwX9_65 ?_
        exact mv_ireturn (pc := 27) dX9_row_27 rfl

set_option maxRecDepth 100000 in
set_option maxHeartbeats 4000000 in
theorem ctX9_against (l : Launch) (D : va_G) (cA : Nat → ClassId) (ad : Nat → Nat) (F : Nat) (M : mv_M) (a1 : Int32) (a2 : Int32) (a3 : Int32) : mv_C l (D, cA, ad, LM) yX9_against iX9_against mv_ri [.ref (ad 0), .int a1, .int a2, .int a3] M (fX9_against F M a1 a2 a3) := by
  refine mv_C.ofV (ls := [(0, .ref (ad 0)), (1, .int a1), (2, .int a2), (3, .int a3)]) (by decide) rfl (Nat.le_of_ble_eq_true rfl) rfl ?_
  intro x hxl
  subst hxl
  unfold fX9_against
  refine mv_aload_n (pc := 0) (i := 0) 0 dX9_against_0 rfl rfl ?_
  refine mv_getR (pc := 1) (i := 0) (j := 3) dX9_against_1 flX9_16 lm_0 rfl ?_
  refine mv_iload_n (pc := 4) (i := 1) 1 dX9_against_4 rfl rfl ?_
  refine mv_iald (pc := 5) (i := 3) dX9_against_5 lm_3 ?_
  refine mv_if_ge (pc := 6) (tgt := 13) dX9_against_6 (by decide) ?_ ?_
  · refine mv_iload_n (pc := 13) (i := 2) 2 dX9_against_13 rfl rfl ?_
    refine mv_if_lt (pc := 14) (tgt := 37) dX9_against_14 (by decide) ?_ ?_
    · refine mv_iconst (pc := 37) dX9_against_37 kci2 ?_
      refine mv_goto (pc := 38) (tgt := 42) dX9_against_38 (by decide) ?_
      exact mv_ireturn (pc := 42) dX9_against_42 rfl
    · refine mv_iload_n (pc := 17) (i := 3) 3 dX9_against_17 rfl rfl ?_
      refine mv_if_lt (pc := 18) (tgt := 37) dX9_against_18 (by decide) ?_ ?_
      · refine mv_iconst (pc := 37) dX9_against_37 kci2 ?_
        refine mv_goto (pc := 38) (tgt := 42) dX9_against_38 (by decide) ?_
        exact mv_ireturn (pc := 42) dX9_against_42 rfl
      · refine mv_iload_n (pc := 21) (i := 2) 2 dX9_against_21 rfl rfl ?_
        refine mv_i2l (pc := 22) dX9_against_22 ?_
        refine mv_iload_n (pc := 23) (i := 3) 3 dX9_against_23 rfl rfl ?_
        refine mv_i2l (pc := 24) dX9_against_24 ?_
        refine mv_ladd (pc := 25) dX9_against_25 ?_
        refine mv_aload_n (pc := 26) (i := 0) 0 dX9_against_26 rfl rfl ?_
        refine mv_getR (pc := 27) (i := 0) (j := 3) dX9_against_27 flX9_16 lm_0 rfl ?_
        refine mv_iload_n (pc := 30) (i := 1) 1 dX9_against_30 rfl rfl ?_
        refine mv_iald (pc := 31) (i := 3) dX9_against_31 lm_3 ?_
        refine mv_i2l (pc := 32) dX9_against_32 ?_
        refine mv_lcmp (pc := 33) dX9_against_33 ?_
        refine mv_if_le (pc := 34) (tgt := 41) dX9_against_34 (by decide) ?_ ?_
        · refine mv_iconst (pc := 41) dX9_against_41 kci0 ?_
          exact mv_ireturn (pc := 42) dX9_against_42 rfl
        · refine mv_iconst (pc := 37) dX9_against_37 kci2 ?_
          refine mv_goto (pc := 38) (tgt := 42) dX9_against_38 (by decide) ?_
          exact mv_ireturn (pc := 42) dX9_against_42 rfl
  · refine mv_iconst (pc := 9) dX9_against_9 kci1 ?_
    refine mv_goto (pc := 10) (tgt := 42) dX9_against_10 (by decide) ?_
    exact mv_ireturn (pc := 42) dX9_against_42 rfl

set_option maxRecDepth 100000 in
set_option maxHeartbeats 4000000 in
theorem ctX9_set (l : Launch) (D : va_G) (cA : Nat → ClassId) (ad : Nat → Nat) (F : Nat) (M : mv_M) (a1 : Int32) (a2 : Int32) (a3 : Int32) : mv_C l (D, cA, ad, LM) yX9_set iX9_set mv_ri [.ref (ad 0), .int a1, .int a2, .int a3] M (fX9_set F M a1 a2 a3) := by
  refine mv_C.ofV (ls := [(0, .ref (ad 0)), (1, .int a1), (2, .int a2), (3, .int a3)]) (by decide) rfl (Nat.le_of_ble_eq_true rfl) rfl ?_
  intro x hxl
  subst hxl
  unfold fX9_set
  refine mv_iload_n (pc := 0) (i := 1) 1 dX9_set_0 rfl rfl ?_
  refine mv_callSi (pc := 1) (As := [.int a1]) (st := []) dX9_set_1 mlX9_59 smX9_isRow ⟨Nat.le_of_ble_eq_true rfl, Nat.le_of_ble_eq_true rfl⟩ rfl (Nat.le_of_ble_eq_true rfl) (ctX9_isRow x.2.1 D cA ad F M a1) (fun v2 M1 => ?_)
  refine mv_if_ne (pc := 4) (tgt := 10) dX9_set_4 (by decide) ?_ ?_
  · refine mv_aload_n (pc := 10) (i := 0) 0 dX9_set_10 rfl rfl ?_
    refine mv_iload_n (pc := 11) (i := 1) 1 dX9_set_11 rfl rfl ?_
    refine mv_iload_n (pc := 12) (i := 2) 2 dX9_set_12 rfl rfl ?_
    refine mv_iconst (pc := 13) dX9_set_13 kci1 ?_
    refine mv_callVi (pc := 14) (As := [.int a1, .int a2, .int (1 : Int32)]) (st := []) (i := 0) dX9_set_14 mlX9_70 vmX9_against ⟨Nat.le_of_ble_eq_true rfl, Nat.le_of_ble_eq_true rfl⟩ lm_0 rfl rfl (Nat.le_of_ble_eq_true rfl) (ctX9_against x.2.1 D cA ad F M1 a1 a2 (1 : Int32)) (fun v4 M3 => ?_)
    refine mv_istore (pc := 17) (i := 4) (ls' := [(0, .ref (ad 0)), (1, .int a1), (2, .int a2), (3, .int a3)]) dX9_set_17 (Nat.le_of_ble_eq_true rfl) rfl (fun v5 => ?_)
    refine mv_iload (pc := 19) (i := 4) 0 dX9_set_19 rfl ?_
    refine mv_if_le (pc := 21) (tgt := 31) dX9_set_21 (by decide) ?_ ?_
    · refine mv_aload_n (pc := 31) (i := 0) 1 dX9_set_31 rfl rfl ?_
      refine mv_iconst (pc := 32) dX9_set_32 kci0 ?_
      refine mv_putI (pc := 33) (i := 0) dX9_set_33 flX9_54 (Or.inl fpX9_5) lm_0 rfl (fun M6 => ?_)
      refine mv_aload_n (pc := 36) (i := 0) 1 dX9_set_36 rfl rfl ?_
      refine mv_getR (pc := 37) (i := 0) (j := 5) dX9_set_37 flX9_22 lm_0 rfl ?_
      refine mv_bipush (pc := 40) dX9_set_40 kcb40 ?_
      refine mv_iload_n (pc := 42) (i := 1) 2 dX9_set_42 rfl rfl ?_
      refine mv_imul (pc := 43) dX9_set_43 ?_
      refine mv_iload_n (pc := 44) (i := 2) 3 dX9_set_44 rfl rfl ?_
      refine mv_iadd (pc := 45) dX9_set_45 ?_
      refine mv_aload_n (pc := 46) (i := 0) 1 dX9_set_46 rfl rfl ?_
      refine mv_getR (pc := 47) (i := 0) (j := 4) dX9_set_47 flX9_19 lm_0 rfl ?_
      refine mv_iload_n (pc := 50) (i := 1) 2 dX9_set_50 rfl rfl ?_
      refine mv_iald (pc := 51) (i := 4) dX9_set_51 lm_4 ?_
      refine mv_jp (pj := 76) (lj := fun (s7 : Int32 × mv_M) => [(0, .ref (ad 0)), (1, .int a1), (2, .int a2)]) (sj := fun (s7 : Int32 × mv_M) => [.int s7.1, .int (((40 : Int32) * a1) + a2), .ref (ad 5)]) (Mj := fun (s7 : Int32 × mv_M) => s7.2) ?_ ?_
      · intro s7
        refine mv_iast (pc := 76) (i := 5) dX9_set_76 lm_5 (fun M9 => ?_)
        refine mv_aload_n (pc := 77) (i := 0) 0 dX9_set_77 rfl rfl ?_
        refine mv_getR (pc := 78) (i := 0) (j := 5) dX9_set_78 flX9_22 lm_0 rfl ?_
        refine mv_bipush (pc := 81) dX9_set_81 kcb40 ?_
        refine mv_iload_n (pc := 83) (i := 1) 1 dX9_set_83 rfl rfl ?_
        refine mv_imul (pc := 84) dX9_set_84 ?_
        refine mv_iload_n (pc := 85) (i := 2) 2 dX9_set_85 rfl rfl ?_
        refine mv_iadd (pc := 86) dX9_set_86 ?_
        refine mv_iald (pc := 87) (i := 5) dX9_set_87 lm_5 ?_
        exact mv_ireturn (pc := 88) dX9_set_88 rfl
      · intro j8 hj8
        refine mv_if_ne (pc := 52) (tgt := 60) dX9_set_52 (by decide) ?_ ?_
        · refine mv_aload_n (pc := 60) (i := 0) 1 dX9_set_60 rfl rfl ?_
          refine mv_getR (pc := 61) (i := 0) (j := 4) dX9_set_61 flX9_19 lm_0 rfl ?_
          refine mv_iload_n (pc := 64) (i := 1) 2 dX9_set_64 rfl rfl ?_
          refine mv_iald (pc := 65) (i := 4) dX9_set_65 lm_4 ?_
          refine mv_iconst (pc := 66) dX9_set_66 kci1 ?_
          refine mv_icmp_ne (pc := 67) (tgt := 75) dX9_set_67 (by decide) ?_ ?_
          · refine mv_iload_n (pc := 75) (i := 3) 4 dX9_set_75 rfl rfl ?_
            refine mv_sub [1, 2, 3] rfl ?_
            exact hj8 (a3, M6)
          · refine mv_iload_n (pc := 70) (i := 3) 4 dX9_set_70 rfl rfl ?_
            refine mv_i2s (pc := 71) dX9_set_71 ?_
            refine mv_goto (pc := 72) (tgt := 76) dX9_set_72 (by decide) ?_
            refine mv_sub [1, 2, 3] rfl ?_
            exact hj8 (a3.toInt16.toInt32, M6)
        · refine mv_iload_n (pc := 55) (i := 3) 4 dX9_set_55 rfl rfl ?_
          refine mv_i2b (pc := 56) dX9_set_56 ?_
          refine mv_goto (pc := 57) (tgt := 76) dX9_set_57 (by decide) ?_
          refine mv_sub [1, 2, 3] rfl ?_
          exact hj8 (a3.toInt8.toInt32, M6)
    · refine mv_aload_n (pc := 24) (i := 0) 1 dX9_set_24 rfl rfl ?_
      refine mv_iload (pc := 25) (i := 4) 0 dX9_set_25 rfl ?_
      refine mv_callVi (pc := 27) (As := [.int v5]) (st := []) (i := 0) dX9_set_27 mlX9_66 vmX9_finds ⟨Nat.le_of_ble_eq_true rfl, Nat.le_of_ble_eq_true rfl⟩ lm_0 rfl rfl (Nat.le_of_ble_eq_true rfl) (ctX9_finds x.2.1 D cA ad F M3 v5) (fun v11 M10 => ?_)
      exact mv_ireturn (pc := 30) dX9_set_30 rfl
  · refine mv_ldc (pc := 7) dX9_set_7 kwX9_65 ?_
    exact mv_ireturn (pc := 9) dX9_set_9 rfl

set_option maxRecDepth 100000 in
set_option maxHeartbeats 4000000 in
theorem ctX9_copy (l : Launch) (D : va_G) (cA : Nat → ClassId) (ad : Nat → Nat) (F : Nat) (M : mv_M) (a1 : Int32) (a2 : Int32) (a3 : Int32) (a4 : Int32) (a5 : Int32) : mv_C l (D, cA, ad, LM) yX9_copy iX9_copy mv_ri [.ref (ad 0), .int a1, .int a2, .int a3, .int a4, .int a5] M (fX9_copy F M a1 a2 a3 a4 a5) := by
  refine mv_C.ofV (ls := [(0, .ref (ad 0)), (1, .int a1), (2, .int a2), (3, .int a3), (4, .int a4), (5, .int a5)]) (by decide) rfl (Nat.le_of_ble_eq_true rfl) rfl ?_
  intro x hxl
  subst hxl
  unfold fX9_copy
  refine mv_iload_n (pc := 0) (i := 1) 1 dX9_copy_0 rfl rfl ?_
  refine mv_callSi (pc := 1) (As := [.int a1]) (st := []) dX9_copy_1 mlX9_59 smX9_isRow ⟨Nat.le_of_ble_eq_true rfl, Nat.le_of_ble_eq_true rfl⟩ rfl (Nat.le_of_ble_eq_true rfl) (ctX9_isRow x.2.1 D cA ad F M a1) (fun v2 M1 => ?_)
  refine mv_if_eq (pc := 4) (tgt := 14) dX9_copy_4 (by decide) ?_ ?_
  · refine mv_ldc (pc := 14) dX9_copy_14 kwX9_65 ?_
    exact mv_ireturn (pc := 16) dX9_copy_16 rfl
  · refine mv_iload_n (pc := 7) (i := 3) 3 dX9_copy_7 rfl rfl ?_
    refine mv_callSi (pc := 8) (As := [.int a3]) (st := []) dX9_copy_8 mlX9_59 smX9_isRow ⟨Nat.le_of_ble_eq_true rfl, Nat.le_of_ble_eq_true rfl⟩ rfl (Nat.le_of_ble_eq_true rfl) (ctX9_isRow x.2.1 D cA ad F M1 a3) (fun v4 M3 => ?_)
    refine mv_if_ne (pc := 11) (tgt := 17) dX9_copy_11 (by decide) ?_ ?_
    · refine mv_aload_n (pc := 17) (i := 0) 0 dX9_copy_17 rfl rfl ?_
      refine mv_getR (pc := 18) (i := 0) (j := 3) dX9_copy_18 flX9_16 lm_0 rfl ?_
      refine mv_iload_n (pc := 21) (i := 1) 1 dX9_copy_21 rfl rfl ?_
      refine mv_iald (pc := 22) (i := 3) dX9_copy_22 lm_3 ?_
      refine mv_if_lt (pc := 23) (tgt := 35) dX9_copy_23 (by decide) ?_ ?_
      · refine mv_aload_n (pc := 35) (i := 0) 0 dX9_copy_35 rfl rfl ?_
        refine mv_iconst (pc := 36) dX9_copy_36 kci1 ?_
        refine mv_callVi (pc := 37) (As := [.int (1 : Int32)]) (st := []) (i := 0) dX9_copy_37 mlX9_66 vmX9_finds ⟨Nat.le_of_ble_eq_true rfl, Nat.le_of_ble_eq_true rfl⟩ lm_0 rfl rfl (Nat.le_of_ble_eq_true rfl) (ctX9_finds x.2.1 D cA ad F M3 (1 : Int32)) (fun v6 M5 => ?_)
        exact mv_ireturn (pc := 40) dX9_copy_40 rfl
      · refine mv_aload_n (pc := 26) (i := 0) 0 dX9_copy_26 rfl rfl ?_
        refine mv_getR (pc := 27) (i := 0) (j := 3) dX9_copy_27 flX9_16 lm_0 rfl ?_
        refine mv_iload_n (pc := 30) (i := 3) 3 dX9_copy_30 rfl rfl ?_
        refine mv_iald (pc := 31) (i := 3) dX9_copy_31 lm_3 ?_
        refine mv_if_ge (pc := 32) (tgt := 41) dX9_copy_32 (by decide) ?_ ?_
        · refine mv_aload_n (pc := 41) (i := 0) 0 dX9_copy_41 rfl rfl ?_
          refine mv_getR (pc := 42) (i := 0) (j := 4) dX9_copy_42 flX9_19 lm_0 rfl ?_
          refine mv_iload_n (pc := 45) (i := 1) 1 dX9_copy_45 rfl rfl ?_
          refine mv_iald (pc := 46) (i := 4) dX9_copy_46 lm_4 ?_
          refine mv_aload_n (pc := 47) (i := 0) 0 dX9_copy_47 rfl rfl ?_
          refine mv_getR (pc := 48) (i := 0) (j := 4) dX9_copy_48 flX9_19 lm_0 rfl ?_
          refine mv_iload_n (pc := 51) (i := 3) 3 dX9_copy_51 rfl rfl ?_
          refine mv_iald (pc := 52) (i := 4) dX9_copy_52 lm_4 ?_
          refine mv_icmp_eq (pc := 53) (tgt := 62) dX9_copy_53 (by decide) ?_ ?_
          · refine mv_aload_n (pc := 62) (i := 0) 0 dX9_copy_62 rfl rfl ?_
            refine mv_iload_n (pc := 63) (i := 1) 1 dX9_copy_63 rfl rfl ?_
            refine mv_iload_n (pc := 64) (i := 2) 2 dX9_copy_64 rfl rfl ?_
            refine mv_iload (pc := 65) (i := 5) 5 dX9_copy_65 rfl ?_
            refine mv_callVi (pc := 67) (As := [.int a1, .int a2, .int a5]) (st := []) (i := 0) dX9_copy_67 mlX9_70 vmX9_against ⟨Nat.le_of_ble_eq_true rfl, Nat.le_of_ble_eq_true rfl⟩ lm_0 rfl rfl (Nat.le_of_ble_eq_true rfl) (ctX9_against x.2.1 D cA ad F M3 a1 a2 a5) (fun v8 M7 => ?_)
            refine mv_if_gt (pc := 70) (tgt := 85) dX9_copy_70 (by decide) ?_ ?_
            · refine mv_aload_n (pc := 85) (i := 0) 0 dX9_copy_85 rfl rfl ?_
              refine mv_iconst (pc := 86) dX9_copy_86 kci2 ?_
              refine mv_callVi (pc := 87) (As := [.int (2 : Int32)]) (st := []) (i := 0) dX9_copy_87 mlX9_66 vmX9_finds ⟨Nat.le_of_ble_eq_true rfl, Nat.le_of_ble_eq_true rfl⟩ lm_0 rfl rfl (Nat.le_of_ble_eq_true rfl) (ctX9_finds x.2.1 D cA ad F M7 (2 : Int32)) (fun v10 M9 => ?_)
              exact mv_ireturn (pc := 90) dX9_copy_90 rfl
            · refine mv_aload_n (pc := 73) (i := 0) 0 dX9_copy_73 rfl rfl ?_
              refine mv_iload_n (pc := 74) (i := 3) 3 dX9_copy_74 rfl rfl ?_
              refine mv_iload (pc := 75) (i := 4) 4 dX9_copy_75 rfl ?_
              refine mv_iload (pc := 77) (i := 5) 5 dX9_copy_77 rfl ?_
              refine mv_callVi (pc := 79) (As := [.int a3, .int a4, .int a5]) (st := []) (i := 0) dX9_copy_79 mlX9_70 vmX9_against ⟨Nat.le_of_ble_eq_true rfl, Nat.le_of_ble_eq_true rfl⟩ lm_0 rfl rfl (Nat.le_of_ble_eq_true rfl) (ctX9_against x.2.1 D cA ad F M7 a3 a4 a5) (fun v12 M11 => ?_)
              refine mv_if_le (pc := 82) (tgt := 91) dX9_copy_82 (by decide) ?_ ?_
              · refine mv_aload_n (pc := 91) (i := 0) 0 dX9_copy_91 rfl rfl ?_
                refine mv_iconst (pc := 92) dX9_copy_92 kci0 ?_
                refine mv_putI (pc := 93) (i := 0) dX9_copy_93 flX9_54 (Or.inl fpX9_5) lm_0 rfl (fun M13 => ?_)
                refine mv_iconst (pc := 96) dX9_copy_96 kci0 ?_
                refine mv_istore (pc := 97) (i := 6) (ls' := [(0, .ref (ad 0)), (1, .int a1), (2, .int a2), (3, .int a3), (4, .int a4), (5, .int a5)]) dX9_copy_97 (Nat.le_of_ble_eq_true rfl) rfl (fun v14 => ?_)
                refine mv_jp (pj := 133) (lj := fun (s15 : mv_M) => [(0, .ref (ad 0)), (3, .int a3), (4, .int a4), (5, .int a5)]) (sj := fun (s15 : mv_M) => []) (Mj := fun (s15 : mv_M) => s15) ?_ ?_
                · intro s15
                  refine mv_iconst (pc := 133) dX9_copy_133 kci0 ?_
                  refine mv_istore (pc := 134) (i := 6) (ls' := [(0, .ref (ad 0)), (3, .int a3), (4, .int a4), (5, .int a5)]) dX9_copy_134 (Nat.le_of_ble_eq_true rfl) rfl (fun v17 => ?_)
                  refine mv_sub [1, 2, 3, 4, 0] rfl ?_
                  refine mv_loop (pc := 136) (lj := fun (s18 : Int32 × mv_M) => [(0, .ref (ad 0)), (3, .int a3), (4, .int a4), (5, .int a5), (6, .int s18.1)]) (Mj := fun (s18 : Int32 × mv_M) => s18.2) (B := bX9_copy_136 a5 a3 a4) ?_ F (v17, s15)
                  intro f19 hf19 s18
                  unfold bX9_copy_136
                  refine mv_iload (pc := 136) (i := 6) 4 dX9_copy_136 rfl ?_
                  refine mv_iload (pc := 138) (i := 5) 3 dX9_copy_138 rfl ?_
                  refine mv_icmp_ge (pc := 140) (tgt := 171) dX9_copy_140 (by decide) ?_ ?_
                  · refine mv_iload (pc := 171) (i := 5) 3 dX9_copy_171 rfl ?_
                    exact mv_ireturn (pc := 173) dX9_copy_173 rfl
                  · refine mv_aload_n (pc := 143) (i := 0) 0 dX9_copy_143 rfl rfl ?_
                    refine mv_getR (pc := 144) (i := 0) (j := 5) dX9_copy_144 flX9_22 lm_0 rfl ?_
                    refine mv_bipush (pc := 147) dX9_copy_147 kcb40 ?_
                    refine mv_iload_n (pc := 149) (i := 3) 1 dX9_copy_149 rfl rfl ?_
                    refine mv_imul (pc := 150) dX9_copy_150 ?_
                    refine mv_iload (pc := 151) (i := 4) 2 dX9_copy_151 rfl ?_
                    refine mv_iadd (pc := 153) dX9_copy_153 ?_
                    refine mv_iload (pc := 154) (i := 6) 4 dX9_copy_154 rfl ?_
                    refine mv_iadd (pc := 156) dX9_copy_156 ?_
                    refine mv_aload_n (pc := 157) (i := 0) 0 dX9_copy_157 rfl rfl ?_
                    refine mv_getR (pc := 158) (i := 0) (j := 6) dX9_copy_158 flX9_25 lm_0 rfl ?_
                    refine mv_iload (pc := 161) (i := 6) 4 dX9_copy_161 rfl ?_
                    refine mv_iald (pc := 163) (i := 6) dX9_copy_163 lm_6 ?_
                    refine mv_iast (pc := 164) (i := 5) dX9_copy_164 lm_5 (fun M20 => ?_)
                    refine mv_iinc (pc := 165) (i := 6) (ls' := [(0, .ref (ad 0)), (3, .int a3), (4, .int a4), (5, .int a5)]) 4 dX9_copy_165 rfl kci1 (Nat.le_of_ble_eq_true rfl) rfl (fun v21 => ?_)
                    refine mv_goto (pc := 168) (tgt := 136) dX9_copy_168 (by decide) ?_
                    refine mv_sub [1, 2, 3, 4, 0] rfl ?_
                    exact hf19 (v21, M20)
                · intro j16 hj16
                  refine mv_sub [1, 2, 3, 4, 5, 6, 0] rfl ?_
                  refine mv_loop (pc := 99) (lj := fun (s22 : Int32 × mv_M) => [(0, .ref (ad 0)), (1, .int a1), (2, .int a2), (3, .int a3), (4, .int a4), (5, .int a5), (6, .int s22.1)]) (Mj := fun (s22 : Int32 × mv_M) => s22.2) (B := bX9_copy_99 a5 j16 a1 a2) ?_ F (v14, M13)
                  intro f23 hf23 s22
                  unfold bX9_copy_99
                  refine mv_iload (pc := 99) (i := 6) 6 dX9_copy_99 rfl ?_
                  refine mv_iload (pc := 101) (i := 5) 5 dX9_copy_101 rfl ?_
                  refine mv_icmp_ge (pc := 103) (tgt := 133) dX9_copy_103 (by decide) ?_ ?_
                  · refine mv_sub [0, 3, 4, 5] rfl ?_
                    exact hj16 (s22.2)
                  · refine mv_aload_n (pc := 106) (i := 0) 0 dX9_copy_106 rfl rfl ?_
                    refine mv_getR (pc := 107) (i := 0) (j := 6) dX9_copy_107 flX9_25 lm_0 rfl ?_
                    refine mv_iload (pc := 110) (i := 6) 6 dX9_copy_110 rfl ?_
                    refine mv_aload_n (pc := 112) (i := 0) 0 dX9_copy_112 rfl rfl ?_
                    refine mv_getR (pc := 113) (i := 0) (j := 5) dX9_copy_113 flX9_22 lm_0 rfl ?_
                    refine mv_bipush (pc := 116) dX9_copy_116 kcb40 ?_
                    refine mv_iload_n (pc := 118) (i := 1) 1 dX9_copy_118 rfl rfl ?_
                    refine mv_imul (pc := 119) dX9_copy_119 ?_
                    refine mv_iload_n (pc := 120) (i := 2) 2 dX9_copy_120 rfl rfl ?_
                    refine mv_iadd (pc := 121) dX9_copy_121 ?_
                    refine mv_iload (pc := 122) (i := 6) 6 dX9_copy_122 rfl ?_
                    refine mv_iadd (pc := 124) dX9_copy_124 ?_
                    refine mv_iald (pc := 125) (i := 5) dX9_copy_125 lm_5 ?_
                    refine mv_iast (pc := 126) (i := 6) dX9_copy_126 lm_6 (fun M24 => ?_)
                    refine mv_iinc (pc := 127) (i := 6) (ls' := [(0, .ref (ad 0)), (1, .int a1), (2, .int a2), (3, .int a3), (4, .int a4), (5, .int a5)]) 6 dX9_copy_127 rfl kci1 (Nat.le_of_ble_eq_true rfl) rfl (fun v25 => ?_)
                    refine mv_goto (pc := 130) (tgt := 99) dX9_copy_130 (by decide) ?_
                    refine mv_sub [1, 2, 3, 4, 5, 6, 0] rfl ?_
                    exact hf23 (v25, M24)
              · refine mv_aload_n (pc := 85) (i := 0) 0 dX9_copy_85 rfl rfl ?_
                refine mv_iconst (pc := 86) dX9_copy_86 kci2 ?_
                refine mv_callVi (pc := 87) (As := [.int (2 : Int32)]) (st := []) (i := 0) dX9_copy_87 mlX9_66 vmX9_finds ⟨Nat.le_of_ble_eq_true rfl, Nat.le_of_ble_eq_true rfl⟩ lm_0 rfl rfl (Nat.le_of_ble_eq_true rfl) (ctX9_finds x.2.1 D cA ad F M11 (2 : Int32)) (fun v27 M26 => ?_)
                exact mv_ireturn (pc := 90) dX9_copy_90 rfl
          · refine mv_aload_n (pc := 56) (i := 0) 0 dX9_copy_56 rfl rfl ?_
            refine mv_iconst (pc := 57) dX9_copy_57 kci5 ?_
            refine mv_callVi (pc := 58) (As := [.int (5 : Int32)]) (st := []) (i := 0) dX9_copy_58 mlX9_66 vmX9_finds ⟨Nat.le_of_ble_eq_true rfl, Nat.le_of_ble_eq_true rfl⟩ lm_0 rfl rfl (Nat.le_of_ble_eq_true rfl) (ctX9_finds x.2.1 D cA ad F M3 (5 : Int32)) (fun v29 M28 => ?_)
            exact mv_ireturn (pc := 61) dX9_copy_61 rfl
        · refine mv_aload_n (pc := 35) (i := 0) 0 dX9_copy_35 rfl rfl ?_
          refine mv_iconst (pc := 36) dX9_copy_36 kci1 ?_
          refine mv_callVi (pc := 37) (As := [.int (1 : Int32)]) (st := []) (i := 0) dX9_copy_37 mlX9_66 vmX9_finds ⟨Nat.le_of_ble_eq_true rfl, Nat.le_of_ble_eq_true rfl⟩ lm_0 rfl rfl (Nat.le_of_ble_eq_true rfl) (ctX9_finds x.2.1 D cA ad F M3 (1 : Int32)) (fun v31 M30 => ?_)
          exact mv_ireturn (pc := 40) dX9_copy_40 rfl
    · refine mv_ldc (pc := 14) dX9_copy_14 kwX9_65 ?_
      exact mv_ireturn (pc := 16) dX9_copy_16 rfl

set_option maxRecDepth 100000 in
set_option maxHeartbeats 4000000 in
theorem ctX9_drop (l : Launch) (D : va_G) (cA : Nat → ClassId) (ad : Nat → Nat) (F : Nat) (M : mv_M) (a1 : Int32) : mv_C l (D, cA, ad, LM) yX9_drop iX9_drop mv_ri [.ref (ad 0), .int a1] M (fX9_drop F M a1) := by
  refine mv_C.ofV (ls := [(0, .ref (ad 0)), (1, .int a1)]) (by decide) rfl (Nat.le_of_ble_eq_true rfl) rfl ?_
  intro x hxl
  subst hxl
  unfold fX9_drop
  refine mv_iload_n (pc := 0) (i := 1) 1 dX9_drop_0 rfl rfl ?_
  refine mv_callSi (pc := 1) (As := [.int a1]) (st := []) dX9_drop_1 mlX9_59 smX9_isRow ⟨Nat.le_of_ble_eq_true rfl, Nat.le_of_ble_eq_true rfl⟩ rfl (Nat.le_of_ble_eq_true rfl) (ctX9_isRow x.2.1 D cA ad F M a1) (fun v2 M1 => ?_)
  refine mv_if_ne (pc := 4) (tgt := 10) dX9_drop_4 (by decide) ?_ ?_
  · refine mv_aload_n (pc := 10) (i := 0) 0 dX9_drop_10 rfl rfl ?_
    refine mv_getR (pc := 11) (i := 0) (j := 3) dX9_drop_11 flX9_16 lm_0 rfl ?_
    refine mv_iload_n (pc := 14) (i := 1) 1 dX9_drop_14 rfl rfl ?_
    refine mv_iald (pc := 15) (i := 3) dX9_drop_15 lm_3 ?_
    refine mv_if_ge (pc := 16) (tgt := 25) dX9_drop_16 (by decide) ?_ ?_
    · refine mv_aload_n (pc := 25) (i := 0) 0 dX9_drop_25 rfl rfl ?_
      refine mv_iconst (pc := 26) dX9_drop_26 kci0 ?_
      refine mv_putI (pc := 27) (i := 0) dX9_drop_27 flX9_54 (Or.inl fpX9_5) lm_0 rfl (fun M3 => ?_)
      refine mv_aload_n (pc := 30) (i := 0) 0 dX9_drop_30 rfl rfl ?_
      refine mv_getR (pc := 31) (i := 0) (j := 3) dX9_drop_31 flX9_16 lm_0 rfl ?_
      refine mv_iload_n (pc := 34) (i := 1) 1 dX9_drop_34 rfl rfl ?_
      refine mv_iald (pc := 35) (i := 3) dX9_drop_35 lm_3 ?_
      refine mv_istore_n (pc := 36) (i := 2) (ls' := [(0, .ref (ad 0)), (1, .int a1)]) dX9_drop_36 rfl (Nat.le_of_ble_eq_true rfl) rfl (fun v4 => ?_)
      refine mv_aload_n (pc := 37) (i := 0) 1 dX9_drop_37 rfl rfl ?_
      refine mv_getR (pc := 38) (i := 0) (j := 3) dX9_drop_38 flX9_16 lm_0 rfl ?_
      refine mv_iload_n (pc := 41) (i := 1) 2 dX9_drop_41 rfl rfl ?_
      refine mv_iconst (pc := 42) dX9_drop_42 kcim1 ?_
      refine mv_iast (pc := 43) (i := 3) dX9_drop_43 lm_3 (fun M5 => ?_)
      refine mv_iload_n (pc := 44) (i := 2) 0 dX9_drop_44 rfl rfl ?_
      exact mv_ireturn (pc := 45) dX9_drop_45 rfl
    · refine mv_aload_n (pc := 19) (i := 0) 0 dX9_drop_19 rfl rfl ?_
      refine mv_iconst (pc := 20) dX9_drop_20 kci1 ?_
      refine mv_callVi (pc := 21) (As := [.int (1 : Int32)]) (st := []) (i := 0) dX9_drop_21 mlX9_66 vmX9_finds ⟨Nat.le_of_ble_eq_true rfl, Nat.le_of_ble_eq_true rfl⟩ lm_0 rfl rfl (Nat.le_of_ble_eq_true rfl) (ctX9_finds x.2.1 D cA ad F M1 (1 : Int32)) (fun v7 M6 => ?_)
      exact mv_ireturn (pc := 24) dX9_drop_24 rfl
  · refine mv_ldc (pc := 7) dX9_drop_7 kwX9_65 ?_
    exact mv_ireturn (pc := 9) dX9_drop_9 rfl

set_option maxRecDepth 100000 in
set_option maxHeartbeats 4000000 in
theorem ctX9_feed (l : Launch) (D : va_G) (cA : Nat → ClassId) (ad : Nat → Nat) (F : Nat) (M : mv_M) (a1 : Int32) : mv_C l (D, cA, ad, LM) yX9_feed iX9_feed mv_ri [.ref (ad 0), .int a1] M (fX9_feed F M a1) := by
  refine mv_C.ofV (ls := [(0, .ref (ad 0)), (1, .int a1)]) (by decide) rfl (Nat.le_of_ble_eq_true rfl) rfl ?_
  intro x hxl
  subst hxl
  unfold fX9_feed
  refine mv_iload_n (pc := 0) (i := 1) 1 dX9_feed_0 rfl rfl ?_
  refine mv_i2l (pc := 1) dX9_feed_1 ?_
  refine mv_lconst (pc := 2) dX9_feed_2 (by decide +kernel : Int64.ofNat ((0 : Fin 2) : Nat) = (0 : Int64)) ?_
  refine mv_ldc2_w (pc := 3) dX9_feed_3 kwX9_74 ?_
  refine mv_callSi (pc := 6) (As := [.long a1.toInt64, .long (0 : Int64), .long (255 : Int64)]) (st := []) dX9_feed_6 mlX9_48 smX9_in ⟨Nat.le_of_ble_eq_true rfl, Nat.le_of_ble_eq_true rfl⟩ rfl (Nat.le_of_ble_eq_true rfl) (ctX9_in x.2.1 D cA ad F M a1.toInt64 (0 : Int64) (255 : Int64)) (fun v2 M1 => ?_)
  refine mv_if_ne (pc := 9) (tgt := 15) dX9_feed_9 (by decide) ?_ ?_
  · refine mv_aload_n (pc := 15) (i := 0) 0 dX9_feed_15 rfl rfl ?_
    refine mv_getI (pc := 16) (i := 0) dX9_feed_16 flX9_76 lm_0 rfl ?_
    refine mv_sipush (pc := 19) dX9_feed_19 kcs140 ?_
    refine mv_icmp_ne (pc := 22) (tgt := 28) dX9_feed_22 (by decide) ?_ ?_
    · refine mv_aload_n (pc := 28) (i := 0) 0 dX9_feed_28 rfl rfl ?_
      refine mv_getR (pc := 29) (i := 0) (j := 2) dX9_feed_29 flX9_13 lm_0 rfl ?_
      refine mv_aload_n (pc := 32) (i := 0) 0 dX9_feed_32 rfl rfl ?_
      refine mv_getI (pc := 33) (i := 0) dX9_feed_33 flX9_76 lm_0 rfl ?_
      refine mv_iload_n (pc := 36) (i := 1) 1 dX9_feed_36 rfl rfl ?_
      refine mv_iast (pc := 37) (i := 2) dX9_feed_37 lm_2 (fun M3 => ?_)
      refine mv_aload_n (pc := 38) (i := 0) 0 dX9_feed_38 rfl rfl ?_
      refine mv_dup (pc := 39) dX9_feed_39 rfl ?_
      refine mv_getI (pc := 40) (i := 0) dX9_feed_40 flX9_76 lm_0 rfl ?_
      refine mv_iconst (pc := 43) dX9_feed_43 kci1 ?_
      refine mv_iadd (pc := 44) dX9_feed_44 ?_
      refine mv_putI (pc := 45) (i := 0) dX9_feed_45 flX9_76 (Or.inl fpX9_3) lm_0 rfl (fun M4 => ?_)
      refine mv_aload_n (pc := 48) (i := 0) 0 dX9_feed_48 rfl rfl ?_
      refine mv_getI (pc := 49) (i := 0) dX9_feed_49 flX9_76 lm_0 rfl ?_
      exact mv_ireturn (pc := 52) dX9_feed_52 rfl
    · refine mv_ldc (pc := 25) dX9_feed_25 kwX9_79 ?_
      exact mv_ireturn (pc := 27) dX9_feed_27 rfl
  · refine mv_ldc (pc := 12) dX9_feed_12 kwX9_65 ?_
    exact mv_ireturn (pc := 14) dX9_feed_14 rfl

set_option maxRecDepth 100000 in
set_option maxHeartbeats 4000000 in
theorem ctX9_here (l : Launch) (D : va_G) (cA : Nat → ClassId) (ad : Nat → Nat) (F : Nat) (M : mv_M) : mv_C l (D, cA, ad, LM) yX9_here iX9_here mv_ri [.ref (ad 0)] M (fX9_here F M) := by
  refine mv_C.ofV (ls := [(0, .ref (ad 0))]) (by decide) rfl (Nat.le_of_ble_eq_true rfl) rfl ?_
  intro x hxl
  subst hxl
  unfold fX9_here
  refine mv_aload_n (pc := 0) (i := 0) 0 dX9_here_0 rfl rfl ?_
  refine mv_getI (pc := 1) (i := 0) dX9_here_1 flX9_80 lm_0 rfl ?_
  refine mv_aload_n (pc := 4) (i := 0) 0 dX9_here_4 rfl rfl ?_
  refine mv_getI (pc := 5) (i := 0) dX9_here_5 flX9_76 lm_0 rfl ?_
  refine mv_icmp_ge (pc := 8) (tgt := 23) dX9_here_8 (by decide) ?_ ?_
  · refine mv_iconst (pc := 23) dX9_here_23 kcim1 ?_
    exact mv_ireturn (pc := 24) dX9_here_24 rfl
  · refine mv_aload_n (pc := 11) (i := 0) 0 dX9_here_11 rfl rfl ?_
    refine mv_getR (pc := 12) (i := 0) (j := 2) dX9_here_12 flX9_13 lm_0 rfl ?_
    refine mv_aload_n (pc := 15) (i := 0) 0 dX9_here_15 rfl rfl ?_
    refine mv_getI (pc := 16) (i := 0) dX9_here_16 flX9_80 lm_0 rfl ?_
    refine mv_iald (pc := 19) (i := 2) dX9_here_19 lm_2 ?_
    refine mv_goto (pc := 20) (tgt := 24) dX9_here_20 (by decide) ?_
    exact mv_ireturn (pc := 24) dX9_here_24 rfl

set_option maxRecDepth 100000 in
set_option maxHeartbeats 4000000 in
theorem ctX9_fails (l : Launch) (D : va_G) (cA : Nat → ClassId) (ad : Nat → Nat) (F : Nat) (M : mv_M) (a1 : Int32) (a2 : Int32) : mv_C l (D, cA, ad, LM) yX9_fails iX9_fails mv_ri [.ref (ad 0), .int a1, .int a2] M (fX9_fails F M a1 a2) := by
  refine mv_C.ofV (ls := [(0, .ref (ad 0)), (1, .int a1), (2, .int a2)]) (by decide) rfl (Nat.le_of_ble_eq_true rfl) rfl ?_
  intro x hxl
  subst hxl
  unfold fX9_fails
  refine mv_aload_n (pc := 0) (i := 0) 0 dX9_fails_0 rfl rfl ?_
  refine mv_iload_n (pc := 1) (i := 1) 1 dX9_fails_1 rfl rfl ?_
  refine mv_putI (pc := 2) (i := 0) dX9_fails_2 flX9_83 (Or.inl fpX9_4) lm_0 rfl (fun M1 => ?_)
  refine mv_aload_n (pc := 5) (i := 0) 0 dX9_fails_5 rfl rfl ?_
  refine mv_iload_n (pc := 6) (i := 2) 2 dX9_fails_6 rfl rfl ?_
  refine mv_putI (pc := 7) (i := 0) dX9_fails_7 flX9_86 (Or.inl fpX9_11) lm_0 rfl (fun M2 => ?_)
  refine mv_iconst (pc := 10) dX9_fails_10 kci0 ?_
  exact mv_zreturn (pc := 11) dX9_fails_11 rfl

set_option maxRecDepth 100000 in
set_option maxHeartbeats 4000000 in
theorem ctX9_takes (l : Launch) (D : va_G) (cA : Nat → ClassId) (ad : Nat → Nat) (F : Nat) (M : mv_M) (a1 : Int32) : mv_C l (D, cA, ad, LM) yX9_takes iX9_takes mv_ri [.ref (ad 0), .int a1] M (fX9_takes F M a1) := by
  refine mv_C.ofV (ls := [(0, .ref (ad 0)), (1, .int a1)]) (by decide) rfl (Nat.le_of_ble_eq_true rfl) rfl ?_
  intro x hxl
  subst hxl
  unfold fX9_takes
  refine mv_aload_n (pc := 0) (i := 0) 0 dX9_takes_0 rfl rfl ?_
  refine mv_callVi (pc := 1) (As := []) (st := []) (i := 0) dX9_takes_1 mlX9_89 vmX9_here ⟨Nat.le_of_ble_eq_true rfl, Nat.le_of_ble_eq_true rfl⟩ lm_0 rfl rfl (Nat.le_of_ble_eq_true rfl) (ctX9_here x.2.1 D cA ad F M) (fun v2 M1 => ?_)
  refine mv_iload_n (pc := 4) (i := 1) 1 dX9_takes_4 rfl rfl ?_
  refine mv_icmp_eq (pc := 5) (tgt := 18) dX9_takes_5 (by decide) ?_ ?_
  · refine mv_aload_n (pc := 18) (i := 0) 0 dX9_takes_18 rfl rfl ?_
    refine mv_dup (pc := 19) dX9_takes_19 rfl ?_
    refine mv_getI (pc := 20) (i := 0) dX9_takes_20 flX9_80 lm_0 rfl ?_
    refine mv_iconst (pc := 23) dX9_takes_23 kci1 ?_
    refine mv_iadd (pc := 24) dX9_takes_24 ?_
    refine mv_putI (pc := 25) (i := 0) dX9_takes_25 flX9_80 (Or.inl fpX9_10) lm_0 rfl (fun M3 => ?_)
    refine mv_iconst (pc := 28) dX9_takes_28 kci1 ?_
    exact mv_zreturn (pc := 29) dX9_takes_29 rfl
  · refine mv_aload_n (pc := 8) (i := 0) 0 dX9_takes_8 rfl rfl ?_
    refine mv_iconst (pc := 9) dX9_takes_9 kci1 ?_
    refine mv_aload_n (pc := 10) (i := 0) 0 dX9_takes_10 rfl rfl ?_
    refine mv_getI (pc := 11) (i := 0) dX9_takes_11 flX9_80 lm_0 rfl ?_
    refine mv_callVi (pc := 14) (As := [.int (1 : Int32), .int (M1.1 0 10)]) (st := []) (i := 0) dX9_takes_14 mlX9_93 vmX9_fails ⟨Nat.le_of_ble_eq_true rfl, Nat.le_of_ble_eq_true rfl⟩ lm_0 rfl rfl (Nat.le_of_ble_eq_true rfl) (ctX9_fails x.2.1 D cA ad F M1 (1 : Int32) (M1.1 0 10)) (fun v5 M4 => ?_)
    exact mv_zreturn (pc := 17) dX9_takes_17 rfl

set_option maxRecDepth 100000 in
set_option maxHeartbeats 4000000 in
theorem ctX9_takesNumber (l : Launch) (D : va_G) (cA : Nat → ClassId) (ad : Nat → Nat) (F : Nat) (M : mv_M) (a1 : Int32) (a2 : Int32) : mv_C l (D, cA, ad, LM) yX9_takesNumber iX9_takesNumber mv_ri [.ref (ad 0), .int a1, .int a2] M (fX9_takesNumber F M a1 a2) := by
  refine mv_C.ofV (ls := [(0, .ref (ad 0)), (1, .int a1), (2, .int a2)]) (by decide) rfl (Nat.le_of_ble_eq_true rfl) rfl ?_
  intro x hxl
  subst hxl
  unfold fX9_takesNumber
  refine mv_aload_n (pc := 0) (i := 0) 0 dX9_takesNumber_0 rfl rfl ?_
  refine mv_getI (pc := 1) (i := 0) dX9_takesNumber_1 flX9_80 lm_0 rfl ?_
  refine mv_istore_n (pc := 4) (i := 3) (ls' := [(0, .ref (ad 0)), (1, .int a1), (2, .int a2)]) dX9_takesNumber_4 rfl (Nat.le_of_ble_eq_true rfl) rfl (fun v1 => ?_)
  refine mv_aload_n (pc := 5) (i := 0) 1 dX9_takesNumber_5 rfl rfl ?_
  refine mv_iconst (pc := 6) dX9_takesNumber_6 kci0 ?_
  refine mv_putI (pc := 7) (i := 0) dX9_takesNumber_7 flX9_97 (Or.inl fpX9_12) lm_0 rfl (fun M2 => ?_)
  refine mv_jp (pj := 76) (lj := fun (s3 : mv_M) => [(0, .ref (ad 0)), (1, .int a1), (2, .int a2), (3, .int v1)]) (sj := fun (s3 : mv_M) => []) (Mj := fun (s3 : mv_M) => s3) ?_ ?_
  · intro s3
    refine mv_aload_n (pc := 76) (i := 0) 0 dX9_takesNumber_76 rfl rfl ?_
    refine mv_getI (pc := 77) (i := 0) dX9_takesNumber_77 flX9_80 lm_0 rfl ?_
    refine mv_iload_n (pc := 80) (i := 3) 3 dX9_takesNumber_80 rfl rfl ?_
    refine mv_isub (pc := 81) dX9_takesNumber_81 ?_
    refine mv_i2l (pc := 82) dX9_takesNumber_82 ?_
    refine mv_lconst (pc := 83) dX9_takesNumber_83 (by decide +kernel : Int64.ofNat ((1 : Fin 2) : Nat) = (1 : Int64)) ?_
    refine mv_ldc2_w (pc := 84) dX9_takesNumber_84 kwX9_63 ?_
    refine mv_callSi (pc := 87) (As := [.long (((s3.1 0 10) - v1).toInt64), .long (1 : Int64), .long (2 : Int64)]) (st := []) dX9_takesNumber_87 mlX9_48 smX9_in ⟨Nat.le_of_ble_eq_true rfl, Nat.le_of_ble_eq_true rfl⟩ rfl (Nat.le_of_ble_eq_true rfl) (ctX9_in x.2.1 D cA ad F s3 (((s3.1 0 10) - v1).toInt64) (1 : Int64) (2 : Int64)) (fun v6 M5 => ?_)
    refine mv_if_ne (pc := 90) (tgt := 100) dX9_takesNumber_90 (by decide) ?_ ?_
    · refine mv_aload_n (pc := 100) (i := 0) 0 dX9_takesNumber_100 rfl rfl ?_
      refine mv_getI (pc := 101) (i := 0) dX9_takesNumber_101 flX9_97 lm_0 rfl ?_
      refine mv_i2l (pc := 104) dX9_takesNumber_104 ?_
      refine mv_iload_n (pc := 105) (i := 1) 1 dX9_takesNumber_105 rfl rfl ?_
      refine mv_i2l (pc := 106) dX9_takesNumber_106 ?_
      refine mv_iload_n (pc := 107) (i := 2) 2 dX9_takesNumber_107 rfl rfl ?_
      refine mv_i2l (pc := 108) dX9_takesNumber_108 ?_
      refine mv_callSi (pc := 109) (As := [.long ((M5.1 0 12).toInt64), .long a1.toInt64, .long a2.toInt64]) (st := []) dX9_takesNumber_109 mlX9_48 smX9_in ⟨Nat.le_of_ble_eq_true rfl, Nat.le_of_ble_eq_true rfl⟩ rfl (Nat.le_of_ble_eq_true rfl) (ctX9_in x.2.1 D cA ad F M5 ((M5.1 0 12).toInt64) a1.toInt64 a2.toInt64) (fun v8 M7 => ?_)
      refine mv_if_ne (pc := 112) (tgt := 122) dX9_takesNumber_112 (by decide) ?_ ?_
      · refine mv_iconst (pc := 122) dX9_takesNumber_122 kci1 ?_
        exact mv_zreturn (pc := 123) dX9_takesNumber_123 rfl
      · refine mv_aload_n (pc := 115) (i := 0) 0 dX9_takesNumber_115 rfl rfl ?_
        refine mv_iconst (pc := 116) dX9_takesNumber_116 kci2 ?_
        refine mv_iload_n (pc := 117) (i := 3) 3 dX9_takesNumber_117 rfl rfl ?_
        refine mv_callVi (pc := 118) (As := [.int (2 : Int32), .int v1]) (st := []) (i := 0) dX9_takesNumber_118 mlX9_93 vmX9_fails ⟨Nat.le_of_ble_eq_true rfl, Nat.le_of_ble_eq_true rfl⟩ lm_0 rfl rfl (Nat.le_of_ble_eq_true rfl) (ctX9_fails x.2.1 D cA ad F M7 (2 : Int32) v1) (fun v10 M9 => ?_)
        exact mv_zreturn (pc := 121) dX9_takesNumber_121 rfl
    · refine mv_aload_n (pc := 93) (i := 0) 0 dX9_takesNumber_93 rfl rfl ?_
      refine mv_iconst (pc := 94) dX9_takesNumber_94 kci1 ?_
      refine mv_iload_n (pc := 95) (i := 3) 3 dX9_takesNumber_95 rfl rfl ?_
      refine mv_callVi (pc := 96) (As := [.int (1 : Int32), .int v1]) (st := []) (i := 0) dX9_takesNumber_96 mlX9_93 vmX9_fails ⟨Nat.le_of_ble_eq_true rfl, Nat.le_of_ble_eq_true rfl⟩ lm_0 rfl rfl (Nat.le_of_ble_eq_true rfl) (ctX9_fails x.2.1 D cA ad F M5 (1 : Int32) v1) (fun v12 M11 => ?_)
      exact mv_zreturn (pc := 99) dX9_takesNumber_99 rfl
  · intro j4 hj4
    refine mv_sub [1, 2, 3, 0] rfl ?_
    refine mv_loop (pc := 10) (lj := fun (s13 : mv_M) => [(0, .ref (ad 0)), (1, .int a1), (2, .int a2), (3, .int v1)]) (Mj := fun (s13 : mv_M) => s13) (B := bX9_takesNumber_10 F j4 v1) ?_ F M2
    intro f14 hf14 s13
    unfold bX9_takesNumber_10
    refine mv_aload_n (pc := 10) (i := 0) 0 dX9_takesNumber_10 rfl rfl ?_
    refine mv_callVi (pc := 11) (As := []) (st := []) (i := 0) dX9_takesNumber_11 mlX9_89 vmX9_here ⟨Nat.le_of_ble_eq_true rfl, Nat.le_of_ble_eq_true rfl⟩ lm_0 rfl rfl (Nat.le_of_ble_eq_true rfl) (ctX9_here x.2.1 D cA ad F s13) (fun v16 M15 => ?_)
    refine mv_i2l (pc := 14) dX9_takesNumber_14 ?_
    refine mv_ldc2_w (pc := 15) dX9_takesNumber_15 kwX9_100 ?_
    refine mv_ldc2_w (pc := 18) dX9_takesNumber_18 kwX9_102 ?_
    refine mv_callSi (pc := 21) (As := [.long v16.toInt64, .long (48 : Int64), .long (57 : Int64)]) (st := []) dX9_takesNumber_21 mlX9_48 smX9_in ⟨Nat.le_of_ble_eq_true rfl, Nat.le_of_ble_eq_true rfl⟩ rfl (Nat.le_of_ble_eq_true rfl) (ctX9_in x.2.1 D cA ad F M15 v16.toInt64 (48 : Int64) (57 : Int64)) (fun v18 M17 => ?_)
    refine mv_if_eq (pc := 24) (tgt := 76) dX9_takesNumber_24 (by decide) ?_ ?_
    · exact hj4 M17
    · refine mv_aload_n (pc := 27) (i := 0) 0 dX9_takesNumber_27 rfl rfl ?_
      refine mv_aload_n (pc := 28) (i := 0) 0 dX9_takesNumber_28 rfl rfl ?_
      refine mv_getI (pc := 29) (i := 0) dX9_takesNumber_29 flX9_80 lm_0 rfl ?_
      refine mv_iload_n (pc := 32) (i := 3) 3 dX9_takesNumber_32 rfl rfl ?_
      refine mv_isub (pc := 33) dX9_takesNumber_33 ?_
      refine mv_iconst (pc := 34) dX9_takesNumber_34 kci2 ?_
      refine mv_jp (pj := 60) (lj := fun (s19 : Int32 × mv_M) => [(0, .ref (ad 0)), (1, .int a1), (2, .int a2), (3, .int v1)]) (sj := fun (s19 : Int32 × mv_M) => [.int s19.1, .ref (ad 0)]) (Mj := fun (s19 : Int32 × mv_M) => s19.2) ?_ ?_
      · intro s19
        refine mv_putI (pc := 60) (i := 0) dX9_takesNumber_60 flX9_97 (Or.inl fpX9_12) lm_0 rfl (fun M21 => ?_)
        refine mv_aload_n (pc := 63) (i := 0) 0 dX9_takesNumber_63 rfl rfl ?_
        refine mv_dup (pc := 64) dX9_takesNumber_64 rfl ?_
        refine mv_getI (pc := 65) (i := 0) dX9_takesNumber_65 flX9_80 lm_0 rfl ?_
        refine mv_iconst (pc := 68) dX9_takesNumber_68 kci1 ?_
        refine mv_iadd (pc := 69) dX9_takesNumber_69 ?_
        refine mv_putI (pc := 70) (i := 0) dX9_takesNumber_70 flX9_80 (Or.inl fpX9_10) lm_0 rfl (fun M22 => ?_)
        refine mv_goto (pc := 73) (tgt := 10) dX9_takesNumber_73 (by decide) ?_
        exact hf14 M22
      · intro j20 hj20
        refine mv_icmp_ge (pc := 35) (tgt := 56) dX9_takesNumber_35 (by decide) ?_ ?_
        · refine mv_aload_n (pc := 56) (i := 0) 0 dX9_takesNumber_56 rfl rfl ?_
          refine mv_getI (pc := 57) (i := 0) dX9_takesNumber_57 flX9_97 lm_0 rfl ?_
          exact hj20 ((M17.1 0 12), M17)
        · refine mv_bipush (pc := 38) dX9_takesNumber_38 kcb10 ?_
          refine mv_aload_n (pc := 40) (i := 0) 0 dX9_takesNumber_40 rfl rfl ?_
          refine mv_getI (pc := 41) (i := 0) dX9_takesNumber_41 flX9_97 lm_0 rfl ?_
          refine mv_imul (pc := 44) dX9_takesNumber_44 ?_
          refine mv_aload_n (pc := 45) (i := 0) 0 dX9_takesNumber_45 rfl rfl ?_
          refine mv_callVi (pc := 46) (As := []) (st := [.int ((10 : Int32) * (M17.1 0 12)), .ref (ad 0)]) (i := 0) dX9_takesNumber_46 mlX9_89 vmX9_here ⟨Nat.le_of_ble_eq_true rfl, Nat.le_of_ble_eq_true rfl⟩ lm_0 rfl rfl (Nat.le_of_ble_eq_true rfl) (ctX9_here x.2.1 D cA ad F M17) (fun v24 M23 => ?_)
          refine mv_iadd (pc := 49) dX9_takesNumber_49 ?_
          refine mv_bipush (pc := 50) dX9_takesNumber_50 kcb48 ?_
          refine mv_isub (pc := 52) dX9_takesNumber_52 ?_
          refine mv_goto (pc := 53) (tgt := 60) dX9_takesNumber_53 (by decide) ?_
          exact hj20 (((((10 : Int32) * (M17.1 0 12)) + v24) - (48 : Int32)), M23)

set_option maxRecDepth 100000 in
set_option maxHeartbeats 4000000 in
theorem ctX9_takesLaw (l : Launch) (D : va_G) (cA : Nat → ClassId) (ad : Nat → Nat) (F : Nat) (M : mv_M) : mv_C l (D, cA, ad, LM) yX9_takesLaw iX9_takesLaw mv_ri [.ref (ad 0)] M (fX9_takesLaw F M) := by
  refine mv_C.ofV (ls := [(0, .ref (ad 0))]) (by decide) rfl (Nat.le_of_ble_eq_true rfl) rfl ?_
  intro x hxl
  subst hxl
  unfold fX9_takesLaw
  refine mv_aload_n (pc := 0) (i := 0) 0 dX9_takesLaw_0 rfl rfl ?_
  refine mv_bipush (pc := 1) dX9_takesLaw_1 kcb119 ?_
  refine mv_callVi (pc := 3) (As := [.int (119 : Int32)]) (st := []) (i := 0) dX9_takesLaw_3 mlX9_104 vmX9_takes ⟨Nat.le_of_ble_eq_true rfl, Nat.le_of_ble_eq_true rfl⟩ lm_0 rfl rfl (Nat.le_of_ble_eq_true rfl) (ctX9_takes x.2.1 D cA ad F M (119 : Int32)) (fun v2 M1 => ?_)
  refine mv_if_eq (pc := 6) (tgt := 19) dX9_takesLaw_6 (by decide) ?_ ?_
  · refine mv_iconst (pc := 19) dX9_takesLaw_19 kci0 ?_
    exact mv_zreturn (pc := 20) dX9_takesLaw_20 rfl
  · refine mv_aload_n (pc := 9) (i := 0) 0 dX9_takesLaw_9 rfl rfl ?_
    refine mv_iconst (pc := 10) dX9_takesLaw_10 kci1 ?_
    refine mv_bipush (pc := 11) dX9_takesLaw_11 kcb8 ?_
    refine mv_callVi (pc := 13) (As := [.int (1 : Int32), .int (8 : Int32)]) (st := []) (i := 0) dX9_takesLaw_13 mlX9_107 vmX9_takesNumber ⟨Nat.le_of_ble_eq_true rfl, Nat.le_of_ble_eq_true rfl⟩ lm_0 rfl rfl (Nat.le_of_ble_eq_true rfl) (ctX9_takesNumber x.2.1 D cA ad F M1 (1 : Int32) (8 : Int32)) (fun v4 M3 => ?_)
    refine mv_if_ne (pc := 16) (tgt := 21) dX9_takesLaw_16 (by decide) ?_ ?_
    · refine mv_aload_n (pc := 21) (i := 0) 0 dX9_takesLaw_21 rfl rfl ?_
      refine mv_getR (pc := 22) (i := 0) (j := 1) dX9_takesLaw_22 flX9_7 lm_0 rfl ?_
      refine mv_bipush (pc := 25) dX9_takesLaw_25 kcb83 ?_
      refine mv_aload_n (pc := 27) (i := 0) 0 dX9_takesLaw_27 rfl rfl ?_
      refine mv_getI (pc := 28) (i := 0) dX9_takesLaw_28 flX9_97 lm_0 rfl ?_
      refine mv_iast (pc := 31) (i := 1) dX9_takesLaw_31 lm_1 (fun M5 => ?_)
      refine mv_aload_n (pc := 32) (i := 0) 0 dX9_takesLaw_32 rfl rfl ?_
      refine mv_bipush (pc := 33) dX9_takesLaw_33 kcb59 ?_
      refine mv_callVi (pc := 35) (As := [.int (59 : Int32)]) (st := []) (i := 0) dX9_takesLaw_35 mlX9_104 vmX9_takes ⟨Nat.le_of_ble_eq_true rfl, Nat.le_of_ble_eq_true rfl⟩ lm_0 rfl rfl (Nat.le_of_ble_eq_true rfl) (ctX9_takes x.2.1 D cA ad F M5 (59 : Int32)) (fun v7 M6 => ?_)
      exact mv_zreturn (pc := 38) dX9_takesLaw_38 rfl
    · refine mv_iconst (pc := 19) dX9_takesLaw_19 kci0 ?_
      exact mv_zreturn (pc := 20) dX9_takesLaw_20 rfl

set_option maxRecDepth 100000 in
set_option maxHeartbeats 4000000 in
theorem ctX9_kindOf (l : Launch) (D : va_G) (cA : Nat → ClassId) (ad : Nat → Nat) (F : Nat) (M : mv_M) (a1 : Int32) : mv_C l (D, cA, ad, LM) yX9_kindOf iX9_kindOf mv_ri [.int a1] M (fX9_kindOf F M a1) := by
  refine mv_C.ofV (ls := [(0, .int a1)]) (by decide) rfl (Nat.le_of_ble_eq_true rfl) rfl ?_
  intro x hxl
  subst hxl
  unfold fX9_kindOf
  refine mv_iload_n (pc := 0) (i := 0) 0 dX9_kindOf_0 rfl rfl ?_
  refine mv_bipush (pc := 1) dX9_kindOf_1 kcb108 ?_
  refine mv_icmp_ne (pc := 3) (tgt := 10) dX9_kindOf_3 (by decide) ?_ ?_
  · refine mv_iload_n (pc := 10) (i := 0) 0 dX9_kindOf_10 rfl rfl ?_
    refine mv_bipush (pc := 11) dX9_kindOf_11 kcb102 ?_
    refine mv_icmp_ne (pc := 13) (tgt := 20) dX9_kindOf_13 (by decide) ?_ ?_
    · refine mv_iload_n (pc := 20) (i := 0) 0 dX9_kindOf_20 rfl rfl ?_
      refine mv_bipush (pc := 21) dX9_kindOf_21 kcb111 ?_
      refine mv_icmp_ne (pc := 23) (tgt := 30) dX9_kindOf_23 (by decide) ?_ ?_
      · refine mv_iload_n (pc := 30) (i := 0) 0 dX9_kindOf_30 rfl rfl ?_
        refine mv_bipush (pc := 31) dX9_kindOf_31 kcb99 ?_
        refine mv_icmp_ne (pc := 33) (tgt := 40) dX9_kindOf_33 (by decide) ?_ ?_
        · refine mv_iload_n (pc := 40) (i := 0) 0 dX9_kindOf_40 rfl rfl ?_
          refine mv_bipush (pc := 41) dX9_kindOf_41 kcb109 ?_
          refine mv_icmp_ne (pc := 43) (tgt := 50) dX9_kindOf_43 (by decide) ?_ ?_
          · refine mv_iconst (pc := 50) dX9_kindOf_50 kci0 ?_
            exact mv_ireturn (pc := 51) dX9_kindOf_51 rfl
          · refine mv_iconst (pc := 46) dX9_kindOf_46 kci5 ?_
            refine mv_goto (pc := 47) (tgt := 51) dX9_kindOf_47 (by decide) ?_
            exact mv_ireturn (pc := 51) dX9_kindOf_51 rfl
        · refine mv_iconst (pc := 36) dX9_kindOf_36 kci4 ?_
          refine mv_goto (pc := 37) (tgt := 51) dX9_kindOf_37 (by decide) ?_
          exact mv_ireturn (pc := 51) dX9_kindOf_51 rfl
      · refine mv_iconst (pc := 26) dX9_kindOf_26 kci3 ?_
        refine mv_goto (pc := 27) (tgt := 51) dX9_kindOf_27 (by decide) ?_
        exact mv_ireturn (pc := 51) dX9_kindOf_51 rfl
    · refine mv_iconst (pc := 16) dX9_kindOf_16 kci2 ?_
      refine mv_goto (pc := 17) (tgt := 51) dX9_kindOf_17 (by decide) ?_
      exact mv_ireturn (pc := 51) dX9_kindOf_51 rfl
  · refine mv_iconst (pc := 6) dX9_kindOf_6 kci1 ?_
    refine mv_goto (pc := 7) (tgt := 51) dX9_kindOf_7 (by decide) ?_
    exact mv_ireturn (pc := 51) dX9_kindOf_51 rfl

set_option maxRecDepth 100000 in
set_option maxHeartbeats 4000000 in
theorem ctX9_takesMember (l : Launch) (D : va_G) (cA : Nat → ClassId) (ad : Nat → Nat) (F : Nat) (M : mv_M) : mv_C l (D, cA, ad, LM) yX9_takesMember iX9_takesMember mv_ri [.ref (ad 0)] M (fX9_takesMember F M) := by
  refine mv_C.ofV (ls := [(0, .ref (ad 0))]) (by decide) rfl (Nat.le_of_ble_eq_true rfl) rfl ?_
  intro x hxl
  subst hxl
  unfold fX9_takesMember
  refine mv_aload_n (pc := 0) (i := 0) 0 dX9_takesMember_0 rfl rfl ?_
  refine mv_callVi (pc := 1) (As := []) (st := []) (i := 0) dX9_takesMember_1 mlX9_89 vmX9_here ⟨Nat.le_of_ble_eq_true rfl, Nat.le_of_ble_eq_true rfl⟩ lm_0 rfl rfl (Nat.le_of_ble_eq_true rfl) (ctX9_here x.2.1 D cA ad F M) (fun v2 M1 => ?_)
  refine mv_callSi (pc := 4) (As := [.int v2]) (st := []) dX9_takesMember_4 mlX9_110 smX9_kindOf ⟨Nat.le_of_ble_eq_true rfl, Nat.le_of_ble_eq_true rfl⟩ rfl (Nat.le_of_ble_eq_true rfl) (ctX9_kindOf x.2.1 D cA ad F M1 v2) (fun v4 M3 => ?_)
  refine mv_istore_n (pc := 7) (i := 1) (ls' := [(0, .ref (ad 0))]) dX9_takesMember_7 rfl (Nat.le_of_ble_eq_true rfl) rfl (fun v5 => ?_)
  refine mv_iload_n (pc := 8) (i := 1) 0 dX9_takesMember_8 rfl rfl ?_
  refine mv_if_ne (pc := 9) (tgt := 22) dX9_takesMember_9 (by decide) ?_ ?_
  · refine mv_aload_n (pc := 22) (i := 0) 1 dX9_takesMember_22 rfl rfl ?_
    refine mv_getR (pc := 23) (i := 0) (j := 1) dX9_takesMember_23 flX9_7 lm_0 rfl ?_
    refine mv_bipush (pc := 26) dX9_takesMember_26 kcb84 ?_
    refine mv_iald (pc := 28) (i := 1) dX9_takesMember_28 lm_1 ?_
    refine mv_istore_n (pc := 29) (i := 2) (ls' := [(1, .int v5), (0, .ref (ad 0))]) dX9_takesMember_29 rfl (Nat.le_of_ble_eq_true rfl) rfl (fun v6 => ?_)
    refine mv_iload_n (pc := 30) (i := 2) 0 dX9_takesMember_30 rfl rfl ?_
    refine mv_bipush (pc := 31) dX9_takesMember_31 kcb12 ?_
    refine mv_icmp_ne (pc := 33) (tgt := 46) dX9_takesMember_33 (by decide) ?_ ?_
    · refine mv_aload_n (pc := 46) (i := 0) 2 dX9_takesMember_46 rfl rfl ?_
      refine mv_dup (pc := 47) dX9_takesMember_47 rfl ?_
      refine mv_getI (pc := 48) (i := 0) dX9_takesMember_48 flX9_80 lm_0 rfl ?_
      refine mv_iconst (pc := 51) dX9_takesMember_51 kci1 ?_
      refine mv_iadd (pc := 52) dX9_takesMember_52 ?_
      refine mv_putI (pc := 53) (i := 0) dX9_takesMember_53 flX9_80 (Or.inl fpX9_10) lm_0 rfl (fun M7 => ?_)
      refine mv_aload_n (pc := 56) (i := 0) 2 dX9_takesMember_56 rfl rfl ?_
      refine mv_getR (pc := 57) (i := 0) (j := 1) dX9_takesMember_57 flX9_7 lm_0 rfl ?_
      refine mv_bipush (pc := 60) dX9_takesMember_60 kcb94 ?_
      refine mv_iload_n (pc := 62) (i := 2) 0 dX9_takesMember_62 rfl rfl ?_
      refine mv_iadd (pc := 63) dX9_takesMember_63 ?_
      refine mv_iload_n (pc := 64) (i := 1) 1 dX9_takesMember_64 rfl rfl ?_
      refine mv_iast (pc := 65) (i := 1) dX9_takesMember_65 lm_1 (fun M8 => ?_)
      refine mv_aload_n (pc := 66) (i := 0) 2 dX9_takesMember_66 rfl rfl ?_
      refine mv_iconst (pc := 67) dX9_takesMember_67 kci0 ?_
      refine mv_aload_n (pc := 68) (i := 0) 2 dX9_takesMember_68 rfl rfl ?_
      refine mv_getR (pc := 69) (i := 0) (j := 1) dX9_takesMember_69 flX9_7 lm_0 rfl ?_
      refine mv_bipush (pc := 72) dX9_takesMember_72 kcb83 ?_
      refine mv_iald (pc := 74) (i := 1) dX9_takesMember_74 lm_1 ?_
      refine mv_iconst (pc := 75) dX9_takesMember_75 kci1 ?_
      refine mv_isub (pc := 76) dX9_takesMember_76 ?_
      refine mv_callVi (pc := 77) (As := [.int (0 : Int32), .int ((M8.1 1 (83 : Int32).toNatClampNeg) - (1 : Int32))]) (st := []) (i := 0) dX9_takesMember_77 mlX9_107 vmX9_takesNumber ⟨Nat.le_of_ble_eq_true rfl, Nat.le_of_ble_eq_true rfl⟩ lm_0 rfl rfl (Nat.le_of_ble_eq_true rfl) (ctX9_takesNumber x.2.1 D cA ad F M8 (0 : Int32) ((M8.1 1 (83 : Int32).toNatClampNeg) - (1 : Int32))) (fun v10 M9 => ?_)
      refine mv_if_ne (pc := 80) (tgt := 85) dX9_takesMember_80 (by decide) ?_ ?_
      · refine mv_aload_n (pc := 85) (i := 0) 2 dX9_takesMember_85 rfl rfl ?_
        refine mv_getR (pc := 86) (i := 0) (j := 1) dX9_takesMember_86 flX9_7 lm_0 rfl ?_
        refine mv_bipush (pc := 89) dX9_takesMember_89 kcb106 ?_
        refine mv_iload_n (pc := 91) (i := 2) 0 dX9_takesMember_91 rfl rfl ?_
        refine mv_iadd (pc := 92) dX9_takesMember_92 ?_
        refine mv_aload_n (pc := 93) (i := 0) 2 dX9_takesMember_93 rfl rfl ?_
        refine mv_getI (pc := 94) (i := 0) dX9_takesMember_94 flX9_97 lm_0 rfl ?_
        refine mv_iast (pc := 97) (i := 1) dX9_takesMember_97 lm_1 (fun M11 => ?_)
        refine mv_aload_n (pc := 98) (i := 0) 2 dX9_takesMember_98 rfl rfl ?_
        refine mv_bipush (pc := 99) dX9_takesMember_99 kcb44 ?_
        refine mv_callVi (pc := 101) (As := [.int (44 : Int32)]) (st := []) (i := 0) dX9_takesMember_101 mlX9_104 vmX9_takes ⟨Nat.le_of_ble_eq_true rfl, Nat.le_of_ble_eq_true rfl⟩ lm_0 rfl rfl (Nat.le_of_ble_eq_true rfl) (ctX9_takes x.2.1 D cA ad F M11 (44 : Int32)) (fun v13 M12 => ?_)
        refine mv_if_eq (pc := 104) (tgt := 117) dX9_takesMember_104 (by decide) ?_ ?_
        · refine mv_iconst (pc := 117) dX9_takesMember_117 kci0 ?_
          exact mv_zreturn (pc := 118) dX9_takesMember_118 rfl
        · refine mv_aload_n (pc := 107) (i := 0) 2 dX9_takesMember_107 rfl rfl ?_
          refine mv_iconst (pc := 108) dX9_takesMember_108 kci1 ?_
          refine mv_bipush (pc := 109) dX9_takesMember_109 kcb9 ?_
          refine mv_callVi (pc := 111) (As := [.int (1 : Int32), .int (9 : Int32)]) (st := []) (i := 0) dX9_takesMember_111 mlX9_107 vmX9_takesNumber ⟨Nat.le_of_ble_eq_true rfl, Nat.le_of_ble_eq_true rfl⟩ lm_0 rfl rfl (Nat.le_of_ble_eq_true rfl) (ctX9_takesNumber x.2.1 D cA ad F M12 (1 : Int32) (9 : Int32)) (fun v15 M14 => ?_)
          refine mv_if_ne (pc := 114) (tgt := 119) dX9_takesMember_114 (by decide) ?_ ?_
          · refine mv_aload_n (pc := 119) (i := 0) 2 dX9_takesMember_119 rfl rfl ?_
            refine mv_getR (pc := 120) (i := 0) (j := 1) dX9_takesMember_120 flX9_7 lm_0 rfl ?_
            refine mv_bipush (pc := 123) dX9_takesMember_123 kcb118 ?_
            refine mv_iload_n (pc := 125) (i := 2) 0 dX9_takesMember_125 rfl rfl ?_
            refine mv_iadd (pc := 126) dX9_takesMember_126 ?_
            refine mv_aload_n (pc := 127) (i := 0) 2 dX9_takesMember_127 rfl rfl ?_
            refine mv_getI (pc := 128) (i := 0) dX9_takesMember_128 flX9_97 lm_0 rfl ?_
            refine mv_iast (pc := 131) (i := 1) dX9_takesMember_131 lm_1 (fun M16 => ?_)
            refine mv_iconst (pc := 132) dX9_takesMember_132 kci0 ?_
            refine mv_istore_n (pc := 133) (i := 3) (ls' := [(2, .int v6), (1, .int v5), (0, .ref (ad 0))]) dX9_takesMember_133 rfl (Nat.le_of_ble_eq_true rfl) rfl (fun v17 => ?_)
            refine mv_jp (pj := 210) (lj := fun (s18 : Int32 × mv_M) => [(0, .ref (ad 0)), (2, .int v6), (3, .int s18.1)]) (sj := fun (s18 : Int32 × mv_M) => []) (Mj := fun (s18 : Int32 × mv_M) => s18.2) ?_ ?_
            · intro s18
              refine mv_aload_n (pc := 210) (i := 0) 0 dX9_takesMember_210 rfl rfl ?_
              refine mv_getR (pc := 211) (i := 0) (j := 1) dX9_takesMember_211 flX9_7 lm_0 rfl ?_
              refine mv_sipush (pc := 214) dX9_takesMember_214 kcs130 ?_
              refine mv_iload_n (pc := 217) (i := 2) 1 dX9_takesMember_217 rfl rfl ?_
              refine mv_iadd (pc := 218) dX9_takesMember_218 ?_
              refine mv_iload_n (pc := 219) (i := 3) 2 dX9_takesMember_219 rfl rfl ?_
              refine mv_iast (pc := 220) (i := 1) dX9_takesMember_220 lm_1 (fun M20 => ?_)
              refine mv_aload_n (pc := 221) (i := 0) 0 dX9_takesMember_221 rfl rfl ?_
              refine mv_getR (pc := 222) (i := 0) (j := 1) dX9_takesMember_222 flX9_7 lm_0 rfl ?_
              refine mv_bipush (pc := 225) dX9_takesMember_225 kcb84 ?_
              refine mv_dup2 (pc := 227) dX9_takesMember_227 rfl rfl ?_
              refine mv_iald (pc := 228) (i := 1) dX9_takesMember_228 lm_1 ?_
              refine mv_iconst (pc := 229) dX9_takesMember_229 kci1 ?_
              refine mv_iadd (pc := 230) dX9_takesMember_230 ?_
              refine mv_iast (pc := 231) (i := 1) dX9_takesMember_231 lm_1 (fun M21 => ?_)
              refine mv_aload_n (pc := 232) (i := 0) 0 dX9_takesMember_232 rfl rfl ?_
              refine mv_bipush (pc := 233) dX9_takesMember_233 kcb59 ?_
              refine mv_callVi (pc := 235) (As := [.int (59 : Int32)]) (st := []) (i := 0) dX9_takesMember_235 mlX9_104 vmX9_takes ⟨Nat.le_of_ble_eq_true rfl, Nat.le_of_ble_eq_true rfl⟩ lm_0 rfl rfl (Nat.le_of_ble_eq_true rfl) (ctX9_takes x.2.1 D cA ad F M21 (59 : Int32)) (fun v23 M22 => ?_)
              exact mv_zreturn (pc := 238) dX9_takesMember_238 rfl
            · intro j19 hj19
              refine mv_sub [3, 2, 1, 0] rfl ?_
              refine mv_loop (pc := 134) (lj := fun (s24 : Int32 × mv_M) => [(0, .ref (ad 0)), (1, .int v5), (2, .int v6), (3, .int s24.1)]) (Mj := fun (s24 : Int32 × mv_M) => s24.2) (B := bX9_takesMember_134 v5 j19 F v6) ?_ F (v17, M16)
              intro f25 hf25 s24
              unfold bX9_takesMember_134
              refine mv_iload_n (pc := 134) (i := 1) 1 dX9_takesMember_134 rfl rfl ?_
              refine mv_iconst (pc := 135) dX9_takesMember_135 kci4 ?_
              refine mv_icmp_lt (pc := 136) (tgt := 210) dX9_takesMember_136 (by decide) ?_ ?_
              · refine mv_sub [0, 2, 3] rfl ?_
                exact hj19 (s24.1, s24.2)
              · refine mv_iload_n (pc := 139) (i := 3) 3 dX9_takesMember_139 rfl rfl ?_
                refine mv_iconst (pc := 140) dX9_takesMember_140 kci2 ?_
                refine mv_icmp_ge (pc := 141) (tgt := 210) dX9_takesMember_141 (by decide) ?_ ?_
                · refine mv_sub [0, 2, 3] rfl ?_
                  exact hj19 (s24.1, s24.2)
                · refine mv_iload_n (pc := 144) (i := 3) 3 dX9_takesMember_144 rfl rfl ?_
                  refine mv_if_eq (pc := 145) (tgt := 157) dX9_takesMember_145 (by decide) ?_ ?_
                  · refine mv_aload_n (pc := 157) (i := 0) 0 dX9_takesMember_157 rfl rfl ?_
                    refine mv_bipush (pc := 158) dX9_takesMember_158 kcb44 ?_
                    refine mv_callVi (pc := 160) (As := [.int (44 : Int32)]) (st := []) (i := 0) dX9_takesMember_160 mlX9_104 vmX9_takes ⟨Nat.le_of_ble_eq_true rfl, Nat.le_of_ble_eq_true rfl⟩ lm_0 rfl rfl (Nat.le_of_ble_eq_true rfl) (ctX9_takes x.2.1 D cA ad F s24.2 (44 : Int32)) (fun v27 M26 => ?_)
                    refine mv_if_eq (pc := 163) (tgt := 183) dX9_takesMember_163 (by decide) ?_ ?_
                    · refine mv_iconst (pc := 183) dX9_takesMember_183 kci0 ?_
                      exact mv_zreturn (pc := 184) dX9_takesMember_184 rfl
                    · refine mv_aload_n (pc := 166) (i := 0) 0 dX9_takesMember_166 rfl rfl ?_
                      refine mv_iconst (pc := 167) dX9_takesMember_167 kci0 ?_
                      refine mv_aload_n (pc := 168) (i := 0) 0 dX9_takesMember_168 rfl rfl ?_
                      refine mv_getR (pc := 169) (i := 0) (j := 1) dX9_takesMember_169 flX9_7 lm_0 rfl ?_
                      refine mv_bipush (pc := 172) dX9_takesMember_172 kcb83 ?_
                      refine mv_iald (pc := 174) (i := 1) dX9_takesMember_174 lm_1 ?_
                      refine mv_iconst (pc := 175) dX9_takesMember_175 kci1 ?_
                      refine mv_isub (pc := 176) dX9_takesMember_176 ?_
                      refine mv_callVi (pc := 177) (As := [.int (0 : Int32), .int ((M26.1 1 (83 : Int32).toNatClampNeg) - (1 : Int32))]) (st := []) (i := 0) dX9_takesMember_177 mlX9_107 vmX9_takesNumber ⟨Nat.le_of_ble_eq_true rfl, Nat.le_of_ble_eq_true rfl⟩ lm_0 rfl rfl (Nat.le_of_ble_eq_true rfl) (ctX9_takesNumber x.2.1 D cA ad F M26 (0 : Int32) ((M26.1 1 (83 : Int32).toNatClampNeg) - (1 : Int32))) (fun v29 M28 => ?_)
                      refine mv_if_ne (pc := 180) (tgt := 185) dX9_takesMember_180 (by decide) ?_ ?_
                      · refine mv_aload_n (pc := 185) (i := 0) 0 dX9_takesMember_185 rfl rfl ?_
                        refine mv_getR (pc := 186) (i := 0) (j := 1) dX9_takesMember_186 flX9_7 lm_0 rfl ?_
                        refine mv_sipush (pc := 189) dX9_takesMember_189 kcs142 ?_
                        refine mv_bipush (pc := 192) dX9_takesMember_192 kcb12 ?_
                        refine mv_iload_n (pc := 194) (i := 3) 3 dX9_takesMember_194 rfl rfl ?_
                        refine mv_imul (pc := 195) dX9_takesMember_195 ?_
                        refine mv_iadd (pc := 196) dX9_takesMember_196 ?_
                        refine mv_iload_n (pc := 197) (i := 2) 2 dX9_takesMember_197 rfl rfl ?_
                        refine mv_iadd (pc := 198) dX9_takesMember_198 ?_
                        refine mv_aload_n (pc := 199) (i := 0) 0 dX9_takesMember_199 rfl rfl ?_
                        refine mv_getI (pc := 200) (i := 0) dX9_takesMember_200 flX9_97 lm_0 rfl ?_
                        refine mv_iast (pc := 203) (i := 1) dX9_takesMember_203 lm_1 (fun M30 => ?_)
                        refine mv_iinc (pc := 204) (i := 3) (ls' := [(0, .ref (ad 0)), (1, .int v5), (2, .int v6)]) 3 dX9_takesMember_204 rfl kci1 (Nat.le_of_ble_eq_true rfl) rfl (fun v31 => ?_)
                        refine mv_goto (pc := 207) (tgt := 134) dX9_takesMember_207 (by decide) ?_
                        refine mv_sub [1, 2, 3, 0] rfl ?_
                        exact hf25 (v31, M30)
                      · refine mv_iconst (pc := 183) dX9_takesMember_183 kci0 ?_
                        exact mv_zreturn (pc := 184) dX9_takesMember_184 rfl
                  · refine mv_aload_n (pc := 148) (i := 0) 0 dX9_takesMember_148 rfl rfl ?_
                    refine mv_callVi (pc := 149) (As := []) (st := []) (i := 0) dX9_takesMember_149 mlX9_89 vmX9_here ⟨Nat.le_of_ble_eq_true rfl, Nat.le_of_ble_eq_true rfl⟩ lm_0 rfl rfl (Nat.le_of_ble_eq_true rfl) (ctX9_here x.2.1 D cA ad F s24.2) (fun v33 M32 => ?_)
                    refine mv_bipush (pc := 152) dX9_takesMember_152 kcb44 ?_
                    refine mv_icmp_ne (pc := 154) (tgt := 210) dX9_takesMember_154 (by decide) ?_ ?_
                    · refine mv_sub [0, 2, 3] rfl ?_
                      exact hj19 (s24.1, M32)
                    · refine mv_aload_n (pc := 157) (i := 0) 0 dX9_takesMember_157 rfl rfl ?_
                      refine mv_bipush (pc := 158) dX9_takesMember_158 kcb44 ?_
                      refine mv_callVi (pc := 160) (As := [.int (44 : Int32)]) (st := []) (i := 0) dX9_takesMember_160 mlX9_104 vmX9_takes ⟨Nat.le_of_ble_eq_true rfl, Nat.le_of_ble_eq_true rfl⟩ lm_0 rfl rfl (Nat.le_of_ble_eq_true rfl) (ctX9_takes x.2.1 D cA ad F M32 (44 : Int32)) (fun v35 M34 => ?_)
                      refine mv_if_eq (pc := 163) (tgt := 183) dX9_takesMember_163 (by decide) ?_ ?_
                      · refine mv_iconst (pc := 183) dX9_takesMember_183 kci0 ?_
                        exact mv_zreturn (pc := 184) dX9_takesMember_184 rfl
                      · refine mv_aload_n (pc := 166) (i := 0) 0 dX9_takesMember_166 rfl rfl ?_
                        refine mv_iconst (pc := 167) dX9_takesMember_167 kci0 ?_
                        refine mv_aload_n (pc := 168) (i := 0) 0 dX9_takesMember_168 rfl rfl ?_
                        refine mv_getR (pc := 169) (i := 0) (j := 1) dX9_takesMember_169 flX9_7 lm_0 rfl ?_
                        refine mv_bipush (pc := 172) dX9_takesMember_172 kcb83 ?_
                        refine mv_iald (pc := 174) (i := 1) dX9_takesMember_174 lm_1 ?_
                        refine mv_iconst (pc := 175) dX9_takesMember_175 kci1 ?_
                        refine mv_isub (pc := 176) dX9_takesMember_176 ?_
                        refine mv_callVi (pc := 177) (As := [.int (0 : Int32), .int ((M34.1 1 (83 : Int32).toNatClampNeg) - (1 : Int32))]) (st := []) (i := 0) dX9_takesMember_177 mlX9_107 vmX9_takesNumber ⟨Nat.le_of_ble_eq_true rfl, Nat.le_of_ble_eq_true rfl⟩ lm_0 rfl rfl (Nat.le_of_ble_eq_true rfl) (ctX9_takesNumber x.2.1 D cA ad F M34 (0 : Int32) ((M34.1 1 (83 : Int32).toNatClampNeg) - (1 : Int32))) (fun v37 M36 => ?_)
                        refine mv_if_ne (pc := 180) (tgt := 185) dX9_takesMember_180 (by decide) ?_ ?_
                        · refine mv_aload_n (pc := 185) (i := 0) 0 dX9_takesMember_185 rfl rfl ?_
                          refine mv_getR (pc := 186) (i := 0) (j := 1) dX9_takesMember_186 flX9_7 lm_0 rfl ?_
                          refine mv_sipush (pc := 189) dX9_takesMember_189 kcs142 ?_
                          refine mv_bipush (pc := 192) dX9_takesMember_192 kcb12 ?_
                          refine mv_iload_n (pc := 194) (i := 3) 3 dX9_takesMember_194 rfl rfl ?_
                          refine mv_imul (pc := 195) dX9_takesMember_195 ?_
                          refine mv_iadd (pc := 196) dX9_takesMember_196 ?_
                          refine mv_iload_n (pc := 197) (i := 2) 2 dX9_takesMember_197 rfl rfl ?_
                          refine mv_iadd (pc := 198) dX9_takesMember_198 ?_
                          refine mv_aload_n (pc := 199) (i := 0) 0 dX9_takesMember_199 rfl rfl ?_
                          refine mv_getI (pc := 200) (i := 0) dX9_takesMember_200 flX9_97 lm_0 rfl ?_
                          refine mv_iast (pc := 203) (i := 1) dX9_takesMember_203 lm_1 (fun M38 => ?_)
                          refine mv_iinc (pc := 204) (i := 3) (ls' := [(0, .ref (ad 0)), (1, .int v5), (2, .int v6)]) 3 dX9_takesMember_204 rfl kci1 (Nat.le_of_ble_eq_true rfl) rfl (fun v39 => ?_)
                          refine mv_goto (pc := 207) (tgt := 134) dX9_takesMember_207 (by decide) ?_
                          refine mv_sub [1, 2, 3, 0] rfl ?_
                          exact hf25 (v39, M38)
                        · refine mv_iconst (pc := 183) dX9_takesMember_183 kci0 ?_
                          exact mv_zreturn (pc := 184) dX9_takesMember_184 rfl
          · refine mv_iconst (pc := 117) dX9_takesMember_117 kci0 ?_
            exact mv_zreturn (pc := 118) dX9_takesMember_118 rfl
      · refine mv_iconst (pc := 83) dX9_takesMember_83 kci0 ?_
        exact mv_zreturn (pc := 84) dX9_takesMember_84 rfl
    · refine mv_aload_n (pc := 36) (i := 0) 2 dX9_takesMember_36 rfl rfl ?_
      refine mv_iconst (pc := 37) dX9_takesMember_37 kci3 ?_
      refine mv_aload_n (pc := 38) (i := 0) 2 dX9_takesMember_38 rfl rfl ?_
      refine mv_getI (pc := 39) (i := 0) dX9_takesMember_39 flX9_80 lm_0 rfl ?_
      refine mv_callVi (pc := 42) (As := [.int (3 : Int32), .int (M3.1 0 10)]) (st := []) (i := 0) dX9_takesMember_42 mlX9_93 vmX9_fails ⟨Nat.le_of_ble_eq_true rfl, Nat.le_of_ble_eq_true rfl⟩ lm_0 rfl rfl (Nat.le_of_ble_eq_true rfl) (ctX9_fails x.2.1 D cA ad F M3 (3 : Int32) (M3.1 0 10)) (fun v41 M40 => ?_)
      exact mv_zreturn (pc := 45) dX9_takesMember_45 rfl
  · refine mv_aload_n (pc := 12) (i := 0) 1 dX9_takesMember_12 rfl rfl ?_
    refine mv_iconst (pc := 13) dX9_takesMember_13 kci1 ?_
    refine mv_aload_n (pc := 14) (i := 0) 1 dX9_takesMember_14 rfl rfl ?_
    refine mv_getI (pc := 15) (i := 0) dX9_takesMember_15 flX9_80 lm_0 rfl ?_
    refine mv_callVi (pc := 18) (As := [.int (1 : Int32), .int (M3.1 0 10)]) (st := []) (i := 0) dX9_takesMember_18 mlX9_93 vmX9_fails ⟨Nat.le_of_ble_eq_true rfl, Nat.le_of_ble_eq_true rfl⟩ lm_0 rfl rfl (Nat.le_of_ble_eq_true rfl) (ctX9_fails x.2.1 D cA ad F M3 (1 : Int32) (M3.1 0 10)) (fun v43 M42 => ?_)
    exact mv_zreturn (pc := 21) dX9_takesMember_21 rfl

set_option maxRecDepth 100000 in
set_option maxHeartbeats 4000000 in
theorem ctX9_takesType (l : Launch) (D : va_G) (cA : Nat → ClassId) (ad : Nat → Nat) (F : Nat) (M : mv_M) (a1 : Int32) : mv_C l (D, cA, ad, LM) yX9_takesType iX9_takesType mv_ri [.ref (ad 0), .int a1] M (fX9_takesType F M a1) := by
  refine mv_C.ofV (ls := [(0, .ref (ad 0)), (1, .int a1)]) (by decide) rfl (Nat.le_of_ble_eq_true rfl) rfl ?_
  intro x hxl
  subst hxl
  unfold fX9_takesType
  refine mv_aload_n (pc := 0) (i := 0) 0 dX9_takesType_0 rfl rfl ?_
  refine mv_bipush (pc := 1) dX9_takesType_1 kcb117 ?_
  refine mv_callVi (pc := 3) (As := [.int (117 : Int32)]) (st := []) (i := 0) dX9_takesType_3 mlX9_104 vmX9_takes ⟨Nat.le_of_ble_eq_true rfl, Nat.le_of_ble_eq_true rfl⟩ lm_0 rfl rfl (Nat.le_of_ble_eq_true rfl) (ctX9_takes x.2.1 D cA ad F M (117 : Int32)) (fun v2 M1 => ?_)
  refine mv_if_eq (pc := 6) (tgt := 18) dX9_takesType_6 (by decide) ?_ ?_
  · refine mv_iconst (pc := 18) dX9_takesType_18 kci0 ?_
    exact mv_zreturn (pc := 19) dX9_takesType_19 rfl
  · refine mv_aload_n (pc := 9) (i := 0) 0 dX9_takesType_9 rfl rfl ?_
    refine mv_iconst (pc := 10) dX9_takesType_10 kci0 ?_
    refine mv_iload_n (pc := 11) (i := 1) 1 dX9_takesType_11 rfl rfl ?_
    refine mv_callVi (pc := 12) (As := [.int (0 : Int32), .int a1]) (st := []) (i := 0) dX9_takesType_12 mlX9_107 vmX9_takesNumber ⟨Nat.le_of_ble_eq_true rfl, Nat.le_of_ble_eq_true rfl⟩ lm_0 rfl rfl (Nat.le_of_ble_eq_true rfl) (ctX9_takesNumber x.2.1 D cA ad F M1 (0 : Int32) a1) (fun v4 M3 => ?_)
    refine mv_if_ne (pc := 15) (tgt := 20) dX9_takesType_15 (by decide) ?_ ?_
    · refine mv_aload_n (pc := 20) (i := 0) 0 dX9_takesType_20 rfl rfl ?_
      refine mv_getR (pc := 21) (i := 0) (j := 1) dX9_takesType_21 flX9_7 lm_0 rfl ?_
      refine mv_bipush (pc := 24) dX9_takesType_24 kcb86 ?_
      refine mv_iload_n (pc := 26) (i := 1) 1 dX9_takesType_26 rfl rfl ?_
      refine mv_iadd (pc := 27) dX9_takesType_27 ?_
      refine mv_aload_n (pc := 28) (i := 0) 0 dX9_takesType_28 rfl rfl ?_
      refine mv_getI (pc := 29) (i := 0) dX9_takesType_29 flX9_97 lm_0 rfl ?_
      refine mv_iast (pc := 32) (i := 1) dX9_takesType_32 lm_1 (fun M5 => ?_)
      refine mv_aload_n (pc := 33) (i := 0) 0 dX9_takesType_33 rfl rfl ?_
      refine mv_bipush (pc := 34) dX9_takesType_34 kcb59 ?_
      refine mv_callVi (pc := 36) (As := [.int (59 : Int32)]) (st := []) (i := 0) dX9_takesType_36 mlX9_104 vmX9_takes ⟨Nat.le_of_ble_eq_true rfl, Nat.le_of_ble_eq_true rfl⟩ lm_0 rfl rfl (Nat.le_of_ble_eq_true rfl) (ctX9_takes x.2.1 D cA ad F M5 (59 : Int32)) (fun v7 M6 => ?_)
      exact mv_zreturn (pc := 39) dX9_takesType_39 rfl
    · refine mv_iconst (pc := 18) dX9_takesType_18 kci0 ?_
      exact mv_zreturn (pc := 19) dX9_takesType_19 rfl

set_option maxRecDepth 100000 in
set_option maxHeartbeats 4000000 in
theorem ctX9_takesAll (l : Launch) (D : va_G) (cA : Nat → ClassId) (ad : Nat → Nat) (F : Nat) (M : mv_M) : mv_C l (D, cA, ad, LM) yX9_takesAll iX9_takesAll mv_ri [.ref (ad 0)] M (fX9_takesAll F M) := by
  refine mv_C.ofV (ls := [(0, .ref (ad 0))]) (by decide) rfl (Nat.le_of_ble_eq_true rfl) rfl ?_
  intro x hxl
  subst hxl
  unfold fX9_takesAll
  refine mv_aload_n (pc := 0) (i := 0) 0 dX9_takesAll_0 rfl rfl ?_
  refine mv_callVi (pc := 1) (As := []) (st := []) (i := 0) dX9_takesAll_1 mlX9_113 vmX9_takesLaw ⟨Nat.le_of_ble_eq_true rfl, Nat.le_of_ble_eq_true rfl⟩ lm_0 rfl rfl (Nat.le_of_ble_eq_true rfl) (ctX9_takesLaw x.2.1 D cA ad F M) (fun v2 M1 => ?_)
  refine mv_if_ne (pc := 4) (tgt := 9) dX9_takesAll_4 (by decide) ?_ ?_
  · refine mv_iconst (pc := 9) dX9_takesAll_9 kci0 ?_
    refine mv_istore_n (pc := 10) (i := 1) (ls' := [(0, .ref (ad 0))]) dX9_takesAll_10 rfl (Nat.le_of_ble_eq_true rfl) rfl (fun v3 => ?_)
    refine mv_jp (pj := 38) (lj := fun (s4 : mv_M) => [(0, .ref (ad 0))]) (sj := fun (s4 : mv_M) => []) (Mj := fun (s4 : mv_M) => s4) ?_ ?_
    · intro s4
      refine mv_loop (pc := 38) (lj := fun (s6 : mv_M) => [(0, .ref (ad 0))]) (Mj := fun (s6 : mv_M) => s6) (B := bX9_takesAll_38 F) ?_ F s4
      intro f7 hf7 s6
      unfold bX9_takesAll_38
      refine mv_aload_n (pc := 38) (i := 0) 0 dX9_takesAll_38 rfl rfl ?_
      refine mv_getR (pc := 39) (i := 0) (j := 1) dX9_takesAll_39 flX9_7 lm_0 rfl ?_
      refine mv_bipush (pc := 42) dX9_takesAll_42 kcb84 ?_
      refine mv_iald (pc := 44) (i := 1) dX9_takesAll_44 lm_1 ?_
      refine mv_if_eq (pc := 45) (tgt := 59) dX9_takesAll_45 (by decide) ?_ ?_
      · refine mv_aload_n (pc := 59) (i := 0) 0 dX9_takesAll_59 rfl rfl ?_
        refine mv_callVi (pc := 60) (As := []) (st := []) (i := 0) dX9_takesAll_60 mlX9_120 vmX9_takesMember ⟨Nat.le_of_ble_eq_true rfl, Nat.le_of_ble_eq_true rfl⟩ lm_0 rfl rfl (Nat.le_of_ble_eq_true rfl) (ctX9_takesMember x.2.1 D cA ad F s6) (fun v9 M8 => ?_)
        refine mv_if_ne (pc := 63) (tgt := 38) dX9_takesAll_63 (by decide) ?_ ?_
        · exact hf7 M8
        · refine mv_iconst (pc := 66) dX9_takesAll_66 kci0 ?_
          exact mv_zreturn (pc := 67) dX9_takesAll_67 rfl
      · refine mv_aload_n (pc := 48) (i := 0) 0 dX9_takesAll_48 rfl rfl ?_
        refine mv_getI (pc := 49) (i := 0) dX9_takesAll_49 flX9_80 lm_0 rfl ?_
        refine mv_aload_n (pc := 52) (i := 0) 0 dX9_takesAll_52 rfl rfl ?_
        refine mv_getI (pc := 53) (i := 0) dX9_takesAll_53 flX9_76 lm_0 rfl ?_
        refine mv_icmp_ge (pc := 56) (tgt := 68) dX9_takesAll_56 (by decide) ?_ ?_
        · refine mv_iconst (pc := 68) dX9_takesAll_68 kci1 ?_
          exact mv_zreturn (pc := 69) dX9_takesAll_69 rfl
        · refine mv_aload_n (pc := 59) (i := 0) 0 dX9_takesAll_59 rfl rfl ?_
          refine mv_callVi (pc := 60) (As := []) (st := []) (i := 0) dX9_takesAll_60 mlX9_120 vmX9_takesMember ⟨Nat.le_of_ble_eq_true rfl, Nat.le_of_ble_eq_true rfl⟩ lm_0 rfl rfl (Nat.le_of_ble_eq_true rfl) (ctX9_takesMember x.2.1 D cA ad F s6) (fun v11 M10 => ?_)
          refine mv_if_ne (pc := 63) (tgt := 38) dX9_takesAll_63 (by decide) ?_ ?_
          · exact hf7 M10
          · refine mv_iconst (pc := 66) dX9_takesAll_66 kci0 ?_
            exact mv_zreturn (pc := 67) dX9_takesAll_67 rfl
    · intro j5 hj5
      refine mv_sub [1, 0] rfl ?_
      refine mv_loop (pc := 11) (lj := fun (s12 : Int32 × mv_M) => [(0, .ref (ad 0)), (1, .int s12.1)]) (Mj := fun (s12 : Int32 × mv_M) => s12.2) (B := bX9_takesAll_11 j5 F) ?_ F (v3, M1)
      intro f13 hf13 s12
      unfold bX9_takesAll_11
      refine mv_iload_n (pc := 11) (i := 1) 1 dX9_takesAll_11 rfl rfl ?_
      refine mv_aload_n (pc := 12) (i := 0) 0 dX9_takesAll_12 rfl rfl ?_
      refine mv_getR (pc := 13) (i := 0) (j := 1) dX9_takesAll_13 flX9_7 lm_0 rfl ?_
      refine mv_bipush (pc := 16) dX9_takesAll_16 kcb83 ?_
      refine mv_iald (pc := 18) (i := 1) dX9_takesAll_18 lm_1 ?_
      refine mv_icmp_ge (pc := 19) (tgt := 38) dX9_takesAll_19 (by decide) ?_ ?_
      · refine mv_sub [0] rfl ?_
        exact hj5 (s12.2)
      · refine mv_aload_n (pc := 22) (i := 0) 0 dX9_takesAll_22 rfl rfl ?_
        refine mv_iload_n (pc := 23) (i := 1) 1 dX9_takesAll_23 rfl rfl ?_
        refine mv_callVi (pc := 24) (As := [.int s12.1]) (st := []) (i := 0) dX9_takesAll_24 mlX9_117 vmX9_takesType ⟨Nat.le_of_ble_eq_true rfl, Nat.le_of_ble_eq_true rfl⟩ lm_0 rfl rfl (Nat.le_of_ble_eq_true rfl) (ctX9_takesType x.2.1 D cA ad F s12.2 s12.1) (fun v15 M14 => ?_)
        refine mv_if_ne (pc := 27) (tgt := 32) dX9_takesAll_27 (by decide) ?_ ?_
        · refine mv_iinc (pc := 32) (i := 1) (ls' := [(0, .ref (ad 0))]) 1 dX9_takesAll_32 rfl kci1 (Nat.le_of_ble_eq_true rfl) rfl (fun v16 => ?_)
          refine mv_goto (pc := 35) (tgt := 11) dX9_takesAll_35 (by decide) ?_
          refine mv_sub [1, 0] rfl ?_
          exact hf13 (v16, M14)
        · refine mv_iconst (pc := 30) dX9_takesAll_30 kci0 ?_
          exact mv_zreturn (pc := 31) dX9_takesAll_31 rfl
  · refine mv_iconst (pc := 7) dX9_takesAll_7 kci0 ?_
    exact mv_zreturn (pc := 8) dX9_takesAll_8 rfl

set_option maxRecDepth 100000 in
set_option maxHeartbeats 4000000 in
theorem ctX9_copyOf (l : Launch) (D : va_G) (cA : Nat → ClassId) (ad : Nat → Nat) (F : Nat) (M : mv_M) (a1 : Int32) (a2 : Int32) : mv_C l (D, cA, ad, LM) yX9_copyOf iX9_copyOf mv_rv [.ref (ad 0), .int a1, .int a2] M (fX9_copyOf F M a1 a2) := by
  refine mv_C.ofV (ls := [(0, .ref (ad 0)), (1, .int a1), (2, .int a2)]) (by decide) rfl (Nat.le_of_ble_eq_true rfl) rfl ?_
  intro x hxl
  subst hxl
  unfold fX9_copyOf
  refine mv_iconst (pc := 0) dX9_copyOf_0 kci0 ?_
  refine mv_istore_n (pc := 1) (i := 3) (ls' := [(0, .ref (ad 0)), (1, .int a1), (2, .int a2)]) dX9_copyOf_1 rfl (Nat.le_of_ble_eq_true rfl) rfl (fun v1 => ?_)
  refine mv_sub [1, 2, 3, 0] rfl ?_
  refine mv_loop (pc := 2) (lj := fun (s2 : Int32 × mv_M) => [(0, .ref (ad 0)), (1, .int a1), (2, .int a2), (3, .int s2.1)]) (Mj := fun (s2 : Int32 × mv_M) => s2.2) (B := bX9_copyOf_2 a1 a2) ?_ F (v1, M)
  intro f3 hf3 s2
  unfold bX9_copyOf_2
  refine mv_iload_n (pc := 2) (i := 3) 3 dX9_copyOf_2 rfl rfl ?_
  refine mv_bipush (pc := 3) dX9_copyOf_3 kcb83 ?_
  refine mv_icmp_ge (pc := 5) (tgt := 30) dX9_copyOf_5 (by decide) ?_ ?_
  · exact mv_return (pc := 30) dX9_copyOf_30 rfl
  · refine mv_aload_n (pc := 8) (i := 0) 0 dX9_copyOf_8 rfl rfl ?_
    refine mv_getR (pc := 9) (i := 0) (j := 1) dX9_copyOf_9 flX9_7 lm_0 rfl ?_
    refine mv_iload_n (pc := 12) (i := 2) 2 dX9_copyOf_12 rfl rfl ?_
    refine mv_iload_n (pc := 13) (i := 3) 3 dX9_copyOf_13 rfl rfl ?_
    refine mv_iadd (pc := 14) dX9_copyOf_14 ?_
    refine mv_aload_n (pc := 15) (i := 0) 0 dX9_copyOf_15 rfl rfl ?_
    refine mv_getR (pc := 16) (i := 0) (j := 1) dX9_copyOf_16 flX9_7 lm_0 rfl ?_
    refine mv_iload_n (pc := 19) (i := 1) 1 dX9_copyOf_19 rfl rfl ?_
    refine mv_iload_n (pc := 20) (i := 3) 3 dX9_copyOf_20 rfl rfl ?_
    refine mv_iadd (pc := 21) dX9_copyOf_21 ?_
    refine mv_iald (pc := 22) (i := 1) dX9_copyOf_22 lm_1 ?_
    refine mv_iast (pc := 23) (i := 1) dX9_copyOf_23 lm_1 (fun M4 => ?_)
    refine mv_iinc (pc := 24) (i := 3) (ls' := [(0, .ref (ad 0)), (1, .int a1), (2, .int a2)]) 3 dX9_copyOf_24 rfl kci1 (Nat.le_of_ble_eq_true rfl) rfl (fun v5 => ?_)
    refine mv_goto (pc := 27) (tgt := 2) dX9_copyOf_27 (by decide) ?_
    refine mv_sub [1, 2, 3, 0] rfl ?_
    exact hf3 (v5, M4)

set_option maxRecDepth 100000 in
set_option maxHeartbeats 4000000 in
theorem ctX9_world (l : Launch) (D : va_G) (cA : Nat → ClassId) (ad : Nat → Nat) (F : Nat) (M : mv_M) : mv_C l (D, cA, ad, LM) yX9_world iX9_world mv_ri [.ref (ad 0)] M (fX9_world F M) := by
  refine mv_C.ofV (ls := [(0, .ref (ad 0))]) (by decide) rfl (Nat.le_of_ble_eq_true rfl) rfl ?_
  intro x hxl
  subst hxl
  unfold fX9_world
  refine mv_iconst (pc := 0) dX9_world_0 kci0 ?_
  refine mv_istore_n (pc := 1) (i := 1) (ls' := [(0, .ref (ad 0))]) dX9_world_1 rfl (Nat.le_of_ble_eq_true rfl) rfl (fun v1 => ?_)
  refine mv_jp (pj := 24) (lj := fun (s2 : mv_M) => [(0, .ref (ad 0))]) (sj := fun (s2 : mv_M) => []) (Mj := fun (s2 : mv_M) => s2) ?_ ?_
  · intro s2
    refine mv_aload_n (pc := 24) (i := 0) 0 dX9_world_24 rfl rfl ?_
    refine mv_iconst (pc := 25) dX9_world_25 kci0 ?_
    refine mv_putI (pc := 26) (i := 0) dX9_world_26 flX9_80 (Or.inl fpX9_10) lm_0 rfl (fun M4 => ?_)
    refine mv_aload_n (pc := 29) (i := 0) 0 dX9_world_29 rfl rfl ?_
    refine mv_callVi (pc := 30) (As := []) (st := []) (i := 0) dX9_world_30 mlX9_123 vmX9_takesAll ⟨Nat.le_of_ble_eq_true rfl, Nat.le_of_ble_eq_true rfl⟩ lm_0 rfl rfl (Nat.le_of_ble_eq_true rfl) (ctX9_takesAll x.2.1 D cA ad F M4) (fun v6 M5 => ?_)
    refine mv_istore_n (pc := 33) (i := 1) (ls' := [(0, .ref (ad 0))]) dX9_world_33 rfl (Nat.le_of_ble_eq_true rfl) rfl (fun v7 => ?_)
    refine mv_aload_n (pc := 34) (i := 0) 1 dX9_world_34 rfl rfl ?_
    refine mv_iconst (pc := 35) dX9_world_35 kci0 ?_
    refine mv_putI (pc := 36) (i := 0) dX9_world_36 flX9_76 (Or.inl fpX9_3) lm_0 rfl (fun M8 => ?_)
    refine mv_iload_n (pc := 39) (i := 1) 0 dX9_world_39 rfl rfl ?_
    refine mv_if_ne (pc := 40) (tgt := 51) dX9_world_40 (by decide) ?_ ?_
    · refine mv_aload_n (pc := 51) (i := 0) 1 dX9_world_51 rfl rfl ?_
      refine mv_bipush (pc := 52) dX9_world_52 kcb83 ?_
      refine mv_iconst (pc := 54) dX9_world_54 kci0 ?_
      refine mv_callVv (pc := 55) (As := [.int (83 : Int32), .int (0 : Int32)]) (st := []) (i := 0) dX9_world_55 mlX9_127 vmX9_copyOf ⟨Nat.le_of_ble_eq_true rfl, Nat.le_of_ble_eq_true rfl⟩ lm_0 rfl rfl (Nat.le_of_ble_eq_true rfl) (ctX9_copyOf x.2.1 D cA ad F M8 (83 : Int32) (0 : Int32)) (fun M9 => ?_)
      refine mv_aload_n (pc := 58) (i := 0) 1 dX9_world_58 rfl rfl ?_
      refine mv_iconst (pc := 59) dX9_world_59 kci0 ?_
      refine mv_putI (pc := 60) (i := 0) dX9_world_60 flX9_131 (Or.inl fpX9_1) lm_0 rfl (fun M10 => ?_)
      refine mv_aload_n (pc := 63) (i := 0) 1 dX9_world_63 rfl rfl ?_
      refine mv_getR (pc := 64) (i := 0) (j := 1) dX9_world_64 flX9_7 lm_0 rfl ?_
      refine mv_iconst (pc := 67) dX9_world_67 kci1 ?_
      refine mv_iald (pc := 68) (i := 1) dX9_world_68 lm_1 ?_
      exact mv_ireturn (pc := 69) dX9_world_69 rfl
    · refine mv_ldc (pc := 43) dX9_world_43 kwX9_126 ?_
      refine mv_aload_n (pc := 45) (i := 0) 1 dX9_world_45 rfl rfl ?_
      refine mv_getI (pc := 46) (i := 0) dX9_world_46 flX9_86 lm_0 rfl ?_
      refine mv_isub (pc := 49) dX9_world_49 ?_
      exact mv_ireturn (pc := 50) dX9_world_50 rfl
  · intro j3 hj3
    refine mv_sub [1, 0] rfl ?_
    refine mv_loop (pc := 2) (lj := fun (s11 : Int32 × mv_M) => [(0, .ref (ad 0)), (1, .int s11.1)]) (Mj := fun (s11 : Int32 × mv_M) => s11.2) (B := bX9_world_2 j3) ?_ F (v1, M)
    intro f12 hf12 s11
    unfold bX9_world_2
    refine mv_iload_n (pc := 2) (i := 1) 1 dX9_world_2 rfl rfl ?_
    refine mv_bipush (pc := 3) dX9_world_3 kcb83 ?_
    refine mv_icmp_ge (pc := 5) (tgt := 24) dX9_world_5 (by decide) ?_ ?_
    · refine mv_sub [0] rfl ?_
      exact hj3 (s11.2)
    · refine mv_aload_n (pc := 8) (i := 0) 0 dX9_world_8 rfl rfl ?_
      refine mv_getR (pc := 9) (i := 0) (j := 1) dX9_world_9 flX9_7 lm_0 rfl ?_
      refine mv_bipush (pc := 12) dX9_world_12 kcb83 ?_
      refine mv_iload_n (pc := 14) (i := 1) 1 dX9_world_14 rfl rfl ?_
      refine mv_iadd (pc := 15) dX9_world_15 ?_
      refine mv_iconst (pc := 16) dX9_world_16 kci0 ?_
      refine mv_iast (pc := 17) (i := 1) dX9_world_17 lm_1 (fun M13 => ?_)
      refine mv_iinc (pc := 18) (i := 1) (ls' := [(0, .ref (ad 0))]) 1 dX9_world_18 rfl kci1 (Nat.le_of_ble_eq_true rfl) rfl (fun v14 => ?_)
      refine mv_goto (pc := 21) (tgt := 2) dX9_world_21 (by decide) ?_
      refine mv_sub [1, 0] rfl ?_
      exact hf12 (v14, M13)

set_option maxRecDepth 100000 in
set_option maxHeartbeats 4000000 in
theorem ctX9_fault (l : Launch) (D : va_G) (cA : Nat → ClassId) (ad : Nat → Nat) (F : Nat) (M : mv_M) : mv_C l (D, cA, ad, LM) yX9_fault iX9_fault mv_ri [.ref (ad 0)] M (fX9_fault F M) := by
  refine mv_C.ofV (ls := [(0, .ref (ad 0))]) (by decide) rfl (Nat.le_of_ble_eq_true rfl) rfl ?_
  intro x hxl
  subst hxl
  unfold fX9_fault
  refine mv_aload_n (pc := 0) (i := 0) 0 dX9_fault_0 rfl rfl ?_
  refine mv_getI (pc := 1) (i := 0) dX9_fault_1 flX9_83 lm_0 rfl ?_
  exact mv_ireturn (pc := 4) dX9_fault_4 rfl

set_option maxRecDepth 100000 in
set_option maxHeartbeats 4000000 in
theorem ctX9_isMember (l : Launch) (D : va_G) (cA : Nat → ClassId) (ad : Nat → Nat) (F : Nat) (M : mv_M) (a1 : Int32) : mv_C l (D, cA, ad, LM) yX9_isMember iX9_isMember mv_ri [.ref (ad 0), .int a1] M (fX9_isMember F M a1) := by
  refine mv_C.ofV (ls := [(0, .ref (ad 0)), (1, .int a1)]) (by decide) rfl (Nat.le_of_ble_eq_true rfl) rfl ?_
  intro x hxl
  subst hxl
  unfold fX9_isMember
  refine mv_iload_n (pc := 0) (i := 1) 1 dX9_isMember_0 rfl rfl ?_
  refine mv_i2l (pc := 1) dX9_isMember_1 ?_
  refine mv_lconst (pc := 2) dX9_isMember_2 (by decide +kernel : Int64.ofNat ((0 : Fin 2) : Nat) = (0 : Int64)) ?_
  refine mv_aload_n (pc := 3) (i := 0) 0 dX9_isMember_3 rfl rfl ?_
  refine mv_getR (pc := 4) (i := 0) (j := 1) dX9_isMember_4 flX9_7 lm_0 rfl ?_
  refine mv_iconst (pc := 7) dX9_isMember_7 kci1 ?_
  refine mv_iald (pc := 8) (i := 1) dX9_isMember_8 lm_1 ?_
  refine mv_iconst (pc := 9) dX9_isMember_9 kci1 ?_
  refine mv_isub (pc := 10) dX9_isMember_10 ?_
  refine mv_i2l (pc := 11) dX9_isMember_11 ?_
  refine mv_callSi (pc := 12) (As := [.long a1.toInt64, .long (0 : Int64), .long (((M.1 1 (1 : Int32).toNatClampNeg) - (1 : Int32)).toInt64)]) (st := []) dX9_isMember_12 mlX9_48 smX9_in ⟨Nat.le_of_ble_eq_true rfl, Nat.le_of_ble_eq_true rfl⟩ rfl (Nat.le_of_ble_eq_true rfl) (ctX9_in x.2.1 D cA ad F M a1.toInt64 (0 : Int64) (((M.1 1 (1 : Int32).toNatClampNeg) - (1 : Int32)).toInt64)) (fun v2 M1 => ?_)
  exact mv_zreturn (pc := 15) dX9_isMember_15 rfl

set_option maxRecDepth 100000 in
set_option maxHeartbeats 4000000 in
theorem ctX9_minds (l : Launch) (D : va_G) (cA : Nat → ClassId) (ad : Nat → Nat) (F : Nat) (M : mv_M) : mv_C l (D, cA, ad, LM) yX9_minds iX9_minds mv_rv [.ref (ad 0)] M (fX9_minds F M) := by
  refine mv_C.ofV (ls := [(0, .ref (ad 0))]) (by decide) rfl (Nat.le_of_ble_eq_true rfl) rfl ?_
  intro x hxl
  subst hxl
  unfold fX9_minds
  refine mv_aload_n (pc := 0) (i := 0) 0 dX9_minds_0 rfl rfl ?_
  refine mv_getI (pc := 1) (i := 0) dX9_minds_1 flX9_131 lm_0 rfl ?_
  refine mv_bipush (pc := 4) dX9_minds_4 kcb24 ?_
  refine mv_jp (pj := 57) (lj := fun (s1 : mv_M) => [(0, .ref (ad 0))]) (sj := fun (s1 : mv_M) => []) (Mj := fun (s1 : mv_M) => s1) ?_ ?_
  · intro s1
    refine mv_aload_n (pc := 57) (i := 0) 0 dX9_minds_57 rfl rfl ?_
    refine mv_iconst (pc := 58) dX9_minds_58 kci0 ?_
    refine mv_sipush (pc := 59) dX9_minds_59 kcs332 ?_
    refine mv_bipush (pc := 62) dX9_minds_62 kcb83 ?_
    refine mv_aload_n (pc := 64) (i := 0) 0 dX9_minds_64 rfl rfl ?_
    refine mv_getI (pc := 65) (i := 0) dX9_minds_65 flX9_131 lm_0 rfl ?_
    refine mv_imul (pc := 68) dX9_minds_68 ?_
    refine mv_iadd (pc := 69) dX9_minds_69 ?_
    refine mv_callVv (pc := 70) (As := [.int (0 : Int32), .int ((332 : Int32) + ((83 : Int32) * (s1.1 0 1)))]) (st := []) (i := 0) dX9_minds_70 mlX9_127 vmX9_copyOf ⟨Nat.le_of_ble_eq_true rfl, Nat.le_of_ble_eq_true rfl⟩ lm_0 rfl rfl (Nat.le_of_ble_eq_true rfl) (ctX9_copyOf x.2.1 D cA ad F s1 (0 : Int32) ((332 : Int32) + ((83 : Int32) * (s1.1 0 1)))) (fun M3 => ?_)
    refine mv_aload_n (pc := 73) (i := 0) 0 dX9_minds_73 rfl rfl ?_
    refine mv_dup (pc := 74) dX9_minds_74 rfl ?_
    refine mv_getI (pc := 75) (i := 0) dX9_minds_75 flX9_131 lm_0 rfl ?_
    refine mv_iconst (pc := 78) dX9_minds_78 kci1 ?_
    refine mv_iadd (pc := 79) dX9_minds_79 ?_
    refine mv_putI (pc := 80) (i := 0) dX9_minds_80 flX9_131 (Or.inl fpX9_1) lm_0 rfl (fun M4 => ?_)
    exact mv_return (pc := 83) dX9_minds_83 rfl
  · intro j2 hj2
    refine mv_icmp_ne (pc := 6) (tgt := 57) dX9_minds_6 (by decide) ?_ ?_
    · exact hj2 M
    · refine mv_iconst (pc := 9) dX9_minds_9 kci0 ?_
      refine mv_istore_n (pc := 10) (i := 1) (ls' := [(0, .ref (ad 0))]) dX9_minds_10 rfl (Nat.le_of_ble_eq_true rfl) rfl (fun v5 => ?_)
      refine mv_jp (pj := 47) (lj := fun (s6 : mv_M) => [(0, .ref (ad 0))]) (sj := fun (s6 : mv_M) => []) (Mj := fun (s6 : mv_M) => s6) ?_ ?_
      · intro s6
        refine mv_aload_n (pc := 47) (i := 0) 0 dX9_minds_47 rfl rfl ?_
        refine mv_dup (pc := 48) dX9_minds_48 rfl ?_
        refine mv_getI (pc := 49) (i := 0) dX9_minds_49 flX9_131 lm_0 rfl ?_
        refine mv_iconst (pc := 52) dX9_minds_52 kci1 ?_
        refine mv_isub (pc := 53) dX9_minds_53 ?_
        refine mv_putI (pc := 54) (i := 0) dX9_minds_54 flX9_131 (Or.inl fpX9_1) lm_0 rfl (fun M8 => ?_)
        exact hj2 M8
      · intro j7 hj7
        refine mv_sub [1, 0] rfl ?_
        refine mv_loop (pc := 11) (lj := fun (s9 : Int32 × mv_M) => [(0, .ref (ad 0)), (1, .int s9.1)]) (Mj := fun (s9 : Int32 × mv_M) => s9.2) (B := bX9_minds_11 j7) ?_ F (v5, M)
        intro f10 hf10 s9
        unfold bX9_minds_11
        refine mv_iload_n (pc := 11) (i := 1) 1 dX9_minds_11 rfl rfl ?_
        refine mv_sipush (pc := 12) dX9_minds_12 kcs1909 ?_
        refine mv_icmp_ge (pc := 15) (tgt := 47) dX9_minds_15 (by decide) ?_ ?_
        · refine mv_sub [0] rfl ?_
          exact hj7 (s9.2)
        · refine mv_aload_n (pc := 18) (i := 0) 0 dX9_minds_18 rfl rfl ?_
          refine mv_getR (pc := 19) (i := 0) (j := 1) dX9_minds_19 flX9_7 lm_0 rfl ?_
          refine mv_sipush (pc := 22) dX9_minds_22 kcs332 ?_
          refine mv_iload_n (pc := 25) (i := 1) 1 dX9_minds_25 rfl rfl ?_
          refine mv_iadd (pc := 26) dX9_minds_26 ?_
          refine mv_aload_n (pc := 27) (i := 0) 0 dX9_minds_27 rfl rfl ?_
          refine mv_getR (pc := 28) (i := 0) (j := 1) dX9_minds_28 flX9_7 lm_0 rfl ?_
          refine mv_sipush (pc := 31) dX9_minds_31 kcs332 ?_
          refine mv_iload_n (pc := 34) (i := 1) 1 dX9_minds_34 rfl rfl ?_
          refine mv_iadd (pc := 35) dX9_minds_35 ?_
          refine mv_bipush (pc := 36) dX9_minds_36 kcb83 ?_
          refine mv_iadd (pc := 38) dX9_minds_38 ?_
          refine mv_iald (pc := 39) (i := 1) dX9_minds_39 lm_1 ?_
          refine mv_iast (pc := 40) (i := 1) dX9_minds_40 lm_1 (fun M11 => ?_)
          refine mv_iinc (pc := 41) (i := 1) (ls' := [(0, .ref (ad 0))]) 1 dX9_minds_41 rfl kci1 (Nat.le_of_ble_eq_true rfl) rfl (fun v12 => ?_)
          refine mv_goto (pc := 44) (tgt := 11) dX9_minds_44 (by decide) ?_
          refine mv_sub [1, 0] rfl ?_
          exact hf10 (v12, M11)

set_option maxRecDepth 100000 in
set_option maxHeartbeats 4000000 in
theorem ctX9_hide (l : Launch) (D : va_G) (cA : Nat → ClassId) (ad : Nat → Nat) (F : Nat) (M : mv_M) (a1 : Int32) (a2 : Int32) : mv_C l (D, cA, ad, LM) yX9_hide iX9_hide mv_ri [.ref (ad 0), .int a1, .int a2] M (fX9_hide F M a1 a2) := by
  refine mv_C.ofV (ls := [(0, .ref (ad 0)), (1, .int a1), (2, .int a2)]) (by decide) rfl (Nat.le_of_ble_eq_true rfl) rfl ?_
  intro x hxl
  subst hxl
  unfold fX9_hide
  refine mv_aload_n (pc := 0) (i := 0) 0 dX9_hide_0 rfl rfl ?_
  refine mv_iload_n (pc := 1) (i := 1) 1 dX9_hide_1 rfl rfl ?_
  refine mv_callVi (pc := 2) (As := [.int a1]) (st := []) (i := 0) dX9_hide_2 mlX9_134 vmX9_isMember ⟨Nat.le_of_ble_eq_true rfl, Nat.le_of_ble_eq_true rfl⟩ lm_0 rfl rfl (Nat.le_of_ble_eq_true rfl) (ctX9_isMember x.2.1 D cA ad F M a1) (fun v2 M1 => ?_)
  refine mv_if_eq (pc := 5) (tgt := 18) dX9_hide_5 (by decide) ?_ ?_
  · refine mv_ldc (pc := 18) dX9_hide_18 kwX9_65 ?_
    exact mv_ireturn (pc := 20) dX9_hide_20 rfl
  · refine mv_iload_n (pc := 8) (i := 2) 2 dX9_hide_8 rfl rfl ?_
    refine mv_i2l (pc := 9) dX9_hide_9 ?_
    refine mv_lconst (pc := 10) dX9_hide_10 (by decide +kernel : Int64.ofNat ((0 : Fin 2) : Nat) = (0 : Int64)) ?_
    refine mv_lconst (pc := 11) dX9_hide_11 (by decide +kernel : Int64.ofNat ((1 : Fin 2) : Nat) = (1 : Int64)) ?_
    refine mv_callSi (pc := 12) (As := [.long a2.toInt64, .long (0 : Int64), .long (1 : Int64)]) (st := []) dX9_hide_12 mlX9_48 smX9_in ⟨Nat.le_of_ble_eq_true rfl, Nat.le_of_ble_eq_true rfl⟩ rfl (Nat.le_of_ble_eq_true rfl) (ctX9_in x.2.1 D cA ad F M1 a2.toInt64 (0 : Int64) (1 : Int64)) (fun v4 M3 => ?_)
    refine mv_if_ne (pc := 15) (tgt := 21) dX9_hide_15 (by decide) ?_ ?_
    · refine mv_aload_n (pc := 21) (i := 0) 0 dX9_hide_21 rfl rfl ?_
      refine mv_getR (pc := 22) (i := 0) (j := 1) dX9_hide_22 flX9_7 lm_0 rfl ?_
      refine mv_iconst (pc := 25) dX9_hide_25 kci2 ?_
      refine mv_iald (pc := 26) (i := 1) dX9_hide_26 lm_1 ?_
      refine mv_iload_n (pc := 27) (i := 1) 1 dX9_hide_27 rfl rfl ?_
      refine mv_ishr (pc := 28) dX9_hide_28 ?_
      refine mv_iconst (pc := 29) dX9_hide_29 kci1 ?_
      refine mv_iand (pc := 30) dX9_hide_30 ?_
      refine mv_iload_n (pc := 31) (i := 2) 2 dX9_hide_31 rfl rfl ?_
      refine mv_icmp_ne (pc := 32) (tgt := 38) dX9_hide_32 (by decide) ?_ ?_
      · refine mv_aload_n (pc := 38) (i := 0) 0 dX9_hide_38 rfl rfl ?_
        refine mv_callVv (pc := 39) (As := []) (st := []) (i := 0) dX9_hide_39 mlX9_138 vmX9_minds ⟨Nat.le_of_ble_eq_true rfl, Nat.le_of_ble_eq_true rfl⟩ lm_0 rfl rfl (Nat.le_of_ble_eq_true rfl) (ctX9_minds x.2.1 D cA ad F M3) (fun M5 => ?_)
        refine mv_aload_n (pc := 42) (i := 0) 0 dX9_hide_42 rfl rfl ?_
        refine mv_getR (pc := 43) (i := 0) (j := 1) dX9_hide_43 flX9_7 lm_0 rfl ?_
        refine mv_iconst (pc := 46) dX9_hide_46 kci2 ?_
        refine mv_dup2 (pc := 47) dX9_hide_47 rfl rfl ?_
        refine mv_iald (pc := 48) (i := 1) dX9_hide_48 lm_1 ?_
        refine mv_iconst (pc := 49) dX9_hide_49 kci1 ?_
        refine mv_iload_n (pc := 50) (i := 1) 1 dX9_hide_50 rfl rfl ?_
        refine mv_ishl (pc := 51) dX9_hide_51 ?_
        refine mv_ixor (pc := 52) dX9_hide_52 ?_
        refine mv_iast (pc := 53) (i := 1) dX9_hide_53 lm_1 (fun M6 => ?_)
        refine mv_aload_n (pc := 54) (i := 0) 0 dX9_hide_54 rfl rfl ?_
        refine mv_getR (pc := 55) (i := 0) (j := 1) dX9_hide_55 flX9_7 lm_0 rfl ?_
        refine mv_iconst (pc := 58) dX9_hide_58 kci2 ?_
        refine mv_iald (pc := 59) (i := 1) dX9_hide_59 lm_1 ?_
        exact mv_ireturn (pc := 60) dX9_hide_60 rfl
      · refine mv_ldc (pc := 35) dX9_hide_35 kwX9_137 ?_
        exact mv_ireturn (pc := 37) dX9_hide_37 rfl
    · refine mv_ldc (pc := 18) dX9_hide_18 kwX9_65 ?_
      exact mv_ireturn (pc := 20) dX9_hide_20 rfl
