set_option maxRecDepth 100000 in
set_option maxHeartbeats 4000000 in
theorem ctX9_image (l : Launch) (D : va_G) (cA : Nat → ClassId) (ad : Nat → Nat) (F : Nat) (M : mv_M) (a1 : Int32) : mv_C l (D, cA, ad, LM) yX9_image iX9_image mv_ri [.ref (ad 0), .int a1] M (fX9_image F M a1) := by
  refine mv_C.ofV (ls := [(0, .ref (ad 0)), (1, .int a1)]) (by decide) rfl (Nat.le_of_ble_eq_true rfl) rfl ?_
  intro x hxl
  subst hxl
  unfold fX9_image
  refine mv_iload_n (pc := 0) (i := 1) 1 dX9_image_0 rfl rfl ?_
  refine mv_i2l (pc := 1) dX9_image_1 ?_
  refine mv_lconst (pc := 2) dX9_image_2 (by decide +kernel : Int64.ofNat ((0 : Fin 2) : Nat) = (0 : Int64)) ?_
  refine mv_lconst (pc := 3) dX9_image_3 (by decide +kernel : Int64.ofNat ((1 : Fin 2) : Nat) = (1 : Int64)) ?_
  refine mv_callSi (pc := 4) (As := [.long a1.toInt64, .long (0 : Int64), .long (1 : Int64)]) (st := []) dX9_image_4 mlX9_48 smX9_in ⟨Nat.le_of_ble_eq_true rfl, Nat.le_of_ble_eq_true rfl⟩ rfl (Nat.le_of_ble_eq_true rfl) (ctX9_in x.2.1 D cA ad F M a1.toInt64 (0 : Int64) (1 : Int64)) (fun v2 M1 => ?_)
  refine mv_if_ne (pc := 7) (tgt := 13) dX9_image_7 (by decide) ?_ ?_
  · refine mv_aload_n (pc := 13) (i := 0) 0 dX9_image_13 rfl rfl ?_
    refine mv_callVi (pc := 14) (As := []) (st := []) (i := 0) dX9_image_14 mlX9_215 vmX9_isWorld ⟨Nat.le_of_ble_eq_true rfl, Nat.le_of_ble_eq_true rfl⟩ lm_0 rfl rfl (Nat.le_of_ble_eq_true rfl) (ctX9_isWorld x.2.1 D cA ad F M1) (fun v4 M3 => ?_)
    refine mv_if_ne (pc := 17) (tgt := 23) dX9_image_17 (by decide) ?_ ?_
    · refine mv_aload_n (pc := 23) (i := 0) 0 dX9_image_23 rfl rfl ?_
      refine mv_iconst (pc := 24) dX9_image_24 kci0 ?_
      refine mv_sipush (pc := 25) dX9_image_25 kcs166 ?_
      refine mv_bipush (pc := 28) dX9_image_28 kcb83 ?_
      refine mv_iload_n (pc := 30) (i := 1) 1 dX9_image_30 rfl rfl ?_
      refine mv_imul (pc := 31) dX9_image_31 ?_
      refine mv_iadd (pc := 32) dX9_image_32 ?_
      refine mv_callVv (pc := 33) (As := [.int (0 : Int32), .int ((166 : Int32) + ((83 : Int32) * a1))]) (st := []) (i := 0) dX9_image_33 mlX9_127 vmX9_copyOf ⟨Nat.le_of_ble_eq_true rfl, Nat.le_of_ble_eq_true rfl⟩ lm_0 rfl rfl (Nat.le_of_ble_eq_true rfl) (ctX9_copyOf x.2.1 D cA ad F M3 (0 : Int32) ((166 : Int32) + ((83 : Int32) * a1))) (fun M5 => ?_)
      refine mv_aload_n (pc := 36) (i := 0) 0 dX9_image_36 rfl rfl ?_
      refine mv_getR (pc := 37) (i := 0) (j := 11) dX9_image_37 flX9_41 lm_0 rfl ?_
      refine mv_iload_n (pc := 40) (i := 1) 1 dX9_image_40 rfl rfl ?_
      refine mv_iconst (pc := 41) dX9_image_41 kci1 ?_
      refine mv_zast (pc := 42) (i := 11) dX9_image_42 lm_11 (Or.inr rfl) (fun M6 => ?_)
      refine mv_iconst (pc := 43) dX9_image_43 kci1 ?_
      exact mv_ireturn (pc := 44) dX9_image_44 rfl
    · refine mv_ldc (pc := 20) dX9_image_20 kwX9_137 ?_
      exact mv_ireturn (pc := 22) dX9_image_22 rfl
  · refine mv_ldc (pc := 10) dX9_image_10 kwX9_65 ?_
    exact mv_ireturn (pc := 12) dX9_image_12 rfl

set_option maxRecDepth 100000 in
set_option maxHeartbeats 4000000 in
theorem ctX9_restore (l : Launch) (D : va_G) (cA : Nat → ClassId) (ad : Nat → Nat) (F : Nat) (M : mv_M) (a1 : Int32) : mv_C l (D, cA, ad, LM) yX9_restore iX9_restore mv_ri [.ref (ad 0), .int a1] M (fX9_restore F M a1) := by
  refine mv_C.ofV (ls := [(0, .ref (ad 0)), (1, .int a1)]) (by decide) rfl (Nat.le_of_ble_eq_true rfl) rfl ?_
  intro x hxl
  subst hxl
  unfold fX9_restore
  refine mv_iload_n (pc := 0) (i := 1) 1 dX9_restore_0 rfl rfl ?_
  refine mv_i2l (pc := 1) dX9_restore_1 ?_
  refine mv_lconst (pc := 2) dX9_restore_2 (by decide +kernel : Int64.ofNat ((0 : Fin 2) : Nat) = (0 : Int64)) ?_
  refine mv_lconst (pc := 3) dX9_restore_3 (by decide +kernel : Int64.ofNat ((1 : Fin 2) : Nat) = (1 : Int64)) ?_
  refine mv_callSi (pc := 4) (As := [.long a1.toInt64, .long (0 : Int64), .long (1 : Int64)]) (st := []) dX9_restore_4 mlX9_48 smX9_in ⟨Nat.le_of_ble_eq_true rfl, Nat.le_of_ble_eq_true rfl⟩ rfl (Nat.le_of_ble_eq_true rfl) (ctX9_in x.2.1 D cA ad F M a1.toInt64 (0 : Int64) (1 : Int64)) (fun v2 M1 => ?_)
  refine mv_if_ne (pc := 7) (tgt := 13) dX9_restore_7 (by decide) ?_ ?_
  · refine mv_aload_n (pc := 13) (i := 0) 0 dX9_restore_13 rfl rfl ?_
    refine mv_getR (pc := 14) (i := 0) (j := 11) dX9_restore_14 flX9_41 lm_0 rfl ?_
    refine mv_iload_n (pc := 17) (i := 1) 1 dX9_restore_17 rfl rfl ?_
    refine mv_zald (pc := 18) (i := 11) dX9_restore_18 lm_11 ?_
    refine mv_if_ne (pc := 19) (tgt := 25) dX9_restore_19 (by decide) ?_ ?_
    · refine mv_aload_n (pc := 25) (i := 0) 0 dX9_restore_25 rfl rfl ?_
      refine mv_sipush (pc := 26) dX9_restore_26 kcs166 ?_
      refine mv_bipush (pc := 29) dX9_restore_29 kcb83 ?_
      refine mv_iload_n (pc := 31) (i := 1) 1 dX9_restore_31 rfl rfl ?_
      refine mv_imul (pc := 32) dX9_restore_32 ?_
      refine mv_iadd (pc := 33) dX9_restore_33 ?_
      refine mv_iconst (pc := 34) dX9_restore_34 kci0 ?_
      refine mv_callVv (pc := 35) (As := [.int ((166 : Int32) + ((83 : Int32) * a1)), .int (0 : Int32)]) (st := []) (i := 0) dX9_restore_35 mlX9_127 vmX9_copyOf ⟨Nat.le_of_ble_eq_true rfl, Nat.le_of_ble_eq_true rfl⟩ lm_0 rfl rfl (Nat.le_of_ble_eq_true rfl) (ctX9_copyOf x.2.1 D cA ad F M1 ((166 : Int32) + ((83 : Int32) * a1)) (0 : Int32)) (fun M3 => ?_)
      refine mv_aload_n (pc := 38) (i := 0) 0 dX9_restore_38 rfl rfl ?_
      refine mv_iconst (pc := 39) dX9_restore_39 kci0 ?_
      refine mv_putI (pc := 40) (i := 0) dX9_restore_40 flX9_131 (Or.inl fpX9_1) lm_0 rfl (fun M4 => ?_)
      refine mv_iconst (pc := 43) dX9_restore_43 kci1 ?_
      exact mv_ireturn (pc := 44) dX9_restore_44 rfl
    · refine mv_ldc (pc := 22) dX9_restore_22 kwX9_137 ?_
      exact mv_ireturn (pc := 24) dX9_restore_24 rfl
  · refine mv_ldc (pc := 10) dX9_restore_10 kwX9_65 ?_
    exact mv_ireturn (pc := 12) dX9_restore_12 rfl

set_option maxRecDepth 100000 in
set_option maxHeartbeats 4000000 in
theorem ctX9_kind (l : Launch) (D : va_G) (cA : Nat → ClassId) (ad : Nat → Nat) (F : Nat) (M : mv_M) (a1 : Int32) : mv_C l (D, cA, ad, LM) yX9_kind iX9_kind mv_ri [.ref (ad 0), .int a1] M (fX9_kind F M a1) := by
  refine mv_C.ofV (ls := [(0, .ref (ad 0)), (1, .int a1)]) (by decide) rfl (Nat.le_of_ble_eq_true rfl) rfl ?_
  intro x hxl
  subst hxl
  unfold fX9_kind
  refine mv_aload_n (pc := 0) (i := 0) 0 dX9_kind_0 rfl rfl ?_
  refine mv_iload_n (pc := 1) (i := 1) 1 dX9_kind_1 rfl rfl ?_
  refine mv_callVi (pc := 2) (As := [.int a1]) (st := []) (i := 0) dX9_kind_2 mlX9_134 vmX9_isMember ⟨Nat.le_of_ble_eq_true rfl, Nat.le_of_ble_eq_true rfl⟩ lm_0 rfl rfl (Nat.le_of_ble_eq_true rfl) (ctX9_isMember x.2.1 D cA ad F M a1) (fun v2 M1 => ?_)
  refine mv_if_eq (pc := 5) (tgt := 20) dX9_kind_5 (by decide) ?_ ?_
  · refine mv_ldc (pc := 20) dX9_kind_20 kwX9_65 ?_
    exact mv_ireturn (pc := 22) dX9_kind_22 rfl
  · refine mv_aload_n (pc := 8) (i := 0) 0 dX9_kind_8 rfl rfl ?_
    refine mv_getR (pc := 9) (i := 0) (j := 1) dX9_kind_9 flX9_7 lm_0 rfl ?_
    refine mv_bipush (pc := 12) dX9_kind_12 kcb11 ?_
    refine mv_iload_n (pc := 14) (i := 1) 1 dX9_kind_14 rfl rfl ?_
    refine mv_iadd (pc := 15) dX9_kind_15 ?_
    refine mv_iald (pc := 16) (i := 1) dX9_kind_16 lm_1 ?_
    refine mv_goto (pc := 17) (tgt := 22) dX9_kind_17 (by decide) ?_
    exact mv_ireturn (pc := 22) dX9_kind_22 rfl

set_option maxRecDepth 100000 in
set_option maxHeartbeats 4000000 in
theorem ctX9_isA (l : Launch) (D : va_G) (cA : Nat → ClassId) (ad : Nat → Nat) (F : Nat) (M : mv_M) (a1 : Int32) (a2 : Int32) : mv_C l (D, cA, ad, LM) yX9_isA iX9_isA mv_ri [.int a1, .int a2] M (fX9_isA F M a1 a2) := by
  refine mv_C.ofV (ls := [(0, .int a1), (1, .int a2)]) (by decide) rfl (Nat.le_of_ble_eq_true rfl) rfl ?_
  intro x hxl
  subst hxl
  unfold fX9_isA
  refine mv_iload_n (pc := 0) (i := 1) 1 dX9_isA_0 rfl rfl ?_
  refine mv_if_eq (pc := 1) (tgt := 34) dX9_isA_1 (by decide) ?_ ?_
  · refine mv_iconst (pc := 34) dX9_isA_34 kci1 ?_
    refine mv_goto (pc := 35) (tgt := 39) dX9_isA_35 (by decide) ?_
    exact mv_zreturn (pc := 39) dX9_isA_39 rfl
  · refine mv_iload_n (pc := 4) (i := 1) 1 dX9_isA_4 rfl rfl ?_
    refine mv_iload_n (pc := 5) (i := 0) 0 dX9_isA_5 rfl rfl ?_
    refine mv_icmp_eq (pc := 6) (tgt := 34) dX9_isA_6 (by decide) ?_ ?_
    · refine mv_iconst (pc := 34) dX9_isA_34 kci1 ?_
      refine mv_goto (pc := 35) (tgt := 39) dX9_isA_35 (by decide) ?_
      exact mv_zreturn (pc := 39) dX9_isA_39 rfl
    · refine mv_iload_n (pc := 9) (i := 1) 1 dX9_isA_9 rfl rfl ?_
      refine mv_iconst (pc := 10) dX9_isA_10 kci1 ?_
      refine mv_icmp_ne (pc := 11) (tgt := 24) dX9_isA_11 (by decide) ?_ ?_
      · refine mv_iload_n (pc := 24) (i := 1) 1 dX9_isA_24 rfl rfl ?_
        refine mv_iconst (pc := 25) dX9_isA_25 kci4 ?_
        refine mv_icmp_ne (pc := 26) (tgt := 38) dX9_isA_26 (by decide) ?_ ?_
        · refine mv_iconst (pc := 38) dX9_isA_38 kci0 ?_
          exact mv_zreturn (pc := 39) dX9_isA_39 rfl
        · refine mv_iload_n (pc := 29) (i := 0) 0 dX9_isA_29 rfl rfl ?_
          refine mv_iconst (pc := 30) dX9_isA_30 kci5 ?_
          refine mv_icmp_ne (pc := 31) (tgt := 38) dX9_isA_31 (by decide) ?_ ?_
          · refine mv_iconst (pc := 38) dX9_isA_38 kci0 ?_
            exact mv_zreturn (pc := 39) dX9_isA_39 rfl
          · refine mv_iconst (pc := 34) dX9_isA_34 kci1 ?_
            refine mv_goto (pc := 35) (tgt := 39) dX9_isA_35 (by decide) ?_
            exact mv_zreturn (pc := 39) dX9_isA_39 rfl
      · refine mv_iload_n (pc := 14) (i := 0) 0 dX9_isA_14 rfl rfl ?_
        refine mv_iconst (pc := 15) dX9_isA_15 kci2 ?_
        refine mv_icmp_eq (pc := 16) (tgt := 34) dX9_isA_16 (by decide) ?_ ?_
        · refine mv_iconst (pc := 34) dX9_isA_34 kci1 ?_
          refine mv_goto (pc := 35) (tgt := 39) dX9_isA_35 (by decide) ?_
          exact mv_zreturn (pc := 39) dX9_isA_39 rfl
        · refine mv_iload_n (pc := 19) (i := 0) 0 dX9_isA_19 rfl rfl ?_
          refine mv_iconst (pc := 20) dX9_isA_20 kci3 ?_
          refine mv_icmp_eq (pc := 21) (tgt := 34) dX9_isA_21 (by decide) ?_ ?_
          · refine mv_iconst (pc := 34) dX9_isA_34 kci1 ?_
            refine mv_goto (pc := 35) (tgt := 39) dX9_isA_35 (by decide) ?_
            exact mv_zreturn (pc := 39) dX9_isA_39 rfl
          · refine mv_iload_n (pc := 24) (i := 1) 1 dX9_isA_24 rfl rfl ?_
            refine mv_iconst (pc := 25) dX9_isA_25 kci4 ?_
            refine mv_icmp_ne (pc := 26) (tgt := 38) dX9_isA_26 (by decide) ?_ ?_
            · refine mv_iconst (pc := 38) dX9_isA_38 kci0 ?_
              exact mv_zreturn (pc := 39) dX9_isA_39 rfl
            · refine mv_iload_n (pc := 29) (i := 0) 0 dX9_isA_29 rfl rfl ?_
              refine mv_iconst (pc := 30) dX9_isA_30 kci5 ?_
              refine mv_icmp_ne (pc := 31) (tgt := 38) dX9_isA_31 (by decide) ?_ ?_
              · refine mv_iconst (pc := 38) dX9_isA_38 kci0 ?_
                exact mv_zreturn (pc := 39) dX9_isA_39 rfl
              · refine mv_iconst (pc := 34) dX9_isA_34 kci1 ?_
                refine mv_goto (pc := 35) (tgt := 39) dX9_isA_35 (by decide) ?_
                exact mv_zreturn (pc := 39) dX9_isA_39 rfl

set_option maxRecDepth 100000 in
set_option maxHeartbeats 4000000 in
theorem ctX9_as (l : Launch) (D : va_G) (cA : Nat → ClassId) (ad : Nat → Nat) (F : Nat) (M : mv_M) (a1 : Int32) (a2 : Int32) : mv_C l (D, cA, ad, LM) yX9_as iX9_as mv_ri [.ref (ad 0), .int a1, .int a2] M (fX9_as F M a1 a2) := by
  refine mv_C.ofV (ls := [(0, .ref (ad 0)), (1, .int a1), (2, .int a2)]) (by decide) rfl (Nat.le_of_ble_eq_true rfl) rfl ?_
  intro x hxl
  subst hxl
  unfold fX9_as
  refine mv_aload_n (pc := 0) (i := 0) 0 dX9_as_0 rfl rfl ?_
  refine mv_iload_n (pc := 1) (i := 1) 1 dX9_as_1 rfl rfl ?_
  refine mv_callVi (pc := 2) (As := [.int a1]) (st := []) (i := 0) dX9_as_2 mlX9_134 vmX9_isMember ⟨Nat.le_of_ble_eq_true rfl, Nat.le_of_ble_eq_true rfl⟩ lm_0 rfl rfl (Nat.le_of_ble_eq_true rfl) (ctX9_isMember x.2.1 D cA ad F M a1) (fun v2 M1 => ?_)
  refine mv_if_eq (pc := 5) (tgt := 20) dX9_as_5 (by decide) ?_ ?_
  · refine mv_ldc (pc := 20) dX9_as_20 kwX9_65 ?_
    exact mv_ireturn (pc := 22) dX9_as_22 rfl
  · refine mv_iload_n (pc := 8) (i := 2) 2 dX9_as_8 rfl rfl ?_
    refine mv_i2l (pc := 9) dX9_as_9 ?_
    refine mv_lconst (pc := 10) dX9_as_10 (by decide +kernel : Int64.ofNat ((0 : Fin 2) : Nat) = (0 : Int64)) ?_
    refine mv_ldc2_w (pc := 11) dX9_as_11 kwX9_238 ?_
    refine mv_callSi (pc := 14) (As := [.long a2.toInt64, .long (0 : Int64), .long (5 : Int64)]) (st := []) dX9_as_14 mlX9_48 smX9_in ⟨Nat.le_of_ble_eq_true rfl, Nat.le_of_ble_eq_true rfl⟩ rfl (Nat.le_of_ble_eq_true rfl) (ctX9_in x.2.1 D cA ad F M1 a2.toInt64 (0 : Int64) (5 : Int64)) (fun v4 M3 => ?_)
    refine mv_if_ne (pc := 17) (tgt := 23) dX9_as_17 (by decide) ?_ ?_
    · refine mv_aload_n (pc := 23) (i := 0) 0 dX9_as_23 rfl rfl ?_
      refine mv_getR (pc := 24) (i := 0) (j := 1) dX9_as_24 flX9_7 lm_0 rfl ?_
      refine mv_bipush (pc := 27) dX9_as_27 kcb11 ?_
      refine mv_iload_n (pc := 29) (i := 1) 1 dX9_as_29 rfl rfl ?_
      refine mv_iadd (pc := 30) dX9_as_30 ?_
      refine mv_iald (pc := 31) (i := 1) dX9_as_31 lm_1 ?_
      refine mv_iload_n (pc := 32) (i := 2) 2 dX9_as_32 rfl rfl ?_
      refine mv_callSi (pc := 33) (As := [.int (M3.1 1 ((11 : Int32) + a1).toNatClampNeg), .int a2]) (st := []) dX9_as_33 mlX9_240 smX9_isA ⟨Nat.le_of_ble_eq_true rfl, Nat.le_of_ble_eq_true rfl⟩ rfl (Nat.le_of_ble_eq_true rfl) (ctX9_isA x.2.1 D cA ad F M3 (M3.1 1 ((11 : Int32) + a1).toNatClampNeg) a2) (fun v6 M5 => ?_)
      refine mv_if_ne (pc := 36) (tgt := 45) dX9_as_36 (by decide) ?_ ?_
      · refine mv_aload_n (pc := 45) (i := 0) 0 dX9_as_45 rfl rfl ?_
        refine mv_iconst (pc := 46) dX9_as_46 kci0 ?_
        refine mv_putI (pc := 47) (i := 0) dX9_as_47 flX9_54 (Or.inl fpX9_5) lm_0 rfl (fun M7 => ?_)
        refine mv_iload_n (pc := 50) (i := 1) 1 dX9_as_50 rfl rfl ?_
        exact mv_ireturn (pc := 51) dX9_as_51 rfl
      · refine mv_aload_n (pc := 39) (i := 0) 0 dX9_as_39 rfl rfl ?_
        refine mv_iconst (pc := 40) dX9_as_40 kci3 ?_
        refine mv_callVi (pc := 41) (As := [.int (3 : Int32)]) (st := []) (i := 0) dX9_as_41 mlX9_66 vmX9_finds ⟨Nat.le_of_ble_eq_true rfl, Nat.le_of_ble_eq_true rfl⟩ lm_0 rfl rfl (Nat.le_of_ble_eq_true rfl) (ctX9_finds x.2.1 D cA ad F M5 (3 : Int32)) (fun v9 M8 => ?_)
        exact mv_ireturn (pc := 44) dX9_as_44 rfl
    · refine mv_ldc (pc := 20) dX9_as_20 kwX9_65 ?_
      exact mv_ireturn (pc := 22) dX9_as_22 rfl

set_option maxRecDepth 100000 in
set_option maxHeartbeats 4000000 in
theorem ctX9_traces (l : Launch) (D : va_G) (cA : Nat → ClassId) (ad : Nat → Nat) (F : Nat) (M : mv_M) (a1 : Int32) : mv_C l (D, cA, ad, LM) yX9_traces iX9_traces mv_rv [.ref (ad 0), .int a1] M (fX9_traces F M a1) := by
  refine mv_C.ofV (ls := [(0, .ref (ad 0)), (1, .int a1)]) (by decide) rfl (Nat.le_of_ble_eq_true rfl) rfl ?_
  intro x hxl
  subst hxl
  unfold fX9_traces
  refine mv_aload_n (pc := 0) (i := 0) 0 dX9_traces_0 rfl rfl ?_
  refine mv_getI (pc := 1) (i := 0) dX9_traces_1 flX9_243 lm_0 rfl ?_
  refine mv_bipush (pc := 4) dX9_traces_4 kcb16 ?_
  refine mv_icmp_ge (pc := 6) (tgt := 29) dX9_traces_6 (by decide) ?_ ?_
  · exact mv_return (pc := 29) dX9_traces_29 rfl
  · refine mv_aload_n (pc := 9) (i := 0) 0 dX9_traces_9 rfl rfl ?_
    refine mv_getR (pc := 10) (i := 0) (j := 12) dX9_traces_10 flX9_45 lm_0 rfl ?_
    refine mv_aload_n (pc := 13) (i := 0) 0 dX9_traces_13 rfl rfl ?_
    refine mv_getI (pc := 14) (i := 0) dX9_traces_14 flX9_243 lm_0 rfl ?_
    refine mv_iload_n (pc := 17) (i := 1) 1 dX9_traces_17 rfl rfl ?_
    refine mv_iast (pc := 18) (i := 12) dX9_traces_18 lm_12 (fun M1 => ?_)
    refine mv_aload_n (pc := 19) (i := 0) 0 dX9_traces_19 rfl rfl ?_
    refine mv_dup (pc := 20) dX9_traces_20 rfl ?_
    refine mv_getI (pc := 21) (i := 0) dX9_traces_21 flX9_243 lm_0 rfl ?_
    refine mv_iconst (pc := 24) dX9_traces_24 kci1 ?_
    refine mv_iadd (pc := 25) dX9_traces_25 ?_
    refine mv_putI (pc := 26) (i := 0) dX9_traces_26 flX9_243 (Or.inl fpX9_22) lm_0 rfl (fun M2 => ?_)
    exact mv_return (pc := 29) dX9_traces_29 rfl

set_option maxRecDepth 100000 in
set_option maxHeartbeats 4000000 in
theorem ctX9_mark20 (l : Launch) (D : va_G) (cA : Nat → ClassId) (ad : Nat → Nat) (F : Nat) (M : mv_M) (a1 : Int32) : mv_C l (D, cA, ad, LM) yX9_mark20 iX9_mark20 mv_ri [.ref (ad 0), .int a1] M (fX9_mark20 F M a1) := by
  refine mv_C.ofV (ls := [(0, .ref (ad 0)), (1, .int a1)]) (by decide) rfl (Nat.le_of_ble_eq_true rfl) rfl ?_
  intro x hxl
  subst hxl
  unfold fX9_mark20
  refine mv_aload_n (pc := 0) (i := 0) 0 dX9_mark20_0 rfl rfl ?_
  refine mv_bipush (pc := 1) dX9_mark20_1 kcb20 ?_
  refine mv_callVv (pc := 3) (As := [.int (20 : Int32)]) (st := []) (i := 0) dX9_mark20_3 mlX9_246 vmX9_traces ⟨Nat.le_of_ble_eq_true rfl, Nat.le_of_ble_eq_true rfl⟩ lm_0 rfl rfl (Nat.le_of_ble_eq_true rfl) (ctX9_traces x.2.1 D cA ad F M (20 : Int32)) (fun M1 => ?_)
  refine mv_iload_n (pc := 6) (i := 1) 1 dX9_mark20_6 rfl rfl ?_
  exact mv_ireturn (pc := 7) dX9_mark20_7 rfl

set_option maxRecDepth 100000 in
set_option maxHeartbeats 4000000 in
theorem ctX9_mark21 (l : Launch) (D : va_G) (cA : Nat → ClassId) (ad : Nat → Nat) (F : Nat) (M : mv_M) (a1 : Int32) : mv_C l (D, cA, ad, LM) yX9_mark21 iX9_mark21 mv_ri [.ref (ad 0), .int a1] M (fX9_mark21 F M a1) := by
  refine mv_C.ofV (ls := [(0, .ref (ad 0)), (1, .int a1)]) (by decide) rfl (Nat.le_of_ble_eq_true rfl) rfl ?_
  intro x hxl
  subst hxl
  unfold fX9_mark21
  refine mv_aload_n (pc := 0) (i := 0) 0 dX9_mark21_0 rfl rfl ?_
  refine mv_bipush (pc := 1) dX9_mark21_1 kcb21 ?_
  refine mv_callVv (pc := 3) (As := [.int (21 : Int32)]) (st := []) (i := 0) dX9_mark21_3 mlX9_246 vmX9_traces ⟨Nat.le_of_ble_eq_true rfl, Nat.le_of_ble_eq_true rfl⟩ lm_0 rfl rfl (Nat.le_of_ble_eq_true rfl) (ctX9_traces x.2.1 D cA ad F M (21 : Int32)) (fun M1 => ?_)
  refine mv_aload_n (pc := 6) (i := 0) 0 dX9_mark21_6 rfl rfl ?_
  refine mv_iload_n (pc := 7) (i := 1) 1 dX9_mark21_7 rfl rfl ?_
  refine mv_callVi (pc := 8) (As := [.int a1]) (st := []) (i := 0) dX9_mark21_8 mlX9_261 vmX9_mark20 ⟨Nat.le_of_ble_eq_true rfl, Nat.le_of_ble_eq_true rfl⟩ lm_0 rfl rfl (Nat.le_of_ble_eq_true rfl) (ctX9_mark20 x.2.1 D cA ad F M1 a1) (fun v3 M2 => ?_)
  refine mv_aload_n (pc := 11) (i := 0) 0 dX9_mark21_11 rfl rfl ?_
  refine mv_getR (pc := 12) (i := 0) (j := 1) dX9_mark21_12 flX9_7 lm_0 rfl ?_
  refine mv_bipush (pc := 15) dX9_mark21_15 kcb23 ?_
  refine mv_iload_n (pc := 17) (i := 1) 1 dX9_mark21_17 rfl rfl ?_
  refine mv_iadd (pc := 18) dX9_mark21_18 ?_
  refine mv_iald (pc := 19) (i := 1) dX9_mark21_19 lm_1 ?_
  refine mv_iadd (pc := 20) dX9_mark21_20 ?_
  exact mv_ireturn (pc := 21) dX9_mark21_21 rfl

set_option maxRecDepth 100000 in
set_option maxHeartbeats 4000000 in
theorem ctX9_markOf (l : Launch) (D : va_G) (cA : Nat → ClassId) (ad : Nat → Nat) (F : Nat) (M : mv_M) (a1 : Int32) : mv_C l (D, cA, ad, LM) yX9_markOf iX9_markOf mv_ri [.ref (ad 0), .int a1] M (fX9_markOf F M a1) := by
  refine mv_C.ofV (ls := [(0, .ref (ad 0)), (1, .int a1)]) (by decide) rfl (Nat.le_of_ble_eq_true rfl) rfl ?_
  intro x hxl
  subst hxl
  unfold fX9_markOf
  refine mv_aload_n (pc := 0) (i := 0) 0 dX9_markOf_0 rfl rfl ?_
  refine mv_getR (pc := 1) (i := 0) (j := 1) dX9_markOf_1 flX9_7 lm_0 rfl ?_
  refine mv_bipush (pc := 4) dX9_markOf_4 kcb11 ?_
  refine mv_iload_n (pc := 6) (i := 1) 1 dX9_markOf_6 rfl rfl ?_
  refine mv_iadd (pc := 7) dX9_markOf_7 ?_
  refine mv_iald (pc := 8) (i := 1) dX9_markOf_8 lm_1 ?_
  refine mv_lkc (pc := 9) (v := (2 : Int32)) (off := 27) (tgt := 36) dX9_markOf_9 (by decide +kernel) (by decide +kernel) (by decide) ?_ (fun h4 => ?_)
  · refine mv_aload_n (pc := 36) (i := 0) 0 dX9_markOf_36 rfl rfl ?_
    refine mv_bipush (pc := 37) dX9_markOf_37 kcb24 ?_
    refine mv_callVv (pc := 39) (As := [.int (24 : Int32)]) (st := []) (i := 0) dX9_markOf_39 mlX9_246 vmX9_traces ⟨Nat.le_of_ble_eq_true rfl, Nat.le_of_ble_eq_true rfl⟩ lm_0 rfl rfl (Nat.le_of_ble_eq_true rfl) (ctX9_traces x.2.1 D cA ad F M (24 : Int32)) (fun M1 => ?_)
    refine mv_iconst (pc := 42) dX9_markOf_42 kci2 ?_
    refine mv_aload_n (pc := 43) (i := 0) 0 dX9_markOf_43 rfl rfl ?_
    refine mv_iload_n (pc := 44) (i := 1) 1 dX9_markOf_44 rfl rfl ?_
    refine mv_callVi (pc := 45) (As := [.int a1]) (st := [.int (2 : Int32)]) (i := 0) dX9_markOf_45 mlX9_264 vmX9_mark21 ⟨Nat.le_of_ble_eq_true rfl, Nat.le_of_ble_eq_true rfl⟩ lm_0 rfl rfl (Nat.le_of_ble_eq_true rfl) (ctX9_mark21 x.2.1 D cA ad F M1 a1) (fun v3 M2 => ?_)
    refine mv_imul (pc := 48) dX9_markOf_48 ?_
    exact mv_ireturn (pc := 49) dX9_markOf_49 rfl
  refine mv_lkc (pc := 9) (v := (3 : Int32)) (off := 41) (tgt := 50) dX9_markOf_9 (by decide +kernel) (by decide +kernel) (by decide) ?_ (fun h8 => ?_)
  · refine mv_aload_n (pc := 50) (i := 0) 0 dX9_markOf_50 rfl rfl ?_
    refine mv_bipush (pc := 51) dX9_markOf_51 kcb22 ?_
    refine mv_callVv (pc := 53) (As := [.int (22 : Int32)]) (st := []) (i := 0) dX9_markOf_53 mlX9_246 vmX9_traces ⟨Nat.le_of_ble_eq_true rfl, Nat.le_of_ble_eq_true rfl⟩ lm_0 rfl rfl (Nat.le_of_ble_eq_true rfl) (ctX9_traces x.2.1 D cA ad F M (22 : Int32)) (fun M5 => ?_)
    refine mv_aload_n (pc := 56) (i := 0) 0 dX9_markOf_56 rfl rfl ?_
    refine mv_iload_n (pc := 57) (i := 1) 1 dX9_markOf_57 rfl rfl ?_
    refine mv_callVi (pc := 58) (As := [.int a1]) (st := []) (i := 0) dX9_markOf_58 mlX9_264 vmX9_mark21 ⟨Nat.le_of_ble_eq_true rfl, Nat.le_of_ble_eq_true rfl⟩ lm_0 rfl rfl (Nat.le_of_ble_eq_true rfl) (ctX9_mark21 x.2.1 D cA ad F M5 a1) (fun v7 M6 => ?_)
    refine mv_sipush (pc := 61) dX9_markOf_61 kcs1000 ?_
    refine mv_isub (pc := 64) dX9_markOf_64 ?_
    exact mv_ireturn (pc := 65) dX9_markOf_65 rfl
  refine mv_lkd (pc := 9) (tgt := 66) dX9_markOf_9 (by decide +kernel) (by have e0 := mv_ne (n := 2) (by decide +kernel) h4; have e1 := mv_ne (n := 3) (by decide +kernel) h8; show Op.lookupswitch.offset [(2, 27), (3, 41)] 57 _ = 57; rw [Op.lookupswitch.offset_cons, if_neg (Ne.symm e0), Op.lookupswitch.offset_cons, if_neg (Ne.symm e1)]; rfl) (by decide) ?_
  refine mv_aload_n (pc := 66) (i := 0) 0 dX9_markOf_66 rfl rfl ?_
  refine mv_iload_n (pc := 67) (i := 1) 1 dX9_markOf_67 rfl rfl ?_
  refine mv_callVi (pc := 68) (As := [.int a1]) (st := []) (i := 0) dX9_markOf_68 mlX9_264 vmX9_mark21 ⟨Nat.le_of_ble_eq_true rfl, Nat.le_of_ble_eq_true rfl⟩ lm_0 rfl rfl (Nat.le_of_ble_eq_true rfl) (ctX9_mark21 x.2.1 D cA ad F M a1) (fun v10 M9 => ?_)
  exact mv_ireturn (pc := 71) dX9_markOf_71 rfl

set_option maxRecDepth 100000 in
set_option maxHeartbeats 4000000 in
theorem ctX9_size10 (l : Launch) (D : va_G) (cA : Nat → ClassId) (ad : Nat → Nat) (F : Nat) (M : mv_M) (a1 : Int32) : mv_C l (D, cA, ad, LM) yX9_size10 iX9_size10 mv_ri [.ref (ad 0), .int a1] M (fX9_size10 F M a1) := by
  refine mv_C.ofV (ls := [(0, .ref (ad 0)), (1, .int a1)]) (by decide) rfl (Nat.le_of_ble_eq_true rfl) rfl ?_
  intro x hxl
  subst hxl
  unfold fX9_size10
  refine mv_aload_n (pc := 0) (i := 0) 0 dX9_size10_0 rfl rfl ?_
  refine mv_bipush (pc := 1) dX9_size10_1 kcb10 ?_
  refine mv_callVv (pc := 3) (As := [.int (10 : Int32)]) (st := []) (i := 0) dX9_size10_3 mlX9_246 vmX9_traces ⟨Nat.le_of_ble_eq_true rfl, Nat.le_of_ble_eq_true rfl⟩ lm_0 rfl rfl (Nat.le_of_ble_eq_true rfl) (ctX9_traces x.2.1 D cA ad F M (10 : Int32)) (fun M1 => ?_)
  refine mv_aload_n (pc := 6) (i := 0) 0 dX9_size10_6 rfl rfl ?_
  refine mv_getR (pc := 7) (i := 0) (j := 1) dX9_size10_7 flX9_7 lm_0 rfl ?_
  refine mv_bipush (pc := 10) dX9_size10_10 kcb35 ?_
  refine mv_iload_n (pc := 12) (i := 1) 1 dX9_size10_12 rfl rfl ?_
  refine mv_iadd (pc := 13) dX9_size10_13 ?_
  refine mv_iald (pc := 14) (i := 1) dX9_size10_14 lm_1 ?_
  exact mv_ireturn (pc := 15) dX9_size10_15 rfl

set_option maxRecDepth 100000 in
set_option maxHeartbeats 4000000 in
theorem ctX9_size11 (l : Launch) (D : va_G) (cA : Nat → ClassId) (ad : Nat → Nat) (F : Nat) (M : mv_M) (a1 : Int32) : mv_C l (D, cA, ad, LM) yX9_size11 iX9_size11 mv_ri [.ref (ad 0), .int a1] M (fX9_size11 F M a1) := by
  refine mv_C.ofV (ls := [(0, .ref (ad 0)), (1, .int a1)]) (by decide) rfl (Nat.le_of_ble_eq_true rfl) rfl ?_
  intro x hxl
  subst hxl
  unfold fX9_size11
  refine mv_aload_n (pc := 0) (i := 0) 0 dX9_size11_0 rfl rfl ?_
  refine mv_bipush (pc := 1) dX9_size11_1 kcb11 ?_
  refine mv_callVv (pc := 3) (As := [.int (11 : Int32)]) (st := []) (i := 0) dX9_size11_3 mlX9_246 vmX9_traces ⟨Nat.le_of_ble_eq_true rfl, Nat.le_of_ble_eq_true rfl⟩ lm_0 rfl rfl (Nat.le_of_ble_eq_true rfl) (ctX9_traces x.2.1 D cA ad F M (11 : Int32)) (fun M1 => ?_)
  refine mv_aload_n (pc := 6) (i := 0) 0 dX9_size11_6 rfl rfl ?_
  refine mv_iload_n (pc := 7) (i := 1) 1 dX9_size11_7 rfl rfl ?_
  refine mv_callVi (pc := 8) (As := [.int a1]) (st := []) (i := 0) dX9_size11_8 mlX9_249 vmX9_size10 ⟨Nat.le_of_ble_eq_true rfl, Nat.le_of_ble_eq_true rfl⟩ lm_0 rfl rfl (Nat.le_of_ble_eq_true rfl) (ctX9_size10 x.2.1 D cA ad F M1 a1) (fun v3 M2 => ?_)
  refine mv_istore_n (pc := 11) (i := 2) (ls' := [(0, .ref (ad 0)), (1, .int a1)]) dX9_size11_11 rfl (Nat.le_of_ble_eq_true rfl) rfl (fun v4 => ?_)
  refine mv_iload_n (pc := 12) (i := 2) 0 dX9_size11_12 rfl rfl ?_
  refine mv_aload_n (pc := 13) (i := 0) 1 dX9_size11_13 rfl rfl ?_
  refine mv_iload_n (pc := 14) (i := 1) 2 dX9_size11_14 rfl rfl ?_
  refine mv_callVi (pc := 15) (As := [.int a1]) (st := [.int v4]) (i := 0) dX9_size11_15 mlX9_252 vmX9_markOf ⟨Nat.le_of_ble_eq_true rfl, Nat.le_of_ble_eq_true rfl⟩ lm_0 rfl rfl (Nat.le_of_ble_eq_true rfl) (ctX9_markOf x.2.1 D cA ad F M2 a1) (fun v6 M5 => ?_)
  refine mv_iadd (pc := 18) dX9_size11_18 ?_
  exact mv_ireturn (pc := 19) dX9_size11_19 rfl

set_option maxRecDepth 100000 in
set_option maxHeartbeats 4000000 in
theorem ctX9_size13 (l : Launch) (D : va_G) (cA : Nat → ClassId) (ad : Nat → Nat) (F : Nat) (M : mv_M) (a1 : Int32) : mv_C l (D, cA, ad, LM) yX9_size13 iX9_size13 mv_ri [.ref (ad 0), .int a1] M (fX9_size13 F M a1) := by
  refine mv_C.ofV (ls := [(0, .ref (ad 0)), (1, .int a1)]) (by decide) rfl (Nat.le_of_ble_eq_true rfl) rfl ?_
  intro x hxl
  subst hxl
  unfold fX9_size13
  refine mv_aload_n (pc := 0) (i := 0) 0 dX9_size13_0 rfl rfl ?_
  refine mv_bipush (pc := 1) dX9_size13_1 kcb13 ?_
  refine mv_callVv (pc := 3) (As := [.int (13 : Int32)]) (st := []) (i := 0) dX9_size13_3 mlX9_246 vmX9_traces ⟨Nat.le_of_ble_eq_true rfl, Nat.le_of_ble_eq_true rfl⟩ lm_0 rfl rfl (Nat.le_of_ble_eq_true rfl) (ctX9_traces x.2.1 D cA ad F M (13 : Int32)) (fun M1 => ?_)
  refine mv_aload_n (pc := 6) (i := 0) 0 dX9_size13_6 rfl rfl ?_
  refine mv_iload_n (pc := 7) (i := 1) 1 dX9_size13_7 rfl rfl ?_
  refine mv_callVi (pc := 8) (As := [.int a1]) (st := []) (i := 0) dX9_size13_8 mlX9_249 vmX9_size10 ⟨Nat.le_of_ble_eq_true rfl, Nat.le_of_ble_eq_true rfl⟩ lm_0 rfl rfl (Nat.le_of_ble_eq_true rfl) (ctX9_size10 x.2.1 D cA ad F M1 a1) (fun v3 M2 => ?_)
  refine mv_bipush (pc := 11) dX9_size13_11 kcb100 ?_
  refine mv_isub (pc := 13) dX9_size13_13 ?_
  exact mv_ireturn (pc := 14) dX9_size13_14 rfl

set_option maxRecDepth 100000 in
set_option maxHeartbeats 4000000 in
theorem ctX9_sizeOf (l : Launch) (D : va_G) (cA : Nat → ClassId) (ad : Nat → Nat) (F : Nat) (M : mv_M) (a1 : Int32) : mv_C l (D, cA, ad, LM) yX9_sizeOf iX9_sizeOf mv_ri [.ref (ad 0), .int a1] M (fX9_sizeOf F M a1) := by
  refine mv_C.ofV (ls := [(0, .ref (ad 0)), (1, .int a1)]) (by decide) rfl (Nat.le_of_ble_eq_true rfl) rfl ?_
  intro x hxl
  subst hxl
  unfold fX9_sizeOf
  refine mv_aload_n (pc := 0) (i := 0) 0 dX9_sizeOf_0 rfl rfl ?_
  refine mv_getR (pc := 1) (i := 0) (j := 1) dX9_sizeOf_1 flX9_7 lm_0 rfl ?_
  refine mv_bipush (pc := 4) dX9_sizeOf_4 kcb11 ?_
  refine mv_iload_n (pc := 6) (i := 1) 1 dX9_sizeOf_6 rfl rfl ?_
  refine mv_iadd (pc := 7) dX9_sizeOf_7 ?_
  refine mv_iald (pc := 8) (i := 1) dX9_sizeOf_8 lm_1 ?_
  refine mv_swc (pc := 9) (v := (2 : Int32)) (off := 31) (tgt := 40) dX9_sizeOf_9 (by decide +kernel) (by decide +kernel) (by decide +kernel) (by decide) ?_ (fun h4 => ?_)
  · refine mv_aload_n (pc := 40) (i := 0) 0 dX9_sizeOf_40 rfl rfl ?_
    refine mv_bipush (pc := 41) dX9_sizeOf_41 kcb12 ?_
    refine mv_callVv (pc := 43) (As := [.int (12 : Int32)]) (st := []) (i := 0) dX9_sizeOf_43 mlX9_246 vmX9_traces ⟨Nat.le_of_ble_eq_true rfl, Nat.le_of_ble_eq_true rfl⟩ lm_0 rfl rfl (Nat.le_of_ble_eq_true rfl) (ctX9_traces x.2.1 D cA ad F M (12 : Int32)) (fun M1 => ?_)
    refine mv_aload_n (pc := 46) (i := 0) 0 dX9_sizeOf_46 rfl rfl ?_
    refine mv_iload_n (pc := 47) (i := 1) 1 dX9_sizeOf_47 rfl rfl ?_
    refine mv_callVi (pc := 48) (As := [.int a1]) (st := []) (i := 0) dX9_sizeOf_48 mlX9_255 vmX9_size11 ⟨Nat.le_of_ble_eq_true rfl, Nat.le_of_ble_eq_true rfl⟩ lm_0 rfl rfl (Nat.le_of_ble_eq_true rfl) (ctX9_size11 x.2.1 D cA ad F M1 a1) (fun v3 M2 => ?_)
    refine mv_ineg (pc := 51) dX9_sizeOf_51 ?_
    exact mv_ireturn (pc := 52) dX9_sizeOf_52 rfl
  refine mv_swc (pc := 9) (v := (3 : Int32)) (off := 64) (tgt := 73) dX9_sizeOf_9 (by decide +kernel) (by decide +kernel) (by decide +kernel) (by decide) ?_ (fun h7 => ?_)
  · refine mv_aload_n (pc := 73) (i := 0) 0 dX9_sizeOf_73 rfl rfl ?_
    refine mv_iload_n (pc := 74) (i := 1) 1 dX9_sizeOf_74 rfl rfl ?_
    refine mv_callVi (pc := 75) (As := [.int a1]) (st := []) (i := 0) dX9_sizeOf_75 mlX9_255 vmX9_size11 ⟨Nat.le_of_ble_eq_true rfl, Nat.le_of_ble_eq_true rfl⟩ lm_0 rfl rfl (Nat.le_of_ble_eq_true rfl) (ctX9_size11 x.2.1 D cA ad F M a1) (fun v6 M5 => ?_)
    exact mv_ireturn (pc := 78) dX9_sizeOf_78 rfl
  refine mv_swc (pc := 9) (v := (4 : Int32)) (off := 44) (tgt := 53) dX9_sizeOf_9 (by decide +kernel) (by decide +kernel) (by decide +kernel) (by decide) ?_ (fun h10 => ?_)
  · refine mv_aload_n (pc := 53) (i := 0) 0 dX9_sizeOf_53 rfl rfl ?_
    refine mv_iload_n (pc := 54) (i := 1) 1 dX9_sizeOf_54 rfl rfl ?_
    refine mv_callVi (pc := 55) (As := [.int a1]) (st := []) (i := 0) dX9_sizeOf_55 mlX9_258 vmX9_size13 ⟨Nat.le_of_ble_eq_true rfl, Nat.le_of_ble_eq_true rfl⟩ lm_0 rfl rfl (Nat.le_of_ble_eq_true rfl) (ctX9_size13 x.2.1 D cA ad F M a1) (fun v9 M8 => ?_)
    exact mv_ireturn (pc := 58) dX9_sizeOf_58 rfl
  refine mv_swc (pc := 9) (v := (5 : Int32)) (off := 50) (tgt := 59) dX9_sizeOf_9 (by decide +kernel) (by decide +kernel) (by decide +kernel) (by decide) ?_ (fun h14 => ?_)
  · refine mv_aload_n (pc := 59) (i := 0) 0 dX9_sizeOf_59 rfl rfl ?_
    refine mv_bipush (pc := 60) dX9_sizeOf_60 kcb14 ?_
    refine mv_callVv (pc := 62) (As := [.int (14 : Int32)]) (st := []) (i := 0) dX9_sizeOf_62 mlX9_246 vmX9_traces ⟨Nat.le_of_ble_eq_true rfl, Nat.le_of_ble_eq_true rfl⟩ lm_0 rfl rfl (Nat.le_of_ble_eq_true rfl) (ctX9_traces x.2.1 D cA ad F M (14 : Int32)) (fun M11 => ?_)
    refine mv_iconst (pc := 65) dX9_sizeOf_65 kci2 ?_
    refine mv_aload_n (pc := 66) (i := 0) 0 dX9_sizeOf_66 rfl rfl ?_
    refine mv_iload_n (pc := 67) (i := 1) 1 dX9_sizeOf_67 rfl rfl ?_
    refine mv_callVi (pc := 68) (As := [.int a1]) (st := [.int (2 : Int32)]) (i := 0) dX9_sizeOf_68 mlX9_258 vmX9_size13 ⟨Nat.le_of_ble_eq_true rfl, Nat.le_of_ble_eq_true rfl⟩ lm_0 rfl rfl (Nat.le_of_ble_eq_true rfl) (ctX9_size13 x.2.1 D cA ad F M11 a1) (fun v13 M12 => ?_)
    refine mv_imul (pc := 71) dX9_sizeOf_71 ?_
    exact mv_ireturn (pc := 72) dX9_sizeOf_72 rfl
  refine mv_swd (pc := 9) (tgt := 73) dX9_sizeOf_9 (by have e0 := mv_ne (n := 2) (by decide +kernel) h4; have e1 := mv_ne (n := 3) (by decide +kernel) h7; have e2 := mv_ne (n := 4) (by decide +kernel) h10; have e3 := mv_ne (n := 5) (by decide +kernel) h14; omega) (by decide) ?_
  refine mv_aload_n (pc := 73) (i := 0) 0 dX9_sizeOf_73 rfl rfl ?_
  refine mv_iload_n (pc := 74) (i := 1) 1 dX9_sizeOf_74 rfl rfl ?_
  refine mv_callVi (pc := 75) (As := [.int a1]) (st := []) (i := 0) dX9_sizeOf_75 mlX9_255 vmX9_size11 ⟨Nat.le_of_ble_eq_true rfl, Nat.le_of_ble_eq_true rfl⟩ lm_0 rfl rfl (Nat.le_of_ble_eq_true rfl) (ctX9_size11 x.2.1 D cA ad F M a1) (fun v16 M15 => ?_)
  exact mv_ireturn (pc := 78) dX9_sizeOf_78 rfl

set_option maxRecDepth 100000 in
set_option maxHeartbeats 4000000 in
theorem ctX9_mark23 (l : Launch) (D : va_G) (cA : Nat → ClassId) (ad : Nat → Nat) (F : Nat) (M : mv_M) (a1 : Int32) : mv_C l (D, cA, ad, LM) yX9_mark23 iX9_mark23 mv_ri [.ref (ad 0), .int a1] M (fX9_mark23 F M a1) := by
  refine mv_C.ofV (ls := [(0, .ref (ad 0)), (1, .int a1)]) (by decide) rfl (Nat.le_of_ble_eq_true rfl) rfl ?_
  intro x hxl
  subst hxl
  unfold fX9_mark23
  refine mv_aload_n (pc := 0) (i := 0) 0 dX9_mark23_0 rfl rfl ?_
  refine mv_bipush (pc := 1) dX9_mark23_1 kcb23 ?_
  refine mv_callVv (pc := 3) (As := [.int (23 : Int32)]) (st := []) (i := 0) dX9_mark23_3 mlX9_246 vmX9_traces ⟨Nat.le_of_ble_eq_true rfl, Nat.le_of_ble_eq_true rfl⟩ lm_0 rfl rfl (Nat.le_of_ble_eq_true rfl) (ctX9_traces x.2.1 D cA ad F M (23 : Int32)) (fun M1 => ?_)
  refine mv_aload_n (pc := 6) (i := 0) 0 dX9_mark23_6 rfl rfl ?_
  refine mv_iload_n (pc := 7) (i := 1) 1 dX9_mark23_7 rfl rfl ?_
  refine mv_callVi (pc := 8) (As := [.int a1]) (st := []) (i := 0) dX9_mark23_8 mlX9_261 vmX9_mark20 ⟨Nat.le_of_ble_eq_true rfl, Nat.le_of_ble_eq_true rfl⟩ lm_0 rfl rfl (Nat.le_of_ble_eq_true rfl) (ctX9_mark20 x.2.1 D cA ad F M1 a1) (fun v3 M2 => ?_)
  refine mv_istore_n (pc := 11) (i := 2) (ls' := [(0, .ref (ad 0)), (1, .int a1)]) dX9_mark23_11 rfl (Nat.le_of_ble_eq_true rfl) rfl (fun v4 => ?_)
  refine mv_iload_n (pc := 12) (i := 2) 0 dX9_mark23_12 rfl rfl ?_
  refine mv_aload_n (pc := 13) (i := 0) 1 dX9_mark23_13 rfl rfl ?_
  refine mv_iload_n (pc := 14) (i := 1) 2 dX9_mark23_14 rfl rfl ?_
  refine mv_callVi (pc := 15) (As := [.int a1]) (st := [.int v4]) (i := 0) dX9_mark23_15 mlX9_267 vmX9_sizeOf ⟨Nat.le_of_ble_eq_true rfl, Nat.le_of_ble_eq_true rfl⟩ lm_0 rfl rfl (Nat.le_of_ble_eq_true rfl) (ctX9_sizeOf x.2.1 D cA ad F M2 a1) (fun v6 M5 => ?_)
  refine mv_isub (pc := 18) dX9_mark23_18 ?_
  exact mv_ireturn (pc := 19) dX9_mark23_19 rfl

set_option maxRecDepth 100000 in
set_option maxHeartbeats 4000000 in
theorem ctX9_ask (l : Launch) (D : va_G) (cA : Nat → ClassId) (ad : Nat → Nat) (F : Nat) (M : mv_M) (a1 : Int32) (a2 : Int32) : mv_C l (D, cA, ad, LM) yX9_ask iX9_ask mv_ri [.ref (ad 0), .int a1, .int a2] M (fX9_ask F M a1 a2) := by
  refine mv_C.ofV (ls := [(0, .ref (ad 0)), (1, .int a1), (2, .int a2)]) (by decide) rfl (Nat.le_of_ble_eq_true rfl) rfl ?_
  intro x hxl
  subst hxl
  unfold fX9_ask
  refine mv_aload_n (pc := 0) (i := 0) 0 dX9_ask_0 rfl rfl ?_
  refine mv_iload_n (pc := 1) (i := 1) 1 dX9_ask_1 rfl rfl ?_
  refine mv_callVi (pc := 2) (As := [.int a1]) (st := []) (i := 0) dX9_ask_2 mlX9_134 vmX9_isMember ⟨Nat.le_of_ble_eq_true rfl, Nat.le_of_ble_eq_true rfl⟩ lm_0 rfl rfl (Nat.le_of_ble_eq_true rfl) (ctX9_isMember x.2.1 D cA ad F M a1) (fun v2 M1 => ?_)
  refine mv_if_eq (pc := 5) (tgt := 18) dX9_ask_5 (by decide) ?_ ?_
  · refine mv_ldc (pc := 18) dX9_ask_18 kwX9_65 ?_
    exact mv_ireturn (pc := 20) dX9_ask_20 rfl
  · refine mv_iload_n (pc := 8) (i := 2) 2 dX9_ask_8 rfl rfl ?_
    refine mv_i2l (pc := 9) dX9_ask_9 ?_
    refine mv_lconst (pc := 10) dX9_ask_10 (by decide +kernel : Int64.ofNat ((0 : Fin 2) : Nat) = (0 : Int64)) ?_
    refine mv_lconst (pc := 11) dX9_ask_11 (by decide +kernel : Int64.ofNat ((1 : Fin 2) : Nat) = (1 : Int64)) ?_
    refine mv_callSi (pc := 12) (As := [.long a2.toInt64, .long (0 : Int64), .long (1 : Int64)]) (st := []) dX9_ask_12 mlX9_48 smX9_in ⟨Nat.le_of_ble_eq_true rfl, Nat.le_of_ble_eq_true rfl⟩ rfl (Nat.le_of_ble_eq_true rfl) (ctX9_in x.2.1 D cA ad F M1 a2.toInt64 (0 : Int64) (1 : Int64)) (fun v4 M3 => ?_)
    refine mv_if_ne (pc := 15) (tgt := 21) dX9_ask_15 (by decide) ?_ ?_
    · refine mv_aload_n (pc := 21) (i := 0) 0 dX9_ask_21 rfl rfl ?_
      refine mv_iconst (pc := 22) dX9_ask_22 kci0 ?_
      refine mv_putI (pc := 23) (i := 0) dX9_ask_23 flX9_243 (Or.inl fpX9_22) lm_0 rfl (fun M5 => ?_)
      refine mv_iload_n (pc := 26) (i := 2) 2 dX9_ask_26 rfl rfl ?_
      refine mv_if_ne (pc := 27) (tgt := 38) dX9_ask_27 (by decide) ?_ ?_
      · refine mv_aload_n (pc := 38) (i := 0) 0 dX9_ask_38 rfl rfl ?_
        refine mv_getR (pc := 39) (i := 0) (j := 1) dX9_ask_39 flX9_7 lm_0 rfl ?_
        refine mv_bipush (pc := 42) dX9_ask_42 kcb11 ?_
        refine mv_iload_n (pc := 44) (i := 1) 1 dX9_ask_44 rfl rfl ?_
        refine mv_iadd (pc := 45) dX9_ask_45 ?_
        refine mv_iald (pc := 46) (i := 1) dX9_ask_46 lm_1 ?_
        refine mv_iconst (pc := 47) dX9_ask_47 kci4 ?_
        refine mv_icmp_lt (pc := 48) (tgt := 59) dX9_ask_48 (by decide) ?_ ?_
        · refine mv_aload_n (pc := 59) (i := 0) 0 dX9_ask_59 rfl rfl ?_
          refine mv_iload_n (pc := 60) (i := 1) 1 dX9_ask_60 rfl rfl ?_
          refine mv_callVi (pc := 61) (As := [.int a1]) (st := []) (i := 0) dX9_ask_61 mlX9_252 vmX9_markOf ⟨Nat.le_of_ble_eq_true rfl, Nat.le_of_ble_eq_true rfl⟩ lm_0 rfl rfl (Nat.le_of_ble_eq_true rfl) (ctX9_markOf x.2.1 D cA ad F M5 a1) (fun v7 M6 => ?_)
          exact mv_ireturn (pc := 64) dX9_ask_64 rfl
        · refine mv_aload_n (pc := 51) (i := 0) 0 dX9_ask_51 rfl rfl ?_
          refine mv_iload_n (pc := 52) (i := 1) 1 dX9_ask_52 rfl rfl ?_
          refine mv_callVi (pc := 53) (As := [.int a1]) (st := []) (i := 0) dX9_ask_53 mlX9_270 vmX9_mark23 ⟨Nat.le_of_ble_eq_true rfl, Nat.le_of_ble_eq_true rfl⟩ lm_0 rfl rfl (Nat.le_of_ble_eq_true rfl) (ctX9_mark23 x.2.1 D cA ad F M5 a1) (fun v9 M8 => ?_)
          refine mv_goto (pc := 56) (tgt := 64) dX9_ask_56 (by decide) ?_
          exact mv_ireturn (pc := 64) dX9_ask_64 rfl
      · refine mv_aload_n (pc := 30) (i := 0) 0 dX9_ask_30 rfl rfl ?_
        refine mv_iload_n (pc := 31) (i := 1) 1 dX9_ask_31 rfl rfl ?_
        refine mv_callVi (pc := 32) (As := [.int a1]) (st := []) (i := 0) dX9_ask_32 mlX9_267 vmX9_sizeOf ⟨Nat.le_of_ble_eq_true rfl, Nat.le_of_ble_eq_true rfl⟩ lm_0 rfl rfl (Nat.le_of_ble_eq_true rfl) (ctX9_sizeOf x.2.1 D cA ad F M5 a1) (fun v11 M10 => ?_)
        refine mv_goto (pc := 35) (tgt := 64) dX9_ask_35 (by decide) ?_
        exact mv_ireturn (pc := 64) dX9_ask_64 rfl
    · refine mv_ldc (pc := 18) dX9_ask_18 kwX9_65 ?_
      exact mv_ireturn (pc := 20) dX9_ask_20 rfl

set_option maxRecDepth 100000 in
set_option maxHeartbeats 4000000 in
theorem ctX9_trace (l : Launch) (D : va_G) (cA : Nat → ClassId) (ad : Nat → Nat) (F : Nat) (M : mv_M) (a1 : Int32) : mv_C l (D, cA, ad, LM) yX9_trace iX9_trace mv_ri [.ref (ad 0), .int a1] M (fX9_trace F M a1) := by
  refine mv_C.ofV (ls := [(0, .ref (ad 0)), (1, .int a1)]) (by decide) rfl (Nat.le_of_ble_eq_true rfl) rfl ?_
  intro x hxl
  subst hxl
  unfold fX9_trace
  refine mv_iload_n (pc := 0) (i := 1) 1 dX9_trace_0 rfl rfl ?_
  refine mv_i2l (pc := 1) dX9_trace_1 ?_
  refine mv_lconst (pc := 2) dX9_trace_2 (by decide +kernel : Int64.ofNat ((0 : Fin 2) : Nat) = (0 : Int64)) ?_
  refine mv_aload_n (pc := 3) (i := 0) 0 dX9_trace_3 rfl rfl ?_
  refine mv_getI (pc := 4) (i := 0) dX9_trace_4 flX9_243 lm_0 rfl ?_
  refine mv_iconst (pc := 7) dX9_trace_7 kci1 ?_
  refine mv_isub (pc := 8) dX9_trace_8 ?_
  refine mv_i2l (pc := 9) dX9_trace_9 ?_
  refine mv_callSi (pc := 10) (As := [.long a1.toInt64, .long (0 : Int64), .long (((M.1 0 22) - (1 : Int32)).toInt64)]) (st := []) dX9_trace_10 mlX9_48 smX9_in ⟨Nat.le_of_ble_eq_true rfl, Nat.le_of_ble_eq_true rfl⟩ rfl (Nat.le_of_ble_eq_true rfl) (ctX9_in x.2.1 D cA ad F M a1.toInt64 (0 : Int64) (((M.1 0 22) - (1 : Int32)).toInt64)) (fun v2 M1 => ?_)
  refine mv_if_eq (pc := 13) (tgt := 25) dX9_trace_13 (by decide) ?_ ?_
  · refine mv_ldc (pc := 25) dX9_trace_25 kwX9_149 ?_
    exact mv_ireturn (pc := 27) dX9_trace_27 rfl
  · refine mv_aload_n (pc := 16) (i := 0) 0 dX9_trace_16 rfl rfl ?_
    refine mv_getR (pc := 17) (i := 0) (j := 12) dX9_trace_17 flX9_45 lm_0 rfl ?_
    refine mv_iload_n (pc := 20) (i := 1) 1 dX9_trace_20 rfl rfl ?_
    refine mv_iald (pc := 21) (i := 12) dX9_trace_21 lm_12 ?_
    refine mv_goto (pc := 22) (tgt := 27) dX9_trace_22 (by decide) ?_
    exact mv_ireturn (pc := 27) dX9_trace_27 rfl

set_option maxRecDepth 100000 in
set_option maxHeartbeats 4000000 in
theorem ctX9_rowsThere (l : Launch) (D : va_G) (cA : Nat → ClassId) (ad : Nat → Nat) (F : Nat) (M : mv_M) : mv_C l (D, cA, ad, LM) yX9_rowsThere iX9_rowsThere mv_ri [.ref (ad 0)] M (fX9_rowsThere F M) := by
  refine mv_C.ofV (ls := [(0, .ref (ad 0))]) (by decide) rfl (Nat.le_of_ble_eq_true rfl) rfl ?_
  intro x hxl
  subst hxl
  unfold fX9_rowsThere
  refine mv_iconst (pc := 0) dX9_rowsThere_0 kci0 ?_
  refine mv_istore_n (pc := 1) (i := 1) (ls' := [(0, .ref (ad 0))]) dX9_rowsThere_1 rfl (Nat.le_of_ble_eq_true rfl) rfl (fun v1 => ?_)
  refine mv_iconst (pc := 2) dX9_rowsThere_2 kci0 ?_
  refine mv_istore_n (pc := 3) (i := 2) (ls' := [(1, .int v1), (0, .ref (ad 0))]) dX9_rowsThere_3 rfl (Nat.le_of_ble_eq_true rfl) rfl (fun v2 => ?_)
  refine mv_sub [2, 1, 0] rfl ?_
  refine mv_loop (pc := 4) (lj := fun (s3 : Int32 × Int32 × mv_M) => [(0, .ref (ad 0)), (1, .int s3.1), (2, .int s3.2.1)]) (Mj := fun (s3 : Int32 × Int32 × mv_M) => s3.2.2) (B := bX9_rowsThere_4) ?_ F (v1, v2, M)
  intro f4 hf4 s3
  unfold bX9_rowsThere_4
  refine mv_iload_n (pc := 4) (i := 2) 2 dX9_rowsThere_4 rfl rfl ?_
  refine mv_bipush (pc := 5) dX9_rowsThere_5 kcb8 ?_
  refine mv_icmp_ge (pc := 7) (tgt := 33) dX9_rowsThere_7 (by decide) ?_ ?_
  · refine mv_iload_n (pc := 33) (i := 1) 1 dX9_rowsThere_33 rfl rfl ?_
    exact mv_ireturn (pc := 34) dX9_rowsThere_34 rfl
  · refine mv_iload_n (pc := 10) (i := 1) 1 dX9_rowsThere_10 rfl rfl ?_
    refine mv_aload_n (pc := 11) (i := 0) 0 dX9_rowsThere_11 rfl rfl ?_
    refine mv_getR (pc := 12) (i := 0) (j := 3) dX9_rowsThere_12 flX9_16 lm_0 rfl ?_
    refine mv_iload_n (pc := 15) (i := 2) 2 dX9_rowsThere_15 rfl rfl ?_
    refine mv_iald (pc := 16) (i := 3) dX9_rowsThere_16 lm_3 ?_
    refine mv_if_lt (pc := 17) (tgt := 24) dX9_rowsThere_17 (by decide) ?_ ?_
    · refine mv_iconst (pc := 24) dX9_rowsThere_24 kci0 ?_
      refine mv_iadd (pc := 25) dX9_rowsThere_25 ?_
      refine mv_istore_n (pc := 26) (i := 1) (ls' := [(0, .ref (ad 0)), (2, .int s3.2.1)]) dX9_rowsThere_26 rfl (Nat.le_of_ble_eq_true rfl) rfl (fun v5 => ?_)
      refine mv_iinc (pc := 27) (i := 2) (ls' := [(1, .int v5), (0, .ref (ad 0))]) 2 dX9_rowsThere_27 rfl kci1 (Nat.le_of_ble_eq_true rfl) rfl (fun v6 => ?_)
      refine mv_goto (pc := 30) (tgt := 4) dX9_rowsThere_30 (by decide) ?_
      refine mv_sub [2, 1, 0] rfl ?_
      exact hf4 (v5, v6, s3.2.2)
    · refine mv_iconst (pc := 20) dX9_rowsThere_20 kci1 ?_
      refine mv_goto (pc := 21) (tgt := 25) dX9_rowsThere_21 (by decide) ?_
      refine mv_iadd (pc := 25) dX9_rowsThere_25 ?_
      refine mv_istore_n (pc := 26) (i := 1) (ls' := [(0, .ref (ad 0)), (2, .int s3.2.1)]) dX9_rowsThere_26 rfl (Nat.le_of_ble_eq_true rfl) rfl (fun v7 => ?_)
      refine mv_iinc (pc := 27) (i := 2) (ls' := [(1, .int v7), (0, .ref (ad 0))]) 2 dX9_rowsThere_27 rfl kci1 (Nat.le_of_ble_eq_true rfl) rfl (fun v8 => ?_)
      refine mv_goto (pc := 30) (tgt := 4) dX9_rowsThere_30 (by decide) ?_
      refine mv_sub [2, 1, 0] rfl ?_
      exact hf4 (v7, v8, s3.2.2)

set_option maxRecDepth 100000 in
set_option maxHeartbeats 4000000 in
theorem ctX9_count (l : Launch) (D : va_G) (cA : Nat → ClassId) (ad : Nat → Nat) (F : Nat) (M : mv_M) (a1 : Int32) : mv_C l (D, cA, ad, LM) yX9_count iX9_count mv_ri [.ref (ad 0), .int a1] M (fX9_count F M a1) := by
  refine mv_C.ofV (ls := [(0, .ref (ad 0)), (1, .int a1)]) (by decide) rfl (Nat.le_of_ble_eq_true rfl) rfl ?_
  intro x hxl
  subst hxl
  unfold fX9_count
  refine mv_iload_n (pc := 0) (i := 1) 1 dX9_count_0 rfl rfl ?_
  refine mv_swc (pc := 1) (v := (0 : Int32)) (off := 39) (tgt := 40) dX9_count_1 (by decide +kernel) (by decide +kernel) (by decide +kernel) (by decide) ?_ (fun h3 => ?_)
  · refine mv_aload_n (pc := 40) (i := 0) 0 dX9_count_40 rfl rfl ?_
    refine mv_callVi (pc := 41) (As := []) (st := []) (i := 0) dX9_count_41 mlX9_273 vmX9_rowsThere ⟨Nat.le_of_ble_eq_true rfl, Nat.le_of_ble_eq_true rfl⟩ lm_0 rfl rfl (Nat.le_of_ble_eq_true rfl) (ctX9_rowsThere x.2.1 D cA ad F M) (fun v2 M1 => ?_)
    exact mv_ireturn (pc := 44) dX9_count_44 rfl
  refine mv_swc (pc := 1) (v := (1 : Int32)) (off := 44) (tgt := 45) dX9_count_1 (by decide +kernel) (by decide +kernel) (by decide +kernel) (by decide) ?_ (fun h4 => ?_)
  · refine mv_aload_n (pc := 45) (i := 0) 0 dX9_count_45 rfl rfl ?_
    refine mv_getR (pc := 46) (i := 0) (j := 1) dX9_count_46 flX9_7 lm_0 rfl ?_
    refine mv_iconst (pc := 49) dX9_count_49 kci0 ?_
    refine mv_iald (pc := 50) (i := 1) dX9_count_50 lm_1 ?_
    exact mv_ireturn (pc := 51) dX9_count_51 rfl
  refine mv_swc (pc := 1) (v := (2 : Int32)) (off := 51) (tgt := 52) dX9_count_1 (by decide +kernel) (by decide +kernel) (by decide +kernel) (by decide) ?_ (fun h5 => ?_)
  · refine mv_aload_n (pc := 52) (i := 0) 0 dX9_count_52 rfl rfl ?_
    refine mv_getR (pc := 53) (i := 0) (j := 1) dX9_count_53 flX9_7 lm_0 rfl ?_
    refine mv_iconst (pc := 56) dX9_count_56 kci1 ?_
    refine mv_iald (pc := 57) (i := 1) dX9_count_57 lm_1 ?_
    exact mv_ireturn (pc := 58) dX9_count_58 rfl
  refine mv_swc (pc := 1) (v := (3 : Int32)) (off := 58) (tgt := 59) dX9_count_1 (by decide +kernel) (by decide +kernel) (by decide +kernel) (by decide) ?_ (fun h6 => ?_)
  · refine mv_aload_n (pc := 59) (i := 0) 0 dX9_count_59 rfl rfl ?_
    refine mv_getR (pc := 60) (i := 0) (j := 1) dX9_count_60 flX9_7 lm_0 rfl ?_
    refine mv_iconst (pc := 63) dX9_count_63 kci2 ?_
    refine mv_iald (pc := 64) (i := 1) dX9_count_64 lm_1 ?_
    exact mv_ireturn (pc := 65) dX9_count_65 rfl
  refine mv_swc (pc := 1) (v := (4 : Int32)) (off := 65) (tgt := 66) dX9_count_1 (by decide +kernel) (by decide +kernel) (by decide +kernel) (by decide) ?_ (fun h7 => ?_)
  · refine mv_aload_n (pc := 66) (i := 0) 0 dX9_count_66 rfl rfl ?_
    refine mv_getI (pc := 67) (i := 0) dX9_count_67 flX9_131 lm_0 rfl ?_
    exact mv_ireturn (pc := 70) dX9_count_70 rfl
  refine mv_swc (pc := 1) (v := (5 : Int32)) (off := 70) (tgt := 71) dX9_count_1 (by decide +kernel) (by decide +kernel) (by decide +kernel) (by decide) ?_ (fun h8 => ?_)
  · refine mv_aload_n (pc := 71) (i := 0) 0 dX9_count_71 rfl rfl ?_
    refine mv_getI (pc := 72) (i := 0) dX9_count_72 flX9_76 lm_0 rfl ?_
    exact mv_ireturn (pc := 75) dX9_count_75 rfl
  refine mv_swd (pc := 1) (tgt := 76) dX9_count_1 (by have e0 := mv_ne (n := 0) (by decide +kernel) h3; have e1 := mv_ne (n := 1) (by decide +kernel) h4; have e2 := mv_ne (n := 2) (by decide +kernel) h5; have e3 := mv_ne (n := 3) (by decide +kernel) h6; have e4 := mv_ne (n := 4) (by decide +kernel) h7; have e5 := mv_ne (n := 5) (by decide +kernel) h8; omega) (by decide) ?_
  refine mv_ldc (pc := 76) dX9_count_76 kwX9_65 ?_
  exact mv_ireturn (pc := 78) dX9_count_78 rfl

set_option maxRecDepth 100000 in
set_option maxHeartbeats 4000000 in
theorem ctX9_status (l : Launch) (D : va_G) (cA : Nat → ClassId) (ad : Nat → Nat) (F : Nat) (M : mv_M) : mv_C l (D, cA, ad, LM) yX9_status iX9_status mv_ri [.ref (ad 0)] M (fX9_status F M) := by
  refine mv_C.ofV (ls := [(0, .ref (ad 0))]) (by decide) rfl (Nat.le_of_ble_eq_true rfl) rfl ?_
  intro x hxl
  subst hxl
  unfold fX9_status
  refine mv_aload_n (pc := 0) (i := 0) 0 dX9_status_0 rfl rfl ?_
  refine mv_getI (pc := 1) (i := 0) dX9_status_1 flX9_54 lm_0 rfl ?_
  exact mv_ireturn (pc := 4) dX9_status_4 rfl
