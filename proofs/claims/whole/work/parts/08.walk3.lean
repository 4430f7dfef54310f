set_option maxRecDepth 100000 in
set_option maxHeartbeats 4000000 in
theorem ctX7_pricesShown (l : Launch) (D : va_G) (cA : Nat → ClassId) (ad : Nat → Nat) (F : Nat) (M : mv_M) : mv_C l (D, cA, ad, LX) yX7_pricesShown iX7_pricesShown mv_ri [.ref (ad 1)] M (fX7_pricesShown F M) := by
  refine mv_C.ofV (ls := [(0, .ref (ad 1))]) (by decide) rfl (Nat.le_of_ble_eq_true rfl) rfl ?_
  intro x hxl
  subst hxl
  unfold fX7_pricesShown
  refine mv_iconst (pc := 0) dX7_pricesShown_0 kci0 ?_
  refine mv_istore_n (pc := 1) (i := 1) (ls' := [(0, .ref (ad 1))]) dX7_pricesShown_1 rfl (Nat.le_of_ble_eq_true rfl) rfl (fun v1 => ?_)
  refine mv_iconst (pc := 2) dX7_pricesShown_2 kci0 ?_
  refine mv_istore_n (pc := 3) (i := 2) (ls' := [(1, .int v1), (0, .ref (ad 1))]) dX7_pricesShown_3 rfl (Nat.le_of_ble_eq_true rfl) rfl (fun v2 => ?_)
  refine mv_sub [2, 1, 0] rfl ?_
  refine mv_loop (pc := 4) (lj := fun (s3 : Int32 × Int32 × mv_M) => [(0, .ref (ad 1)), (1, .int s3.1), (2, .int s3.2.1)]) (Mj := fun (s3 : Int32 × Int32 × mv_M) => s3.2.2) (B := bX7_pricesShown_4 F) ?_ F (v1, v2, M)
  intro f4 hf4 s3
  unfold bX7_pricesShown_4
  refine mv_iload_n (pc := 4) (i := 2) 2 dX7_pricesShown_4 rfl rfl ?_
  refine mv_aload_n (pc := 5) (i := 0) 0 dX7_pricesShown_5 rfl rfl ?_
  refine mv_getI (pc := 6) (i := 1) dX7_pricesShown_6 flX7_40 lx_1 rfl ?_
  refine mv_icmp_ge (pc := 9) (tgt := 34) dX7_pricesShown_9 (by decide) ?_ ?_
  · refine mv_iload_n (pc := 34) (i := 1) 1 dX7_pricesShown_34 rfl rfl ?_
    exact mv_ireturn (pc := 35) dX7_pricesShown_35 rfl
  · refine mv_aload_n (pc := 12) (i := 0) 0 dX7_pricesShown_12 rfl rfl ?_
    refine mv_iload_n (pc := 13) (i := 2) 2 dX7_pricesShown_13 rfl rfl ?_
    refine mv_callVi (pc := 14) (As := [.int s3.2.1]) (st := []) (i := 1) dX7_pricesShown_14 mlX7_63 vmX7_isHidden ⟨Nat.le_of_ble_eq_true rfl, Nat.le_of_ble_eq_true rfl⟩ lx_1 rfl rfl (Nat.le_of_ble_eq_true rfl) (ctX7_isHidden x.2.1 D cA ad F s3.2.2 s3.2.1) (fun v6 M5 => ?_)
    refine mv_if_ne (pc := 17) (tgt := 28) dX7_pricesShown_17 (by decide) ?_ ?_
    · refine mv_iinc (pc := 28) (i := 2) (ls' := [(0, .ref (ad 1)), (1, .int s3.1)]) 2 dX7_pricesShown_28 rfl kci1 (Nat.le_of_ble_eq_true rfl) rfl (fun v7 => ?_)
      refine mv_goto (pc := 31) (tgt := 4) dX7_pricesShown_31 (by decide) ?_
      refine mv_sub [1, 2, 0] rfl ?_
      exact hf4 (s3.1, v7, M5)
    · refine mv_iload_n (pc := 20) (i := 1) 1 dX7_pricesShown_20 rfl rfl ?_
      refine mv_aload_n (pc := 21) (i := 0) 0 dX7_pricesShown_21 rfl rfl ?_
      refine mv_iload_n (pc := 22) (i := 2) 2 dX7_pricesShown_22 rfl rfl ?_
      refine mv_callVi (pc := 23) (As := [.int s3.2.1]) (st := [.int s3.1]) (i := 1) dX7_pricesShown_23 mlX7_67 vmX7_priceOf ⟨Nat.le_of_ble_eq_true rfl, Nat.le_of_ble_eq_true rfl⟩ lx_1 rfl rfl (Nat.le_of_ble_eq_true rfl) (ctX7_priceOf x.2.1 D cA ad F M5 s3.2.1) (fun v9 M8 => ?_)
      refine mv_iadd (pc := 26) dX7_pricesShown_26 ?_
      refine mv_istore_n (pc := 27) (i := 1) (ls' := [(0, .ref (ad 1)), (2, .int s3.2.1)]) dX7_pricesShown_27 rfl (Nat.le_of_ble_eq_true rfl) rfl (fun v10 => ?_)
      refine mv_iinc (pc := 28) (i := 2) (ls' := [(1, .int v10), (0, .ref (ad 1))]) 2 dX7_pricesShown_28 rfl kci1 (Nat.le_of_ble_eq_true rfl) rfl (fun v11 => ?_)
      refine mv_goto (pc := 31) (tgt := 4) dX7_pricesShown_31 (by decide) ?_
      refine mv_sub [2, 1, 0] rfl ?_
      exact hf4 (v10, v11, M8)

set_option maxRecDepth 100000 in
set_option maxHeartbeats 4000000 in
theorem ctX7_shareOf (l : Launch) (D : va_G) (cA : Nat → ClassId) (ad : Nat → Nat) (F : Nat) (M : mv_M) (a1 : Int32) (a2 : Int32) : mv_C l (D, cA, ad, LX) yX7_shareOf iX7_shareOf mv_ri [.ref (ad 1), .int a1, .int a2] M (fX7_shareOf F M a1 a2) := by
  refine mv_C.ofV (ls := [(0, .ref (ad 1)), (1, .int a1), (2, .int a2)]) (by decide) rfl (Nat.le_of_ble_eq_true rfl) rfl ?_
  intro x hxl
  subst hxl
  unfold fX7_shareOf
  refine mv_aload_n (pc := 0) (i := 0) 0 dX7_shareOf_0 rfl rfl ?_
  refine mv_callVi (pc := 1) (As := []) (st := []) (i := 1) dX7_shareOf_1 mlX7_59 vmX7_pricesShown ⟨Nat.le_of_ble_eq_true rfl, Nat.le_of_ble_eq_true rfl⟩ lx_1 rfl rfl (Nat.le_of_ble_eq_true rfl) (ctX7_pricesShown x.2.1 D cA ad F M) (fun v2 M1 => ?_)
  refine mv_istore_n (pc := 4) (i := 3) (ls' := [(0, .ref (ad 1)), (1, .int a1), (2, .int a2)]) dX7_shareOf_4 rfl (Nat.le_of_ble_eq_true rfl) rfl (fun v3 => ?_)
  refine mv_iload_n (pc := 5) (i := 3) 0 dX7_shareOf_5 rfl rfl ?_
  refine mv_iconst (pc := 6) dX7_shareOf_6 kci1 ?_
  refine mv_icmp_ge (pc := 7) (tgt := 12) dX7_shareOf_7 (by decide) ?_ ?_
  · refine mv_iload_n (pc := 12) (i := 2) 3 dX7_shareOf_12 rfl rfl ?_
    refine mv_istore (pc := 13) (i := 4) (ls' := [(3, .int v3), (0, .ref (ad 1)), (1, .int a1), (2, .int a2)]) dX7_shareOf_13 (Nat.le_of_ble_eq_true rfl) rfl (fun v4 => ?_)
    refine mv_iconst (pc := 15) dX7_shareOf_15 kci0 ?_
    refine mv_istore (pc := 16) (i := 5) (ls' := [(4, .int v4), (3, .int v3), (0, .ref (ad 1)), (1, .int a1), (2, .int a2)]) dX7_shareOf_16 (Nat.le_of_ble_eq_true rfl) rfl (fun v5 => ?_)
    refine mv_iconst (pc := 18) dX7_shareOf_18 kci0 ?_
    refine mv_istore (pc := 19) (i := 6) (ls' := [(5, .int v5), (4, .int v4), (3, .int v3), (0, .ref (ad 1)), (1, .int a1), (2, .int a2)]) dX7_shareOf_19 (Nat.le_of_ble_eq_true rfl) rfl (fun v6 => ?_)
    refine mv_jp (pj := 76) (lj := fun (s7 : Int32 × Int32 × mv_M) => [(0, .ref (ad 1)), (1, .int a1), (2, .int a2), (3, .int v3), (4, .int s7.1), (5, .int s7.2.1)]) (sj := fun (s7 : Int32 × Int32 × mv_M) => []) (Mj := fun (s7 : Int32 × Int32 × mv_M) => s7.2.2) ?_ ?_
    · intro s7
      refine mv_iload_n (pc := 76) (i := 2) 2 dX7_shareOf_76 rfl rfl ?_
      refine mv_aload_n (pc := 77) (i := 0) 0 dX7_shareOf_77 rfl rfl ?_
      refine mv_iload_n (pc := 78) (i := 1) 1 dX7_shareOf_78 rfl rfl ?_
      refine mv_callVi (pc := 79) (As := [.int a1]) (st := [.int a2]) (i := 1) dX7_shareOf_79 mlX7_67 vmX7_priceOf ⟨Nat.le_of_ble_eq_true rfl, Nat.le_of_ble_eq_true rfl⟩ lx_1 rfl rfl (Nat.le_of_ble_eq_true rfl) (ctX7_priceOf x.2.1 D cA ad F s7.2.2 a1) (fun v10 M9 => ?_)
      refine mv_imul (pc := 82) dX7_shareOf_82 ?_
      refine mv_iload_n (pc := 83) (i := 3) 3 dX7_shareOf_83 rfl rfl ?_
      refine mv_idiv (pc := 84) dX7_shareOf_84 ?_
      refine mv_iload (pc := 85) (i := 5) 5 dX7_shareOf_85 rfl ?_
      refine mv_iload (pc := 87) (i := 4) 4 dX7_shareOf_87 rfl ?_
      refine mv_icmp_ge (pc := 89) (tgt := 96) dX7_shareOf_89 (by decide) ?_ ?_
      · refine mv_iconst (pc := 96) dX7_shareOf_96 kci0 ?_
        refine mv_iadd (pc := 97) dX7_shareOf_97 ?_
        exact mv_ireturn (pc := 98) dX7_shareOf_98 rfl
      · refine mv_iconst (pc := 92) dX7_shareOf_92 kci1 ?_
        refine mv_goto (pc := 93) (tgt := 97) dX7_shareOf_93 (by decide) ?_
        refine mv_iadd (pc := 97) dX7_shareOf_97 ?_
        exact mv_ireturn (pc := 98) dX7_shareOf_98 rfl
    · intro j8 hj8
      refine mv_sub [4, 5, 6, 3, 2, 1, 0] rfl ?_
      refine mv_loop (pc := 21) (lj := fun (s11 : Int32 × Int32 × Int32 × mv_M) => [(0, .ref (ad 1)), (1, .int a1), (2, .int a2), (3, .int v3), (4, .int s11.1), (5, .int s11.2.1), (6, .int s11.2.2.1)]) (Mj := fun (s11 : Int32 × Int32 × Int32 × mv_M) => s11.2.2.2) (B := bX7_shareOf_21 j8 F v3 a2 a1) ?_ F (v4, v5, v6, M1)
      intro f12 hf12 s11
      unfold bX7_shareOf_21
      refine mv_iload (pc := 21) (i := 6) 6 dX7_shareOf_21 rfl ?_
      refine mv_aload_n (pc := 23) (i := 0) 0 dX7_shareOf_23 rfl rfl ?_
      refine mv_getI (pc := 24) (i := 1) dX7_shareOf_24 flX7_40 lx_1 rfl ?_
      refine mv_icmp_ge (pc := 27) (tgt := 76) dX7_shareOf_27 (by decide) ?_ ?_
      · refine mv_sub [0, 1, 2, 3, 4, 5] rfl ?_
        exact hj8 (s11.1, s11.2.1, s11.2.2.2)
      · refine mv_aload_n (pc := 30) (i := 0) 0 dX7_shareOf_30 rfl rfl ?_
        refine mv_iload (pc := 31) (i := 6) 6 dX7_shareOf_31 rfl ?_
        refine mv_callVi (pc := 33) (As := [.int s11.2.2.1]) (st := []) (i := 1) dX7_shareOf_33 mlX7_63 vmX7_isHidden ⟨Nat.le_of_ble_eq_true rfl, Nat.le_of_ble_eq_true rfl⟩ lx_1 rfl rfl (Nat.le_of_ble_eq_true rfl) (ctX7_isHidden x.2.1 D cA ad F s11.2.2.2 s11.2.2.1) (fun v14 M13 => ?_)
        refine mv_if_ne (pc := 36) (tgt := 70) dX7_shareOf_36 (by decide) ?_ ?_
        · refine mv_iinc (pc := 70) (i := 6) (ls' := [(0, .ref (ad 1)), (1, .int a1), (2, .int a2), (3, .int v3), (4, .int s11.1), (5, .int s11.2.1)]) 6 dX7_shareOf_70 rfl kci1 (Nat.le_of_ble_eq_true rfl) rfl (fun v15 => ?_)
          refine mv_goto (pc := 73) (tgt := 21) dX7_shareOf_73 (by decide) ?_
          refine mv_sub [1, 2, 3, 4, 5, 6, 0] rfl ?_
          exact hf12 (s11.1, s11.2.1, v15, M13)
        · refine mv_iload (pc := 39) (i := 4) 4 dX7_shareOf_39 rfl ?_
          refine mv_iload_n (pc := 41) (i := 2) 2 dX7_shareOf_41 rfl rfl ?_
          refine mv_aload_n (pc := 42) (i := 0) 0 dX7_shareOf_42 rfl rfl ?_
          refine mv_iload (pc := 43) (i := 6) 6 dX7_shareOf_43 rfl ?_
          refine mv_callVi (pc := 45) (As := [.int s11.2.2.1]) (st := [.int a2, .int s11.1]) (i := 1) dX7_shareOf_45 mlX7_67 vmX7_priceOf ⟨Nat.le_of_ble_eq_true rfl, Nat.le_of_ble_eq_true rfl⟩ lx_1 rfl rfl (Nat.le_of_ble_eq_true rfl) (ctX7_priceOf x.2.1 D cA ad F M13 s11.2.2.1) (fun v17 M16 => ?_)
          refine mv_imul (pc := 48) dX7_shareOf_48 ?_
          refine mv_iload_n (pc := 49) (i := 3) 3 dX7_shareOf_49 rfl rfl ?_
          refine mv_idiv (pc := 50) dX7_shareOf_50 ?_
          refine mv_isub (pc := 51) dX7_shareOf_51 ?_
          refine mv_istore (pc := 52) (i := 4) (ls' := [(0, .ref (ad 1)), (1, .int a1), (2, .int a2), (3, .int v3), (5, .int s11.2.1), (6, .int s11.2.2.1)]) dX7_shareOf_52 (Nat.le_of_ble_eq_true rfl) rfl (fun v18 => ?_)
          refine mv_iload (pc := 54) (i := 5) 5 dX7_shareOf_54 rfl ?_
          refine mv_iload (pc := 56) (i := 6) 6 dX7_shareOf_56 rfl ?_
          refine mv_iload_n (pc := 58) (i := 1) 2 dX7_shareOf_58 rfl rfl ?_
          refine mv_icmp_ge (pc := 59) (tgt := 66) dX7_shareOf_59 (by decide) ?_ ?_
          · refine mv_iconst (pc := 66) dX7_shareOf_66 kci0 ?_
            refine mv_iadd (pc := 67) dX7_shareOf_67 ?_
            refine mv_istore (pc := 68) (i := 5) (ls' := [(4, .int v18), (0, .ref (ad 1)), (1, .int a1), (2, .int a2), (3, .int v3), (6, .int s11.2.2.1)]) dX7_shareOf_68 (Nat.le_of_ble_eq_true rfl) rfl (fun v19 => ?_)
            refine mv_iinc (pc := 70) (i := 6) (ls' := [(5, .int v19), (4, .int v18), (0, .ref (ad 1)), (1, .int a1), (2, .int a2), (3, .int v3)]) 6 dX7_shareOf_70 rfl kci1 (Nat.le_of_ble_eq_true rfl) rfl (fun v20 => ?_)
            refine mv_goto (pc := 73) (tgt := 21) dX7_shareOf_73 (by decide) ?_
            refine mv_sub [3, 4, 5, 6, 2, 1, 0] rfl ?_
            exact hf12 (v18, v19, v20, M16)
          · refine mv_iconst (pc := 62) dX7_shareOf_62 kci1 ?_
            refine mv_goto (pc := 63) (tgt := 67) dX7_shareOf_63 (by decide) ?_
            refine mv_iadd (pc := 67) dX7_shareOf_67 ?_
            refine mv_istore (pc := 68) (i := 5) (ls' := [(4, .int v18), (0, .ref (ad 1)), (1, .int a1), (2, .int a2), (3, .int v3), (6, .int s11.2.2.1)]) dX7_shareOf_68 (Nat.le_of_ble_eq_true rfl) rfl (fun v21 => ?_)
            refine mv_iinc (pc := 70) (i := 6) (ls' := [(5, .int v21), (4, .int v18), (0, .ref (ad 1)), (1, .int a1), (2, .int a2), (3, .int v3)]) 6 dX7_shareOf_70 rfl kci1 (Nat.le_of_ble_eq_true rfl) rfl (fun v22 => ?_)
            refine mv_goto (pc := 73) (tgt := 21) dX7_shareOf_73 (by decide) ?_
            refine mv_sub [3, 4, 5, 6, 2, 1, 0] rfl ?_
            exact hf12 (v18, v21, v22, M16)
  · refine mv_iconst (pc := 10) dX7_shareOf_10 kci0 ?_
    exact mv_ireturn (pc := 11) dX7_shareOf_11 rfl

set_option maxRecDepth 100000 in
set_option maxHeartbeats 4000000 in
theorem ctX8_share (l : Launch) (D : va_G) (cA : Nat → ClassId) (ad : Nat → Nat) (F : Nat) (M : mv_M) (a1 : Int32) (a2 : Int32) : mv_C l (D, cA, ad, LX) yX8_share iX8_share mv_ri [.ref (ad 0), .int a1, .int a2] M (fX8_share F M a1 a2) := by
  refine mv_C.ofV (ls := [(0, .ref (ad 0)), (1, .int a1), (2, .int a2)]) (by decide) rfl (Nat.le_of_ble_eq_true rfl) rfl ?_
  intro x hxl
  subst hxl
  unfold fX8_share
  refine mv_aload_n (pc := 0) (i := 0) 0 dX8_share_0 rfl rfl ?_
  refine mv_getR (pc := 1) (i := 0) (j := 1) dX8_share_1 flX8_10 lx_0 rfl ?_
  refine mv_iload_n (pc := 4) (i := 1) 1 dX8_share_4 rfl rfl ?_
  refine mv_callVi (pc := 5) (As := [.int a1]) (st := []) (i := 1) dX8_share_5 mlX8_154 vmX7_hasMember ⟨Nat.le_of_ble_eq_true rfl, Nat.le_of_ble_eq_true rfl⟩ lx_1 rfl rfl (Nat.le_of_ble_eq_true rfl) (ctX7_hasMember x.2.1 D cA ad F M a1) (fun v2 M1 => ?_)
  refine mv_if_eq (pc := 8) (tgt := 22) dX8_share_8 (by decide) ?_ ?_
  · refine mv_ldc (pc := 22) dX8_share_22 kwX8_80 ?_
    exact mv_ireturn (pc := 24) dX8_share_24 rfl
  · refine mv_iload_n (pc := 11) (i := 2) 2 dX8_share_11 rfl rfl ?_
    refine mv_if_lt (pc := 12) (tgt := 22) dX8_share_12 (by decide) ?_ ?_
    · refine mv_ldc (pc := 22) dX8_share_22 kwX8_80 ?_
      exact mv_ireturn (pc := 24) dX8_share_24 rfl
    · refine mv_iload_n (pc := 15) (i := 2) 2 dX8_share_15 rfl rfl ?_
      refine mv_sipush (pc := 16) dX8_share_16 kcs999 ?_
      refine mv_icmp_le (pc := 19) (tgt := 25) dX8_share_19 (by decide) ?_ ?_
      · refine mv_aload_n (pc := 25) (i := 0) 0 dX8_share_25 rfl rfl ?_
        refine mv_getR (pc := 26) (i := 0) (j := 1) dX8_share_26 flX8_10 lx_0 rfl ?_
        refine mv_iload_n (pc := 29) (i := 1) 1 dX8_share_29 rfl rfl ?_
        refine mv_callVi (pc := 30) (As := [.int a1]) (st := []) (i := 1) dX8_share_30 mlX8_157 vmX7_isHidden ⟨Nat.le_of_ble_eq_true rfl, Nat.le_of_ble_eq_true rfl⟩ lx_1 rfl rfl (Nat.le_of_ble_eq_true rfl) (ctX7_isHidden x.2.1 D cA ad F M1 a1) (fun v4 M3 => ?_)
        refine mv_if_eq (pc := 33) (tgt := 40) dX8_share_33 (by decide) ?_ ?_
        · refine mv_aload_n (pc := 40) (i := 0) 0 dX8_share_40 rfl rfl ?_
          refine mv_getR (pc := 41) (i := 0) (j := 1) dX8_share_41 flX8_10 lx_0 rfl ?_
          refine mv_iload_n (pc := 44) (i := 1) 1 dX8_share_44 rfl rfl ?_
          refine mv_iload_n (pc := 45) (i := 2) 2 dX8_share_45 rfl rfl ?_
          refine mv_callVi (pc := 46) (As := [.int a1, .int a2]) (st := []) (i := 1) dX8_share_46 mlX8_267 vmX7_shareOf ⟨Nat.le_of_ble_eq_true rfl, Nat.le_of_ble_eq_true rfl⟩ lx_1 rfl rfl (Nat.le_of_ble_eq_true rfl) (ctX7_shareOf x.2.1 D cA ad F M3 a1 a2) (fun v6 M5 => ?_)
          exact mv_ireturn (pc := 49) dX8_share_49 rfl
        · refine mv_iconst (pc := 36) dX8_share_36 kci0 ?_
          refine mv_goto (pc := 37) (tgt := 49) dX8_share_37 (by decide) ?_
          exact mv_ireturn (pc := 49) dX8_share_49 rfl
      · refine mv_ldc (pc := 22) dX8_share_22 kwX8_80 ?_
        exact mv_ireturn (pc := 24) dX8_share_24 rfl

set_option maxRecDepth 100000 in
set_option maxHeartbeats 4000000 in
theorem ctX2_size (l : Launch) (D : va_G) (cA : Nat → ClassId) (ad : Nat → Nat) (F : Nat) (M : mv_M) (a1 : Int32) : mv_C l (D, cA, ad, LX) yX2_size iX2_size mv_ri [.ref (ad 58), .int a1] M (fX2_size F M a1) := by
  refine mv_C.ofV (ls := [(0, .ref (ad 58)), (1, .int a1)]) (by decide) rfl (Nat.le_of_ble_eq_true rfl) rfl ?_
  intro x hxl
  subst hxl
  unfold fX2_size
  refine mv_aload_n (pc := 0) (i := 0) 0 dX2_size_0 rfl rfl ?_
  refine mv_iload_n (pc := 1) (i := 1) 1 dX2_size_1 rfl rfl ?_
  refine mv_bipush (pc := 2) dX2_size_2 kcb25 ?_
  refine mv_callVl (pc := 4) (As := [.int a1, .int (25 : Int32)]) (st := []) (i := 58) dX2_size_4 mlX2_44 vmX2_manyBelow ⟨Nat.le_of_ble_eq_true rfl, Nat.le_of_ble_eq_true rfl⟩ lx_58 rfl rfl (Nat.le_of_ble_eq_true rfl) (ctX2_manyBelow x.2.1 D cA ad F M a1 (25 : Int32)) (fun v2 M1 => ?_)
  refine mv_ldc2_w (pc := 7) dX2_size_7 kwX2_36 ?_
  refine mv_minl (pc := 10) dX2_size_10 mwX2_38 mx_min ⟨Nat.le_of_ble_eq_true rfl, Nat.le_of_ble_eq_true rfl⟩ ?_
  refine mv_l2i (pc := 13) dX2_size_13 ?_
  exact mv_ireturn (pc := 14) dX2_size_14 rfl

set_option maxRecDepth 100000 in
set_option maxHeartbeats 4000000 in
theorem ctX8_drawn (l : Launch) (D : va_G) (cA : Nat → ClassId) (ad : Nat → Nat) (F : Nat) (M : mv_M) (a1 : Int32) (a2 : Int32) (a3 : Int32) (a4 : Int32) : mv_C l (D, cA, ad, LX) yX8_drawn iX8_drawn mv_ri [.ref (ad 0), .int a1, .int a2, .int a3, .int a4] M (fX8_drawn F M a1 a2 a3 a4) := by
  refine mv_C.ofV (ls := [(0, .ref (ad 0)), (1, .int a1), (2, .int a2), (3, .int a3), (4, .int a4)]) (by decide) rfl (Nat.le_of_ble_eq_true rfl) rfl ?_
  intro x hxl
  subst hxl
  unfold fX8_drawn
  refine mv_aload_n (pc := 0) (i := 0) 0 dX8_drawn_0 rfl rfl ?_
  refine mv_getR (pc := 1) (i := 0) (j := 1) dX8_drawn_1 flX8_10 lx_0 rfl ?_
  refine mv_iload_n (pc := 4) (i := 1) 1 dX8_drawn_4 rfl rfl ?_
  refine mv_callVi (pc := 5) (As := [.int a1]) (st := []) (i := 1) dX8_drawn_5 mlX8_173 vmX7_hasType ⟨Nat.le_of_ble_eq_true rfl, Nat.le_of_ble_eq_true rfl⟩ lx_1 rfl rfl (Nat.le_of_ble_eq_true rfl) (ctX7_hasType x.2.1 D cA ad F M a1) (fun v2 M1 => ?_)
  refine mv_if_eq (pc := 8) (tgt := 45) dX8_drawn_8 (by decide) ?_ ?_
  · refine mv_ldc (pc := 45) dX8_drawn_45 kwX8_80 ?_
    exact mv_ireturn (pc := 47) dX8_drawn_47 rfl
  · refine mv_iload_n (pc := 11) (i := 2) 2 dX8_drawn_11 rfl rfl ?_
    refine mv_iconst (pc := 12) dX8_drawn_12 kci1 ?_
    refine mv_icmp_lt (pc := 13) (tgt := 45) dX8_drawn_13 (by decide) ?_ ?_
    · refine mv_ldc (pc := 45) dX8_drawn_45 kwX8_80 ?_
      exact mv_ireturn (pc := 47) dX8_drawn_47 rfl
    · refine mv_iload_n (pc := 16) (i := 2) 2 dX8_drawn_16 rfl rfl ?_
      refine mv_bipush (pc := 17) dX8_drawn_17 kcb60 ?_
      refine mv_icmp_gt (pc := 19) (tgt := 45) dX8_drawn_19 (by decide) ?_ ?_
      · refine mv_ldc (pc := 45) dX8_drawn_45 kwX8_80 ?_
        exact mv_ireturn (pc := 47) dX8_drawn_47 rfl
      · refine mv_iload_n (pc := 22) (i := 3) 3 dX8_drawn_22 rfl rfl ?_
        refine mv_iconst (pc := 23) dX8_drawn_23 kci1 ?_
        refine mv_icmp_lt (pc := 24) (tgt := 45) dX8_drawn_24 (by decide) ?_ ?_
        · refine mv_ldc (pc := 45) dX8_drawn_45 kwX8_80 ?_
          exact mv_ireturn (pc := 47) dX8_drawn_47 rfl
        · refine mv_iload_n (pc := 27) (i := 3) 3 dX8_drawn_27 rfl rfl ?_
          refine mv_ldc_w (pc := 28) dX8_drawn_28 kwX8_270 ?_
          refine mv_icmp_gt (pc := 31) (tgt := 45) dX8_drawn_31 (by decide) ?_ ?_
          · refine mv_ldc (pc := 45) dX8_drawn_45 kwX8_80 ?_
            exact mv_ireturn (pc := 47) dX8_drawn_47 rfl
          · refine mv_iload (pc := 34) (i := 4) 4 dX8_drawn_34 rfl ?_
            refine mv_if_lt (pc := 36) (tgt := 45) dX8_drawn_36 (by decide) ?_ ?_
            · refine mv_ldc (pc := 45) dX8_drawn_45 kwX8_80 ?_
              exact mv_ireturn (pc := 47) dX8_drawn_47 rfl
            · refine mv_iload (pc := 39) (i := 4) 4 dX8_drawn_39 rfl ?_
              refine mv_iconst (pc := 41) dX8_drawn_41 kci1 ?_
              refine mv_icmp_le (pc := 42) (tgt := 48) dX8_drawn_42 (by decide) ?_ ?_
              · refine mv_aload_n (pc := 48) (i := 0) 0 dX8_drawn_48 rfl rfl ?_
                refine mv_getR (pc := 49) (i := 0) (j := 58) dX8_drawn_49 flX8_53 lx_0 rfl ?_
                refine mv_iload_n (pc := 52) (i := 1) 1 dX8_drawn_52 rfl rfl ?_
                refine mv_callVi (pc := 53) (As := [.int a1]) (st := []) (i := 58) dX8_drawn_53 mlX8_271 vmX2_size ⟨Nat.le_of_ble_eq_true rfl, Nat.le_of_ble_eq_true rfl⟩ lx_58 rfl rfl (Nat.le_of_ble_eq_true rfl) (ctX2_size x.2.1 D cA ad F M1 a1) (fun v4 M3 => ?_)
                refine mv_istore (pc := 56) (i := 5) (ls' := [(0, .ref (ad 0)), (1, .int a1), (2, .int a2), (3, .int a3), (4, .int a4)]) dX8_drawn_56 (Nat.le_of_ble_eq_true rfl) rfl (fun v5 => ?_)
                refine mv_iload (pc := 58) (i := 5) 0 dX8_drawn_58 rfl ?_
                refine mv_iconst (pc := 60) dX8_drawn_60 kci1 ?_
                refine mv_icmp_ge (pc := 61) (tgt := 67) dX8_drawn_61 (by decide) ?_ ?_
                · refine mv_iload_n (pc := 67) (i := 3) 4 dX8_drawn_67 rfl rfl ?_
                  refine mv_i2l (pc := 68) dX8_drawn_68 ?_
                  refine mv_lstore (pc := 69) (i := 6) (ls' := [(5, .int v5), (0, .ref (ad 0)), (1, .int a1), (2, .int a2), (3, .int a3), (4, .int a4)]) dX8_drawn_69 (Nat.le_of_ble_eq_true rfl) rfl (fun v6 => ?_)
                  refine mv_iconst (pc := 71) dX8_drawn_71 kci0 ?_
                  refine mv_istore (pc := 72) (i := 8) (ls' := [(6, .long v6), (5, .int v5), (0, .ref (ad 0)), (1, .int a1), (2, .int a2), (3, .int a3), (4, .int a4)]) dX8_drawn_72 (Nat.le_of_ble_eq_true rfl) rfl (fun v7 => ?_)
                  refine mv_iconst (pc := 74) dX8_drawn_74 kci0 ?_
                  refine mv_istore (pc := 75) (i := 9) (ls' := [(8, .int v7), (6, .long v6), (5, .int v5), (0, .ref (ad 0)), (1, .int a1), (2, .int a2), (3, .int a3), (4, .int a4)]) dX8_drawn_75 (Nat.le_of_ble_eq_true rfl) rfl (fun v8 => ?_)
                  refine mv_sub [4, 5, 6, 8, 3, 2, 1, 0] rfl ?_
                  refine mv_loop (pc := 77) (lj := fun (s9 : Int64 × Int32 × Int32 × mv_M) => [(0, .ref (ad 0)), (1, .int a1), (2, .int a2), (4, .int a4), (5, .int v5), (6, .long s9.1), (8, .int s9.2.1), (9, .int s9.2.2.1)]) (Mj := fun (s9 : Int64 × Int32 × Int32 × mv_M) => s9.2.2.2) (B := bX8_drawn_77 a2 v5 F a1 a4) ?_ F (v6, v7, v8, M3)
                  intro f10 hf10 s9
                  unfold bX8_drawn_77
                  refine mv_iload (pc := 77) (i := 9) 7 dX8_drawn_77 rfl ?_
                  refine mv_iload_n (pc := 79) (i := 2) 2 dX8_drawn_79 rfl rfl ?_
                  refine mv_icmp_ge (pc := 80) (tgt := 143) dX8_drawn_80 (by decide) ?_ ?_
                  · refine mv_iload (pc := 143) (i := 8) 6 dX8_drawn_143 rfl ?_
                    exact mv_ireturn (pc := 145) dX8_drawn_145 rfl
                  · refine mv_lload (pc := 83) (i := 6) 5 dX8_drawn_83 rfl ?_
                    refine mv_ldc2_w (pc := 85) dX8_drawn_85 kwX8_274 ?_
                    refine mv_lmul (pc := 88) dX8_drawn_88 ?_
                    refine mv_ldc2_w (pc := 89) dX8_drawn_89 kwX8_276 ?_
                    refine mv_lrem (pc := 92) dX8_drawn_92 ?_
                    refine mv_lstore (pc := 93) (i := 6) (ls' := [(0, .ref (ad 0)), (1, .int a1), (2, .int a2), (4, .int a4), (5, .int v5), (8, .int s9.2.1), (9, .int s9.2.2.1)]) dX8_drawn_93 (Nat.le_of_ble_eq_true rfl) rfl (fun v11 => ?_)
                    refine mv_aload_n (pc := 95) (i := 0) 1 dX8_drawn_95 rfl rfl ?_
                    refine mv_getR (pc := 96) (i := 0) (j := 58) dX8_drawn_96 flX8_53 lx_0 rfl ?_
                    refine mv_iload_n (pc := 99) (i := 1) 2 dX8_drawn_99 rfl rfl ?_
                    refine mv_lload (pc := 100) (i := 6) 0 dX8_drawn_100 rfl ?_
                    refine mv_iload (pc := 102) (i := 5) 5 dX8_drawn_102 rfl ?_
                    refine mv_i2l (pc := 104) dX8_drawn_104 ?_
                    refine mv_lrem (pc := 105) dX8_drawn_105 ?_
                    refine mv_l2i (pc := 106) dX8_drawn_106 ?_
                    refine mv_callVi (pc := 107) (As := [.int a1, .int ((v11 - v11 / v5.toInt64 * v5.toInt64).toInt32)]) (st := []) (i := 58) dX8_drawn_107 mlX8_224 vmX2_findPlace ⟨Nat.le_of_ble_eq_true rfl, Nat.le_of_ble_eq_true rfl⟩ lx_58 rfl rfl (Nat.le_of_ble_eq_true rfl) (ctX2_findPlace x.2.1 D cA ad F s9.2.2.2 a1 ((v11 - v11 / v5.toInt64 * v5.toInt64).toInt32)) (fun v13 M12 => ?_)
                    refine mv_istore (pc := 110) (i := 10) (ls' := [(6, .long v11), (0, .ref (ad 0)), (1, .int a1), (2, .int a2), (4, .int a4), (5, .int v5), (8, .int s9.2.1), (9, .int s9.2.2.1)]) dX8_drawn_110 (Nat.le_of_ble_eq_true rfl) rfl (fun v14 => ?_)
                    refine mv_iload (pc := 112) (i := 8) 7 dX8_drawn_112 rfl ?_
                    refine mv_iload (pc := 114) (i := 4) 5 dX8_drawn_114 rfl ?_
                    refine mv_if_ne (pc := 116) (tgt := 124) dX8_drawn_116 (by decide) ?_ ?_
                    · refine mv_aload_n (pc := 124) (i := 0) 2 dX8_drawn_124 rfl rfl ?_
                      refine mv_getR (pc := 125) (i := 0) (j := 58) dX8_drawn_125 flX8_53 lx_0 rfl ?_
                      refine mv_iload_n (pc := 128) (i := 1) 3 dX8_drawn_128 rfl rfl ?_
                      refine mv_iload (pc := 129) (i := 10) 0 dX8_drawn_129 rfl ?_
                      refine mv_callVi (pc := 131) (As := [.int a1, .int v14]) (st := [.int s9.2.1]) (i := 58) dX8_drawn_131 mlX8_227 vmX2_spell ⟨Nat.le_of_ble_eq_true rfl, Nat.le_of_ble_eq_true rfl⟩ lx_58 rfl rfl (Nat.le_of_ble_eq_true rfl) (ctX2_spell x.2.1 D cA ad F M12 a1 v14) (fun v16 M15 => ?_)
                      refine mv_iadd (pc := 134) dX8_drawn_134 ?_
                      refine mv_istore (pc := 135) (i := 8) (ls' := [(10, .int v14), (6, .long v11), (0, .ref (ad 0)), (1, .int a1), (2, .int a2), (4, .int a4), (5, .int v5), (9, .int s9.2.2.1)]) dX8_drawn_135 (Nat.le_of_ble_eq_true rfl) rfl (fun v17 => ?_)
                      refine mv_iinc (pc := 137) (i := 9) (ls' := [(8, .int v17), (10, .int v14), (6, .long v11), (0, .ref (ad 0)), (1, .int a1), (2, .int a2), (4, .int a4), (5, .int v5)]) 8 dX8_drawn_137 rfl kci1 (Nat.le_of_ble_eq_true rfl) rfl (fun v18 => ?_)
                      refine mv_goto (pc := 140) (tgt := 77) dX8_drawn_140 (by decide) ?_
                      refine mv_sub [4, 5, 6, 7, 8, 3, 1, 0] rfl ?_
                      exact hf10 (v11, v17, v18, M15)
                    · refine mv_iload (pc := 119) (i := 10) 0 dX8_drawn_119 rfl ?_
                      refine mv_goto (pc := 121) (tgt := 134) dX8_drawn_121 (by decide) ?_
                      refine mv_iadd (pc := 134) dX8_drawn_134 ?_
                      refine mv_istore (pc := 135) (i := 8) (ls' := [(10, .int v14), (6, .long v11), (0, .ref (ad 0)), (1, .int a1), (2, .int a2), (4, .int a4), (5, .int v5), (9, .int s9.2.2.1)]) dX8_drawn_135 (Nat.le_of_ble_eq_true rfl) rfl (fun v19 => ?_)
                      refine mv_iinc (pc := 137) (i := 9) (ls' := [(8, .int v19), (10, .int v14), (6, .long v11), (0, .ref (ad 0)), (1, .int a1), (2, .int a2), (4, .int a4), (5, .int v5)]) 8 dX8_drawn_137 rfl kci1 (Nat.le_of_ble_eq_true rfl) rfl (fun v20 => ?_)
                      refine mv_goto (pc := 140) (tgt := 77) dX8_drawn_140 (by decide) ?_
                      refine mv_sub [4, 5, 6, 7, 8, 3, 1, 0] rfl ?_
                      exact hf10 (v11, v19, v20, M12)
                · refine mv_ldc (pc := 64) dX8_drawn_64 kwX8_160 ?_
                  exact mv_ireturn (pc := 66) dX8_drawn_66 rfl
              · refine mv_ldc (pc := 45) dX8_drawn_45 kwX8_80 ?_
                exact mv_ireturn (pc := 47) dX8_drawn_47 rfl

set_option maxRecDepth 100000 in
set_option maxHeartbeats 4000000 in
theorem ctX7_become_11_o1 (l : Launch) (D : va_G) (cA : Nat → ClassId) (ad : Nat → Nat) (F : Nat) (M : mv_M) : mv_C l (D, cA, ad, LX) yX7_become iX7_become mv_rv [.ref (ad 11), .ref (ad 1)] M (fX7_become_11_o1 F M) := by
  refine mv_C.ofV (ls := [(0, .ref (ad 11)), (1, .ref (ad 1))]) (by decide) rfl (Nat.le_of_ble_eq_true rfl) rfl ?_
  intro x hxl
  subst hxl
  unfold fX7_become_11_o1
  refine mv_aload_n (pc := 0) (i := 0) 0 dX7_become_0 rfl rfl ?_
  refine mv_aload_n (pc := 1) (i := 1) 1 dX7_become_1 rfl rfl ?_
  refine mv_getI (pc := 2) (i := 1) dX7_become_2 flX7_36 lx_1 rfl ?_
  refine mv_putI (pc := 5) (i := 11) dX7_become_5 flX7_36 (Or.inl fpX7_0) lx_11 rfl (fun M1 => ?_)
  refine mv_aload_n (pc := 8) (i := 0) 0 dX7_become_8 rfl rfl ?_
  refine mv_aload_n (pc := 9) (i := 1) 1 dX7_become_9 rfl rfl ?_
  refine mv_getI (pc := 10) (i := 1) dX7_become_10 flX7_40 lx_1 rfl ?_
  refine mv_putI (pc := 13) (i := 11) dX7_become_13 flX7_40 (Or.inl fpX7_1) lx_11 rfl (fun M2 => ?_)
  refine mv_aload_n (pc := 16) (i := 0) 0 dX7_become_16 rfl rfl ?_
  refine mv_aload_n (pc := 17) (i := 1) 1 dX7_become_17 rfl rfl ?_
  refine mv_getI (pc := 18) (i := 1) dX7_become_18 flX7_43 lx_1 rfl ?_
  refine mv_putI (pc := 21) (i := 11) dX7_become_21 flX7_43 (Or.inl fpX7_2) lx_11 rfl (fun M3 => ?_)
  refine mv_aload_n (pc := 24) (i := 1) 1 dX7_become_24 rfl rfl ?_
  refine mv_getR (pc := 25) (i := 1) (j := 2) dX7_become_25 flX7_9 lx_1 rfl ?_
  refine mv_iconst (pc := 28) dX7_become_28 kci0 ?_
  refine mv_aload_n (pc := 29) (i := 0) 0 dX7_become_29 rfl rfl ?_
  refine mv_getR (pc := 30) (i := 11) (j := 13) dX7_become_30 flX7_9 lx_11 rfl ?_
  refine mv_iconst (pc := 33) dX7_become_33 kci0 ?_
  refine mv_bipush (pc := 34) dX7_become_34 kcb8 ?_
  refine mv_copy (pc := 36) (i := 2) (j := 13) dX7_become_36 mwX7_46 lx_2 lx_13 ⟨Nat.le_of_ble_eq_true rfl, Nat.le_of_ble_eq_true rfl⟩ (fun M4 => ?_)
  refine mv_aload_n (pc := 39) (i := 1) 1 dX7_become_39 rfl rfl ?_
  refine mv_getR (pc := 40) (i := 1) (j := 3) dX7_become_40 flX7_15 lx_1 rfl ?_
  refine mv_iconst (pc := 43) dX7_become_43 kci0 ?_
  refine mv_aload_n (pc := 44) (i := 0) 0 dX7_become_44 rfl rfl ?_
  refine mv_getR (pc := 45) (i := 11) (j := 14) dX7_become_45 flX7_15 lx_11 rfl ?_
  refine mv_iconst (pc := 48) dX7_become_48 kci0 ?_
  refine mv_bipush (pc := 49) dX7_become_49 kcb8 ?_
  refine mv_copy (pc := 51) (i := 3) (j := 14) dX7_become_51 mwX7_46 lx_3 lx_14 ⟨Nat.le_of_ble_eq_true rfl, Nat.le_of_ble_eq_true rfl⟩ (fun M5 => ?_)
  refine mv_aload_n (pc := 54) (i := 1) 1 dX7_become_54 rfl rfl ?_
  refine mv_getR (pc := 55) (i := 1) (j := 4) dX7_become_55 flX7_18 lx_1 rfl ?_
  refine mv_iconst (pc := 58) dX7_become_58 kci0 ?_
  refine mv_aload_n (pc := 59) (i := 0) 0 dX7_become_59 rfl rfl ?_
  refine mv_getR (pc := 60) (i := 11) (j := 15) dX7_become_60 flX7_18 lx_11 rfl ?_
  refine mv_iconst (pc := 63) dX7_become_63 kci0 ?_
  refine mv_bipush (pc := 64) dX7_become_64 kcb12 ?_
  refine mv_copy (pc := 66) (i := 4) (j := 15) dX7_become_66 mwX7_46 lx_4 lx_15 ⟨Nat.le_of_ble_eq_true rfl, Nat.le_of_ble_eq_true rfl⟩ (fun M6 => ?_)
  refine mv_aload_n (pc := 69) (i := 1) 1 dX7_become_69 rfl rfl ?_
  refine mv_getR (pc := 70) (i := 1) (j := 5) dX7_become_70 flX7_21 lx_1 rfl ?_
  refine mv_iconst (pc := 73) dX7_become_73 kci0 ?_
  refine mv_aload_n (pc := 74) (i := 0) 0 dX7_become_74 rfl rfl ?_
  refine mv_getR (pc := 75) (i := 11) (j := 16) dX7_become_75 flX7_21 lx_11 rfl ?_
  refine mv_iconst (pc := 78) dX7_become_78 kci0 ?_
  refine mv_bipush (pc := 79) dX7_become_79 kcb12 ?_
  refine mv_copy (pc := 81) (i := 5) (j := 16) dX7_become_81 mwX7_46 lx_5 lx_16 ⟨Nat.le_of_ble_eq_true rfl, Nat.le_of_ble_eq_true rfl⟩ (fun M7 => ?_)
  refine mv_aload_n (pc := 84) (i := 1) 1 dX7_become_84 rfl rfl ?_
  refine mv_getR (pc := 85) (i := 1) (j := 6) dX7_become_85 flX7_24 lx_1 rfl ?_
  refine mv_iconst (pc := 88) dX7_become_88 kci0 ?_
  refine mv_aload_n (pc := 89) (i := 0) 0 dX7_become_89 rfl rfl ?_
  refine mv_getR (pc := 90) (i := 11) (j := 17) dX7_become_90 flX7_24 lx_11 rfl ?_
  refine mv_iconst (pc := 93) dX7_become_93 kci0 ?_
  refine mv_bipush (pc := 94) dX7_become_94 kcb12 ?_
  refine mv_copy (pc := 96) (i := 6) (j := 17) dX7_become_96 mwX7_46 lx_6 lx_17 ⟨Nat.le_of_ble_eq_true rfl, Nat.le_of_ble_eq_true rfl⟩ (fun M8 => ?_)
  refine mv_aload_n (pc := 99) (i := 1) 1 dX7_become_99 rfl rfl ?_
  refine mv_getR (pc := 100) (i := 1) (j := 7) dX7_become_100 flX7_27 lx_1 rfl ?_
  refine mv_iconst (pc := 103) dX7_become_103 kci0 ?_
  refine mv_aload_n (pc := 104) (i := 0) 0 dX7_become_104 rfl rfl ?_
  refine mv_getR (pc := 105) (i := 11) (j := 18) dX7_become_105 flX7_27 lx_11 rfl ?_
  refine mv_iconst (pc := 108) dX7_become_108 kci0 ?_
  refine mv_bipush (pc := 109) dX7_become_109 kcb12 ?_
  refine mv_copy (pc := 111) (i := 7) (j := 18) dX7_become_111 mwX7_46 lx_7 lx_18 ⟨Nat.le_of_ble_eq_true rfl, Nat.le_of_ble_eq_true rfl⟩ (fun M9 => ?_)
  refine mv_aload_n (pc := 114) (i := 1) 1 dX7_become_114 rfl rfl ?_
  refine mv_getR (pc := 115) (i := 1) (j := 8) dX7_become_115 flX7_30 lx_1 rfl ?_
  refine mv_iconst (pc := 118) dX7_become_118 kci0 ?_
  refine mv_aload_n (pc := 119) (i := 0) 0 dX7_become_119 rfl rfl ?_
  refine mv_getR (pc := 120) (i := 11) (j := 19) dX7_become_120 flX7_30 lx_11 rfl ?_
  refine mv_iconst (pc := 123) dX7_become_123 kci0 ?_
  refine mv_bipush (pc := 124) dX7_become_124 kcb12 ?_
  refine mv_copy (pc := 126) (i := 8) (j := 19) dX7_become_126 mwX7_46 lx_8 lx_19 ⟨Nat.le_of_ble_eq_true rfl, Nat.le_of_ble_eq_true rfl⟩ (fun M10 => ?_)
  refine mv_aload_n (pc := 129) (i := 1) 1 dX7_become_129 rfl rfl ?_
  refine mv_getR (pc := 130) (i := 1) (j := 9) dX7_become_130 flX7_33 lx_1 rfl ?_
  refine mv_iconst (pc := 133) dX7_become_133 kci0 ?_
  refine mv_aload_n (pc := 134) (i := 0) 0 dX7_become_134 rfl rfl ?_
  refine mv_getR (pc := 135) (i := 11) (j := 20) dX7_become_135 flX7_33 lx_11 rfl ?_
  refine mv_iconst (pc := 138) dX7_become_138 kci0 ?_
  refine mv_bipush (pc := 139) dX7_become_139 kcb12 ?_
  refine mv_copy (pc := 141) (i := 9) (j := 20) dX7_become_141 mwX7_46 lx_9 lx_20 ⟨Nat.le_of_ble_eq_true rfl, Nat.le_of_ble_eq_true rfl⟩ (fun M11 => ?_)
  exact mv_return (pc := 144) dX7_become_144 rfl

set_option maxRecDepth 100000 in
set_option maxHeartbeats 4000000 in
theorem ctX7_become_12_o1 (l : Launch) (D : va_G) (cA : Nat → ClassId) (ad : Nat → Nat) (F : Nat) (M : mv_M) : mv_C l (D, cA, ad, LX) yX7_become iX7_become mv_rv [.ref (ad 12), .ref (ad 1)] M (fX7_become_12_o1 F M) := by
  refine mv_C.ofV (ls := [(0, .ref (ad 12)), (1, .ref (ad 1))]) (by decide) rfl (Nat.le_of_ble_eq_true rfl) rfl ?_
  intro x hxl
  subst hxl
  unfold fX7_become_12_o1
  refine mv_aload_n (pc := 0) (i := 0) 0 dX7_become_0 rfl rfl ?_
  refine mv_aload_n (pc := 1) (i := 1) 1 dX7_become_1 rfl rfl ?_
  refine mv_getI (pc := 2) (i := 1) dX7_become_2 flX7_36 lx_1 rfl ?_
  refine mv_putI (pc := 5) (i := 12) dX7_become_5 flX7_36 (Or.inl fpX7_0) lx_12 rfl (fun M1 => ?_)
  refine mv_aload_n (pc := 8) (i := 0) 0 dX7_become_8 rfl rfl ?_
  refine mv_aload_n (pc := 9) (i := 1) 1 dX7_become_9 rfl rfl ?_
  refine mv_getI (pc := 10) (i := 1) dX7_become_10 flX7_40 lx_1 rfl ?_
  refine mv_putI (pc := 13) (i := 12) dX7_become_13 flX7_40 (Or.inl fpX7_1) lx_12 rfl (fun M2 => ?_)
  refine mv_aload_n (pc := 16) (i := 0) 0 dX7_become_16 rfl rfl ?_
  refine mv_aload_n (pc := 17) (i := 1) 1 dX7_become_17 rfl rfl ?_
  refine mv_getI (pc := 18) (i := 1) dX7_become_18 flX7_43 lx_1 rfl ?_
  refine mv_putI (pc := 21) (i := 12) dX7_become_21 flX7_43 (Or.inl fpX7_2) lx_12 rfl (fun M3 => ?_)
  refine mv_aload_n (pc := 24) (i := 1) 1 dX7_become_24 rfl rfl ?_
  refine mv_getR (pc := 25) (i := 1) (j := 2) dX7_become_25 flX7_9 lx_1 rfl ?_
  refine mv_iconst (pc := 28) dX7_become_28 kci0 ?_
  refine mv_aload_n (pc := 29) (i := 0) 0 dX7_become_29 rfl rfl ?_
  refine mv_getR (pc := 30) (i := 12) (j := 21) dX7_become_30 flX7_9 lx_12 rfl ?_
  refine mv_iconst (pc := 33) dX7_become_33 kci0 ?_
  refine mv_bipush (pc := 34) dX7_become_34 kcb8 ?_
  refine mv_copy (pc := 36) (i := 2) (j := 21) dX7_become_36 mwX7_46 lx_2 lx_21 ⟨Nat.le_of_ble_eq_true rfl, Nat.le_of_ble_eq_true rfl⟩ (fun M4 => ?_)
  refine mv_aload_n (pc := 39) (i := 1) 1 dX7_become_39 rfl rfl ?_
  refine mv_getR (pc := 40) (i := 1) (j := 3) dX7_become_40 flX7_15 lx_1 rfl ?_
  refine mv_iconst (pc := 43) dX7_become_43 kci0 ?_
  refine mv_aload_n (pc := 44) (i := 0) 0 dX7_become_44 rfl rfl ?_
  refine mv_getR (pc := 45) (i := 12) (j := 22) dX7_become_45 flX7_15 lx_12 rfl ?_
  refine mv_iconst (pc := 48) dX7_become_48 kci0 ?_
  refine mv_bipush (pc := 49) dX7_become_49 kcb8 ?_
  refine mv_copy (pc := 51) (i := 3) (j := 22) dX7_become_51 mwX7_46 lx_3 lx_22 ⟨Nat.le_of_ble_eq_true rfl, Nat.le_of_ble_eq_true rfl⟩ (fun M5 => ?_)
  refine mv_aload_n (pc := 54) (i := 1) 1 dX7_become_54 rfl rfl ?_
  refine mv_getR (pc := 55) (i := 1) (j := 4) dX7_become_55 flX7_18 lx_1 rfl ?_
  refine mv_iconst (pc := 58) dX7_become_58 kci0 ?_
  refine mv_aload_n (pc := 59) (i := 0) 0 dX7_become_59 rfl rfl ?_
  refine mv_getR (pc := 60) (i := 12) (j := 23) dX7_become_60 flX7_18 lx_12 rfl ?_
  refine mv_iconst (pc := 63) dX7_become_63 kci0 ?_
  refine mv_bipush (pc := 64) dX7_become_64 kcb12 ?_
  refine mv_copy (pc := 66) (i := 4) (j := 23) dX7_become_66 mwX7_46 lx_4 lx_23 ⟨Nat.le_of_ble_eq_true rfl, Nat.le_of_ble_eq_true rfl⟩ (fun M6 => ?_)
  refine mv_aload_n (pc := 69) (i := 1) 1 dX7_become_69 rfl rfl ?_
  refine mv_getR (pc := 70) (i := 1) (j := 5) dX7_become_70 flX7_21 lx_1 rfl ?_
  refine mv_iconst (pc := 73) dX7_become_73 kci0 ?_
  refine mv_aload_n (pc := 74) (i := 0) 0 dX7_become_74 rfl rfl ?_
  refine mv_getR (pc := 75) (i := 12) (j := 24) dX7_become_75 flX7_21 lx_12 rfl ?_
  refine mv_iconst (pc := 78) dX7_become_78 kci0 ?_
  refine mv_bipush (pc := 79) dX7_become_79 kcb12 ?_
  refine mv_copy (pc := 81) (i := 5) (j := 24) dX7_become_81 mwX7_46 lx_5 lx_24 ⟨Nat.le_of_ble_eq_true rfl, Nat.le_of_ble_eq_true rfl⟩ (fun M7 => ?_)
  refine mv_aload_n (pc := 84) (i := 1) 1 dX7_become_84 rfl rfl ?_
  refine mv_getR (pc := 85) (i := 1) (j := 6) dX7_become_85 flX7_24 lx_1 rfl ?_
  refine mv_iconst (pc := 88) dX7_become_88 kci0 ?_
  refine mv_aload_n (pc := 89) (i := 0) 0 dX7_become_89 rfl rfl ?_
  refine mv_getR (pc := 90) (i := 12) (j := 25) dX7_become_90 flX7_24 lx_12 rfl ?_
  refine mv_iconst (pc := 93) dX7_become_93 kci0 ?_
  refine mv_bipush (pc := 94) dX7_become_94 kcb12 ?_
  refine mv_copy (pc := 96) (i := 6) (j := 25) dX7_become_96 mwX7_46 lx_6 lx_25 ⟨Nat.le_of_ble_eq_true rfl, Nat.le_of_ble_eq_true rfl⟩ (fun M8 => ?_)
  refine mv_aload_n (pc := 99) (i := 1) 1 dX7_become_99 rfl rfl ?_
  refine mv_getR (pc := 100) (i := 1) (j := 7) dX7_become_100 flX7_27 lx_1 rfl ?_
  refine mv_iconst (pc := 103) dX7_become_103 kci0 ?_
  refine mv_aload_n (pc := 104) (i := 0) 0 dX7_become_104 rfl rfl ?_
  refine mv_getR (pc := 105) (i := 12) (j := 26) dX7_become_105 flX7_27 lx_12 rfl ?_
  refine mv_iconst (pc := 108) dX7_become_108 kci0 ?_
  refine mv_bipush (pc := 109) dX7_become_109 kcb12 ?_
  refine mv_copy (pc := 111) (i := 7) (j := 26) dX7_become_111 mwX7_46 lx_7 lx_26 ⟨Nat.le_of_ble_eq_true rfl, Nat.le_of_ble_eq_true rfl⟩ (fun M9 => ?_)
  refine mv_aload_n (pc := 114) (i := 1) 1 dX7_become_114 rfl rfl ?_
  refine mv_getR (pc := 115) (i := 1) (j := 8) dX7_become_115 flX7_30 lx_1 rfl ?_
  refine mv_iconst (pc := 118) dX7_become_118 kci0 ?_
  refine mv_aload_n (pc := 119) (i := 0) 0 dX7_become_119 rfl rfl ?_
  refine mv_getR (pc := 120) (i := 12) (j := 27) dX7_become_120 flX7_30 lx_12 rfl ?_
  refine mv_iconst (pc := 123) dX7_become_123 kci0 ?_
  refine mv_bipush (pc := 124) dX7_become_124 kcb12 ?_
  refine mv_copy (pc := 126) (i := 8) (j := 27) dX7_become_126 mwX7_46 lx_8 lx_27 ⟨Nat.le_of_ble_eq_true rfl, Nat.le_of_ble_eq_true rfl⟩ (fun M10 => ?_)
  refine mv_aload_n (pc := 129) (i := 1) 1 dX7_become_129 rfl rfl ?_
  refine mv_getR (pc := 130) (i := 1) (j := 9) dX7_become_130 flX7_33 lx_1 rfl ?_
  refine mv_iconst (pc := 133) dX7_become_133 kci0 ?_
  refine mv_aload_n (pc := 134) (i := 0) 0 dX7_become_134 rfl rfl ?_
  refine mv_getR (pc := 135) (i := 12) (j := 28) dX7_become_135 flX7_33 lx_12 rfl ?_
  refine mv_iconst (pc := 138) dX7_become_138 kci0 ?_
  refine mv_bipush (pc := 139) dX7_become_139 kcb12 ?_
  refine mv_copy (pc := 141) (i := 9) (j := 28) dX7_become_141 mwX7_46 lx_9 lx_28 ⟨Nat.le_of_ble_eq_true rfl, Nat.le_of_ble_eq_true rfl⟩ (fun M11 => ?_)
  exact mv_return (pc := 144) dX7_become_144 rfl

set_option maxRecDepth 100000 in
set_option maxHeartbeats 4000000 in
theorem ctX8_image (l : Launch) (D : va_G) (cA : Nat → ClassId) (ad : Nat → Nat) (F : Nat) (M : mv_M) (a1 : Int32) : mv_C l (D, cA, ad, LX) yX8_image iX8_image mv_ri [.ref (ad 0), .int a1] M (fX8_image F M a1) := by
  refine mv_C.ofV (ls := [(0, .ref (ad 0)), (1, .int a1)]) (by decide) rfl (Nat.le_of_ble_eq_true rfl) rfl ?_
  intro x hxl
  subst hxl
  unfold fX8_image
  refine mv_iload_n (pc := 0) (i := 1) 1 dX8_image_0 rfl rfl ?_
  refine mv_if_lt (pc := 1) (tgt := 9) dX8_image_1 (by decide) ?_ ?_
  · refine mv_ldc (pc := 9) dX8_image_9 kwX8_80 ?_
    exact mv_ireturn (pc := 11) dX8_image_11 rfl
  · refine mv_iload_n (pc := 4) (i := 1) 1 dX8_image_4 rfl rfl ?_
    refine mv_iconst (pc := 5) dX8_image_5 kci2 ?_
    refine mv_icmp_lt (pc := 6) (tgt := 12) dX8_image_6 (by decide) ?_ ?_
    · refine mv_aload_n (pc := 12) (i := 0) 0 dX8_image_12 rfl rfl ?_
      refine mv_getR (pc := 13) (i := 0) (j := 1) dX8_image_13 flX8_10 lx_0 rfl ?_
      refine mv_getI (pc := 16) (i := 1) dX8_image_16 flX8_236 lx_1 rfl ?_
      refine mv_if_ne (pc := 19) (tgt := 25) dX8_image_19 (by decide) ?_ ?_
      · refine mv_aload_n (pc := 25) (i := 0) 0 dX8_image_25 rfl rfl ?_
        refine mv_getR (pc := 26) (i := 0) (j := 10) dX8_image_26 flX8_16 lx_0 rfl ?_
        refine mv_iload_n (pc := 29) (i := 1) 1 dX8_image_29 rfl rfl ?_
        refine mv_aald2 (pc := 30) (i := 10) (b := 11) (t := 0) dX8_image_30 lx_10 (by decide) (by decide) ?_ ?_
        · refine mv_aload_n (pc := 31) (i := 0) 0 dX8_image_31 rfl rfl ?_
          refine mv_getR (pc := 32) (i := 0) (j := 1) dX8_image_32 flX8_10 lx_0 rfl ?_
          refine mv_callVv (pc := 35) (As := [.ref (ad 1)]) (st := []) (i := 11) dX8_image_35 mlX8_278 vmX7_become ⟨Nat.le_of_ble_eq_true rfl, Nat.le_of_ble_eq_true rfl⟩ lx_11 rfl rfl (Nat.le_of_ble_eq_true rfl) (ctX7_become_11_o1 x.2.1 D cA ad F M) (fun M1 => ?_)
          refine mv_iconst (pc := 38) dX8_image_38 kci1 ?_
          exact mv_ireturn (pc := 39) dX8_image_39 rfl
        · refine mv_aload_n (pc := 31) (i := 0) 0 dX8_image_31 rfl rfl ?_
          refine mv_getR (pc := 32) (i := 0) (j := 1) dX8_image_32 flX8_10 lx_0 rfl ?_
          refine mv_callVv (pc := 35) (As := [.ref (ad 1)]) (st := []) (i := 12) dX8_image_35 mlX8_278 vmX7_become ⟨Nat.le_of_ble_eq_true rfl, Nat.le_of_ble_eq_true rfl⟩ lx_12 rfl rfl (Nat.le_of_ble_eq_true rfl) (ctX7_become_12_o1 x.2.1 D cA ad F M) (fun M2 => ?_)
          refine mv_iconst (pc := 38) dX8_image_38 kci1 ?_
          exact mv_ireturn (pc := 39) dX8_image_39 rfl
      · refine mv_ldc (pc := 22) dX8_image_22 kwX8_160 ?_
        exact mv_ireturn (pc := 24) dX8_image_24 rfl
    · refine mv_ldc (pc := 9) dX8_image_9 kwX8_80 ?_
      exact mv_ireturn (pc := 11) dX8_image_11 rfl

set_option maxRecDepth 100000 in
set_option maxHeartbeats 4000000 in
theorem ctX7_become_o11 (l : Launch) (D : va_G) (cA : Nat → ClassId) (ad : Nat → Nat) (F : Nat) (M : mv_M) : mv_C l (D, cA, ad, LX) yX7_become iX7_become mv_rv [.ref (ad 1), .ref (ad 11)] M (fX7_become_o11 F M) := by
  refine mv_C.ofV (ls := [(0, .ref (ad 1)), (1, .ref (ad 11))]) (by decide) rfl (Nat.le_of_ble_eq_true rfl) rfl ?_
  intro x hxl
  subst hxl
  unfold fX7_become_o11
  refine mv_aload_n (pc := 0) (i := 0) 0 dX7_become_0 rfl rfl ?_
  refine mv_aload_n (pc := 1) (i := 1) 1 dX7_become_1 rfl rfl ?_
  refine mv_getI (pc := 2) (i := 11) dX7_become_2 flX7_36 lx_11 rfl ?_
  refine mv_putI (pc := 5) (i := 1) dX7_become_5 flX7_36 (Or.inl fpX7_0) lx_1 rfl (fun M1 => ?_)
  refine mv_aload_n (pc := 8) (i := 0) 0 dX7_become_8 rfl rfl ?_
  refine mv_aload_n (pc := 9) (i := 1) 1 dX7_become_9 rfl rfl ?_
  refine mv_getI (pc := 10) (i := 11) dX7_become_10 flX7_40 lx_11 rfl ?_
  refine mv_putI (pc := 13) (i := 1) dX7_become_13 flX7_40 (Or.inl fpX7_1) lx_1 rfl (fun M2 => ?_)
  refine mv_aload_n (pc := 16) (i := 0) 0 dX7_become_16 rfl rfl ?_
  refine mv_aload_n (pc := 17) (i := 1) 1 dX7_become_17 rfl rfl ?_
  refine mv_getI (pc := 18) (i := 11) dX7_become_18 flX7_43 lx_11 rfl ?_
  refine mv_putI (pc := 21) (i := 1) dX7_become_21 flX7_43 (Or.inl fpX7_2) lx_1 rfl (fun M3 => ?_)
  refine mv_aload_n (pc := 24) (i := 1) 1 dX7_become_24 rfl rfl ?_
  refine mv_getR (pc := 25) (i := 11) (j := 13) dX7_become_25 flX7_9 lx_11 rfl ?_
  refine mv_iconst (pc := 28) dX7_become_28 kci0 ?_
  refine mv_aload_n (pc := 29) (i := 0) 0 dX7_become_29 rfl rfl ?_
  refine mv_getR (pc := 30) (i := 1) (j := 2) dX7_become_30 flX7_9 lx_1 rfl ?_
  refine mv_iconst (pc := 33) dX7_become_33 kci0 ?_
  refine mv_bipush (pc := 34) dX7_become_34 kcb8 ?_
  refine mv_copy (pc := 36) (i := 13) (j := 2) dX7_become_36 mwX7_46 lx_13 lx_2 ⟨Nat.le_of_ble_eq_true rfl, Nat.le_of_ble_eq_true rfl⟩ (fun M4 => ?_)
  refine mv_aload_n (pc := 39) (i := 1) 1 dX7_become_39 rfl rfl ?_
  refine mv_getR (pc := 40) (i := 11) (j := 14) dX7_become_40 flX7_15 lx_11 rfl ?_
  refine mv_iconst (pc := 43) dX7_become_43 kci0 ?_
  refine mv_aload_n (pc := 44) (i := 0) 0 dX7_become_44 rfl rfl ?_
  refine mv_getR (pc := 45) (i := 1) (j := 3) dX7_become_45 flX7_15 lx_1 rfl ?_
  refine mv_iconst (pc := 48) dX7_become_48 kci0 ?_
  refine mv_bipush (pc := 49) dX7_become_49 kcb8 ?_
  refine mv_copy (pc := 51) (i := 14) (j := 3) dX7_become_51 mwX7_46 lx_14 lx_3 ⟨Nat.le_of_ble_eq_true rfl, Nat.le_of_ble_eq_true rfl⟩ (fun M5 => ?_)
  refine mv_aload_n (pc := 54) (i := 1) 1 dX7_become_54 rfl rfl ?_
  refine mv_getR (pc := 55) (i := 11) (j := 15) dX7_become_55 flX7_18 lx_11 rfl ?_
  refine mv_iconst (pc := 58) dX7_become_58 kci0 ?_
  refine mv_aload_n (pc := 59) (i := 0) 0 dX7_become_59 rfl rfl ?_
  refine mv_getR (pc := 60) (i := 1) (j := 4) dX7_become_60 flX7_18 lx_1 rfl ?_
  refine mv_iconst (pc := 63) dX7_become_63 kci0 ?_
  refine mv_bipush (pc := 64) dX7_become_64 kcb12 ?_
  refine mv_copy (pc := 66) (i := 15) (j := 4) dX7_become_66 mwX7_46 lx_15 lx_4 ⟨Nat.le_of_ble_eq_true rfl, Nat.le_of_ble_eq_true rfl⟩ (fun M6 => ?_)
  refine mv_aload_n (pc := 69) (i := 1) 1 dX7_become_69 rfl rfl ?_
  refine mv_getR (pc := 70) (i := 11) (j := 16) dX7_become_70 flX7_21 lx_11 rfl ?_
  refine mv_iconst (pc := 73) dX7_become_73 kci0 ?_
  refine mv_aload_n (pc := 74) (i := 0) 0 dX7_become_74 rfl rfl ?_
  refine mv_getR (pc := 75) (i := 1) (j := 5) dX7_become_75 flX7_21 lx_1 rfl ?_
  refine mv_iconst (pc := 78) dX7_become_78 kci0 ?_
  refine mv_bipush (pc := 79) dX7_become_79 kcb12 ?_
  refine mv_copy (pc := 81) (i := 16) (j := 5) dX7_become_81 mwX7_46 lx_16 lx_5 ⟨Nat.le_of_ble_eq_true rfl, Nat.le_of_ble_eq_true rfl⟩ (fun M7 => ?_)
  refine mv_aload_n (pc := 84) (i := 1) 1 dX7_become_84 rfl rfl ?_
  refine mv_getR (pc := 85) (i := 11) (j := 17) dX7_become_85 flX7_24 lx_11 rfl ?_
  refine mv_iconst (pc := 88) dX7_become_88 kci0 ?_
  refine mv_aload_n (pc := 89) (i := 0) 0 dX7_become_89 rfl rfl ?_
  refine mv_getR (pc := 90) (i := 1) (j := 6) dX7_become_90 flX7_24 lx_1 rfl ?_
  refine mv_iconst (pc := 93) dX7_become_93 kci0 ?_
  refine mv_bipush (pc := 94) dX7_become_94 kcb12 ?_
  refine mv_copy (pc := 96) (i := 17) (j := 6) dX7_become_96 mwX7_46 lx_17 lx_6 ⟨Nat.le_of_ble_eq_true rfl, Nat.le_of_ble_eq_true rfl⟩ (fun M8 => ?_)
  refine mv_aload_n (pc := 99) (i := 1) 1 dX7_become_99 rfl rfl ?_
  refine mv_getR (pc := 100) (i := 11) (j := 18) dX7_become_100 flX7_27 lx_11 rfl ?_
  refine mv_iconst (pc := 103) dX7_become_103 kci0 ?_
  refine mv_aload_n (pc := 104) (i := 0) 0 dX7_become_104 rfl rfl ?_
  refine mv_getR (pc := 105) (i := 1) (j := 7) dX7_become_105 flX7_27 lx_1 rfl ?_
  refine mv_iconst (pc := 108) dX7_become_108 kci0 ?_
  refine mv_bipush (pc := 109) dX7_become_109 kcb12 ?_
  refine mv_copy (pc := 111) (i := 18) (j := 7) dX7_become_111 mwX7_46 lx_18 lx_7 ⟨Nat.le_of_ble_eq_true rfl, Nat.le_of_ble_eq_true rfl⟩ (fun M9 => ?_)
  refine mv_aload_n (pc := 114) (i := 1) 1 dX7_become_114 rfl rfl ?_
  refine mv_getR (pc := 115) (i := 11) (j := 19) dX7_become_115 flX7_30 lx_11 rfl ?_
  refine mv_iconst (pc := 118) dX7_become_118 kci0 ?_
  refine mv_aload_n (pc := 119) (i := 0) 0 dX7_become_119 rfl rfl ?_
  refine mv_getR (pc := 120) (i := 1) (j := 8) dX7_become_120 flX7_30 lx_1 rfl ?_
  refine mv_iconst (pc := 123) dX7_become_123 kci0 ?_
  refine mv_bipush (pc := 124) dX7_become_124 kcb12 ?_
  refine mv_copy (pc := 126) (i := 19) (j := 8) dX7_become_126 mwX7_46 lx_19 lx_8 ⟨Nat.le_of_ble_eq_true rfl, Nat.le_of_ble_eq_true rfl⟩ (fun M10 => ?_)
  refine mv_aload_n (pc := 129) (i := 1) 1 dX7_become_129 rfl rfl ?_
  refine mv_getR (pc := 130) (i := 11) (j := 20) dX7_become_130 flX7_33 lx_11 rfl ?_
  refine mv_iconst (pc := 133) dX7_become_133 kci0 ?_
  refine mv_aload_n (pc := 134) (i := 0) 0 dX7_become_134 rfl rfl ?_
  refine mv_getR (pc := 135) (i := 1) (j := 9) dX7_become_135 flX7_33 lx_1 rfl ?_
  refine mv_iconst (pc := 138) dX7_become_138 kci0 ?_
  refine mv_bipush (pc := 139) dX7_become_139 kcb12 ?_
  refine mv_copy (pc := 141) (i := 20) (j := 9) dX7_become_141 mwX7_46 lx_20 lx_9 ⟨Nat.le_of_ble_eq_true rfl, Nat.le_of_ble_eq_true rfl⟩ (fun M11 => ?_)
  exact mv_return (pc := 144) dX7_become_144 rfl

set_option maxRecDepth 100000 in
set_option maxHeartbeats 4000000 in
theorem ctX8_standAs_o11 (l : Launch) (D : va_G) (cA : Nat → ClassId) (ad : Nat → Nat) (F : Nat) (M : mv_M) : mv_C l (D, cA, ad, LX) yX8_standAs iX8_standAs mv_rv [.ref (ad 0), .ref (ad 11)] M (fX8_standAs_o11 F M) := by
  refine mv_C.ofV (ls := [(0, .ref (ad 0)), (1, .ref (ad 11))]) (by decide) rfl (Nat.le_of_ble_eq_true rfl) rfl ?_
  intro x hxl
  subst hxl
  unfold fX8_standAs_o11
  refine mv_aload_n (pc := 0) (i := 0) 0 dX8_standAs_0 rfl rfl ?_
  refine mv_getR (pc := 1) (i := 0) (j := 1) dX8_standAs_1 flX8_10 lx_0 rfl ?_
  refine mv_aload_n (pc := 4) (i := 1) 1 dX8_standAs_4 rfl rfl ?_
  refine mv_callVv (pc := 5) (As := [.ref (ad 11)]) (st := []) (i := 1) dX8_standAs_5 mlX8_278 vmX7_become ⟨Nat.le_of_ble_eq_true rfl, Nat.le_of_ble_eq_true rfl⟩ lx_1 rfl rfl (Nat.le_of_ble_eq_true rfl) (ctX7_become_o11 x.2.1 D cA ad F M) (fun M1 => ?_)
  refine mv_aload_n (pc := 8) (i := 0) 0 dX8_standAs_8 rfl rfl ?_
  refine mv_getR (pc := 9) (i := 0) (j := 52) dX8_standAs_9 flX8_37 lx_0 rfl ?_
  refine mv_iconst (pc := 12) dX8_standAs_12 kci0 ?_
  refine mv_putI (pc := 13) (i := 52) dX8_standAs_13 flX8_179 (Or.inl fpX0_3) lx_52 rfl (fun M2 => ?_)
  refine mv_aload_n (pc := 16) (i := 0) 0 dX8_standAs_16 rfl rfl ?_
  refine mv_getR (pc := 17) (i := 0) (j := 58) dX8_standAs_17 flX8_53 lx_0 rfl ?_
  refine mv_iconst (pc := 20) dX8_standAs_20 kci0 ?_
  refine mv_putI (pc := 21) (i := 58) dX8_standAs_21 flX8_309 (Or.inr ⟨fpX2_1, Or.inl rfl⟩) lx_58 rfl (fun M3 => ?_)
  exact mv_return (pc := 24) dX8_standAs_24 rfl

set_option maxRecDepth 100000 in
set_option maxHeartbeats 4000000 in
theorem ctX7_become_o12 (l : Launch) (D : va_G) (cA : Nat → ClassId) (ad : Nat → Nat) (F : Nat) (M : mv_M) : mv_C l (D, cA, ad, LX) yX7_become iX7_become mv_rv [.ref (ad 1), .ref (ad 12)] M (fX7_become_o12 F M) := by
  refine mv_C.ofV (ls := [(0, .ref (ad 1)), (1, .ref (ad 12))]) (by decide) rfl (Nat.le_of_ble_eq_true rfl) rfl ?_
  intro x hxl
  subst hxl
  unfold fX7_become_o12
  refine mv_aload_n (pc := 0) (i := 0) 0 dX7_become_0 rfl rfl ?_
  refine mv_aload_n (pc := 1) (i := 1) 1 dX7_become_1 rfl rfl ?_
  refine mv_getI (pc := 2) (i := 12) dX7_become_2 flX7_36 lx_12 rfl ?_
  refine mv_putI (pc := 5) (i := 1) dX7_become_5 flX7_36 (Or.inl fpX7_0) lx_1 rfl (fun M1 => ?_)
  refine mv_aload_n (pc := 8) (i := 0) 0 dX7_become_8 rfl rfl ?_
  refine mv_aload_n (pc := 9) (i := 1) 1 dX7_become_9 rfl rfl ?_
  refine mv_getI (pc := 10) (i := 12) dX7_become_10 flX7_40 lx_12 rfl ?_
  refine mv_putI (pc := 13) (i := 1) dX7_become_13 flX7_40 (Or.inl fpX7_1) lx_1 rfl (fun M2 => ?_)
  refine mv_aload_n (pc := 16) (i := 0) 0 dX7_become_16 rfl rfl ?_
  refine mv_aload_n (pc := 17) (i := 1) 1 dX7_become_17 rfl rfl ?_
  refine mv_getI (pc := 18) (i := 12) dX7_become_18 flX7_43 lx_12 rfl ?_
  refine mv_putI (pc := 21) (i := 1) dX7_become_21 flX7_43 (Or.inl fpX7_2) lx_1 rfl (fun M3 => ?_)
  refine mv_aload_n (pc := 24) (i := 1) 1 dX7_become_24 rfl rfl ?_
  refine mv_getR (pc := 25) (i := 12) (j := 21) dX7_become_25 flX7_9 lx_12 rfl ?_
  refine mv_iconst (pc := 28) dX7_become_28 kci0 ?_
  refine mv_aload_n (pc := 29) (i := 0) 0 dX7_become_29 rfl rfl ?_
  refine mv_getR (pc := 30) (i := 1) (j := 2) dX7_become_30 flX7_9 lx_1 rfl ?_
  refine mv_iconst (pc := 33) dX7_become_33 kci0 ?_
  refine mv_bipush (pc := 34) dX7_become_34 kcb8 ?_
  refine mv_copy (pc := 36) (i := 21) (j := 2) dX7_become_36 mwX7_46 lx_21 lx_2 ⟨Nat.le_of_ble_eq_true rfl, Nat.le_of_ble_eq_true rfl⟩ (fun M4 => ?_)
  refine mv_aload_n (pc := 39) (i := 1) 1 dX7_become_39 rfl rfl ?_
  refine mv_getR (pc := 40) (i := 12) (j := 22) dX7_become_40 flX7_15 lx_12 rfl ?_
  refine mv_iconst (pc := 43) dX7_become_43 kci0 ?_
  refine mv_aload_n (pc := 44) (i := 0) 0 dX7_become_44 rfl rfl ?_
  refine mv_getR (pc := 45) (i := 1) (j := 3) dX7_become_45 flX7_15 lx_1 rfl ?_
  refine mv_iconst (pc := 48) dX7_become_48 kci0 ?_
  refine mv_bipush (pc := 49) dX7_become_49 kcb8 ?_
  refine mv_copy (pc := 51) (i := 22) (j := 3) dX7_become_51 mwX7_46 lx_22 lx_3 ⟨Nat.le_of_ble_eq_true rfl, Nat.le_of_ble_eq_true rfl⟩ (fun M5 => ?_)
  refine mv_aload_n (pc := 54) (i := 1) 1 dX7_become_54 rfl rfl ?_
  refine mv_getR (pc := 55) (i := 12) (j := 23) dX7_become_55 flX7_18 lx_12 rfl ?_
  refine mv_iconst (pc := 58) dX7_become_58 kci0 ?_
  refine mv_aload_n (pc := 59) (i := 0) 0 dX7_become_59 rfl rfl ?_
  refine mv_getR (pc := 60) (i := 1) (j := 4) dX7_become_60 flX7_18 lx_1 rfl ?_
  refine mv_iconst (pc := 63) dX7_become_63 kci0 ?_
  refine mv_bipush (pc := 64) dX7_become_64 kcb12 ?_
  refine mv_copy (pc := 66) (i := 23) (j := 4) dX7_become_66 mwX7_46 lx_23 lx_4 ⟨Nat.le_of_ble_eq_true rfl, Nat.le_of_ble_eq_true rfl⟩ (fun M6 => ?_)
  refine mv_aload_n (pc := 69) (i := 1) 1 dX7_become_69 rfl rfl ?_
  refine mv_getR (pc := 70) (i := 12) (j := 24) dX7_become_70 flX7_21 lx_12 rfl ?_
  refine mv_iconst (pc := 73) dX7_become_73 kci0 ?_
  refine mv_aload_n (pc := 74) (i := 0) 0 dX7_become_74 rfl rfl ?_
  refine mv_getR (pc := 75) (i := 1) (j := 5) dX7_become_75 flX7_21 lx_1 rfl ?_
  refine mv_iconst (pc := 78) dX7_become_78 kci0 ?_
  refine mv_bipush (pc := 79) dX7_become_79 kcb12 ?_
  refine mv_copy (pc := 81) (i := 24) (j := 5) dX7_become_81 mwX7_46 lx_24 lx_5 ⟨Nat.le_of_ble_eq_true rfl, Nat.le_of_ble_eq_true rfl⟩ (fun M7 => ?_)
  refine mv_aload_n (pc := 84) (i := 1) 1 dX7_become_84 rfl rfl ?_
  refine mv_getR (pc := 85) (i := 12) (j := 25) dX7_become_85 flX7_24 lx_12 rfl ?_
  refine mv_iconst (pc := 88) dX7_become_88 kci0 ?_
  refine mv_aload_n (pc := 89) (i := 0) 0 dX7_become_89 rfl rfl ?_
  refine mv_getR (pc := 90) (i := 1) (j := 6) dX7_become_90 flX7_24 lx_1 rfl ?_
  refine mv_iconst (pc := 93) dX7_become_93 kci0 ?_
  refine mv_bipush (pc := 94) dX7_become_94 kcb12 ?_
  refine mv_copy (pc := 96) (i := 25) (j := 6) dX7_become_96 mwX7_46 lx_25 lx_6 ⟨Nat.le_of_ble_eq_true rfl, Nat.le_of_ble_eq_true rfl⟩ (fun M8 => ?_)
  refine mv_aload_n (pc := 99) (i := 1) 1 dX7_become_99 rfl rfl ?_
  refine mv_getR (pc := 100) (i := 12) (j := 26) dX7_become_100 flX7_27 lx_12 rfl ?_
  refine mv_iconst (pc := 103) dX7_become_103 kci0 ?_
  refine mv_aload_n (pc := 104) (i := 0) 0 dX7_become_104 rfl rfl ?_
  refine mv_getR (pc := 105) (i := 1) (j := 7) dX7_become_105 flX7_27 lx_1 rfl ?_
  refine mv_iconst (pc := 108) dX7_become_108 kci0 ?_
  refine mv_bipush (pc := 109) dX7_become_109 kcb12 ?_
  refine mv_copy (pc := 111) (i := 26) (j := 7) dX7_become_111 mwX7_46 lx_26 lx_7 ⟨Nat.le_of_ble_eq_true rfl, Nat.le_of_ble_eq_true rfl⟩ (fun M9 => ?_)
  refine mv_aload_n (pc := 114) (i := 1) 1 dX7_become_114 rfl rfl ?_
  refine mv_getR (pc := 115) (i := 12) (j := 27) dX7_become_115 flX7_30 lx_12 rfl ?_
  refine mv_iconst (pc := 118) dX7_become_118 kci0 ?_
  refine mv_aload_n (pc := 119) (i := 0) 0 dX7_become_119 rfl rfl ?_
  refine mv_getR (pc := 120) (i := 1) (j := 8) dX7_become_120 flX7_30 lx_1 rfl ?_
  refine mv_iconst (pc := 123) dX7_become_123 kci0 ?_
  refine mv_bipush (pc := 124) dX7_become_124 kcb12 ?_
  refine mv_copy (pc := 126) (i := 27) (j := 8) dX7_become_126 mwX7_46 lx_27 lx_8 ⟨Nat.le_of_ble_eq_true rfl, Nat.le_of_ble_eq_true rfl⟩ (fun M10 => ?_)
  refine mv_aload_n (pc := 129) (i := 1) 1 dX7_become_129 rfl rfl ?_
  refine mv_getR (pc := 130) (i := 12) (j := 28) dX7_become_130 flX7_33 lx_12 rfl ?_
  refine mv_iconst (pc := 133) dX7_become_133 kci0 ?_
  refine mv_aload_n (pc := 134) (i := 0) 0 dX7_become_134 rfl rfl ?_
  refine mv_getR (pc := 135) (i := 1) (j := 9) dX7_become_135 flX7_33 lx_1 rfl ?_
  refine mv_iconst (pc := 138) dX7_become_138 kci0 ?_
  refine mv_bipush (pc := 139) dX7_become_139 kcb12 ?_
  refine mv_copy (pc := 141) (i := 28) (j := 9) dX7_become_141 mwX7_46 lx_28 lx_9 ⟨Nat.le_of_ble_eq_true rfl, Nat.le_of_ble_eq_true rfl⟩ (fun M11 => ?_)
  exact mv_return (pc := 144) dX7_become_144 rfl

set_option maxRecDepth 100000 in
set_option maxHeartbeats 4000000 in
theorem ctX8_standAs_o12 (l : Launch) (D : va_G) (cA : Nat → ClassId) (ad : Nat → Nat) (F : Nat) (M : mv_M) : mv_C l (D, cA, ad, LX) yX8_standAs iX8_standAs mv_rv [.ref (ad 0), .ref (ad 12)] M (fX8_standAs_o12 F M) := by
  refine mv_C.ofV (ls := [(0, .ref (ad 0)), (1, .ref (ad 12))]) (by decide) rfl (Nat.le_of_ble_eq_true rfl) rfl ?_
  intro x hxl
  subst hxl
  unfold fX8_standAs_o12
  refine mv_aload_n (pc := 0) (i := 0) 0 dX8_standAs_0 rfl rfl ?_
  refine mv_getR (pc := 1) (i := 0) (j := 1) dX8_standAs_1 flX8_10 lx_0 rfl ?_
  refine mv_aload_n (pc := 4) (i := 1) 1 dX8_standAs_4 rfl rfl ?_
  refine mv_callVv (pc := 5) (As := [.ref (ad 12)]) (st := []) (i := 1) dX8_standAs_5 mlX8_278 vmX7_become ⟨Nat.le_of_ble_eq_true rfl, Nat.le_of_ble_eq_true rfl⟩ lx_1 rfl rfl (Nat.le_of_ble_eq_true rfl) (ctX7_become_o12 x.2.1 D cA ad F M) (fun M1 => ?_)
  refine mv_aload_n (pc := 8) (i := 0) 0 dX8_standAs_8 rfl rfl ?_
  refine mv_getR (pc := 9) (i := 0) (j := 52) dX8_standAs_9 flX8_37 lx_0 rfl ?_
  refine mv_iconst (pc := 12) dX8_standAs_12 kci0 ?_
  refine mv_putI (pc := 13) (i := 52) dX8_standAs_13 flX8_179 (Or.inl fpX0_3) lx_52 rfl (fun M2 => ?_)
  refine mv_aload_n (pc := 16) (i := 0) 0 dX8_standAs_16 rfl rfl ?_
  refine mv_getR (pc := 17) (i := 0) (j := 58) dX8_standAs_17 flX8_53 lx_0 rfl ?_
  refine mv_iconst (pc := 20) dX8_standAs_20 kci0 ?_
  refine mv_putI (pc := 21) (i := 58) dX8_standAs_21 flX8_309 (Or.inr ⟨fpX2_1, Or.inl rfl⟩) lx_58 rfl (fun M3 => ?_)
  exact mv_return (pc := 24) dX8_standAs_24 rfl

set_option maxRecDepth 100000 in
set_option maxHeartbeats 4000000 in
theorem ctX8_restore (l : Launch) (D : va_G) (cA : Nat → ClassId) (ad : Nat → Nat) (F : Nat) (M : mv_M) (a1 : Int32) : mv_C l (D, cA, ad, LX) yX8_restore iX8_restore mv_ri [.ref (ad 0), .int a1] M (fX8_restore F M a1) := by
  refine mv_C.ofV (ls := [(0, .ref (ad 0)), (1, .int a1)]) (by decide) rfl (Nat.le_of_ble_eq_true rfl) rfl ?_
  intro x hxl
  subst hxl
  unfold fX8_restore
  refine mv_iload_n (pc := 0) (i := 1) 1 dX8_restore_0 rfl rfl ?_
  refine mv_if_lt (pc := 1) (tgt := 9) dX8_restore_1 (by decide) ?_ ?_
  · refine mv_ldc (pc := 9) dX8_restore_9 kwX8_80 ?_
    exact mv_ireturn (pc := 11) dX8_restore_11 rfl
  · refine mv_iload_n (pc := 4) (i := 1) 1 dX8_restore_4 rfl rfl ?_
    refine mv_iconst (pc := 5) dX8_restore_5 kci2 ?_
    refine mv_icmp_lt (pc := 6) (tgt := 12) dX8_restore_6 (by decide) ?_ ?_
    · refine mv_aload_n (pc := 12) (i := 0) 0 dX8_restore_12 rfl rfl ?_
      refine mv_getR (pc := 13) (i := 0) (j := 10) dX8_restore_13 flX8_16 lx_0 rfl ?_
      refine mv_iload_n (pc := 16) (i := 1) 1 dX8_restore_16 rfl rfl ?_
      refine mv_aald2 (pc := 17) (i := 10) (b := 11) (t := 0) dX8_restore_17 lx_10 (by decide) (by decide) ?_ ?_
      · refine mv_getI (pc := 18) (i := 11) dX8_restore_18 flX8_236 lx_11 rfl ?_
        refine mv_if_ne (pc := 21) (tgt := 27) dX8_restore_21 (by decide) ?_ ?_
        · refine mv_aload_n (pc := 27) (i := 0) 0 dX8_restore_27 rfl rfl ?_
          refine mv_aload_n (pc := 28) (i := 0) 0 dX8_restore_28 rfl rfl ?_
          refine mv_getR (pc := 29) (i := 0) (j := 10) dX8_restore_29 flX8_16 lx_0 rfl ?_
          refine mv_iload_n (pc := 32) (i := 1) 1 dX8_restore_32 rfl rfl ?_
          refine mv_aald2 (pc := 33) (i := 10) (b := 11) (t := 0) dX8_restore_33 lx_10 (by decide) (by decide) ?_ ?_
          · refine mv_callVv (pc := 34) (As := [.ref (ad 11)]) (st := []) (i := 0) dX8_restore_34 mlX8_148 vmX8_standAs ⟨Nat.le_of_ble_eq_true rfl, Nat.le_of_ble_eq_true rfl⟩ lx_0 rfl rfl (Nat.le_of_ble_eq_true rfl) (ctX8_standAs_o11 x.2.1 D cA ad F M) (fun M1 => ?_)
            refine mv_iconst (pc := 37) dX8_restore_37 kci1 ?_
            exact mv_ireturn (pc := 38) dX8_restore_38 rfl
          · refine mv_callVv (pc := 34) (As := [.ref (ad 12)]) (st := []) (i := 0) dX8_restore_34 mlX8_148 vmX8_standAs ⟨Nat.le_of_ble_eq_true rfl, Nat.le_of_ble_eq_true rfl⟩ lx_0 rfl rfl (Nat.le_of_ble_eq_true rfl) (ctX8_standAs_o12 x.2.1 D cA ad F M) (fun M2 => ?_)
            refine mv_iconst (pc := 37) dX8_restore_37 kci1 ?_
            exact mv_ireturn (pc := 38) dX8_restore_38 rfl
        · refine mv_ldc (pc := 24) dX8_restore_24 kwX8_160 ?_
          exact mv_ireturn (pc := 26) dX8_restore_26 rfl
      · refine mv_getI (pc := 18) (i := 12) dX8_restore_18 flX8_236 lx_12 rfl ?_
        refine mv_if_ne (pc := 21) (tgt := 27) dX8_restore_21 (by decide) ?_ ?_
        · refine mv_aload_n (pc := 27) (i := 0) 0 dX8_restore_27 rfl rfl ?_
          refine mv_aload_n (pc := 28) (i := 0) 0 dX8_restore_28 rfl rfl ?_
          refine mv_getR (pc := 29) (i := 0) (j := 10) dX8_restore_29 flX8_16 lx_0 rfl ?_
          refine mv_iload_n (pc := 32) (i := 1) 1 dX8_restore_32 rfl rfl ?_
          refine mv_aald2 (pc := 33) (i := 10) (b := 11) (t := 0) dX8_restore_33 lx_10 (by decide) (by decide) ?_ ?_
          · refine mv_callVv (pc := 34) (As := [.ref (ad 11)]) (st := []) (i := 0) dX8_restore_34 mlX8_148 vmX8_standAs ⟨Nat.le_of_ble_eq_true rfl, Nat.le_of_ble_eq_true rfl⟩ lx_0 rfl rfl (Nat.le_of_ble_eq_true rfl) (ctX8_standAs_o11 x.2.1 D cA ad F M) (fun M3 => ?_)
            refine mv_iconst (pc := 37) dX8_restore_37 kci1 ?_
            exact mv_ireturn (pc := 38) dX8_restore_38 rfl
          · refine mv_callVv (pc := 34) (As := [.ref (ad 12)]) (st := []) (i := 0) dX8_restore_34 mlX8_148 vmX8_standAs ⟨Nat.le_of_ble_eq_true rfl, Nat.le_of_ble_eq_true rfl⟩ lx_0 rfl rfl (Nat.le_of_ble_eq_true rfl) (ctX8_standAs_o12 x.2.1 D cA ad F M) (fun M4 => ?_)
            refine mv_iconst (pc := 37) dX8_restore_37 kci1 ?_
            exact mv_ireturn (pc := 38) dX8_restore_38 rfl
        · refine mv_ldc (pc := 24) dX8_restore_24 kwX8_160 ?_
          exact mv_ireturn (pc := 26) dX8_restore_26 rfl
    · refine mv_ldc (pc := 9) dX8_restore_9 kwX8_80 ?_
      exact mv_ireturn (pc := 11) dX8_restore_11 rfl

set_option maxRecDepth 100000 in
set_option maxHeartbeats 4000000 in
theorem ctX8_kind (l : Launch) (D : va_G) (cA : Nat → ClassId) (ad : Nat → Nat) (F : Nat) (M : mv_M) (a1 : Int32) : mv_C l (D, cA, ad, LX) yX8_kind iX8_kind mv_ri [.ref (ad 0), .int a1] M (fX8_kind F M a1) := by
  refine mv_C.ofV (ls := [(0, .ref (ad 0)), (1, .int a1)]) (by decide) rfl (Nat.le_of_ble_eq_true rfl) rfl ?_
  intro x hxl
  subst hxl
  unfold fX8_kind
  refine mv_aload_n (pc := 0) (i := 0) 0 dX8_kind_0 rfl rfl ?_
  refine mv_getR (pc := 1) (i := 0) (j := 1) dX8_kind_1 flX8_10 lx_0 rfl ?_
  refine mv_iload_n (pc := 4) (i := 1) 1 dX8_kind_4 rfl rfl ?_
  refine mv_callVi (pc := 5) (As := [.int a1]) (st := []) (i := 1) dX8_kind_5 mlX8_154 vmX7_hasMember ⟨Nat.le_of_ble_eq_true rfl, Nat.le_of_ble_eq_true rfl⟩ lx_1 rfl rfl (Nat.le_of_ble_eq_true rfl) (ctX7_hasMember x.2.1 D cA ad F M a1) (fun v2 M1 => ?_)
  refine mv_if_eq (pc := 8) (tgt := 23) dX8_kind_8 (by decide) ?_ ?_
  · refine mv_ldc (pc := 23) dX8_kind_23 kwX8_80 ?_
    exact mv_ireturn (pc := 25) dX8_kind_25 rfl
  · refine mv_aload_n (pc := 11) (i := 0) 0 dX8_kind_11 rfl rfl ?_
    refine mv_getR (pc := 12) (i := 0) (j := 1) dX8_kind_12 flX8_10 lx_0 rfl ?_
    refine mv_getR (pc := 15) (i := 1) (j := 4) dX8_kind_15 flX8_281 lx_1 rfl ?_
    refine mv_iload_n (pc := 18) (i := 1) 1 dX8_kind_18 rfl rfl ?_
    refine mv_iald (pc := 19) (i := 4) dX8_kind_19 lx_4 ?_
    refine mv_goto (pc := 20) (tgt := 25) dX8_kind_20 (by decide) ?_
    exact mv_ireturn (pc := 25) dX8_kind_25 rfl

set_option maxRecDepth 100000 in
set_option maxHeartbeats 4000000 in
theorem ctX7_isKind (l : Launch) (D : va_G) (cA : Nat → ClassId) (ad : Nat → Nat) (F : Nat) (M : mv_M) (a1 : Int32) (a2 : Int32) : mv_C l (D, cA, ad, LX) yX7_isKind iX7_isKind mv_ri [.ref (ad 1), .int a1, .int a2] M (fX7_isKind F M a1 a2) := by
  refine mv_C.ofV (ls := [(0, .ref (ad 1)), (1, .int a1), (2, .int a2)]) (by decide) rfl (Nat.le_of_ble_eq_true rfl) rfl ?_
  intro x hxl
  subst hxl
  unfold fX7_isKind
  refine mv_aload_n (pc := 0) (i := 0) 0 dX7_isKind_0 rfl rfl ?_
  refine mv_getR (pc := 1) (i := 1) (j := 4) dX7_isKind_1 flX7_18 lx_1 rfl ?_
  refine mv_iload_n (pc := 4) (i := 1) 1 dX7_isKind_4 rfl rfl ?_
  refine mv_iald (pc := 5) (i := 4) dX7_isKind_5 lx_4 ?_
  refine mv_istore_n (pc := 6) (i := 3) (ls' := [(0, .ref (ad 1)), (1, .int a1), (2, .int a2)]) dX7_isKind_6 rfl (Nat.le_of_ble_eq_true rfl) rfl (fun v1 => ?_)
  refine mv_iload_n (pc := 7) (i := 2) 3 dX7_isKind_7 rfl rfl ?_
  refine mv_lkc (pc := 8) (v := (1 : Int32)) (off := 28) (tgt := 36) dX7_isKind_8 (by decide +kernel) (by decide +kernel) (by decide) ?_ (fun h2 => ?_)
  · refine mv_iload_n (pc := 36) (i := 3) 0 dX7_isKind_36 rfl rfl ?_
    refine mv_iconst (pc := 37) dX7_isKind_37 kci1 ?_
    refine mv_icmp_eq (pc := 38) (tgt := 51) dX7_isKind_38 (by decide) ?_ ?_
    · refine mv_iconst (pc := 51) dX7_isKind_51 kci1 ?_
      refine mv_goto (pc := 52) (tgt := 56) dX7_isKind_52 (by decide) ?_
      exact mv_zreturn (pc := 56) dX7_isKind_56 rfl
    · refine mv_iload_n (pc := 41) (i := 3) 0 dX7_isKind_41 rfl rfl ?_
      refine mv_iconst (pc := 42) dX7_isKind_42 kci2 ?_
      refine mv_icmp_eq (pc := 43) (tgt := 51) dX7_isKind_43 (by decide) ?_ ?_
      · refine mv_iconst (pc := 51) dX7_isKind_51 kci1 ?_
        refine mv_goto (pc := 52) (tgt := 56) dX7_isKind_52 (by decide) ?_
        exact mv_zreturn (pc := 56) dX7_isKind_56 rfl
      · refine mv_iload_n (pc := 46) (i := 3) 0 dX7_isKind_46 rfl rfl ?_
        refine mv_iconst (pc := 47) dX7_isKind_47 kci3 ?_
        refine mv_icmp_ne (pc := 48) (tgt := 55) dX7_isKind_48 (by decide) ?_ ?_
        · refine mv_iconst (pc := 55) dX7_isKind_55 kci0 ?_
          exact mv_zreturn (pc := 56) dX7_isKind_56 rfl
        · refine mv_iconst (pc := 51) dX7_isKind_51 kci1 ?_
          refine mv_goto (pc := 52) (tgt := 56) dX7_isKind_52 (by decide) ?_
          exact mv_zreturn (pc := 56) dX7_isKind_56 rfl
  refine mv_lkc (pc := 8) (v := (4 : Int32)) (off := 49) (tgt := 57) dX7_isKind_8 (by decide +kernel) (by decide +kernel) (by decide) ?_ (fun h3 => ?_)
  · refine mv_iload_n (pc := 57) (i := 3) 0 dX7_isKind_57 rfl rfl ?_
    refine mv_iconst (pc := 58) dX7_isKind_58 kci4 ?_
    refine mv_icmp_eq (pc := 59) (tgt := 67) dX7_isKind_59 (by decide) ?_ ?_
    · refine mv_iconst (pc := 67) dX7_isKind_67 kci1 ?_
      refine mv_goto (pc := 68) (tgt := 72) dX7_isKind_68 (by decide) ?_
      exact mv_zreturn (pc := 72) dX7_isKind_72 rfl
    · refine mv_iload_n (pc := 62) (i := 3) 0 dX7_isKind_62 rfl rfl ?_
      refine mv_iconst (pc := 63) dX7_isKind_63 kci5 ?_
      refine mv_icmp_ne (pc := 64) (tgt := 71) dX7_isKind_64 (by decide) ?_ ?_
      · refine mv_iconst (pc := 71) dX7_isKind_71 kci0 ?_
        exact mv_zreturn (pc := 72) dX7_isKind_72 rfl
      · refine mv_iconst (pc := 67) dX7_isKind_67 kci1 ?_
        refine mv_goto (pc := 68) (tgt := 72) dX7_isKind_68 (by decide) ?_
        exact mv_zreturn (pc := 72) dX7_isKind_72 rfl
  refine mv_lkd (pc := 8) (tgt := 73) dX7_isKind_8 (by decide +kernel) (by have e0 := mv_ne (n := 1) (by decide +kernel) h2; have e1 := mv_ne (n := 4) (by decide +kernel) h3; show Op.lookupswitch.offset [(1, 28), (4, 49)] 65 _ = 65; rw [Op.lookupswitch.offset_cons, if_neg (Ne.symm e0), Op.lookupswitch.offset_cons, if_neg (Ne.symm e1)]; rfl) (by decide) ?_
  refine mv_iload_n (pc := 73) (i := 2) 3 dX7_isKind_73 rfl rfl ?_
  refine mv_if_eq (pc := 74) (tgt := 82) dX7_isKind_74 (by decide) ?_ ?_
  · refine mv_iconst (pc := 82) dX7_isKind_82 kci1 ?_
    refine mv_goto (pc := 83) (tgt := 87) dX7_isKind_83 (by decide) ?_
    exact mv_zreturn (pc := 87) dX7_isKind_87 rfl
  · refine mv_iload_n (pc := 77) (i := 3) 0 dX7_isKind_77 rfl rfl ?_
    refine mv_iload_n (pc := 78) (i := 2) 3 dX7_isKind_78 rfl rfl ?_
    refine mv_icmp_ne (pc := 79) (tgt := 86) dX7_isKind_79 (by decide) ?_ ?_
    · refine mv_iconst (pc := 86) dX7_isKind_86 kci0 ?_
      exact mv_zreturn (pc := 87) dX7_isKind_87 rfl
    · refine mv_iconst (pc := 82) dX7_isKind_82 kci1 ?_
      refine mv_goto (pc := 83) (tgt := 87) dX7_isKind_83 (by decide) ?_
      exact mv_zreturn (pc := 87) dX7_isKind_87 rfl

set_option maxRecDepth 100000 in
set_option maxHeartbeats 4000000 in
theorem ctX8_as (l : Launch) (D : va_G) (cA : Nat → ClassId) (ad : Nat → Nat) (F : Nat) (M : mv_M) (a1 : Int32) (a2 : Int32) : mv_C l (D, cA, ad, LX) yX8_as iX8_as mv_ri [.ref (ad 0), .int a1, .int a2] M (fX8_as F M a1 a2) := by
  refine mv_C.ofV (ls := [(0, .ref (ad 0)), (1, .int a1), (2, .int a2)]) (by decide) rfl (Nat.le_of_ble_eq_true rfl) rfl ?_
  intro x hxl
  subst hxl
  unfold fX8_as
  refine mv_aload_n (pc := 0) (i := 0) 0 dX8_as_0 rfl rfl ?_
  refine mv_getR (pc := 1) (i := 0) (j := 1) dX8_as_1 flX8_10 lx_0 rfl ?_
  refine mv_iload_n (pc := 4) (i := 1) 1 dX8_as_4 rfl rfl ?_
  refine mv_callVi (pc := 5) (As := [.int a1]) (st := []) (i := 1) dX8_as_5 mlX8_154 vmX7_hasMember ⟨Nat.le_of_ble_eq_true rfl, Nat.le_of_ble_eq_true rfl⟩ lx_1 rfl rfl (Nat.le_of_ble_eq_true rfl) (ctX7_hasMember x.2.1 D cA ad F M a1) (fun v2 M1 => ?_)
  refine mv_if_eq (pc := 8) (tgt := 20) dX8_as_8 (by decide) ?_ ?_
  · refine mv_ldc (pc := 20) dX8_as_20 kwX8_80 ?_
    exact mv_ireturn (pc := 22) dX8_as_22 rfl
  · refine mv_iload_n (pc := 11) (i := 2) 2 dX8_as_11 rfl rfl ?_
    refine mv_if_lt (pc := 12) (tgt := 20) dX8_as_12 (by decide) ?_ ?_
    · refine mv_ldc (pc := 20) dX8_as_20 kwX8_80 ?_
      exact mv_ireturn (pc := 22) dX8_as_22 rfl
    · refine mv_iload_n (pc := 15) (i := 2) 2 dX8_as_15 rfl rfl ?_
      refine mv_iconst (pc := 16) dX8_as_16 kci5 ?_
      refine mv_icmp_le (pc := 17) (tgt := 23) dX8_as_17 (by decide) ?_ ?_
      · refine mv_aload_n (pc := 23) (i := 0) 0 dX8_as_23 rfl rfl ?_
        refine mv_getR (pc := 24) (i := 0) (j := 1) dX8_as_24 flX8_10 lx_0 rfl ?_
        refine mv_iload_n (pc := 27) (i := 1) 1 dX8_as_27 rfl rfl ?_
        refine mv_iload_n (pc := 28) (i := 2) 2 dX8_as_28 rfl rfl ?_
        refine mv_callVi (pc := 29) (As := [.int a1, .int a2]) (st := []) (i := 1) dX8_as_29 mlX8_284 vmX7_isKind ⟨Nat.le_of_ble_eq_true rfl, Nat.le_of_ble_eq_true rfl⟩ lx_1 rfl rfl (Nat.le_of_ble_eq_true rfl) (ctX7_isKind x.2.1 D cA ad F M1 a1 a2) (fun v4 M3 => ?_)
        refine mv_if_eq (pc := 32) (tgt := 43) dX8_as_32 (by decide) ?_ ?_
        · refine mv_aload_n (pc := 43) (i := 0) 0 dX8_as_43 rfl rfl ?_
          refine mv_iconst (pc := 44) dX8_as_44 kci3 ?_
          refine mv_callVi (pc := 45) (As := [.int (3 : Int32)]) (st := []) (i := 0) dX8_as_45 mlX8_81 vmX8_found ⟨Nat.le_of_ble_eq_true rfl, Nat.le_of_ble_eq_true rfl⟩ lx_0 rfl rfl (Nat.le_of_ble_eq_true rfl) (ctX8_found x.2.1 D cA ad F M3 (3 : Int32)) (fun v6 M5 => ?_)
          exact mv_ireturn (pc := 48) dX8_as_48 rfl
        · refine mv_aload_n (pc := 35) (i := 0) 0 dX8_as_35 rfl rfl ?_
          refine mv_iload_n (pc := 36) (i := 1) 1 dX8_as_36 rfl rfl ?_
          refine mv_callVi (pc := 37) (As := [.int a1]) (st := []) (i := 0) dX8_as_37 mlX8_89 vmX8_unfound ⟨Nat.le_of_ble_eq_true rfl, Nat.le_of_ble_eq_true rfl⟩ lx_0 rfl rfl (Nat.le_of_ble_eq_true rfl) (ctX8_unfound x.2.1 D cA ad F M3 a1) (fun v8 M7 => ?_)
          refine mv_goto (pc := 40) (tgt := 48) dX8_as_40 (by decide) ?_
          exact mv_ireturn (pc := 48) dX8_as_48 rfl
      · refine mv_ldc (pc := 20) dX8_as_20 kwX8_80 ?_
        exact mv_ireturn (pc := 22) dX8_as_22 rfl

set_option maxRecDepth 100000 in
set_option maxHeartbeats 4000000 in
theorem ctX1_begin (l : Launch) (D : va_G) (cA : Nat → ClassId) (ad : Nat → Nat) (F : Nat) (M : mv_M) (a1 : Int32) : mv_C l (D, cA, ad, LX) yX1_begin iX1_begin mv_rv [.ref (ad 112), .int a1] M (fX1_begin F M a1) := by
  refine mv_C.ofV (ls := [(0, .ref (ad 112)), (1, .int a1)]) (by decide) rfl (Nat.le_of_ble_eq_true rfl) rfl ?_
  intro x hxl
  subst hxl
  unfold fX1_begin
  refine mv_aload_n (pc := 0) (i := 0) 0 dX1_begin_0 rfl rfl ?_
  refine mv_getI (pc := 1) (i := 112) dX1_begin_1 flX1_72 lx_112 rfl ?_
  refine mv_bipush (pc := 4) dX1_begin_4 kcb16 ?_
  refine mv_icmp_ge (pc := 6) (tgt := 29) dX1_begin_6 (by decide) ?_ ?_
  · exact mv_return (pc := 29) dX1_begin_29 rfl
  · refine mv_aload_n (pc := 9) (i := 0) 0 dX1_begin_9 rfl rfl ?_
    refine mv_getR (pc := 10) (i := 112) (j := 113) dX1_begin_10 flX1_11 lx_112 rfl ?_
    refine mv_aload_n (pc := 13) (i := 0) 0 dX1_begin_13 rfl rfl ?_
    refine mv_getI (pc := 14) (i := 112) dX1_begin_14 flX1_72 lx_112 rfl ?_
    refine mv_iload_n (pc := 17) (i := 1) 1 dX1_begin_17 rfl rfl ?_
    refine mv_iast (pc := 18) (i := 113) dX1_begin_18 lx_113 (fun M1 => ?_)
    refine mv_aload_n (pc := 19) (i := 0) 0 dX1_begin_19 rfl rfl ?_
    refine mv_dup (pc := 20) dX1_begin_20 rfl ?_
    refine mv_getI (pc := 21) (i := 112) dX1_begin_21 flX1_72 lx_112 rfl ?_
    refine mv_iconst (pc := 24) dX1_begin_24 kci1 ?_
    refine mv_iadd (pc := 25) dX1_begin_25 ?_
    refine mv_putI (pc := 26) (i := 112) dX1_begin_26 flX1_72 (Or.inl fpX1_2) lx_112 rfl (fun M2 => ?_)
    exact mv_return (pc := 29) dX1_begin_29 rfl

set_option maxRecDepth 100000 in
set_option maxHeartbeats 4000000 in
theorem ctX1_body21 (l : Launch) (D : va_G) (cA : Nat → ClassId) (ad : Nat → Nat) (F : Nat) (M : mv_M) (a1 : Int32) : mv_C l (D, cA, ad, LX) yX1_body21 iX1_body21 mv_ri [.ref (ad 112), .int a1] M (fX1_body21 F M a1) := by
  refine mv_C.ofV (ls := [(0, .ref (ad 112)), (1, .int a1)]) (by decide) rfl (Nat.le_of_ble_eq_true rfl) rfl ?_
  intro x hxl
  subst hxl
  unfold fX1_body21
  refine mv_aload_n (pc := 0) (i := 0) 0 dX1_body21_0 rfl rfl ?_
  refine mv_bipush (pc := 1) dX1_body21_1 kcb21 ?_
  refine mv_callVv (pc := 3) (As := [.int (21 : Int32)]) (st := []) (i := 112) dX1_body21_3 mlX1_59 vmX1_begin ⟨Nat.le_of_ble_eq_true rfl, Nat.le_of_ble_eq_true rfl⟩ lx_112 rfl rfl (Nat.le_of_ble_eq_true rfl) (ctX1_begin x.2.1 D cA ad F M (21 : Int32)) (fun M1 => ?_)
  refine mv_aload_n (pc := 6) (i := 0) 0 dX1_body21_6 rfl rfl ?_
  refine mv_bipush (pc := 7) dX1_body21_7 kcb20 ?_
  refine mv_callVv (pc := 9) (As := [.int (20 : Int32)]) (st := []) (i := 112) dX1_body21_9 mlX1_59 vmX1_begin ⟨Nat.le_of_ble_eq_true rfl, Nat.le_of_ble_eq_true rfl⟩ lx_112 rfl rfl (Nat.le_of_ble_eq_true rfl) (ctX1_begin x.2.1 D cA ad F M1 (20 : Int32)) (fun M2 => ?_)
  refine mv_iload_n (pc := 12) (i := 1) 1 dX1_body21_12 rfl rfl ?_
  refine mv_aload_n (pc := 13) (i := 0) 0 dX1_body21_13 rfl rfl ?_
  refine mv_getR (pc := 14) (i := 112) (j := 1) dX1_body21_14 flX1_15 lx_112 rfl ?_
  refine mv_getR (pc := 17) (i := 1) (j := 5) dX1_body21_17 flX1_69 lx_1 rfl ?_
  refine mv_iload_n (pc := 20) (i := 1) 1 dX1_body21_20 rfl rfl ?_
  refine mv_iald (pc := 21) (i := 5) dX1_body21_21 lx_5 ?_
  refine mv_iadd (pc := 22) dX1_body21_22 ?_
  exact mv_ireturn (pc := 23) dX1_body21_23 rfl

set_option maxRecDepth 100000 in
set_option maxHeartbeats 4000000 in
theorem ctX1_body24 (l : Launch) (D : va_G) (cA : Nat → ClassId) (ad : Nat → Nat) (F : Nat) (M : mv_M) (a1 : Int32) : mv_C l (D, cA, ad, LX) yX1_body24 iX1_body24 mv_ri [.ref (ad 112), .int a1] M (fX1_body24 F M a1) := by
  refine mv_C.ofV (ls := [(0, .ref (ad 112)), (1, .int a1)]) (by decide) rfl (Nat.le_of_ble_eq_true rfl) rfl ?_
  intro x hxl
  subst hxl
  unfold fX1_body24
  refine mv_aload_n (pc := 0) (i := 0) 0 dX1_body24_0 rfl rfl ?_
  refine mv_bipush (pc := 1) dX1_body24_1 kcb24 ?_
  refine mv_callVv (pc := 3) (As := [.int (24 : Int32)]) (st := []) (i := 112) dX1_body24_3 mlX1_59 vmX1_begin ⟨Nat.le_of_ble_eq_true rfl, Nat.le_of_ble_eq_true rfl⟩ lx_112 rfl rfl (Nat.le_of_ble_eq_true rfl) (ctX1_begin x.2.1 D cA ad F M (24 : Int32)) (fun M1 => ?_)
  refine mv_aload_n (pc := 6) (i := 0) 0 dX1_body24_6 rfl rfl ?_
  refine mv_iload_n (pc := 7) (i := 1) 1 dX1_body24_7 rfl rfl ?_
  refine mv_callVi (pc := 8) (As := [.int a1]) (st := []) (i := 112) dX1_body24_8 mlX1_56 vmX1_body21 ⟨Nat.le_of_ble_eq_true rfl, Nat.le_of_ble_eq_true rfl⟩ lx_112 rfl rfl (Nat.le_of_ble_eq_true rfl) (ctX1_body21 x.2.1 D cA ad F M1 a1) (fun v3 M2 => ?_)
  refine mv_iconst (pc := 11) dX1_body24_11 kci2 ?_
  refine mv_imul (pc := 12) dX1_body24_12 ?_
  exact mv_ireturn (pc := 13) dX1_body24_13 rfl

set_option maxRecDepth 100000 in
set_option maxHeartbeats 4000000 in
theorem ctX1_body22 (l : Launch) (D : va_G) (cA : Nat → ClassId) (ad : Nat → Nat) (F : Nat) (M : mv_M) (a1 : Int32) : mv_C l (D, cA, ad, LX) yX1_body22 iX1_body22 mv_ri [.ref (ad 112), .int a1] M (fX1_body22 F M a1) := by
  refine mv_C.ofV (ls := [(0, .ref (ad 112)), (1, .int a1)]) (by decide) rfl (Nat.le_of_ble_eq_true rfl) rfl ?_
  intro x hxl
  subst hxl
  unfold fX1_body22
  refine mv_aload_n (pc := 0) (i := 0) 0 dX1_body22_0 rfl rfl ?_
  refine mv_bipush (pc := 1) dX1_body22_1 kcb22 ?_
  refine mv_callVv (pc := 3) (As := [.int (22 : Int32)]) (st := []) (i := 112) dX1_body22_3 mlX1_59 vmX1_begin ⟨Nat.le_of_ble_eq_true rfl, Nat.le_of_ble_eq_true rfl⟩ lx_112 rfl rfl (Nat.le_of_ble_eq_true rfl) (ctX1_begin x.2.1 D cA ad F M (22 : Int32)) (fun M1 => ?_)
  refine mv_aload_n (pc := 6) (i := 0) 0 dX1_body22_6 rfl rfl ?_
  refine mv_iload_n (pc := 7) (i := 1) 1 dX1_body22_7 rfl rfl ?_
  refine mv_callVi (pc := 8) (As := [.int a1]) (st := []) (i := 112) dX1_body22_8 mlX1_56 vmX1_body21 ⟨Nat.le_of_ble_eq_true rfl, Nat.le_of_ble_eq_true rfl⟩ lx_112 rfl rfl (Nat.le_of_ble_eq_true rfl) (ctX1_body21 x.2.1 D cA ad F M1 a1) (fun v3 M2 => ?_)
  refine mv_sipush (pc := 11) dX1_body22_11 kcs1000 ?_
  refine mv_isub (pc := 14) dX1_body22_14 ?_
  exact mv_ireturn (pc := 15) dX1_body22_15 rfl

set_option maxRecDepth 100000 in
set_option maxHeartbeats 4000000 in
theorem ctX1_markOfLocal (l : Launch) (D : va_G) (cA : Nat → ClassId) (ad : Nat → Nat) (F : Nat) (M : mv_M) (a1 : Int32) : mv_C l (D, cA, ad, LX) yX1_markOfLocal iX1_markOfLocal mv_ri [.ref (ad 112), .int a1] M (fX1_markOfLocal F M a1) := by
  refine mv_C.ofV (ls := [(0, .ref (ad 112)), (1, .int a1)]) (by decide) rfl (Nat.le_of_ble_eq_true rfl) rfl ?_
  intro x hxl
  subst hxl
  unfold fX1_markOfLocal
  refine mv_aload_n (pc := 0) (i := 0) 0 dX1_markOfLocal_0 rfl rfl ?_
  refine mv_getR (pc := 1) (i := 112) (j := 1) dX1_markOfLocal_1 flX1_15 lx_112 rfl ?_
  refine mv_getR (pc := 4) (i := 1) (j := 4) dX1_markOfLocal_4 flX1_19 lx_1 rfl ?_
  refine mv_iload_n (pc := 7) (i := 1) 1 dX1_markOfLocal_7 rfl rfl ?_
  refine mv_iald (pc := 8) (i := 4) dX1_markOfLocal_8 lx_4 ?_
  refine mv_lkc (pc := 9) (v := (2 : Int32)) (off := 27) (tgt := 36) dX1_markOfLocal_9 (by decide +kernel) (by decide +kernel) (by decide) ?_ (fun h3 => ?_)
  · refine mv_aload_n (pc := 36) (i := 0) 0 dX1_markOfLocal_36 rfl rfl ?_
    refine mv_iload_n (pc := 37) (i := 1) 1 dX1_markOfLocal_37 rfl rfl ?_
    refine mv_callVi (pc := 38) (As := [.int a1]) (st := []) (i := 112) dX1_markOfLocal_38 mlX1_50 vmX1_body24 ⟨Nat.le_of_ble_eq_true rfl, Nat.le_of_ble_eq_true rfl⟩ lx_112 rfl rfl (Nat.le_of_ble_eq_true rfl) (ctX1_body24 x.2.1 D cA ad F M a1) (fun v2 M1 => ?_)
    exact mv_ireturn (pc := 41) dX1_markOfLocal_41 rfl
  refine mv_lkc (pc := 9) (v := (3 : Int32)) (off := 33) (tgt := 42) dX1_markOfLocal_9 (by decide +kernel) (by decide +kernel) (by decide) ?_ (fun h6 => ?_)
  · refine mv_aload_n (pc := 42) (i := 0) 0 dX1_markOfLocal_42 rfl rfl ?_
    refine mv_iload_n (pc := 43) (i := 1) 1 dX1_markOfLocal_43 rfl rfl ?_
    refine mv_callVi (pc := 44) (As := [.int a1]) (st := []) (i := 112) dX1_markOfLocal_44 mlX1_53 vmX1_body22 ⟨Nat.le_of_ble_eq_true rfl, Nat.le_of_ble_eq_true rfl⟩ lx_112 rfl rfl (Nat.le_of_ble_eq_true rfl) (ctX1_body22 x.2.1 D cA ad F M a1) (fun v5 M4 => ?_)
    exact mv_ireturn (pc := 47) dX1_markOfLocal_47 rfl
  refine mv_lkd (pc := 9) (tgt := 48) dX1_markOfLocal_9 (by decide +kernel) (by have e0 := mv_ne (n := 2) (by decide +kernel) h3; have e1 := mv_ne (n := 3) (by decide +kernel) h6; show Op.lookupswitch.offset [(2, 27), (3, 33)] 39 _ = 39; rw [Op.lookupswitch.offset_cons, if_neg (Ne.symm e0), Op.lookupswitch.offset_cons, if_neg (Ne.symm e1)]; rfl) (by decide) ?_
  refine mv_aload_n (pc := 48) (i := 0) 0 dX1_markOfLocal_48 rfl rfl ?_
  refine mv_iload_n (pc := 49) (i := 1) 1 dX1_markOfLocal_49 rfl rfl ?_
  refine mv_callVi (pc := 50) (As := [.int a1]) (st := []) (i := 112) dX1_markOfLocal_50 mlX1_56 vmX1_body21 ⟨Nat.le_of_ble_eq_true rfl, Nat.le_of_ble_eq_true rfl⟩ lx_112 rfl rfl (Nat.le_of_ble_eq_true rfl) (ctX1_body21 x.2.1 D cA ad F M a1) (fun v8 M7 => ?_)
  exact mv_ireturn (pc := 53) dX1_markOfLocal_53 rfl

set_option maxRecDepth 100000 in
set_option maxHeartbeats 4000000 in
theorem ctX1_body10 (l : Launch) (D : va_G) (cA : Nat → ClassId) (ad : Nat → Nat) (F : Nat) (M : mv_M) (a1 : Int32) : mv_C l (D, cA, ad, LX) yX1_body10 iX1_body10 mv_ri [.ref (ad 112), .int a1] M (fX1_body10 F M a1) := by
  refine mv_C.ofV (ls := [(0, .ref (ad 112)), (1, .int a1)]) (by decide) rfl (Nat.le_of_ble_eq_true rfl) rfl ?_
  intro x hxl
  subst hxl
  unfold fX1_body10
  refine mv_aload_n (pc := 0) (i := 0) 0 dX1_body10_0 rfl rfl ?_
  refine mv_bipush (pc := 1) dX1_body10_1 kcb10 ?_
  refine mv_callVv (pc := 3) (As := [.int (10 : Int32)]) (st := []) (i := 112) dX1_body10_3 mlX1_59 vmX1_begin ⟨Nat.le_of_ble_eq_true rfl, Nat.le_of_ble_eq_true rfl⟩ lx_112 rfl rfl (Nat.le_of_ble_eq_true rfl) (ctX1_begin x.2.1 D cA ad F M (10 : Int32)) (fun M1 => ?_)
  refine mv_aload_n (pc := 6) (i := 0) 0 dX1_body10_6 rfl rfl ?_
  refine mv_getR (pc := 7) (i := 112) (j := 1) dX1_body10_7 flX1_15 lx_112 rfl ?_
  refine mv_getR (pc := 10) (i := 1) (j := 6) dX1_body10_10 flX1_63 lx_1 rfl ?_
  refine mv_iload_n (pc := 13) (i := 1) 1 dX1_body10_13 rfl rfl ?_
  refine mv_iald (pc := 14) (i := 6) dX1_body10_14 lx_6 ?_
  exact mv_ireturn (pc := 15) dX1_body10_15 rfl

set_option maxRecDepth 100000 in
set_option maxHeartbeats 4000000 in
theorem ctX1_body13 (l : Launch) (D : va_G) (cA : Nat → ClassId) (ad : Nat → Nat) (F : Nat) (M : mv_M) (a1 : Int32) : mv_C l (D, cA, ad, LX) yX1_body13 iX1_body13 mv_ri [.ref (ad 112), .int a1] M (fX1_body13 F M a1) := by
  refine mv_C.ofV (ls := [(0, .ref (ad 112)), (1, .int a1)]) (by decide) rfl (Nat.le_of_ble_eq_true rfl) rfl ?_
  intro x hxl
  subst hxl
  unfold fX1_body13
  refine mv_aload_n (pc := 0) (i := 0) 0 dX1_body13_0 rfl rfl ?_
  refine mv_bipush (pc := 1) dX1_body13_1 kcb13 ?_
  refine mv_callVv (pc := 3) (As := [.int (13 : Int32)]) (st := []) (i := 112) dX1_body13_3 mlX1_59 vmX1_begin ⟨Nat.le_of_ble_eq_true rfl, Nat.le_of_ble_eq_true rfl⟩ lx_112 rfl rfl (Nat.le_of_ble_eq_true rfl) (ctX1_begin x.2.1 D cA ad F M (13 : Int32)) (fun M1 => ?_)
  refine mv_aload_n (pc := 6) (i := 0) 0 dX1_body13_6 rfl rfl ?_
  refine mv_iload_n (pc := 7) (i := 1) 1 dX1_body13_7 rfl rfl ?_
  refine mv_callVi (pc := 8) (As := [.int a1]) (st := []) (i := 112) dX1_body13_8 mlX1_66 vmX1_body10 ⟨Nat.le_of_ble_eq_true rfl, Nat.le_of_ble_eq_true rfl⟩ lx_112 rfl rfl (Nat.le_of_ble_eq_true rfl) (ctX1_body10 x.2.1 D cA ad F M1 a1) (fun v3 M2 => ?_)
  refine mv_bipush (pc := 11) dX1_body13_11 kcb100 ?_
  refine mv_isub (pc := 13) dX1_body13_13 ?_
  exact mv_ireturn (pc := 14) dX1_body13_14 rfl

set_option maxRecDepth 100000 in
set_option maxHeartbeats 4000000 in
theorem ctX1_body14 (l : Launch) (D : va_G) (cA : Nat → ClassId) (ad : Nat → Nat) (F : Nat) (M : mv_M) (a1 : Int32) : mv_C l (D, cA, ad, LX) yX1_body14 iX1_body14 mv_ri [.ref (ad 112), .int a1] M (fX1_body14 F M a1) := by
  refine mv_C.ofV (ls := [(0, .ref (ad 112)), (1, .int a1)]) (by decide) rfl (Nat.le_of_ble_eq_true rfl) rfl ?_
  intro x hxl
  subst hxl
  unfold fX1_body14
  refine mv_aload_n (pc := 0) (i := 0) 0 dX1_body14_0 rfl rfl ?_
  refine mv_bipush (pc := 1) dX1_body14_1 kcb14 ?_
  refine mv_callVv (pc := 3) (As := [.int (14 : Int32)]) (st := []) (i := 112) dX1_body14_3 mlX1_59 vmX1_begin ⟨Nat.le_of_ble_eq_true rfl, Nat.le_of_ble_eq_true rfl⟩ lx_112 rfl rfl (Nat.le_of_ble_eq_true rfl) (ctX1_begin x.2.1 D cA ad F M (14 : Int32)) (fun M1 => ?_)
  refine mv_aload_n (pc := 6) (i := 0) 0 dX1_body14_6 rfl rfl ?_
  refine mv_iload_n (pc := 7) (i := 1) 1 dX1_body14_7 rfl rfl ?_
  refine mv_callVi (pc := 8) (As := [.int a1]) (st := []) (i := 112) dX1_body14_8 mlX1_47 vmX1_body13 ⟨Nat.le_of_ble_eq_true rfl, Nat.le_of_ble_eq_true rfl⟩ lx_112 rfl rfl (Nat.le_of_ble_eq_true rfl) (ctX1_body13 x.2.1 D cA ad F M1 a1) (fun v3 M2 => ?_)
  refine mv_iconst (pc := 11) dX1_body14_11 kci2 ?_
  refine mv_imul (pc := 12) dX1_body14_12 ?_
  exact mv_ireturn (pc := 13) dX1_body14_13 rfl

set_option maxRecDepth 100000 in
set_option maxHeartbeats 4000000 in
theorem ctX1_sizeOfCall (l : Launch) (D : va_G) (cA : Nat → ClassId) (ad : Nat → Nat) (F : Nat) (M : mv_M) (a1 : Int32) : mv_C l (D, cA, ad, LX) yX1_sizeOfCall iX1_sizeOfCall mv_ri [.ref (ad 112), .int a1] M (fX1_sizeOfCall F M a1) := by
  refine mv_C.ofV (ls := [(0, .ref (ad 112)), (1, .int a1)]) (by decide) rfl (Nat.le_of_ble_eq_true rfl) rfl ?_
  intro x hxl
  subst hxl
  unfold fX1_sizeOfCall
  refine mv_aload_n (pc := 0) (i := 0) 0 dX1_sizeOfCall_0 rfl rfl ?_
  refine mv_getR (pc := 1) (i := 112) (j := 1) dX1_sizeOfCall_1 flX1_15 lx_112 rfl ?_
  refine mv_iload_n (pc := 4) (i := 1) 1 dX1_sizeOfCall_4 rfl rfl ?_
  refine mv_iconst (pc := 5) dX1_sizeOfCall_5 kci5 ?_
  refine mv_callVi (pc := 6) (As := [.int a1, .int (5 : Int32)]) (st := []) (i := 1) dX1_sizeOfCall_6 mlX1_34 vmX7_isKind ⟨Nat.le_of_ble_eq_true rfl, Nat.le_of_ble_eq_true rfl⟩ lx_1 rfl rfl (Nat.le_of_ble_eq_true rfl) (ctX7_isKind x.2.1 D cA ad F M a1 (5 : Int32)) (fun v2 M1 => ?_)
  refine mv_if_eq (pc := 9) (tgt := 20) dX1_sizeOfCall_9 (by decide) ?_ ?_
  · refine mv_aload_n (pc := 20) (i := 0) 0 dX1_sizeOfCall_20 rfl rfl ?_
    refine mv_iload_n (pc := 21) (i := 1) 1 dX1_sizeOfCall_21 rfl rfl ?_
    refine mv_callVi (pc := 22) (As := [.int a1]) (st := []) (i := 112) dX1_sizeOfCall_22 mlX1_47 vmX1_body13 ⟨Nat.le_of_ble_eq_true rfl, Nat.le_of_ble_eq_true rfl⟩ lx_112 rfl rfl (Nat.le_of_ble_eq_true rfl) (ctX1_body13 x.2.1 D cA ad F M1 a1) (fun v4 M3 => ?_)
    exact mv_ireturn (pc := 25) dX1_sizeOfCall_25 rfl
  · refine mv_aload_n (pc := 12) (i := 0) 0 dX1_sizeOfCall_12 rfl rfl ?_
    refine mv_iload_n (pc := 13) (i := 1) 1 dX1_sizeOfCall_13 rfl rfl ?_
    refine mv_callVi (pc := 14) (As := [.int a1]) (st := []) (i := 112) dX1_sizeOfCall_14 mlX1_44 vmX1_body14 ⟨Nat.le_of_ble_eq_true rfl, Nat.le_of_ble_eq_true rfl⟩ lx_112 rfl rfl (Nat.le_of_ble_eq_true rfl) (ctX1_body14 x.2.1 D cA ad F M1 a1) (fun v6 M5 => ?_)
    refine mv_goto (pc := 17) (tgt := 25) dX1_sizeOfCall_17 (by decide) ?_
    exact mv_ireturn (pc := 25) dX1_sizeOfCall_25 rfl

set_option maxRecDepth 100000 in
set_option maxHeartbeats 4000000 in
theorem ctX1_body23 (l : Launch) (D : va_G) (cA : Nat → ClassId) (ad : Nat → Nat) (F : Nat) (M : mv_M) (a1 : Int32) : mv_C l (D, cA, ad, LX) yX1_body23 iX1_body23 mv_ri [.ref (ad 112), .int a1] M (fX1_body23 F M a1) := by
  refine mv_C.ofV (ls := [(0, .ref (ad 112)), (1, .int a1)]) (by decide) rfl (Nat.le_of_ble_eq_true rfl) rfl ?_
  intro x hxl
  subst hxl
  unfold fX1_body23
  refine mv_aload_n (pc := 0) (i := 0) 0 dX1_body23_0 rfl rfl ?_
  refine mv_bipush (pc := 1) dX1_body23_1 kcb23 ?_
  refine mv_callVv (pc := 3) (As := [.int (23 : Int32)]) (st := []) (i := 112) dX1_body23_3 mlX1_59 vmX1_begin ⟨Nat.le_of_ble_eq_true rfl, Nat.le_of_ble_eq_true rfl⟩ lx_112 rfl rfl (Nat.le_of_ble_eq_true rfl) (ctX1_begin x.2.1 D cA ad F M (23 : Int32)) (fun M1 => ?_)
  refine mv_aload_n (pc := 6) (i := 0) 0 dX1_body23_6 rfl rfl ?_
  refine mv_bipush (pc := 7) dX1_body23_7 kcb20 ?_
  refine mv_callVv (pc := 9) (As := [.int (20 : Int32)]) (st := []) (i := 112) dX1_body23_9 mlX1_59 vmX1_begin ⟨Nat.le_of_ble_eq_true rfl, Nat.le_of_ble_eq_true rfl⟩ lx_112 rfl rfl (Nat.le_of_ble_eq_true rfl) (ctX1_begin x.2.1 D cA ad F M1 (20 : Int32)) (fun M2 => ?_)
  refine mv_iload_n (pc := 12) (i := 1) 1 dX1_body23_12 rfl rfl ?_
  refine mv_aload_n (pc := 13) (i := 0) 0 dX1_body23_13 rfl rfl ?_
  refine mv_iload_n (pc := 14) (i := 1) 1 dX1_body23_14 rfl rfl ?_
  refine mv_callVi (pc := 15) (As := [.int a1]) (st := [.int a1]) (i := 112) dX1_body23_15 mlX1_24 vmX1_sizeOfCall ⟨Nat.le_of_ble_eq_true rfl, Nat.le_of_ble_eq_true rfl⟩ lx_112 rfl rfl (Nat.le_of_ble_eq_true rfl) (ctX1_sizeOfCall x.2.1 D cA ad F M2 a1) (fun v4 M3 => ?_)
  refine mv_isub (pc := 18) dX1_body23_18 ?_
  exact mv_ireturn (pc := 19) dX1_body23_19 rfl

set_option maxRecDepth 100000 in
set_option maxHeartbeats 4000000 in
theorem ctX1_markOf (l : Launch) (D : va_G) (cA : Nat → ClassId) (ad : Nat → Nat) (F : Nat) (M : mv_M) (a1 : Int32) : mv_C l (D, cA, ad, LX) yX1_markOf iX1_markOf mv_ri [.ref (ad 112), .int a1] M (fX1_markOf F M a1) := by
  refine mv_C.ofV (ls := [(0, .ref (ad 112)), (1, .int a1)]) (by decide) rfl (Nat.le_of_ble_eq_true rfl) rfl ?_
  intro x hxl
  subst hxl
  unfold fX1_markOf
  refine mv_aload_n (pc := 0) (i := 0) 0 dX1_markOf_0 rfl rfl ?_
  refine mv_getR (pc := 1) (i := 112) (j := 1) dX1_markOf_1 flX1_15 lx_112 rfl ?_
  refine mv_iload_n (pc := 4) (i := 1) 1 dX1_markOf_4 rfl rfl ?_
  refine mv_iconst (pc := 5) dX1_markOf_5 kci4 ?_
  refine mv_callVi (pc := 6) (As := [.int a1, .int (4 : Int32)]) (st := []) (i := 1) dX1_markOf_6 mlX1_34 vmX7_isKind ⟨Nat.le_of_ble_eq_true rfl, Nat.le_of_ble_eq_true rfl⟩ lx_1 rfl rfl (Nat.le_of_ble_eq_true rfl) (ctX7_isKind x.2.1 D cA ad F M a1 (4 : Int32)) (fun v2 M1 => ?_)
  refine mv_if_eq (pc := 9) (tgt := 20) dX1_markOf_9 (by decide) ?_ ?_
  · refine mv_aload_n (pc := 20) (i := 0) 0 dX1_markOf_20 rfl rfl ?_
    refine mv_iload_n (pc := 21) (i := 1) 1 dX1_markOf_21 rfl rfl ?_
    refine mv_callVi (pc := 22) (As := [.int a1]) (st := []) (i := 112) dX1_markOf_22 mlX1_41 vmX1_markOfLocal ⟨Nat.le_of_ble_eq_true rfl, Nat.le_of_ble_eq_true rfl⟩ lx_112 rfl rfl (Nat.le_of_ble_eq_true rfl) (ctX1_markOfLocal x.2.1 D cA ad F M1 a1) (fun v4 M3 => ?_)
    exact mv_ireturn (pc := 25) dX1_markOf_25 rfl
  · refine mv_aload_n (pc := 12) (i := 0) 0 dX1_markOf_12 rfl rfl ?_
    refine mv_iload_n (pc := 13) (i := 1) 1 dX1_markOf_13 rfl rfl ?_
    refine mv_callVi (pc := 14) (As := [.int a1]) (st := []) (i := 112) dX1_markOf_14 mlX1_38 vmX1_body23 ⟨Nat.le_of_ble_eq_true rfl, Nat.le_of_ble_eq_true rfl⟩ lx_112 rfl rfl (Nat.le_of_ble_eq_true rfl) (ctX1_body23 x.2.1 D cA ad F M1 a1) (fun v6 M5 => ?_)
    refine mv_goto (pc := 17) (tgt := 25) dX1_markOf_17 (by decide) ?_
    exact mv_ireturn (pc := 25) dX1_markOf_25 rfl

set_option maxRecDepth 100000 in
set_option maxHeartbeats 4000000 in
theorem ctX1_body11 (l : Launch) (D : va_G) (cA : Nat → ClassId) (ad : Nat → Nat) (F : Nat) (M : mv_M) (a1 : Int32) : mv_C l (D, cA, ad, LX) yX1_body11 iX1_body11 mv_ri [.ref (ad 112), .int a1] M (fX1_body11 F M a1) := by
  refine mv_C.ofV (ls := [(0, .ref (ad 112)), (1, .int a1)]) (by decide) rfl (Nat.le_of_ble_eq_true rfl) rfl ?_
  intro x hxl
  subst hxl
  unfold fX1_body11
  refine mv_aload_n (pc := 0) (i := 0) 0 dX1_body11_0 rfl rfl ?_
  refine mv_bipush (pc := 1) dX1_body11_1 kcb11 ?_
  refine mv_callVv (pc := 3) (As := [.int (11 : Int32)]) (st := []) (i := 112) dX1_body11_3 mlX1_59 vmX1_begin ⟨Nat.le_of_ble_eq_true rfl, Nat.le_of_ble_eq_true rfl⟩ lx_112 rfl rfl (Nat.le_of_ble_eq_true rfl) (ctX1_begin x.2.1 D cA ad F M (11 : Int32)) (fun M1 => ?_)
  refine mv_aload_n (pc := 6) (i := 0) 0 dX1_body11_6 rfl rfl ?_
  refine mv_iload_n (pc := 7) (i := 1) 1 dX1_body11_7 rfl rfl ?_
  refine mv_callVi (pc := 8) (As := [.int a1]) (st := []) (i := 112) dX1_body11_8 mlX1_66 vmX1_body10 ⟨Nat.le_of_ble_eq_true rfl, Nat.le_of_ble_eq_true rfl⟩ lx_112 rfl rfl (Nat.le_of_ble_eq_true rfl) (ctX1_body10 x.2.1 D cA ad F M1 a1) (fun v3 M2 => ?_)
  refine mv_istore_n (pc := 11) (i := 2) (ls' := [(0, .ref (ad 112)), (1, .int a1)]) dX1_body11_11 rfl (Nat.le_of_ble_eq_true rfl) rfl (fun v4 => ?_)
  refine mv_iload_n (pc := 12) (i := 2) 0 dX1_body11_12 rfl rfl ?_
  refine mv_aload_n (pc := 13) (i := 0) 1 dX1_body11_13 rfl rfl ?_
  refine mv_iload_n (pc := 14) (i := 1) 2 dX1_body11_14 rfl rfl ?_
  refine mv_callVi (pc := 15) (As := [.int a1]) (st := [.int v4]) (i := 112) dX1_body11_15 mlX1_41 vmX1_markOfLocal ⟨Nat.le_of_ble_eq_true rfl, Nat.le_of_ble_eq_true rfl⟩ lx_112 rfl rfl (Nat.le_of_ble_eq_true rfl) (ctX1_markOfLocal x.2.1 D cA ad F M2 a1) (fun v6 M5 => ?_)
  refine mv_iadd (pc := 18) dX1_body11_18 ?_
  exact mv_ireturn (pc := 19) dX1_body11_19 rfl

set_option maxRecDepth 100000 in
set_option maxHeartbeats 4000000 in
theorem ctX1_body12 (l : Launch) (D : va_G) (cA : Nat → ClassId) (ad : Nat → Nat) (F : Nat) (M : mv_M) (a1 : Int32) : mv_C l (D, cA, ad, LX) yX1_body12 iX1_body12 mv_ri [.ref (ad 112), .int a1] M (fX1_body12 F M a1) := by
  refine mv_C.ofV (ls := [(0, .ref (ad 112)), (1, .int a1)]) (by decide) rfl (Nat.le_of_ble_eq_true rfl) rfl ?_
  intro x hxl
  subst hxl
  unfold fX1_body12
  refine mv_aload_n (pc := 0) (i := 0) 0 dX1_body12_0 rfl rfl ?_
  refine mv_bipush (pc := 1) dX1_body12_1 kcb12 ?_
  refine mv_callVv (pc := 3) (As := [.int (12 : Int32)]) (st := []) (i := 112) dX1_body12_3 mlX1_59 vmX1_begin ⟨Nat.le_of_ble_eq_true rfl, Nat.le_of_ble_eq_true rfl⟩ lx_112 rfl rfl (Nat.le_of_ble_eq_true rfl) (ctX1_begin x.2.1 D cA ad F M (12 : Int32)) (fun M1 => ?_)
  refine mv_aload_n (pc := 6) (i := 0) 0 dX1_body12_6 rfl rfl ?_
  refine mv_iload_n (pc := 7) (i := 1) 1 dX1_body12_7 rfl rfl ?_
  refine mv_callVi (pc := 8) (As := [.int a1]) (st := []) (i := 112) dX1_body12_8 mlX1_31 vmX1_body11 ⟨Nat.le_of_ble_eq_true rfl, Nat.le_of_ble_eq_true rfl⟩ lx_112 rfl rfl (Nat.le_of_ble_eq_true rfl) (ctX1_body11 x.2.1 D cA ad F M1 a1) (fun v3 M2 => ?_)
  refine mv_ineg (pc := 11) dX1_body12_11 ?_
  exact mv_ireturn (pc := 12) dX1_body12_12 rfl

set_option maxRecDepth 100000 in
set_option maxHeartbeats 4000000 in
theorem ctX1_sizeOf (l : Launch) (D : va_G) (cA : Nat → ClassId) (ad : Nat → Nat) (F : Nat) (M : mv_M) (a1 : Int32) : mv_C l (D, cA, ad, LX) yX1_sizeOf iX1_sizeOf mv_ri [.ref (ad 112), .int a1] M (fX1_sizeOf F M a1) := by
  refine mv_C.ofV (ls := [(0, .ref (ad 112)), (1, .int a1)]) (by decide) rfl (Nat.le_of_ble_eq_true rfl) rfl ?_
  intro x hxl
  subst hxl
  unfold fX1_sizeOf
  refine mv_aload_n (pc := 0) (i := 0) 0 dX1_sizeOf_0 rfl rfl ?_
  refine mv_getR (pc := 1) (i := 112) (j := 1) dX1_sizeOf_1 flX1_15 lx_112 rfl ?_
  refine mv_getR (pc := 4) (i := 1) (j := 4) dX1_sizeOf_4 flX1_19 lx_1 rfl ?_
  refine mv_iload_n (pc := 7) (i := 1) 1 dX1_sizeOf_7 rfl rfl ?_
  refine mv_iald (pc := 8) (i := 4) dX1_sizeOf_8 lx_4 ?_
  refine mv_swc (pc := 9) (v := (2 : Int32)) (off := 37) (tgt := 46) dX1_sizeOf_9 (by decide +kernel) (by decide +kernel) (by decide +kernel) (by decide) ?_ (fun h3 => ?_)
  · refine mv_aload_n (pc := 46) (i := 0) 0 dX1_sizeOf_46 rfl rfl ?_
    refine mv_iload_n (pc := 47) (i := 1) 1 dX1_sizeOf_47 rfl rfl ?_
    refine mv_callVi (pc := 48) (As := [.int a1]) (st := []) (i := 112) dX1_sizeOf_48 mlX1_28 vmX1_body12 ⟨Nat.le_of_ble_eq_true rfl, Nat.le_of_ble_eq_true rfl⟩ lx_112 rfl rfl (Nat.le_of_ble_eq_true rfl) (ctX1_body12 x.2.1 D cA ad F M a1) (fun v2 M1 => ?_)
    exact mv_ireturn (pc := 51) dX1_sizeOf_51 rfl
  refine mv_swc (pc := 9) (v := (3 : Int32)) (off := 43) (tgt := 52) dX1_sizeOf_9 (by decide +kernel) (by decide +kernel) (by decide +kernel) (by decide) ?_ (fun h6 => ?_)
  · refine mv_aload_n (pc := 52) (i := 0) 0 dX1_sizeOf_52 rfl rfl ?_
    refine mv_iload_n (pc := 53) (i := 1) 1 dX1_sizeOf_53 rfl rfl ?_
    refine mv_callVi (pc := 54) (As := [.int a1]) (st := []) (i := 112) dX1_sizeOf_54 mlX1_31 vmX1_body11 ⟨Nat.le_of_ble_eq_true rfl, Nat.le_of_ble_eq_true rfl⟩ lx_112 rfl rfl (Nat.le_of_ble_eq_true rfl) (ctX1_body11 x.2.1 D cA ad F M a1) (fun v5 M4 => ?_)
    exact mv_ireturn (pc := 57) dX1_sizeOf_57 rfl
  refine mv_swc (pc := 9) (v := (4 : Int32)) (off := 31) (tgt := 40) dX1_sizeOf_9 (by decide +kernel) (by decide +kernel) (by decide +kernel) (by decide) ?_ (fun h9 => ?_)
  · refine mv_aload_n (pc := 40) (i := 0) 0 dX1_sizeOf_40 rfl rfl ?_
    refine mv_iload_n (pc := 41) (i := 1) 1 dX1_sizeOf_41 rfl rfl ?_
    refine mv_callVi (pc := 42) (As := [.int a1]) (st := []) (i := 112) dX1_sizeOf_42 mlX1_24 vmX1_sizeOfCall ⟨Nat.le_of_ble_eq_true rfl, Nat.le_of_ble_eq_true rfl⟩ lx_112 rfl rfl (Nat.le_of_ble_eq_true rfl) (ctX1_sizeOfCall x.2.1 D cA ad F M a1) (fun v8 M7 => ?_)
    exact mv_ireturn (pc := 45) dX1_sizeOf_45 rfl
  refine mv_swc (pc := 9) (v := (5 : Int32)) (off := 31) (tgt := 40) dX1_sizeOf_9 (by decide +kernel) (by decide +kernel) (by decide +kernel) (by decide) ?_ (fun h12 => ?_)
  · refine mv_aload_n (pc := 40) (i := 0) 0 dX1_sizeOf_40 rfl rfl ?_
    refine mv_iload_n (pc := 41) (i := 1) 1 dX1_sizeOf_41 rfl rfl ?_
    refine mv_callVi (pc := 42) (As := [.int a1]) (st := []) (i := 112) dX1_sizeOf_42 mlX1_24 vmX1_sizeOfCall ⟨Nat.le_of_ble_eq_true rfl, Nat.le_of_ble_eq_true rfl⟩ lx_112 rfl rfl (Nat.le_of_ble_eq_true rfl) (ctX1_sizeOfCall x.2.1 D cA ad F M a1) (fun v11 M10 => ?_)
    exact mv_ireturn (pc := 45) dX1_sizeOf_45 rfl
  refine mv_swd (pc := 9) (tgt := 52) dX1_sizeOf_9 (by have e0 := mv_ne (n := 2) (by decide +kernel) h3; have e1 := mv_ne (n := 3) (by decide +kernel) h6; have e2 := mv_ne (n := 4) (by decide +kernel) h9; have e3 := mv_ne (n := 5) (by decide +kernel) h12; omega) (by decide) ?_
  refine mv_aload_n (pc := 52) (i := 0) 0 dX1_sizeOf_52 rfl rfl ?_
  refine mv_iload_n (pc := 53) (i := 1) 1 dX1_sizeOf_53 rfl rfl ?_
  refine mv_callVi (pc := 54) (As := [.int a1]) (st := []) (i := 112) dX1_sizeOf_54 mlX1_31 vmX1_body11 ⟨Nat.le_of_ble_eq_true rfl, Nat.le_of_ble_eq_true rfl⟩ lx_112 rfl rfl (Nat.le_of_ble_eq_true rfl) (ctX1_body11 x.2.1 D cA ad F M a1) (fun v14 M13 => ?_)
  exact mv_ireturn (pc := 57) dX1_sizeOf_57 rfl

set_option maxRecDepth 100000 in
set_option maxHeartbeats 4000000 in
theorem ctX8_ask (l : Launch) (D : va_G) (cA : Nat → ClassId) (ad : Nat → Nat) (F : Nat) (M : mv_M) (a1 : Int32) (a2 : Int32) : mv_C l (D, cA, ad, LX) yX8_ask iX8_ask mv_ri [.ref (ad 0), .int a1, .int a2] M (fX8_ask F M a1 a2) := by
  refine mv_C.ofV (ls := [(0, .ref (ad 0)), (1, .int a1), (2, .int a2)]) (by decide) rfl (Nat.le_of_ble_eq_true rfl) rfl ?_
  intro x hxl
  subst hxl
  unfold fX8_ask
  refine mv_aload_n (pc := 0) (i := 0) 0 dX8_ask_0 rfl rfl ?_
  refine mv_getR (pc := 1) (i := 0) (j := 1) dX8_ask_1 flX8_10 lx_0 rfl ?_
  refine mv_iload_n (pc := 4) (i := 1) 1 dX8_ask_4 rfl rfl ?_
  refine mv_callVi (pc := 5) (As := [.int a1]) (st := []) (i := 1) dX8_ask_5 mlX8_154 vmX7_hasMember ⟨Nat.le_of_ble_eq_true rfl, Nat.le_of_ble_eq_true rfl⟩ lx_1 rfl rfl (Nat.le_of_ble_eq_true rfl) (ctX7_hasMember x.2.1 D cA ad F M a1) (fun v2 M1 => ?_)
  refine mv_if_eq (pc := 8) (tgt := 20) dX8_ask_8 (by decide) ?_ ?_
  · refine mv_ldc (pc := 20) dX8_ask_20 kwX8_80 ?_
    exact mv_ireturn (pc := 22) dX8_ask_22 rfl
  · refine mv_iload_n (pc := 11) (i := 2) 2 dX8_ask_11 rfl rfl ?_
    refine mv_if_lt (pc := 12) (tgt := 20) dX8_ask_12 (by decide) ?_ ?_
    · refine mv_ldc (pc := 20) dX8_ask_20 kwX8_80 ?_
      exact mv_ireturn (pc := 22) dX8_ask_22 rfl
    · refine mv_iload_n (pc := 15) (i := 2) 2 dX8_ask_15 rfl rfl ?_
      refine mv_iconst (pc := 16) dX8_ask_16 kci1 ?_
      refine mv_icmp_le (pc := 17) (tgt := 23) dX8_ask_17 (by decide) ?_ ?_
      · refine mv_aload_n (pc := 23) (i := 0) 0 dX8_ask_23 rfl rfl ?_
        refine mv_getR (pc := 24) (i := 0) (j := 112) dX8_ask_24 flX8_69 lx_0 rfl ?_
        refine mv_iconst (pc := 27) dX8_ask_27 kci0 ?_
        refine mv_putI (pc := 28) (i := 112) dX8_ask_28 flX8_287 (Or.inl fpX1_2) lx_112 rfl (fun M3 => ?_)
        refine mv_iload_n (pc := 31) (i := 2) 2 dX8_ask_31 rfl rfl ?_
        refine mv_if_ne (pc := 32) (tgt := 46) dX8_ask_32 (by decide) ?_ ?_
        · refine mv_aload_n (pc := 46) (i := 0) 0 dX8_ask_46 rfl rfl ?_
          refine mv_getR (pc := 47) (i := 0) (j := 112) dX8_ask_47 flX8_69 lx_0 rfl ?_
          refine mv_iload_n (pc := 50) (i := 1) 1 dX8_ask_50 rfl rfl ?_
          refine mv_callVi (pc := 51) (As := [.int a1]) (st := []) (i := 112) dX8_ask_51 mlX8_293 vmX1_markOf ⟨Nat.le_of_ble_eq_true rfl, Nat.le_of_ble_eq_true rfl⟩ lx_112 rfl rfl (Nat.le_of_ble_eq_true rfl) (ctX1_markOf x.2.1 D cA ad F M3 a1) (fun v5 M4 => ?_)
          exact mv_ireturn (pc := 54) dX8_ask_54 rfl
        · refine mv_aload_n (pc := 35) (i := 0) 0 dX8_ask_35 rfl rfl ?_
          refine mv_getR (pc := 36) (i := 0) (j := 112) dX8_ask_36 flX8_69 lx_0 rfl ?_
          refine mv_iload_n (pc := 39) (i := 1) 1 dX8_ask_39 rfl rfl ?_
          refine mv_callVi (pc := 40) (As := [.int a1]) (st := []) (i := 112) dX8_ask_40 mlX8_290 vmX1_sizeOf ⟨Nat.le_of_ble_eq_true rfl, Nat.le_of_ble_eq_true rfl⟩ lx_112 rfl rfl (Nat.le_of_ble_eq_true rfl) (ctX1_sizeOf x.2.1 D cA ad F M3 a1) (fun v7 M6 => ?_)
          refine mv_goto (pc := 43) (tgt := 54) dX8_ask_43 (by decide) ?_
          exact mv_ireturn (pc := 54) dX8_ask_54 rfl
      · refine mv_ldc (pc := 20) dX8_ask_20 kwX8_80 ?_
        exact mv_ireturn (pc := 22) dX8_ask_22 rfl

set_option maxRecDepth 100000 in
set_option maxHeartbeats 4000000 in
theorem ctX8_trace (l : Launch) (D : va_G) (cA : Nat → ClassId) (ad : Nat → Nat) (F : Nat) (M : mv_M) (a1 : Int32) : mv_C l (D, cA, ad, LX) yX8_trace iX8_trace mv_ri [.ref (ad 0), .int a1] M (fX8_trace F M a1) := by
  refine mv_C.ofV (ls := [(0, .ref (ad 0)), (1, .int a1)]) (by decide) rfl (Nat.le_of_ble_eq_true rfl) rfl ?_
  intro x hxl
  subst hxl
  unfold fX8_trace
  refine mv_iload_n (pc := 0) (i := 1) 1 dX8_trace_0 rfl rfl ?_
  refine mv_if_lt (pc := 1) (tgt := 27) dX8_trace_1 (by decide) ?_ ?_
  · refine mv_ldc (pc := 27) dX8_trace_27 kwX8_203 ?_
    exact mv_ireturn (pc := 29) dX8_trace_29 rfl
  · refine mv_iload_n (pc := 4) (i := 1) 1 dX8_trace_4 rfl rfl ?_
    refine mv_aload_n (pc := 5) (i := 0) 0 dX8_trace_5 rfl rfl ?_
    refine mv_getR (pc := 6) (i := 0) (j := 112) dX8_trace_6 flX8_69 lx_0 rfl ?_
    refine mv_getI (pc := 9) (i := 112) dX8_trace_9 flX8_287 lx_112 rfl ?_
    refine mv_icmp_ge (pc := 12) (tgt := 27) dX8_trace_12 (by decide) ?_ ?_
    · refine mv_ldc (pc := 27) dX8_trace_27 kwX8_203 ?_
      exact mv_ireturn (pc := 29) dX8_trace_29 rfl
    · refine mv_aload_n (pc := 15) (i := 0) 0 dX8_trace_15 rfl rfl ?_
      refine mv_getR (pc := 16) (i := 0) (j := 112) dX8_trace_16 flX8_69 lx_0 rfl ?_
      refine mv_getR (pc := 19) (i := 112) (j := 113) dX8_trace_19 flX8_296 lx_112 rfl ?_
      refine mv_iload_n (pc := 22) (i := 1) 1 dX8_trace_22 rfl rfl ?_
      refine mv_iald (pc := 23) (i := 113) dX8_trace_23 lx_113 ?_
      refine mv_goto (pc := 24) (tgt := 29) dX8_trace_24 (by decide) ?_
      exact mv_ireturn (pc := 29) dX8_trace_29 rfl
