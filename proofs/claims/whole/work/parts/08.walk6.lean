set_option maxRecDepth 100000 in
set_option maxHeartbeats 4000000 in
theorem ctX9_listed (l : Launch) (D : va_G) (cA : Nat → ClassId) (ad : Nat → Nat) (F : Nat) (M : mv_M) (a1 : Int32) (a2 : Int32) (a3 : Int32) : mv_C l (D, cA, ad, LM) yX9_listed iX9_listed mv_ri [.ref (ad 0), .int a1, .int a2, .int a3] M (fX9_listed F M a1 a2 a3) := by
  refine mv_C.ofV (ls := [(0, .ref (ad 0)), (1, .int a1), (2, .int a2), (3, .int a3)]) (by decide) rfl (Nat.le_of_ble_eq_true rfl) rfl ?_
  intro x hxl
  subst hxl
  unfold fX9_listed
  refine mv_aload_n (pc := 0) (i := 0) 0 dX9_listed_0 rfl rfl ?_
  refine mv_iload_n (pc := 1) (i := 1) 1 dX9_listed_1 rfl rfl ?_
  refine mv_callVi (pc := 2) (As := [.int a1]) (st := []) (i := 0) dX9_listed_2 mlX9_143 vmX9_isType ⟨Nat.le_of_ble_eq_true rfl, Nat.le_of_ble_eq_true rfl⟩ lm_0 rfl rfl (Nat.le_of_ble_eq_true rfl) (ctX9_isType x.2.1 D cA ad F M a1) (fun v2 M1 => ?_)
  refine mv_if_eq (pc := 5) (tgt := 25) dX9_listed_5 (by decide) ?_ ?_
  · refine mv_ldc (pc := 25) dX9_listed_25 kwX9_65 ?_
    exact mv_ireturn (pc := 27) dX9_listed_27 rfl
  · refine mv_iload_n (pc := 8) (i := 2) 2 dX9_listed_8 rfl rfl ?_
    refine mv_i2l (pc := 9) dX9_listed_9 ?_
    refine mv_lconst (pc := 10) dX9_listed_10 (by decide +kernel : Int64.ofNat ((0 : Fin 2) : Nat) = (0 : Int64)) ?_
    refine mv_ldc2_w (pc := 11) dX9_listed_11 kwX9_210 ?_
    refine mv_callSi (pc := 14) (As := [.long a2.toInt64, .long (0 : Int64), .long (999999998 : Int64)]) (st := []) dX9_listed_14 mlX9_48 smX9_in ⟨Nat.le_of_ble_eq_true rfl, Nat.le_of_ble_eq_true rfl⟩ rfl (Nat.le_of_ble_eq_true rfl) (ctX9_in x.2.1 D cA ad F M1 a2.toInt64 (0 : Int64) (999999998 : Int64)) (fun v4 M3 => ?_)
    refine mv_if_eq (pc := 17) (tgt := 25) dX9_listed_17 (by decide) ?_ ?_
    · refine mv_ldc (pc := 25) dX9_listed_25 kwX9_65 ?_
      exact mv_ireturn (pc := 27) dX9_listed_27 rfl
    · refine mv_iload_n (pc := 20) (i := 3) 3 dX9_listed_20 rfl rfl ?_
      refine mv_iconst (pc := 21) dX9_listed_21 kcim1 ?_
      refine mv_icmp_ge (pc := 22) (tgt := 28) dX9_listed_22 (by decide) ?_ ?_
      · refine mv_aload_n (pc := 28) (i := 0) 0 dX9_listed_28 rfl rfl ?_
        refine mv_aload_n (pc := 29) (i := 0) 0 dX9_listed_29 rfl rfl ?_
        refine mv_getR (pc := 30) (i := 0) (j := 1) dX9_listed_30 flX9_7 lm_0 rfl ?_
        refine mv_iconst (pc := 33) dX9_listed_33 kci2 ?_
        refine mv_iald (pc := 34) (i := 1) dX9_listed_34 lm_1 ?_
        refine mv_callVv (pc := 35) (As := [.int (M3.1 1 (2 : Int32).toNatClampNeg)]) (st := []) (i := 0) dX9_listed_35 mlX9_178 vmX9_layWays ⟨Nat.le_of_ble_eq_true rfl, Nat.le_of_ble_eq_true rfl⟩ lm_0 rfl rfl (Nat.le_of_ble_eq_true rfl) (ctX9_layWays x.2.1 D cA ad F M3 (M3.1 1 (2 : Int32).toNatClampNeg)) (fun M5 => ?_)
        refine mv_aload_n (pc := 38) (i := 0) 0 dX9_listed_38 rfl rfl ?_
        refine mv_iload_n (pc := 39) (i := 1) 1 dX9_listed_39 rfl rfl ?_
        refine mv_iload_n (pc := 40) (i := 2) 2 dX9_listed_40 rfl rfl ?_
        refine mv_callVi (pc := 41) (As := [.int a1, .int a2]) (st := []) (i := 0) dX9_listed_41 mlX9_212 vmX9_laysCode ⟨Nat.le_of_ble_eq_true rfl, Nat.le_of_ble_eq_true rfl⟩ lm_0 rfl rfl (Nat.le_of_ble_eq_true rfl) (ctX9_laysCode x.2.1 D cA ad F M5 a1 a2) (fun v7 M6 => ?_)
        refine mv_if_ne (pc := 44) (tgt := 50) dX9_listed_44 (by decide) ?_ ?_
        · refine mv_iload_n (pc := 50) (i := 3) 3 dX9_listed_50 rfl rfl ?_
          refine mv_iconst (pc := 51) dX9_listed_51 kcim1 ?_
          refine mv_icmp_ne (pc := 52) (tgt := 62) dX9_listed_52 (by decide) ?_ ?_
          · refine mv_iload_n (pc := 62) (i := 3) 3 dX9_listed_62 rfl rfl ?_
            refine mv_aload_n (pc := 63) (i := 0) 0 dX9_listed_63 rfl rfl ?_
            refine mv_getI (pc := 64) (i := 0) dX9_listed_64 flX9_198 lm_0 rfl ?_
            refine mv_icmp_ge (pc := 67) (tgt := 79) dX9_listed_67 (by decide) ?_ ?_
            · refine mv_ldc (pc := 79) dX9_listed_79 kwX9_149 ?_
              exact mv_ireturn (pc := 81) dX9_listed_81 rfl
            · refine mv_aload_n (pc := 70) (i := 0) 0 dX9_listed_70 rfl rfl ?_
              refine mv_getR (pc := 71) (i := 0) (j := 10) dX9_listed_71 flX9_38 lm_0 rfl ?_
              refine mv_iload_n (pc := 74) (i := 3) 3 dX9_listed_74 rfl rfl ?_
              refine mv_iald (pc := 75) (i := 10) dX9_listed_75 lm_10 ?_
              refine mv_goto (pc := 76) (tgt := 81) dX9_listed_76 (by decide) ?_
              exact mv_ireturn (pc := 81) dX9_listed_81 rfl
          · refine mv_aload_n (pc := 55) (i := 0) 0 dX9_listed_55 rfl rfl ?_
            refine mv_getI (pc := 56) (i := 0) dX9_listed_56 flX9_201 lm_0 rfl ?_
            refine mv_goto (pc := 59) (tgt := 81) dX9_listed_59 (by decide) ?_
            exact mv_ireturn (pc := 81) dX9_listed_81 rfl
        · refine mv_ldc (pc := 47) dX9_listed_47 kwX9_149 ?_
          exact mv_ireturn (pc := 49) dX9_listed_49 rfl
      · refine mv_ldc (pc := 25) dX9_listed_25 kwX9_65 ?_
        exact mv_ireturn (pc := 27) dX9_listed_27 rfl

set_option maxRecDepth 100000 in
set_option maxHeartbeats 4000000 in
theorem ctX9_isWorld (l : Launch) (D : va_G) (cA : Nat → ClassId) (ad : Nat → Nat) (F : Nat) (M : mv_M) : mv_C l (D, cA, ad, LM) yX9_isWorld iX9_isWorld mv_ri [.ref (ad 0)] M (fX9_isWorld F M) := by
  refine mv_C.ofV (ls := [(0, .ref (ad 0))]) (by decide) rfl (Nat.le_of_ble_eq_true rfl) rfl ?_
  intro x hxl
  subst hxl
  unfold fX9_isWorld
  refine mv_aload_n (pc := 0) (i := 0) 0 dX9_isWorld_0 rfl rfl ?_
  refine mv_getR (pc := 1) (i := 0) (j := 1) dX9_isWorld_1 flX9_7 lm_0 rfl ?_
  refine mv_iconst (pc := 4) dX9_isWorld_4 kci1 ?_
  refine mv_iald (pc := 5) (i := 1) dX9_isWorld_5 lm_1 ?_
  refine mv_if_le (pc := 6) (tgt := 13) dX9_isWorld_6 (by decide) ?_ ?_
  · refine mv_iconst (pc := 13) dX9_isWorld_13 kci0 ?_
    exact mv_zreturn (pc := 14) dX9_isWorld_14 rfl
  · refine mv_iconst (pc := 9) dX9_isWorld_9 kci1 ?_
    refine mv_goto (pc := 10) (tgt := 14) dX9_isWorld_10 (by decide) ?_
    exact mv_zreturn (pc := 14) dX9_isWorld_14 rfl

set_option maxRecDepth 100000 in
set_option maxHeartbeats 4000000 in
theorem ctX9_isWhole (l : Launch) (D : va_G) (cA : Nat → ClassId) (ad : Nat → Nat) (F : Nat) (M : mv_M) (a1 : Int32) (a2 : Int32) : mv_C l (D, cA, ad, LM) yX9_isWhole iX9_isWhole mv_ri [.ref (ad 0), .int a1, .int a2] M (fX9_isWhole F M a1 a2) := by
  refine mv_C.ofV (ls := [(0, .ref (ad 0)), (1, .int a1), (2, .int a2)]) (by decide) rfl (Nat.le_of_ble_eq_true rfl) rfl ?_
  intro x hxl
  subst hxl
  unfold fX9_isWhole
  refine mv_iconst (pc := 0) dX9_isWhole_0 kci0 ?_
  refine mv_istore_n (pc := 1) (i := 3) (ls' := [(0, .ref (ad 0)), (1, .int a1), (2, .int a2)]) dX9_isWhole_1 rfl (Nat.le_of_ble_eq_true rfl) rfl (fun v1 => ?_)
  refine mv_iconst (pc := 2) dX9_isWhole_2 kci1 ?_
  refine mv_istore (pc := 3) (i := 4) (ls' := [(3, .int v1), (0, .ref (ad 0)), (1, .int a1), (2, .int a2)]) dX9_isWhole_3 (Nat.le_of_ble_eq_true rfl) rfl (fun v2 => ?_)
  refine mv_aload_n (pc := 5) (i := 0) 2 dX9_isWhole_5 rfl rfl ?_
  refine mv_iconst (pc := 6) dX9_isWhole_6 kci0 ?_
  refine mv_putI (pc := 7) (i := 0) dX9_isWhole_7 flX9_201 (Or.inl fpX9_19) lm_0 rfl (fun M3 => ?_)
  refine mv_iconst (pc := 10) dX9_isWhole_10 kci0 ?_
  refine mv_istore (pc := 11) (i := 5) (ls' := [(4, .int v2), (3, .int v1), (0, .ref (ad 0)), (1, .int a1), (2, .int a2)]) dX9_isWhole_11 (Nat.le_of_ble_eq_true rfl) rfl (fun v4 => ?_)
  refine mv_jp (pj := 188) (lj := fun (s5 : Int32 × Int32 × mv_M) => [(3, .int s5.1), (4, .int s5.2.1)]) (sj := fun (s5 : Int32 × Int32 × mv_M) => []) (Mj := fun (s5 : Int32 × Int32 × mv_M) => s5.2.2) ?_ ?_
  · intro s5
    refine mv_iload (pc := 188) (i := 4) 1 dX9_isWhole_188 rfl ?_
    refine mv_if_eq (pc := 190) (tgt := 201) dX9_isWhole_190 (by decide) ?_ ?_
    · refine mv_iconst (pc := 201) dX9_isWhole_201 kci0 ?_
      exact mv_zreturn (pc := 202) dX9_isWhole_202 rfl
    · refine mv_iload_n (pc := 193) (i := 3) 0 dX9_isWhole_193 rfl rfl ?_
      refine mv_if_ne (pc := 194) (tgt := 201) dX9_isWhole_194 (by decide) ?_ ?_
      · refine mv_iconst (pc := 201) dX9_isWhole_201 kci0 ?_
        exact mv_zreturn (pc := 202) dX9_isWhole_202 rfl
      · refine mv_iconst (pc := 197) dX9_isWhole_197 kci1 ?_
        refine mv_goto (pc := 198) (tgt := 202) dX9_isWhole_198 (by decide) ?_
        exact mv_zreturn (pc := 202) dX9_isWhole_202 rfl
  · intro j6 hj6
    refine mv_sub [3, 4, 5, 2, 1, 0] rfl ?_
    refine mv_loop (pc := 13) (lj := fun (s7 : Int32 × Int32 × Int32 × mv_M) => [(0, .ref (ad 0)), (1, .int a1), (2, .int a2), (3, .int s7.1), (4, .int s7.2.1), (5, .int s7.2.2.1)]) (Mj := fun (s7 : Int32 × Int32 × Int32 × mv_M) => s7.2.2.2) (B := bX9_isWhole_13 a2 j6 a1 F) ?_ F (v1, v2, v4, M3)
    intro f8 hf8 s7
    unfold bX9_isWhole_13
    refine mv_iload (pc := 13) (i := 5) 5 dX9_isWhole_13 rfl ?_
    refine mv_iload_n (pc := 15) (i := 2) 2 dX9_isWhole_15 rfl rfl ?_
    refine mv_icmp_ge (pc := 16) (tgt := 188) dX9_isWhole_16 (by decide) ?_ ?_
    · refine mv_sub [3, 4] rfl ?_
      exact hj6 (s7.1, s7.2.1, s7.2.2.2)
    · refine mv_iload (pc := 19) (i := 4) 4 dX9_isWhole_19 rfl ?_
      refine mv_if_eq (pc := 21) (tgt := 188) dX9_isWhole_21 (by decide) ?_ ?_
      · refine mv_sub [3, 4] rfl ?_
        exact hj6 (s7.1, s7.2.1, s7.2.2.2)
      · refine mv_aload_n (pc := 24) (i := 0) 0 dX9_isWhole_24 rfl rfl ?_
        refine mv_getR (pc := 25) (i := 0) (j := 5) dX9_isWhole_25 flX9_22 lm_0 rfl ?_
        refine mv_iload_n (pc := 28) (i := 1) 1 dX9_isWhole_28 rfl rfl ?_
        refine mv_iload (pc := 29) (i := 5) 5 dX9_isWhole_29 rfl ?_
        refine mv_iadd (pc := 31) dX9_isWhole_31 ?_
        refine mv_iald (pc := 32) (i := 5) dX9_isWhole_32 lm_5 ?_
        refine mv_istore (pc := 33) (i := 6) (ls' := [(0, .ref (ad 0)), (1, .int a1), (2, .int a2), (3, .int s7.1), (4, .int s7.2.1), (5, .int s7.2.2.1)]) dX9_isWhole_33 (Nat.le_of_ble_eq_true rfl) rfl (fun v9 => ?_)
        refine mv_aload_n (pc := 35) (i := 0) 1 dX9_isWhole_35 rfl rfl ?_
        refine mv_iload (pc := 36) (i := 6) 0 dX9_isWhole_36 rfl ?_
        refine mv_callVi (pc := 38) (As := [.int v9]) (st := []) (i := 0) dX9_isWhole_38 mlX9_134 vmX9_isMember ⟨Nat.le_of_ble_eq_true rfl, Nat.le_of_ble_eq_true rfl⟩ lm_0 rfl rfl (Nat.le_of_ble_eq_true rfl) (ctX9_isMember x.2.1 D cA ad F s7.2.2.2 v9) (fun v11 M10 => ?_)
        refine mv_jp (pj := 97) (lj := fun (s12 : Int32 × mv_M) => [(0, .ref (ad 0)), (1, .int a1), (2, .int a2), (3, .int s7.1), (5, .int s7.2.2.1), (6, .int v9)]) (sj := fun (s12 : Int32 × mv_M) => [.int s12.1]) (Mj := fun (s12 : Int32 × mv_M) => s12.2) ?_ ?_
        · intro s12
          refine mv_istore (pc := 97) (i := 4) (ls' := [(0, .ref (ad 0)), (1, .int a1), (2, .int a2), (3, .int s7.1), (5, .int s7.2.2.1), (6, .int v9)]) dX9_isWhole_97 (Nat.le_of_ble_eq_true rfl) rfl (fun v14 => ?_)
          refine mv_iload (pc := 99) (i := 4) 0 dX9_isWhole_99 rfl ?_
          refine mv_if_eq (pc := 101) (tgt := 182) dX9_isWhole_101 (by decide) ?_ ?_
          · refine mv_iinc (pc := 182) (i := 5) (ls' := [(4, .int v14), (0, .ref (ad 0)), (1, .int a1), (2, .int a2), (3, .int s7.1), (6, .int v9)]) 5 dX9_isWhole_182 rfl kci1 (Nat.le_of_ble_eq_true rfl) rfl (fun v15 => ?_)
            refine mv_goto (pc := 185) (tgt := 13) dX9_isWhole_185 (by decide) ?_
            refine mv_sub [2, 3, 4, 5, 1, 0] rfl ?_
            exact hf8 (s7.1, v14, v15, s12.2)
          · refine mv_iload_n (pc := 104) (i := 3) 4 dX9_isWhole_104 rfl rfl ?_
            refine mv_iload (pc := 105) (i := 5) 5 dX9_isWhole_105 rfl ?_
            refine mv_jp (pj := 115) (lj := fun (s16 : Int32 × mv_M) => [(0, .ref (ad 0)), (1, .int a1), (2, .int a2), (4, .int v14), (5, .int s7.2.2.1), (6, .int v9)]) (sj := fun (s16 : Int32 × mv_M) => [.int s16.1, .int s7.1]) (Mj := fun (s16 : Int32 × mv_M) => s16.2) ?_ ?_
            · intro s16
              refine mv_isub (pc := 115) dX9_isWhole_115 ?_
              refine mv_istore_n (pc := 116) (i := 3) (ls' := [(0, .ref (ad 0)), (1, .int a1), (2, .int a2), (4, .int v14), (5, .int s7.2.2.1), (6, .int v9)]) dX9_isWhole_116 rfl (Nat.le_of_ble_eq_true rfl) rfl (fun v18 => ?_)
              refine mv_aload_n (pc := 117) (i := 0) 1 dX9_isWhole_117 rfl rfl ?_
              refine mv_dup (pc := 118) dX9_isWhole_118 rfl ?_
              refine mv_getI (pc := 119) (i := 0) dX9_isWhole_119 flX9_201 lm_0 rfl ?_
              refine mv_aload_n (pc := 122) (i := 0) 1 dX9_isWhole_122 rfl rfl ?_
              refine mv_iload (pc := 123) (i := 6) 6 dX9_isWhole_123 rfl ?_
              refine mv_callVi (pc := 125) (As := [.int v9]) (st := [.int (s16.2.1 0 19), .ref (ad 0)]) (i := 0) dX9_isWhole_125 mlX9_146 vmX9_priceOf ⟨Nat.le_of_ble_eq_true rfl, Nat.le_of_ble_eq_true rfl⟩ lm_0 rfl rfl (Nat.le_of_ble_eq_true rfl) (ctX9_priceOf x.2.1 D cA ad F s16.2 v9) (fun v20 M19 => ?_)
              refine mv_iadd (pc := 128) dX9_isWhole_128 ?_
              refine mv_putI (pc := 129) (i := 0) dX9_isWhole_129 flX9_201 (Or.inl fpX9_19) lm_0 rfl (fun M21 => ?_)
              refine mv_aload_n (pc := 132) (i := 0) 1 dX9_isWhole_132 rfl rfl ?_
              refine mv_getR (pc := 133) (i := 0) (j := 1) dX9_isWhole_133 flX9_7 lm_0 rfl ?_
              refine mv_bipush (pc := 136) dX9_isWhole_136 kcb47 ?_
              refine mv_iload (pc := 138) (i := 6) 6 dX9_isWhole_138 rfl ?_
              refine mv_iadd (pc := 140) dX9_isWhole_140 ?_
              refine mv_iald (pc := 141) (i := 1) dX9_isWhole_141 lm_1 ?_
              refine mv_iconst (pc := 142) dX9_isWhole_142 kci1 ?_
              refine mv_isub (pc := 143) dX9_isWhole_143 ?_
              refine mv_istore (pc := 144) (i := 7) (ls' := [(3, .int v18), (0, .ref (ad 0)), (1, .int a1), (2, .int a2), (4, .int v14), (5, .int s7.2.2.1), (6, .int v9)]) dX9_isWhole_144 (Nat.le_of_ble_eq_true rfl) rfl (fun v22 => ?_)
              refine mv_sub [2, 3, 4, 1, 5, 6, 7, 0] rfl ?_
              refine mv_loop (pc := 146) (lj := fun (s23 : Int32 × Int32 × mv_M) => [(0, .ref (ad 0)), (1, .int a1), (2, .int a2), (3, .int s23.1), (4, .int v14), (5, .int s7.2.2.1), (6, .int v9), (7, .int s23.2.1)]) (Mj := fun (s23 : Int32 × Int32 × mv_M) => s23.2.2) (B := bX9_isWhole_146 s7 f8 v14 v9) ?_ F (v18, v22, M21)
              intro f24 hf24 s23
              unfold bX9_isWhole_146
              refine mv_iload (pc := 146) (i := 7) 7 dX9_isWhole_146 rfl ?_
              refine mv_if_lt (pc := 148) (tgt := 182) dX9_isWhole_148 (by decide) ?_ ?_
              · refine mv_iinc (pc := 182) (i := 5) (ls' := [(0, .ref (ad 0)), (1, .int a1), (2, .int a2), (3, .int s23.1), (4, .int v14), (6, .int v9), (7, .int s23.2.1)]) 5 dX9_isWhole_182 rfl kci1 (Nat.le_of_ble_eq_true rfl) rfl (fun v25 => ?_)
                refine mv_goto (pc := 185) (tgt := 13) dX9_isWhole_185 (by decide) ?_
                refine mv_sub [1, 2, 3, 4, 5, 0] rfl ?_
                exact hf8 (s23.1, v14, v25, s23.2.2)
              · refine mv_aload_n (pc := 151) (i := 0) 0 dX9_isWhole_151 rfl rfl ?_
                refine mv_getR (pc := 152) (i := 0) (j := 8) dX9_isWhole_152 flX9_32 lm_0 rfl ?_
                refine mv_iload_n (pc := 155) (i := 3) 3 dX9_isWhole_155 rfl rfl ?_
                refine mv_aload_n (pc := 156) (i := 0) 0 dX9_isWhole_156 rfl rfl ?_
                refine mv_getR (pc := 157) (i := 0) (j := 1) dX9_isWhole_157 flX9_7 lm_0 rfl ?_
                refine mv_bipush (pc := 160) dX9_isWhole_160 kcb59 ?_
                refine mv_bipush (pc := 162) dX9_isWhole_162 kcb12 ?_
                refine mv_iload (pc := 164) (i := 7) 7 dX9_isWhole_164 rfl ?_
                refine mv_imul (pc := 166) dX9_isWhole_166 ?_
                refine mv_iadd (pc := 167) dX9_isWhole_167 ?_
                refine mv_iload (pc := 168) (i := 6) 6 dX9_isWhole_168 rfl ?_
                refine mv_iadd (pc := 170) dX9_isWhole_170 ?_
                refine mv_iald (pc := 171) (i := 1) dX9_isWhole_171 lm_1 ?_
                refine mv_iast (pc := 172) (i := 8) dX9_isWhole_172 lm_8 (fun M26 => ?_)
                refine mv_iinc (pc := 173) (i := 3) (ls' := [(0, .ref (ad 0)), (1, .int a1), (2, .int a2), (4, .int v14), (5, .int s7.2.2.1), (6, .int v9), (7, .int s23.2.1)]) 3 dX9_isWhole_173 rfl kci1 (Nat.le_of_ble_eq_true rfl) rfl (fun v27 => ?_)
                refine mv_iinc (pc := 176) (i := 7) (ls' := [(3, .int v27), (0, .ref (ad 0)), (1, .int a1), (2, .int a2), (4, .int v14), (5, .int s7.2.2.1), (6, .int v9)]) 7 dX9_isWhole_176 rfl kcim1 (Nat.le_of_ble_eq_true rfl) rfl (fun v28 => ?_)
                refine mv_goto (pc := 179) (tgt := 146) dX9_isWhole_179 (by decide) ?_
                refine mv_sub [2, 3, 4, 1, 5, 6, 7, 0] rfl ?_
                exact hf24 (v27, v28, M26)
            · intro j17 hj17
              refine mv_if_ne (pc := 107) (tgt := 114) dX9_isWhole_107 (by decide) ?_ ?_
              · refine mv_iconst (pc := 114) dX9_isWhole_114 kci1 ?_
                refine mv_sub [1, 2, 3, 0, 5, 6] rfl ?_
                exact hj17 ((1 : Int32), s12.2)
              · refine mv_iconst (pc := 110) dX9_isWhole_110 kci0 ?_
                refine mv_goto (pc := 111) (tgt := 115) dX9_isWhole_111 (by decide) ?_
                refine mv_sub [1, 2, 3, 0, 5, 6] rfl ?_
                exact hj17 ((0 : Int32), s12.2)
        · intro j13 hj13
          refine mv_if_eq (pc := 41) (tgt := 96) dX9_isWhole_41 (by decide) ?_ ?_
          · refine mv_iconst (pc := 96) dX9_isWhole_96 kci0 ?_
            refine mv_sub [1, 2, 3, 4, 6, 0] rfl ?_
            exact hj13 ((0 : Int32), M10)
          · refine mv_aload_n (pc := 44) (i := 0) 1 dX9_isWhole_44 rfl rfl ?_
            refine mv_getR (pc := 45) (i := 0) (j := 1) dX9_isWhole_45 flX9_7 lm_0 rfl ?_
            refine mv_iconst (pc := 48) dX9_isWhole_48 kci2 ?_
            refine mv_iald (pc := 49) (i := 1) dX9_isWhole_49 lm_1 ?_
            refine mv_iload (pc := 50) (i := 6) 0 dX9_isWhole_50 rfl ?_
            refine mv_callSi (pc := 52) (As := [.int (M10.1 1 (2 : Int32).toNatClampNeg), .int v9]) (st := []) dX9_isWhole_52 mlX9_166 smX9_has ⟨Nat.le_of_ble_eq_true rfl, Nat.le_of_ble_eq_true rfl⟩ rfl (Nat.le_of_ble_eq_true rfl) (ctX9_has x.2.1 D cA ad F M10 (M10.1 1 (2 : Int32).toNatClampNeg) v9) (fun v30 M29 => ?_)
            refine mv_if_ne (pc := 55) (tgt := 96) dX9_isWhole_55 (by decide) ?_ ?_
            · refine mv_iconst (pc := 96) dX9_isWhole_96 kci0 ?_
              refine mv_sub [1, 2, 3, 4, 6, 0] rfl ?_
              exact hj13 ((0 : Int32), M29)
            · refine mv_iload (pc := 58) (i := 5) 6 dX9_isWhole_58 rfl ?_
              refine mv_if_eq (pc := 60) (tgt := 92) dX9_isWhole_60 (by decide) ?_ ?_
              · refine mv_iconst (pc := 92) dX9_isWhole_92 kci1 ?_
                refine mv_goto (pc := 93) (tgt := 97) dX9_isWhole_93 (by decide) ?_
                refine mv_sub [1, 2, 3, 4, 6, 0] rfl ?_
                exact hj13 ((1 : Int32), M29)
              · refine mv_iload_n (pc := 63) (i := 3) 4 dX9_isWhole_63 rfl rfl ?_
                refine mv_if_le (pc := 64) (tgt := 96) dX9_isWhole_64 (by decide) ?_ ?_
                · refine mv_iconst (pc := 96) dX9_isWhole_96 kci0 ?_
                  refine mv_sub [1, 2, 3, 4, 6, 0] rfl ?_
                  exact hj13 ((0 : Int32), M29)
                · refine mv_aload_n (pc := 67) (i := 0) 1 dX9_isWhole_67 rfl rfl ?_
                  refine mv_aload_n (pc := 68) (i := 0) 1 dX9_isWhole_68 rfl rfl ?_
                  refine mv_getR (pc := 69) (i := 0) (j := 1) dX9_isWhole_69 flX9_7 lm_0 rfl ?_
                  refine mv_bipush (pc := 72) dX9_isWhole_72 kcb23 ?_
                  refine mv_iload (pc := 74) (i := 6) 0 dX9_isWhole_74 rfl ?_
                  refine mv_iadd (pc := 76) dX9_isWhole_76 ?_
                  refine mv_iald (pc := 77) (i := 1) dX9_isWhole_77 lm_1 ?_
                  refine mv_aload_n (pc := 78) (i := 0) 1 dX9_isWhole_78 rfl rfl ?_
                  refine mv_getR (pc := 79) (i := 0) (j := 8) dX9_isWhole_79 flX9_32 lm_0 rfl ?_
                  refine mv_iload_n (pc := 82) (i := 3) 4 dX9_isWhole_82 rfl rfl ?_
                  refine mv_iconst (pc := 83) dX9_isWhole_83 kci1 ?_
                  refine mv_isub (pc := 84) dX9_isWhole_84 ?_
                  refine mv_iald (pc := 85) (i := 8) dX9_isWhole_85 lm_8 ?_
                  refine mv_callVi (pc := 86) (As := [.int (M29.1 1 ((23 : Int32) + v9).toNatClampNeg), .int (M29.1 8 (s7.1 - (1 : Int32)).toNatClampNeg)]) (st := []) (i := 0) dX9_isWhole_86 mlX9_150 vmX9_isOf ⟨Nat.le_of_ble_eq_true rfl, Nat.le_of_ble_eq_true rfl⟩ lm_0 rfl rfl (Nat.le_of_ble_eq_true rfl) (ctX9_isOf x.2.1 D cA ad F M29 (M29.1 1 ((23 : Int32) + v9).toNatClampNeg) (M29.1 8 (s7.1 - (1 : Int32)).toNatClampNeg)) (fun v32 M31 => ?_)
                  refine mv_if_eq (pc := 89) (tgt := 96) dX9_isWhole_89 (by decide) ?_ ?_
                  · refine mv_iconst (pc := 96) dX9_isWhole_96 kci0 ?_
                    refine mv_sub [1, 2, 3, 4, 6, 0] rfl ?_
                    exact hj13 ((0 : Int32), M31)
                  · refine mv_iconst (pc := 92) dX9_isWhole_92 kci1 ?_
                    refine mv_goto (pc := 93) (tgt := 97) dX9_isWhole_93 (by decide) ?_
                    refine mv_sub [1, 2, 3, 4, 6, 0] rfl ?_
                    exact hj13 ((1 : Int32), M31)

set_option maxRecDepth 100000 in
set_option maxHeartbeats 4000000 in
theorem ctX9_word (l : Launch) (D : va_G) (cA : Nat → ClassId) (ad : Nat → Nat) (F : Nat) (M : mv_M) (a1 : Int32) (a2 : Int32) (a3 : Int32) (a4 : Int32) : mv_C l (D, cA, ad, LM) yX9_word iX9_word mv_ri [.ref (ad 0), .int a1, .int a2, .int a3, .int a4] M (fX9_word F M a1 a2 a3 a4) := by
  refine mv_C.ofV (ls := [(0, .ref (ad 0)), (1, .int a1), (2, .int a2), (3, .int a3), (4, .int a4)]) (by decide) rfl (Nat.le_of_ble_eq_true rfl) rfl ?_
  intro x hxl
  subst hxl
  unfold fX9_word
  refine mv_iload_n (pc := 0) (i := 1) 1 dX9_word_0 rfl rfl ?_
  refine mv_callSi (pc := 1) (As := [.int a1]) (st := []) dX9_word_1 mlX9_59 smX9_isRow ⟨Nat.le_of_ble_eq_true rfl, Nat.le_of_ble_eq_true rfl⟩ rfl (Nat.le_of_ble_eq_true rfl) (ctX9_isRow x.2.1 D cA ad F M a1) (fun v2 M1 => ?_)
  refine mv_if_eq (pc := 4) (tgt := 30) dX9_word_4 (by decide) ?_ ?_
  · refine mv_ldc (pc := 30) dX9_word_30 kwX9_65 ?_
    exact mv_ireturn (pc := 32) dX9_word_32 rfl
  · refine mv_iload_n (pc := 7) (i := 3) 3 dX9_word_7 rfl rfl ?_
    refine mv_i2l (pc := 8) dX9_word_8 ?_
    refine mv_lconst (pc := 9) dX9_word_9 (by decide +kernel : Int64.ofNat ((1 : Fin 2) : Nat) = (1 : Int64)) ?_
    refine mv_ldc2_w (pc := 10) dX9_word_10 kwX9_176 ?_
    refine mv_callSi (pc := 13) (As := [.long a3.toInt64, .long (1 : Int64), .long (24 : Int64)]) (st := []) dX9_word_13 mlX9_48 smX9_in ⟨Nat.le_of_ble_eq_true rfl, Nat.le_of_ble_eq_true rfl⟩ rfl (Nat.le_of_ble_eq_true rfl) (ctX9_in x.2.1 D cA ad F M1 a3.toInt64 (1 : Int64) (24 : Int64)) (fun v4 M3 => ?_)
    refine mv_if_eq (pc := 16) (tgt := 30) dX9_word_16 (by decide) ?_ ?_
    · refine mv_ldc (pc := 30) dX9_word_30 kwX9_65 ?_
      exact mv_ireturn (pc := 32) dX9_word_32 rfl
    · refine mv_iload (pc := 19) (i := 4) 4 dX9_word_19 rfl ?_
      refine mv_i2l (pc := 21) dX9_word_21 ?_
      refine mv_lconst (pc := 22) dX9_word_22 (by decide +kernel : Int64.ofNat ((0 : Fin 2) : Nat) = (0 : Int64)) ?_
      refine mv_lconst (pc := 23) dX9_word_23 (by decide +kernel : Int64.ofNat ((1 : Fin 2) : Nat) = (1 : Int64)) ?_
      refine mv_callSi (pc := 24) (As := [.long a4.toInt64, .long (0 : Int64), .long (1 : Int64)]) (st := []) dX9_word_24 mlX9_48 smX9_in ⟨Nat.le_of_ble_eq_true rfl, Nat.le_of_ble_eq_true rfl⟩ rfl (Nat.le_of_ble_eq_true rfl) (ctX9_in x.2.1 D cA ad F M3 a4.toInt64 (0 : Int64) (1 : Int64)) (fun v6 M5 => ?_)
      refine mv_if_ne (pc := 27) (tgt := 33) dX9_word_27 (by decide) ?_ ?_
      · refine mv_aload_n (pc := 33) (i := 0) 0 dX9_word_33 rfl rfl ?_
        refine mv_callVi (pc := 34) (As := []) (st := []) (i := 0) dX9_word_34 mlX9_215 vmX9_isWorld ⟨Nat.le_of_ble_eq_true rfl, Nat.le_of_ble_eq_true rfl⟩ lm_0 rfl rfl (Nat.le_of_ble_eq_true rfl) (ctX9_isWorld x.2.1 D cA ad F M5) (fun v8 M7 => ?_)
        refine mv_if_ne (pc := 37) (tgt := 43) dX9_word_37 (by decide) ?_ ?_
        · refine mv_aload_n (pc := 43) (i := 0) 0 dX9_word_43 rfl rfl ?_
          refine mv_iload_n (pc := 44) (i := 1) 1 dX9_word_44 rfl rfl ?_
          refine mv_iload_n (pc := 45) (i := 2) 2 dX9_word_45 rfl rfl ?_
          refine mv_iload_n (pc := 46) (i := 3) 3 dX9_word_46 rfl rfl ?_
          refine mv_callVi (pc := 47) (As := [.int a1, .int a2, .int a3]) (st := []) (i := 0) dX9_word_47 mlX9_70 vmX9_against ⟨Nat.le_of_ble_eq_true rfl, Nat.le_of_ble_eq_true rfl⟩ lm_0 rfl rfl (Nat.le_of_ble_eq_true rfl) (ctX9_against x.2.1 D cA ad F M7 a1 a2 a3) (fun v10 M9 => ?_)
          refine mv_istore (pc := 50) (i := 5) (ls' := [(0, .ref (ad 0)), (1, .int a1), (2, .int a2), (3, .int a3), (4, .int a4)]) dX9_word_50 (Nat.le_of_ble_eq_true rfl) rfl (fun v11 => ?_)
          refine mv_iload (pc := 52) (i := 5) 0 dX9_word_52 rfl ?_
          refine mv_if_le (pc := 54) (tgt := 64) dX9_word_54 (by decide) ?_ ?_
          · refine mv_aload_n (pc := 64) (i := 0) 1 dX9_word_64 rfl rfl ?_
            refine mv_iconst (pc := 65) dX9_word_65 kci0 ?_
            refine mv_putI (pc := 66) (i := 0) dX9_word_66 flX9_54 (Or.inl fpX9_5) lm_0 rfl (fun M12 => ?_)
            refine mv_aload_n (pc := 69) (i := 0) 1 dX9_word_69 rfl rfl ?_
            refine mv_bipush (pc := 70) dX9_word_70 kcb40 ?_
            refine mv_iload_n (pc := 72) (i := 1) 2 dX9_word_72 rfl rfl ?_
            refine mv_imul (pc := 73) dX9_word_73 ?_
            refine mv_iload_n (pc := 74) (i := 2) 3 dX9_word_74 rfl rfl ?_
            refine mv_iadd (pc := 75) dX9_word_75 ?_
            refine mv_iload_n (pc := 76) (i := 3) 4 dX9_word_76 rfl rfl ?_
            refine mv_callVi (pc := 77) (As := [.int (((40 : Int32) * a1) + a2), .int a3]) (st := []) (i := 0) dX9_word_77 mlX9_218 vmX9_isWhole ⟨Nat.le_of_ble_eq_true rfl, Nat.le_of_ble_eq_true rfl⟩ lm_0 rfl rfl (Nat.le_of_ble_eq_true rfl) (ctX9_isWhole x.2.1 D cA ad F M12 (((40 : Int32) * a1) + a2) a3) (fun v14 M13 => ?_)
            refine mv_if_ne (pc := 80) (tgt := 86) dX9_word_80 (by decide) ?_ ?_
            · refine mv_iload (pc := 86) (i := 4) 5 dX9_word_86 rfl ?_
              refine mv_if_ne (pc := 88) (tgt := 113) dX9_word_88 (by decide) ?_ ?_
              · refine mv_aload_n (pc := 113) (i := 0) 1 dX9_word_113 rfl rfl ?_
                refine mv_getI (pc := 114) (i := 0) dX9_word_114 flX9_201 lm_0 rfl ?_
                exact mv_ireturn (pc := 117) dX9_word_117 rfl
              · refine mv_aload_n (pc := 91) (i := 0) 1 dX9_word_91 rfl rfl ?_
                refine mv_getR (pc := 92) (i := 0) (j := 1) dX9_word_92 flX9_7 lm_0 rfl ?_
                refine mv_bipush (pc := 95) dX9_word_95 kcb23 ?_
                refine mv_aload_n (pc := 97) (i := 0) 1 dX9_word_97 rfl rfl ?_
                refine mv_getR (pc := 98) (i := 0) (j := 5) dX9_word_98 flX9_22 lm_0 rfl ?_
                refine mv_bipush (pc := 101) dX9_word_101 kcb40 ?_
                refine mv_iload_n (pc := 103) (i := 1) 2 dX9_word_103 rfl rfl ?_
                refine mv_imul (pc := 104) dX9_word_104 ?_
                refine mv_iload_n (pc := 105) (i := 2) 3 dX9_word_105 rfl rfl ?_
                refine mv_iadd (pc := 106) dX9_word_106 ?_
                refine mv_iald (pc := 107) (i := 5) dX9_word_107 lm_5 ?_
                refine mv_iadd (pc := 108) dX9_word_108 ?_
                refine mv_iald (pc := 109) (i := 1) dX9_word_109 lm_1 ?_
                refine mv_goto (pc := 110) (tgt := 117) dX9_word_110 (by decide) ?_
                exact mv_ireturn (pc := 117) dX9_word_117 rfl
            · refine mv_ldc (pc := 83) dX9_word_83 kwX9_149 ?_
              exact mv_ireturn (pc := 85) dX9_word_85 rfl
          · refine mv_aload_n (pc := 57) (i := 0) 1 dX9_word_57 rfl rfl ?_
            refine mv_iload (pc := 58) (i := 5) 0 dX9_word_58 rfl ?_
            refine mv_callVi (pc := 60) (As := [.int v11]) (st := []) (i := 0) dX9_word_60 mlX9_66 vmX9_finds ⟨Nat.le_of_ble_eq_true rfl, Nat.le_of_ble_eq_true rfl⟩ lm_0 rfl rfl (Nat.le_of_ble_eq_true rfl) (ctX9_finds x.2.1 D cA ad F M9 v11) (fun v16 M15 => ?_)
            exact mv_ireturn (pc := 63) dX9_word_63 rfl
        · refine mv_ldc (pc := 40) dX9_word_40 kwX9_137 ?_
          exact mv_ireturn (pc := 42) dX9_word_42 rfl
      · refine mv_ldc (pc := 30) dX9_word_30 kwX9_65 ?_
        exact mv_ireturn (pc := 32) dX9_word_32 rfl

set_option maxRecDepth 100000 in
set_option maxHeartbeats 4000000 in
theorem ctX9_placeOf (l : Launch) (D : va_G) (cA : Nat → ClassId) (ad : Nat → Nat) (F : Nat) (M : mv_M) (a1 : Int32) (a2 : Int32) (a3 : Int32) : mv_C l (D, cA, ad, LM) yX9_placeOf iX9_placeOf mv_rl [.ref (ad 0), .int a1, .int a2, .int a3] M (fX9_placeOf F M a1 a2 a3) := by
  refine mv_C.ofV (ls := [(0, .ref (ad 0)), (1, .int a1), (2, .int a2), (3, .int a3)]) (by decide) rfl (Nat.le_of_ble_eq_true rfl) rfl ?_
  intro x hxl
  subst hxl
  unfold fX9_placeOf
  refine mv_lconst (pc := 0) dX9_placeOf_0 (by decide +kernel : Int64.ofNat ((0 : Fin 2) : Nat) = (0 : Int64)) ?_
  refine mv_lstore (pc := 1) (i := 4) (ls' := [(0, .ref (ad 0)), (1, .int a1), (2, .int a2), (3, .int a3)]) dX9_placeOf_1 (Nat.le_of_ble_eq_true rfl) rfl (fun v1 => ?_)
  refine mv_iconst (pc := 3) dX9_placeOf_3 kci1 ?_
  refine mv_istore (pc := 4) (i := 6) (ls' := [(4, .long v1), (0, .ref (ad 0)), (1, .int a1), (2, .int a2), (3, .int a3)]) dX9_placeOf_4 (Nat.le_of_ble_eq_true rfl) rfl (fun v2 => ?_)
  refine mv_jp (pj := 41) (lj := fun (s3 : Int64 × mv_M) => [(0, .ref (ad 0)), (1, .int a1), (2, .int a2), (3, .int a3), (4, .long s3.1)]) (sj := fun (s3 : Int64 × mv_M) => []) (Mj := fun (s3 : Int64 × mv_M) => s3.2) ?_ ?_
  · intro s3
    refine mv_aload_n (pc := 41) (i := 0) 0 dX9_placeOf_41 rfl rfl ?_
    refine mv_getI (pc := 42) (i := 0) dX9_placeOf_42 flX9_201 lm_0 rfl ?_
    refine mv_istore (pc := 45) (i := 6) (ls' := [(0, .ref (ad 0)), (1, .int a1), (2, .int a2), (3, .int a3), (4, .long s3.1)]) dX9_placeOf_45 (Nat.le_of_ble_eq_true rfl) rfl (fun v5 => ?_)
    refine mv_aload_n (pc := 47) (i := 0) 1 dX9_placeOf_47 rfl rfl ?_
    refine mv_iload_n (pc := 48) (i := 1) 2 dX9_placeOf_48 rfl rfl ?_
    refine mv_callVv (pc := 49) (As := [.int a1]) (st := []) (i := 0) dX9_placeOf_49 mlX9_204 vmX9_awaitsFirst ⟨Nat.le_of_ble_eq_true rfl, Nat.le_of_ble_eq_true rfl⟩ lm_0 rfl rfl (Nat.le_of_ble_eq_true rfl) (ctX9_awaitsFirst x.2.1 D cA ad F s3.2 a1) (fun M6 => ?_)
    refine mv_iconst (pc := 52) dX9_placeOf_52 kci0 ?_
    refine mv_istore (pc := 53) (i := 7) (ls' := [(6, .int v5), (0, .ref (ad 0)), (1, .int a1), (2, .int a2), (3, .int a3), (4, .long s3.1)]) dX9_placeOf_53 (Nat.le_of_ble_eq_true rfl) rfl (fun v7 => ?_)
    refine mv_sub [2, 4, 5, 6, 1, 0] rfl ?_
    refine mv_loop (pc := 55) (lj := fun (s8 : Int64 × Int32 × Int32 × mv_M) => [(0, .ref (ad 0)), (2, .int a2), (3, .int a3), (4, .long s8.1), (6, .int s8.2.1), (7, .int s8.2.2.1)]) (Mj := fun (s8 : Int64 × Int32 × Int32 × mv_M) => s8.2.2.2) (B := bX9_placeOf_55 a3 a2 F) ?_ F (s3.1, v5, v7, M6)
    intro f9 hf9 s8
    unfold bX9_placeOf_55
    refine mv_iload (pc := 55) (i := 7) 5 dX9_placeOf_55 rfl ?_
    refine mv_iload_n (pc := 57) (i := 3) 2 dX9_placeOf_57 rfl rfl ?_
    refine mv_icmp_ge (pc := 58) (tgt := 127) dX9_placeOf_58 (by decide) ?_ ?_
    · refine mv_lload (pc := 127) (i := 4) 3 dX9_placeOf_127 rfl ?_
      exact mv_lreturn (pc := 129) dX9_placeOf_129 rfl
    · refine mv_aload_n (pc := 61) (i := 0) 0 dX9_placeOf_61 rfl rfl ?_
      refine mv_getR (pc := 62) (i := 0) (j := 5) dX9_placeOf_62 flX9_22 lm_0 rfl ?_
      refine mv_iload_n (pc := 65) (i := 2) 1 dX9_placeOf_65 rfl rfl ?_
      refine mv_iload (pc := 66) (i := 7) 5 dX9_placeOf_66 rfl ?_
      refine mv_iadd (pc := 68) dX9_placeOf_68 ?_
      refine mv_iald (pc := 69) (i := 5) dX9_placeOf_69 lm_5 ?_
      refine mv_istore (pc := 70) (i := 8) (ls' := [(0, .ref (ad 0)), (2, .int a2), (3, .int a3), (4, .long s8.1), (6, .int s8.2.1), (7, .int s8.2.2.1)]) dX9_placeOf_70 (Nat.le_of_ble_eq_true rfl) rfl (fun v10 => ?_)
      refine mv_iconst (pc := 72) dX9_placeOf_72 kci0 ?_
      refine mv_istore (pc := 73) (i := 9) (ls' := [(8, .int v10), (0, .ref (ad 0)), (2, .int a2), (3, .int a3), (4, .long s8.1), (6, .int s8.2.1), (7, .int s8.2.2.1)]) dX9_placeOf_73 (Nat.le_of_ble_eq_true rfl) rfl (fun v11 => ?_)
      refine mv_jp (pj := 104) (lj := fun (s12 : Int64 × mv_M) => [(0, .ref (ad 0)), (2, .int a2), (3, .int a3), (4, .long s12.1), (6, .int s8.2.1), (7, .int s8.2.2.1), (8, .int v10)]) (sj := fun (s12 : Int64 × mv_M) => []) (Mj := fun (s12 : Int64 × mv_M) => s12.2) ?_ ?_
      · intro s12
        refine mv_iload (pc := 104) (i := 6) 4 dX9_placeOf_104 rfl ?_
        refine mv_aload_n (pc := 106) (i := 0) 0 dX9_placeOf_106 rfl rfl ?_
        refine mv_iload (pc := 107) (i := 8) 6 dX9_placeOf_107 rfl ?_
        refine mv_callVi (pc := 109) (As := [.int v10]) (st := [.int s8.2.1]) (i := 0) dX9_placeOf_109 mlX9_146 vmX9_priceOf ⟨Nat.le_of_ble_eq_true rfl, Nat.le_of_ble_eq_true rfl⟩ lm_0 rfl rfl (Nat.le_of_ble_eq_true rfl) (ctX9_priceOf x.2.1 D cA ad F s12.2 v10) (fun v15 M14 => ?_)
        refine mv_isub (pc := 112) dX9_placeOf_112 ?_
        refine mv_istore (pc := 113) (i := 6) (ls' := [(0, .ref (ad 0)), (2, .int a2), (3, .int a3), (4, .long s12.1), (7, .int s8.2.2.1), (8, .int v10)]) dX9_placeOf_113 (Nat.le_of_ble_eq_true rfl) rfl (fun v16 => ?_)
        refine mv_aload_n (pc := 115) (i := 0) 1 dX9_placeOf_115 rfl rfl ?_
        refine mv_iload (pc := 116) (i := 8) 6 dX9_placeOf_116 rfl ?_
        refine mv_callVv (pc := 118) (As := [.int v10]) (st := []) (i := 0) dX9_placeOf_118 mlX9_195 vmX9_gives ⟨Nat.le_of_ble_eq_true rfl, Nat.le_of_ble_eq_true rfl⟩ lm_0 rfl rfl (Nat.le_of_ble_eq_true rfl) (ctX9_gives x.2.1 D cA ad F M14 v10) (fun M17 => ?_)
        refine mv_iinc (pc := 121) (i := 7) (ls' := [(6, .int v16), (0, .ref (ad 0)), (2, .int a2), (3, .int a3), (4, .long s12.1), (8, .int v10)]) 5 dX9_placeOf_121 rfl kci1 (Nat.le_of_ble_eq_true rfl) rfl (fun v18 => ?_)
        refine mv_goto (pc := 124) (tgt := 55) dX9_placeOf_124 (by decide) ?_
        refine mv_sub [2, 3, 4, 5, 1, 0] rfl ?_
        exact hf9 (s12.1, v16, v18, M17)
      · intro j13 hj13
        refine mv_sub [2, 3, 4, 5, 6, 7, 1, 0] rfl ?_
        refine mv_loop (pc := 75) (lj := fun (s19 : Int64 × Int32 × mv_M) => [(0, .ref (ad 0)), (2, .int a2), (3, .int a3), (4, .long s19.1), (6, .int s8.2.1), (7, .int s8.2.2.1), (8, .int v10), (9, .int s19.2.1)]) (Mj := fun (s19 : Int64 × Int32 × mv_M) => s19.2.2) (B := bX9_placeOf_75 v10 j13 F s8) ?_ F (s8.1, v11, s8.2.2.2)
        intro f20 hf20 s19
        unfold bX9_placeOf_75
        refine mv_iload (pc := 75) (i := 9) 7 dX9_placeOf_75 rfl ?_
        refine mv_iload (pc := 77) (i := 8) 6 dX9_placeOf_77 rfl ?_
        refine mv_icmp_ge (pc := 79) (tgt := 104) dX9_placeOf_79 (by decide) ?_ ?_
        · refine mv_sub [0, 1, 2, 3, 4, 5, 6] rfl ?_
          exact hj13 (s19.1, s19.2.2)
        · refine mv_lload (pc := 82) (i := 4) 3 dX9_placeOf_82 rfl ?_
          refine mv_aload_n (pc := 84) (i := 0) 0 dX9_placeOf_84 rfl rfl ?_
          refine mv_iload (pc := 85) (i := 9) 7 dX9_placeOf_85 rfl ?_
          refine mv_iload (pc := 87) (i := 6) 4 dX9_placeOf_87 rfl ?_
          refine mv_callVl (pc := 89) (As := [.int s19.2.1, .int s8.2.1]) (st := [.long s19.1]) (i := 0) dX9_placeOf_89 mlX9_207 vmX9_goesOn ⟨Nat.le_of_ble_eq_true rfl, Nat.le_of_ble_eq_true rfl⟩ lm_0 rfl rfl (Nat.le_of_ble_eq_true rfl) (ctX9_goesOn x.2.1 D cA ad F s19.2.2 s19.2.1 s8.2.1) (fun v22 M21 => ?_)
          refine mv_ladd (pc := 92) dX9_placeOf_92 ?_
          refine mv_callSl (pc := 93) (As := [.long (s19.1 + v22)]) (st := []) dX9_placeOf_93 mlX9_162 smX9_cut ⟨Nat.le_of_ble_eq_true rfl, Nat.le_of_ble_eq_true rfl⟩ rfl (Nat.le_of_ble_eq_true rfl) (ctX9_cut x.2.1 D cA ad F M21 (s19.1 + v22)) (fun v24 M23 => ?_)
          refine mv_lstore (pc := 96) (i := 4) (ls' := [(0, .ref (ad 0)), (2, .int a2), (3, .int a3), (6, .int s8.2.1), (7, .int s8.2.2.1), (8, .int v10), (9, .int s19.2.1)]) dX9_placeOf_96 (Nat.le_of_ble_eq_true rfl) rfl (fun v25 => ?_)
          refine mv_iinc (pc := 98) (i := 9) (ls' := [(4, .long v25), (0, .ref (ad 0)), (2, .int a2), (3, .int a3), (6, .int s8.2.1), (7, .int s8.2.2.1), (8, .int v10)]) 7 dX9_placeOf_98 rfl kci1 (Nat.le_of_ble_eq_true rfl) rfl (fun v26 => ?_)
          refine mv_goto (pc := 101) (tgt := 75) dX9_placeOf_101 (by decide) ?_
          refine mv_sub [2, 3, 4, 1, 5, 6, 7, 0] rfl ?_
          exact hf20 (v25, v26, M23)
  · intro j4 hj4
    refine mv_sub [2, 3, 4, 5, 1, 0] rfl ?_
    refine mv_loop (pc := 6) (lj := fun (s27 : Int64 × Int32 × mv_M) => [(0, .ref (ad 0)), (1, .int a1), (2, .int a2), (3, .int a3), (4, .long s27.1), (6, .int s27.2.1)]) (Mj := fun (s27 : Int64 × Int32 × mv_M) => s27.2.2) (B := bX9_placeOf_6 j4 a1 F) ?_ F (v1, v2, M)
    intro f28 hf28 s27
    unfold bX9_placeOf_6
    refine mv_iload (pc := 6) (i := 6) 5 dX9_placeOf_6 rfl ?_
    refine mv_aload_n (pc := 8) (i := 0) 0 dX9_placeOf_8 rfl rfl ?_
    refine mv_getI (pc := 9) (i := 0) dX9_placeOf_9 flX9_201 lm_0 rfl ?_
    refine mv_icmp_ge (pc := 12) (tgt := 41) dX9_placeOf_12 (by decide) ?_ ?_
    · refine mv_sub [0, 1, 2, 3, 4] rfl ?_
      exact hj4 (s27.1, s27.2.2)
    · refine mv_lload (pc := 15) (i := 4) 4 dX9_placeOf_15 rfl ?_
      refine mv_aload_n (pc := 17) (i := 0) 0 dX9_placeOf_17 rfl rfl ?_
      refine mv_getR (pc := 18) (i := 0) (j := 7) dX9_placeOf_18 flX9_28 lm_0 rfl ?_
      refine mv_bipush (pc := 21) dX9_placeOf_21 kcb25 ?_
      refine mv_iload_n (pc := 23) (i := 1) 1 dX9_placeOf_23 rfl rfl ?_
      refine mv_imul (pc := 24) dX9_placeOf_24 ?_
      refine mv_iload (pc := 25) (i := 6) 5 dX9_placeOf_25 rfl ?_
      refine mv_iadd (pc := 27) dX9_placeOf_27 ?_
      refine mv_lald (pc := 28) (i := 7) dX9_placeOf_28 lm_7 ?_
      refine mv_ladd (pc := 29) dX9_placeOf_29 ?_
      refine mv_callSl (pc := 30) (As := [.long (s27.1 + (s27.2.2.2 7 (((25 : Int32) * a1) + s27.2.1).toNatClampNeg))]) (st := []) dX9_placeOf_30 mlX9_162 smX9_cut ⟨Nat.le_of_ble_eq_true rfl, Nat.le_of_ble_eq_true rfl⟩ rfl (Nat.le_of_ble_eq_true rfl) (ctX9_cut x.2.1 D cA ad F s27.2.2 (s27.1 + (s27.2.2.2 7 (((25 : Int32) * a1) + s27.2.1).toNatClampNeg))) (fun v30 M29 => ?_)
      refine mv_lstore (pc := 33) (i := 4) (ls' := [(0, .ref (ad 0)), (1, .int a1), (2, .int a2), (3, .int a3), (6, .int s27.2.1)]) dX9_placeOf_33 (Nat.le_of_ble_eq_true rfl) rfl (fun v31 => ?_)
      refine mv_iinc (pc := 35) (i := 6) (ls' := [(4, .long v31), (0, .ref (ad 0)), (1, .int a1), (2, .int a2), (3, .int a3)]) 5 dX9_placeOf_35 rfl kci1 (Nat.le_of_ble_eq_true rfl) rfl (fun v32 => ?_)
      refine mv_goto (pc := 38) (tgt := 6) dX9_placeOf_38 (by decide) ?_
      refine mv_sub [2, 3, 4, 5, 1, 0] rfl ?_
      exact hf28 (v31, v32, M29)

set_option maxRecDepth 100000 in
set_option maxHeartbeats 4000000 in
theorem ctX9_place (l : Launch) (D : va_G) (cA : Nat → ClassId) (ad : Nat → Nat) (F : Nat) (M : mv_M) (a1 : Int32) (a2 : Int32) (a3 : Int32) : mv_C l (D, cA, ad, LM) yX9_place iX9_place mv_ri [.ref (ad 0), .int a1, .int a2, .int a3] M (fX9_place F M a1 a2 a3) := by
  refine mv_C.ofV (ls := [(0, .ref (ad 0)), (1, .int a1), (2, .int a2), (3, .int a3)]) (by decide) rfl (Nat.le_of_ble_eq_true rfl) rfl ?_
  intro x hxl
  subst hxl
  unfold fX9_place
  refine mv_aload_n (pc := 0) (i := 0) 0 dX9_place_0 rfl rfl ?_
  refine mv_iload_n (pc := 1) (i := 1) 1 dX9_place_1 rfl rfl ?_
  refine mv_callVi (pc := 2) (As := [.int a1]) (st := []) (i := 0) dX9_place_2 mlX9_143 vmX9_isType ⟨Nat.le_of_ble_eq_true rfl, Nat.le_of_ble_eq_true rfl⟩ lm_0 rfl rfl (Nat.le_of_ble_eq_true rfl) (ctX9_isType x.2.1 D cA ad F M a1) (fun v2 M1 => ?_)
  refine mv_if_eq (pc := 5) (tgt := 27) dX9_place_5 (by decide) ?_ ?_
  · refine mv_ldc (pc := 27) dX9_place_27 kwX9_65 ?_
    exact mv_ireturn (pc := 29) dX9_place_29 rfl
  · refine mv_iload_n (pc := 8) (i := 2) 2 dX9_place_8 rfl rfl ?_
    refine mv_callSi (pc := 9) (As := [.int a2]) (st := []) dX9_place_9 mlX9_59 smX9_isRow ⟨Nat.le_of_ble_eq_true rfl, Nat.le_of_ble_eq_true rfl⟩ rfl (Nat.le_of_ble_eq_true rfl) (ctX9_isRow x.2.1 D cA ad F M1 a2) (fun v4 M3 => ?_)
    refine mv_if_eq (pc := 12) (tgt := 27) dX9_place_12 (by decide) ?_ ?_
    · refine mv_ldc (pc := 27) dX9_place_27 kwX9_65 ?_
      exact mv_ireturn (pc := 29) dX9_place_29 rfl
    · refine mv_iload_n (pc := 15) (i := 3) 3 dX9_place_15 rfl rfl ?_
      refine mv_i2l (pc := 16) dX9_place_16 ?_
      refine mv_lconst (pc := 17) dX9_place_17 (by decide +kernel : Int64.ofNat ((1 : Fin 2) : Nat) = (1 : Int64)) ?_
      refine mv_ldc2_w (pc := 18) dX9_place_18 kwX9_176 ?_
      refine mv_callSi (pc := 21) (As := [.long a3.toInt64, .long (1 : Int64), .long (24 : Int64)]) (st := []) dX9_place_21 mlX9_48 smX9_in ⟨Nat.le_of_ble_eq_true rfl, Nat.le_of_ble_eq_true rfl⟩ rfl (Nat.le_of_ble_eq_true rfl) (ctX9_in x.2.1 D cA ad F M3 a3.toInt64 (1 : Int64) (24 : Int64)) (fun v6 M5 => ?_)
      refine mv_if_ne (pc := 24) (tgt := 30) dX9_place_24 (by decide) ?_ ?_
      · refine mv_aload_n (pc := 30) (i := 0) 0 dX9_place_30 rfl rfl ?_
        refine mv_iload_n (pc := 31) (i := 2) 2 dX9_place_31 rfl rfl ?_
        refine mv_iconst (pc := 32) dX9_place_32 kci0 ?_
        refine mv_iload_n (pc := 33) (i := 3) 3 dX9_place_33 rfl rfl ?_
        refine mv_callVi (pc := 34) (As := [.int a2, .int (0 : Int32), .int a3]) (st := []) (i := 0) dX9_place_34 mlX9_70 vmX9_against ⟨Nat.le_of_ble_eq_true rfl, Nat.le_of_ble_eq_true rfl⟩ lm_0 rfl rfl (Nat.le_of_ble_eq_true rfl) (ctX9_against x.2.1 D cA ad F M5 a2 (0 : Int32) a3) (fun v8 M7 => ?_)
        refine mv_istore (pc := 37) (i := 4) (ls' := [(0, .ref (ad 0)), (1, .int a1), (2, .int a2), (3, .int a3)]) dX9_place_37 (Nat.le_of_ble_eq_true rfl) rfl (fun v9 => ?_)
        refine mv_iload (pc := 39) (i := 4) 0 dX9_place_39 rfl ?_
        refine mv_if_le (pc := 41) (tgt := 51) dX9_place_41 (by decide) ?_ ?_
        · refine mv_aload_n (pc := 51) (i := 0) 1 dX9_place_51 rfl rfl ?_
          refine mv_iconst (pc := 52) dX9_place_52 kci0 ?_
          refine mv_putI (pc := 53) (i := 0) dX9_place_53 flX9_54 (Or.inl fpX9_5) lm_0 rfl (fun M10 => ?_)
          refine mv_bipush (pc := 56) dX9_place_56 kcb40 ?_
          refine mv_iload_n (pc := 58) (i := 2) 3 dX9_place_58 rfl rfl ?_
          refine mv_imul (pc := 59) dX9_place_59 ?_
          refine mv_istore (pc := 60) (i := 5) (ls' := [(4, .int v9), (0, .ref (ad 0)), (1, .int a1), (2, .int a2), (3, .int a3)]) dX9_place_60 (Nat.le_of_ble_eq_true rfl) rfl (fun v11 => ?_)
          refine mv_aload_n (pc := 62) (i := 0) 2 dX9_place_62 rfl rfl ?_
          refine mv_iload (pc := 63) (i := 5) 0 dX9_place_63 rfl ?_
          refine mv_iload_n (pc := 65) (i := 3) 5 dX9_place_65 rfl rfl ?_
          refine mv_callVi (pc := 66) (As := [.int v11, .int a3]) (st := []) (i := 0) dX9_place_66 mlX9_218 vmX9_isWhole ⟨Nat.le_of_ble_eq_true rfl, Nat.le_of_ble_eq_true rfl⟩ lm_0 rfl rfl (Nat.le_of_ble_eq_true rfl) (ctX9_isWhole x.2.1 D cA ad F M10 v11 a3) (fun v13 M12 => ?_)
          refine mv_if_eq (pc := 69) (tgt := 104) dX9_place_69 (by decide) ?_ ?_
          · refine mv_ldc (pc := 104) dX9_place_104 kwX9_149 ?_
            exact mv_ireturn (pc := 106) dX9_place_106 rfl
          · refine mv_aload_n (pc := 72) (i := 0) 2 dX9_place_72 rfl rfl ?_
            refine mv_getI (pc := 73) (i := 0) dX9_place_73 flX9_201 lm_0 rfl ?_
            refine mv_bipush (pc := 76) dX9_place_76 kcb24 ?_
            refine mv_icmp_gt (pc := 78) (tgt := 104) dX9_place_78 (by decide) ?_ ?_
            · refine mv_ldc (pc := 104) dX9_place_104 kwX9_149 ?_
              exact mv_ireturn (pc := 106) dX9_place_106 rfl
            · refine mv_aload_n (pc := 81) (i := 0) 2 dX9_place_81 rfl rfl ?_
              refine mv_aload_n (pc := 82) (i := 0) 2 dX9_place_82 rfl rfl ?_
              refine mv_getR (pc := 83) (i := 0) (j := 1) dX9_place_83 flX9_7 lm_0 rfl ?_
              refine mv_bipush (pc := 86) dX9_place_86 kcb23 ?_
              refine mv_aload_n (pc := 88) (i := 0) 2 dX9_place_88 rfl rfl ?_
              refine mv_getR (pc := 89) (i := 0) (j := 5) dX9_place_89 flX9_22 lm_0 rfl ?_
              refine mv_iload (pc := 92) (i := 5) 0 dX9_place_92 rfl ?_
              refine mv_iald (pc := 94) (i := 5) dX9_place_94 lm_5 ?_
              refine mv_iadd (pc := 95) dX9_place_95 ?_
              refine mv_iald (pc := 96) (i := 1) dX9_place_96 lm_1 ?_
              refine mv_iload_n (pc := 97) (i := 1) 3 dX9_place_97 rfl rfl ?_
              refine mv_callVi (pc := 98) (As := [.int (M12.1 1 ((23 : Int32) + (M12.1 5 v11.toNatClampNeg)).toNatClampNeg), .int a1]) (st := []) (i := 0) dX9_place_98 mlX9_150 vmX9_isOf ⟨Nat.le_of_ble_eq_true rfl, Nat.le_of_ble_eq_true rfl⟩ lm_0 rfl rfl (Nat.le_of_ble_eq_true rfl) (ctX9_isOf x.2.1 D cA ad F M12 (M12.1 1 ((23 : Int32) + (M12.1 5 v11.toNatClampNeg)).toNatClampNeg) a1) (fun v15 M14 => ?_)
              refine mv_if_ne (pc := 101) (tgt := 107) dX9_place_101 (by decide) ?_ ?_
              · refine mv_aload_n (pc := 107) (i := 0) 2 dX9_place_107 rfl rfl ?_
                refine mv_aload_n (pc := 108) (i := 0) 2 dX9_place_108 rfl rfl ?_
                refine mv_getR (pc := 109) (i := 0) (j := 1) dX9_place_109 flX9_7 lm_0 rfl ?_
                refine mv_iconst (pc := 112) dX9_place_112 kci2 ?_
                refine mv_iald (pc := 113) (i := 1) dX9_place_113 lm_1 ?_
                refine mv_callVv (pc := 114) (As := [.int (M14.1 1 (2 : Int32).toNatClampNeg)]) (st := []) (i := 0) dX9_place_114 mlX9_178 vmX9_layWays ⟨Nat.le_of_ble_eq_true rfl, Nat.le_of_ble_eq_true rfl⟩ lm_0 rfl rfl (Nat.le_of_ble_eq_true rfl) (ctX9_layWays x.2.1 D cA ad F M14 (M14.1 1 (2 : Int32).toNatClampNeg)) (fun M16 => ?_)
                refine mv_aload_n (pc := 117) (i := 0) 2 dX9_place_117 rfl rfl ?_
                refine mv_iload_n (pc := 118) (i := 1) 3 dX9_place_118 rfl rfl ?_
                refine mv_iload (pc := 119) (i := 5) 0 dX9_place_119 rfl ?_
                refine mv_iload_n (pc := 121) (i := 3) 5 dX9_place_121 rfl rfl ?_
                refine mv_callVl (pc := 122) (As := [.int a1, .int v11, .int a3]) (st := []) (i := 0) dX9_place_122 mlX9_221 vmX9_placeOf ⟨Nat.le_of_ble_eq_true rfl, Nat.le_of_ble_eq_true rfl⟩ lm_0 rfl rfl (Nat.le_of_ble_eq_true rfl) (ctX9_placeOf x.2.1 D cA ad F M16 a1 v11 a3) (fun v18 M17 => ?_)
                refine mv_lstore (pc := 125) (i := 6) (ls' := [(5, .int v11), (4, .int v9), (0, .ref (ad 0)), (1, .int a1), (2, .int a2), (3, .int a3)]) dX9_place_125 (Nat.le_of_ble_eq_true rfl) rfl (fun v19 => ?_)
                refine mv_lload (pc := 127) (i := 6) 0 dX9_place_127 rfl ?_
                refine mv_ldc2_w (pc := 129) dX9_place_129 kwX9_173 ?_
                refine mv_lcmp (pc := 132) dX9_place_132 ?_
                refine mv_if_lt (pc := 133) (tgt := 141) dX9_place_133 (by decide) ?_ ?_
                · refine mv_lload (pc := 141) (i := 6) 0 dX9_place_141 rfl ?_
                  refine mv_l2i (pc := 143) dX9_place_143 ?_
                  exact mv_ireturn (pc := 144) dX9_place_144 rfl
                · refine mv_ldc (pc := 136) dX9_place_136 kwX9_149 ?_
                  refine mv_goto (pc := 138) (tgt := 144) dX9_place_138 (by decide) ?_
                  exact mv_ireturn (pc := 144) dX9_place_144 rfl
              · refine mv_ldc (pc := 104) dX9_place_104 kwX9_149 ?_
                exact mv_ireturn (pc := 106) dX9_place_106 rfl
        · refine mv_aload_n (pc := 44) (i := 0) 1 dX9_place_44 rfl rfl ?_
          refine mv_iload (pc := 45) (i := 4) 0 dX9_place_45 rfl ?_
          refine mv_callVi (pc := 47) (As := [.int v9]) (st := []) (i := 0) dX9_place_47 mlX9_66 vmX9_finds ⟨Nat.le_of_ble_eq_true rfl, Nat.le_of_ble_eq_true rfl⟩ lm_0 rfl rfl (Nat.le_of_ble_eq_true rfl) (ctX9_finds x.2.1 D cA ad F M7 v9) (fun v21 M20 => ?_)
          exact mv_ireturn (pc := 50) dX9_place_50 rfl
      · refine mv_ldc (pc := 27) dX9_place_27 kwX9_65 ?_
        exact mv_ireturn (pc := 29) dX9_place_29 rfl

set_option maxRecDepth 100000 in
set_option maxHeartbeats 4000000 in
theorem ctX9_hadBy (l : Launch) (D : va_G) (cA : Nat → ClassId) (ad : Nat → Nat) (F : Nat) (M : mv_M) (a1 : Int32) : mv_C l (D, cA, ad, LM) yX9_hadBy iX9_hadBy mv_ri [.ref (ad 0), .int a1] M (fX9_hadBy F M a1) := by
  refine mv_C.ofV (ls := [(0, .ref (ad 0)), (1, .int a1)]) (by decide) rfl (Nat.le_of_ble_eq_true rfl) rfl ?_
  intro x hxl
  subst hxl
  unfold fX9_hadBy
  refine mv_iconst (pc := 0) dX9_hadBy_0 kci0 ?_
  refine mv_istore_n (pc := 1) (i := 2) (ls' := [(0, .ref (ad 0)), (1, .int a1)]) dX9_hadBy_1 rfl (Nat.le_of_ble_eq_true rfl) rfl (fun v1 => ?_)
  refine mv_iconst (pc := 2) dX9_hadBy_2 kci1 ?_
  refine mv_istore_n (pc := 3) (i := 3) (ls' := [(2, .int v1), (0, .ref (ad 0)), (1, .int a1)]) dX9_hadBy_3 rfl (Nat.le_of_ble_eq_true rfl) rfl (fun v2 => ?_)
  refine mv_sub [2, 3, 1, 0] rfl ?_
  refine mv_loop (pc := 4) (lj := fun (s3 : Int32 × Int32 × mv_M) => [(0, .ref (ad 0)), (1, .int a1), (2, .int s3.1), (3, .int s3.2.1)]) (Mj := fun (s3 : Int32 × Int32 × mv_M) => s3.2.2) (B := bX9_hadBy_4 F a1) ?_ F (v1, v2, M)
  intro f4 hf4 s3
  unfold bX9_hadBy_4
  refine mv_iload_n (pc := 4) (i := 3) 3 dX9_hadBy_4 rfl rfl ?_
  refine mv_if_eq (pc := 5) (tgt := 148) dX9_hadBy_5 (by decide) ?_ ?_
  · refine mv_iload_n (pc := 148) (i := 2) 2 dX9_hadBy_148 rfl rfl ?_
    exact mv_ireturn (pc := 149) dX9_hadBy_149 rfl
  · refine mv_iload_n (pc := 8) (i := 2) 2 dX9_hadBy_8 rfl rfl ?_
    refine mv_istore (pc := 9) (i := 4) (ls' := [(0, .ref (ad 0)), (1, .int a1), (2, .int s3.1), (3, .int s3.2.1)]) dX9_hadBy_9 (Nat.le_of_ble_eq_true rfl) rfl (fun v5 => ?_)
    refine mv_iconst (pc := 11) dX9_hadBy_11 kci0 ?_
    refine mv_istore (pc := 12) (i := 5) (ls' := [(4, .int v5), (0, .ref (ad 0)), (1, .int a1), (2, .int s3.1), (3, .int s3.2.1)]) dX9_hadBy_12 (Nat.le_of_ble_eq_true rfl) rfl (fun v6 => ?_)
    refine mv_jp (pj := 133) (lj := fun (s7 : Int32 × mv_M) => [(0, .ref (ad 0)), (1, .int a1), (2, .int s7.1), (4, .int v5)]) (sj := fun (s7 : Int32 × mv_M) => []) (Mj := fun (s7 : Int32 × mv_M) => s7.2) ?_ ?_
    · intro s7
      refine mv_iload_n (pc := 133) (i := 2) 2 dX9_hadBy_133 rfl rfl ?_
      refine mv_iload (pc := 134) (i := 4) 3 dX9_hadBy_134 rfl ?_
      refine mv_icmp_eq (pc := 136) (tgt := 143) dX9_hadBy_136 (by decide) ?_ ?_
      · refine mv_iconst (pc := 143) dX9_hadBy_143 kci0 ?_
        refine mv_istore_n (pc := 144) (i := 3) (ls' := [(0, .ref (ad 0)), (1, .int a1), (2, .int s7.1), (4, .int v5)]) dX9_hadBy_144 rfl (Nat.le_of_ble_eq_true rfl) rfl (fun v9 => ?_)
        refine mv_goto (pc := 145) (tgt := 4) dX9_hadBy_145 (by decide) ?_
        refine mv_sub [1, 2, 3, 0] rfl ?_
        exact hf4 (s7.1, v9, s7.2)
      · refine mv_iconst (pc := 139) dX9_hadBy_139 kci1 ?_
        refine mv_goto (pc := 140) (tgt := 144) dX9_hadBy_140 (by decide) ?_
        refine mv_istore_n (pc := 144) (i := 3) (ls' := [(0, .ref (ad 0)), (1, .int a1), (2, .int s7.1), (4, .int v5)]) dX9_hadBy_144 rfl (Nat.le_of_ble_eq_true rfl) rfl (fun v10 => ?_)
        refine mv_goto (pc := 145) (tgt := 4) dX9_hadBy_145 (by decide) ?_
        refine mv_sub [1, 2, 3, 0] rfl ?_
        exact hf4 (s7.1, v10, s7.2)
    · intro j8 hj8
      refine mv_sub [2, 3, 4, 1, 0] rfl ?_
      refine mv_loop (pc := 14) (lj := fun (s11 : Int32 × Int32 × mv_M) => [(0, .ref (ad 0)), (1, .int a1), (2, .int s11.1), (4, .int v5), (5, .int s11.2.1)]) (Mj := fun (s11 : Int32 × Int32 × mv_M) => s11.2.2) (B := bX9_hadBy_14 j8 F a1) ?_ F (s3.1, v6, s3.2.2)
      intro f12 hf12 s11
      unfold bX9_hadBy_14
      refine mv_iload (pc := 14) (i := 5) 4 dX9_hadBy_14 rfl ?_
      refine mv_aload_n (pc := 16) (i := 0) 0 dX9_hadBy_16 rfl rfl ?_
      refine mv_getR (pc := 17) (i := 0) (j := 1) dX9_hadBy_17 flX9_7 lm_0 rfl ?_
      refine mv_iconst (pc := 20) dX9_hadBy_20 kci1 ?_
      refine mv_iald (pc := 21) (i := 1) dX9_hadBy_21 lm_1 ?_
      refine mv_icmp_ge (pc := 22) (tgt := 133) dX9_hadBy_22 (by decide) ?_ ?_
      · refine mv_sub [0, 1, 2, 3] rfl ?_
        exact hj8 (s11.1, s11.2.2)
      · refine mv_iload_n (pc := 25) (i := 1) 1 dX9_hadBy_25 rfl rfl ?_
        refine mv_iload (pc := 26) (i := 5) 4 dX9_hadBy_26 rfl ?_
        refine mv_callSi (pc := 28) (As := [.int a1, .int s11.2.1]) (st := []) dX9_hadBy_28 mlX9_166 smX9_has ⟨Nat.le_of_ble_eq_true rfl, Nat.le_of_ble_eq_true rfl⟩ rfl (Nat.le_of_ble_eq_true rfl) (ctX9_has x.2.1 D cA ad F s11.2.2 a1 s11.2.1) (fun v14 M13 => ?_)
        refine mv_jp (pj := 39) (lj := fun (s15 : Int32 × mv_M) => [(0, .ref (ad 0)), (1, .int a1), (2, .int s11.1), (4, .int v5), (5, .int s11.2.1)]) (sj := fun (s15 : Int32 × mv_M) => [.int s15.1]) (Mj := fun (s15 : Int32 × mv_M) => s15.2) ?_ ?_
        · intro s15
          refine mv_istore (pc := 39) (i := 6) (ls' := [(0, .ref (ad 0)), (1, .int a1), (2, .int s11.1), (4, .int v5), (5, .int s11.2.1)]) dX9_hadBy_39 (Nat.le_of_ble_eq_true rfl) rfl (fun v17 => ?_)
          refine mv_iconst (pc := 41) dX9_hadBy_41 kci0 ?_
          refine mv_istore (pc := 42) (i := 7) (ls' := [(6, .int v17), (0, .ref (ad 0)), (1, .int a1), (2, .int s11.1), (4, .int v5), (5, .int s11.2.1)]) dX9_hadBy_42 (Nat.le_of_ble_eq_true rfl) rfl (fun v18 => ?_)
          refine mv_jp (pj := 100) (lj := fun (s19 : Int32 × mv_M) => [(0, .ref (ad 0)), (1, .int a1), (2, .int s11.1), (4, .int v5), (5, .int s11.2.1), (6, .int s19.1)]) (sj := fun (s19 : Int32 × mv_M) => []) (Mj := fun (s19 : Int32 × mv_M) => s19.2) ?_ ?_
          · intro s19
            refine mv_iload_n (pc := 100) (i := 2) 2 dX9_hadBy_100 rfl rfl ?_
            refine mv_iload (pc := 101) (i := 6) 5 dX9_hadBy_101 rfl ?_
            refine mv_if_eq (pc := 103) (tgt := 124) dX9_hadBy_103 (by decide) ?_ ?_
            · refine mv_iconst (pc := 124) dX9_hadBy_124 kci0 ?_
              refine mv_ior (pc := 125) dX9_hadBy_125 ?_
              refine mv_istore_n (pc := 126) (i := 2) (ls' := [(0, .ref (ad 0)), (1, .int a1), (4, .int v5), (5, .int s11.2.1), (6, .int s19.1)]) dX9_hadBy_126 rfl (Nat.le_of_ble_eq_true rfl) rfl (fun v21 => ?_)
              refine mv_iinc (pc := 127) (i := 5) (ls' := [(2, .int v21), (0, .ref (ad 0)), (1, .int a1), (4, .int v5), (6, .int s19.1)]) 4 dX9_hadBy_127 rfl kci1 (Nat.le_of_ble_eq_true rfl) rfl (fun v22 => ?_)
              refine mv_goto (pc := 130) (tgt := 14) dX9_hadBy_130 (by decide) ?_
              refine mv_sub [2, 3, 1, 4, 0] rfl ?_
              exact hf12 (v21, v22, s19.2)
            · refine mv_aload_n (pc := 106) (i := 0) 0 dX9_hadBy_106 rfl rfl ?_
              refine mv_aload_n (pc := 107) (i := 0) 0 dX9_hadBy_107 rfl rfl ?_
              refine mv_getR (pc := 108) (i := 0) (j := 1) dX9_hadBy_108 flX9_7 lm_0 rfl ?_
              refine mv_bipush (pc := 111) dX9_hadBy_111 kcb23 ?_
              refine mv_iload (pc := 113) (i := 5) 4 dX9_hadBy_113 rfl ?_
              refine mv_iadd (pc := 115) dX9_hadBy_115 ?_
              refine mv_iald (pc := 116) (i := 1) dX9_hadBy_116 lm_1 ?_
              refine mv_iconst (pc := 117) dX9_hadBy_117 kci0 ?_
              refine mv_callVi (pc := 118) (As := [.int (s19.2.1 1 ((23 : Int32) + s11.2.1).toNatClampNeg), .int (0 : Int32)]) (st := [.int s11.1]) (i := 0) dX9_hadBy_118 mlX9_153 vmX9_typesOf ⟨Nat.le_of_ble_eq_true rfl, Nat.le_of_ble_eq_true rfl⟩ lm_0 rfl rfl (Nat.le_of_ble_eq_true rfl) (ctX9_typesOf x.2.1 D cA ad F s19.2 (s19.2.1 1 ((23 : Int32) + s11.2.1).toNatClampNeg) (0 : Int32)) (fun v24 M23 => ?_)
              refine mv_goto (pc := 121) (tgt := 125) dX9_hadBy_121 (by decide) ?_
              refine mv_ior (pc := 125) dX9_hadBy_125 ?_
              refine mv_istore_n (pc := 126) (i := 2) (ls' := [(0, .ref (ad 0)), (1, .int a1), (4, .int v5), (5, .int s11.2.1), (6, .int s19.1)]) dX9_hadBy_126 rfl (Nat.le_of_ble_eq_true rfl) rfl (fun v25 => ?_)
              refine mv_iinc (pc := 127) (i := 5) (ls' := [(2, .int v25), (0, .ref (ad 0)), (1, .int a1), (4, .int v5), (6, .int s19.1)]) 4 dX9_hadBy_127 rfl kci1 (Nat.le_of_ble_eq_true rfl) rfl (fun v26 => ?_)
              refine mv_goto (pc := 130) (tgt := 14) dX9_hadBy_130 (by decide) ?_
              refine mv_sub [2, 3, 1, 4, 0] rfl ?_
              exact hf12 (v25, v26, M23)
          · intro j20 hj20
            refine mv_sub [2, 3, 4, 5, 6, 1, 0] rfl ?_
            refine mv_loop (pc := 44) (lj := fun (s27 : Int32 × Int32 × mv_M) => [(0, .ref (ad 0)), (1, .int a1), (2, .int s11.1), (4, .int v5), (5, .int s11.2.1), (6, .int s27.1), (7, .int s27.2.1)]) (Mj := fun (s27 : Int32 × Int32 × mv_M) => s27.2.2) (B := bX9_hadBy_44 s11 j20 F) ?_ F (v17, v18, s15.2)
            intro f28 hf28 s27
            unfold bX9_hadBy_44
            refine mv_iload (pc := 44) (i := 7) 6 dX9_hadBy_44 rfl ?_
            refine mv_aload_n (pc := 46) (i := 0) 0 dX9_hadBy_46 rfl rfl ?_
            refine mv_getR (pc := 47) (i := 0) (j := 1) dX9_hadBy_47 flX9_7 lm_0 rfl ?_
            refine mv_bipush (pc := 50) dX9_hadBy_50 kcb47 ?_
            refine mv_iload (pc := 52) (i := 5) 4 dX9_hadBy_52 rfl ?_
            refine mv_iadd (pc := 54) dX9_hadBy_54 ?_
            refine mv_iald (pc := 55) (i := 1) dX9_hadBy_55 lm_1 ?_
            refine mv_icmp_ge (pc := 56) (tgt := 100) dX9_hadBy_56 (by decide) ?_ ?_
            · refine mv_sub [0, 1, 2, 3, 4, 5] rfl ?_
              exact hj20 (s27.1, s27.2.2)
            · refine mv_iload (pc := 59) (i := 6) 5 dX9_hadBy_59 rfl ?_
              refine mv_if_eq (pc := 61) (tgt := 91) dX9_hadBy_61 (by decide) ?_ ?_
              · refine mv_iconst (pc := 91) dX9_hadBy_91 kci0 ?_
                refine mv_istore (pc := 92) (i := 6) (ls' := [(0, .ref (ad 0)), (1, .int a1), (2, .int s11.1), (4, .int v5), (5, .int s11.2.1), (7, .int s27.2.1)]) dX9_hadBy_92 (Nat.le_of_ble_eq_true rfl) rfl (fun v29 => ?_)
                refine mv_iinc (pc := 94) (i := 7) (ls' := [(6, .int v29), (0, .ref (ad 0)), (1, .int a1), (2, .int s11.1), (4, .int v5), (5, .int s11.2.1)]) 6 dX9_hadBy_94 rfl kci1 (Nat.le_of_ble_eq_true rfl) rfl (fun v30 => ?_)
                refine mv_goto (pc := 97) (tgt := 44) dX9_hadBy_97 (by decide) ?_
                refine mv_sub [2, 3, 4, 5, 6, 1, 0] rfl ?_
                exact hf28 (v29, v30, s27.2.2)
              · refine mv_iload_n (pc := 64) (i := 2) 2 dX9_hadBy_64 rfl rfl ?_
                refine mv_aload_n (pc := 65) (i := 0) 0 dX9_hadBy_65 rfl rfl ?_
                refine mv_getR (pc := 66) (i := 0) (j := 1) dX9_hadBy_66 flX9_7 lm_0 rfl ?_
                refine mv_bipush (pc := 69) dX9_hadBy_69 kcb59 ?_
                refine mv_bipush (pc := 71) dX9_hadBy_71 kcb12 ?_
                refine mv_iload (pc := 73) (i := 7) 6 dX9_hadBy_73 rfl ?_
                refine mv_imul (pc := 75) dX9_hadBy_75 ?_
                refine mv_iadd (pc := 76) dX9_hadBy_76 ?_
                refine mv_iload (pc := 77) (i := 5) 4 dX9_hadBy_77 rfl ?_
                refine mv_iadd (pc := 79) dX9_hadBy_79 ?_
                refine mv_iald (pc := 80) (i := 1) dX9_hadBy_80 lm_1 ?_
                refine mv_callSi (pc := 81) (As := [.int s11.1, .int (s27.2.2.1 1 (((59 : Int32) + ((12 : Int32) * s27.2.1)) + s11.2.1).toNatClampNeg)]) (st := []) dX9_hadBy_81 mlX9_166 smX9_has ⟨Nat.le_of_ble_eq_true rfl, Nat.le_of_ble_eq_true rfl⟩ rfl (Nat.le_of_ble_eq_true rfl) (ctX9_has x.2.1 D cA ad F s27.2.2 s11.1 (s27.2.2.1 1 (((59 : Int32) + ((12 : Int32) * s27.2.1)) + s11.2.1).toNatClampNeg)) (fun v32 M31 => ?_)
                refine mv_if_eq (pc := 84) (tgt := 91) dX9_hadBy_84 (by decide) ?_ ?_
                · refine mv_iconst (pc := 91) dX9_hadBy_91 kci0 ?_
                  refine mv_istore (pc := 92) (i := 6) (ls' := [(0, .ref (ad 0)), (1, .int a1), (2, .int s11.1), (4, .int v5), (5, .int s11.2.1), (7, .int s27.2.1)]) dX9_hadBy_92 (Nat.le_of_ble_eq_true rfl) rfl (fun v33 => ?_)
                  refine mv_iinc (pc := 94) (i := 7) (ls' := [(6, .int v33), (0, .ref (ad 0)), (1, .int a1), (2, .int s11.1), (4, .int v5), (5, .int s11.2.1)]) 6 dX9_hadBy_94 rfl kci1 (Nat.le_of_ble_eq_true rfl) rfl (fun v34 => ?_)
                  refine mv_goto (pc := 97) (tgt := 44) dX9_hadBy_97 (by decide) ?_
                  refine mv_sub [2, 3, 4, 5, 6, 1, 0] rfl ?_
                  exact hf28 (v33, v34, M31)
                · refine mv_iconst (pc := 87) dX9_hadBy_87 kci1 ?_
                  refine mv_goto (pc := 88) (tgt := 92) dX9_hadBy_88 (by decide) ?_
                  refine mv_istore (pc := 92) (i := 6) (ls' := [(0, .ref (ad 0)), (1, .int a1), (2, .int s11.1), (4, .int v5), (5, .int s11.2.1), (7, .int s27.2.1)]) dX9_hadBy_92 (Nat.le_of_ble_eq_true rfl) rfl (fun v35 => ?_)
                  refine mv_iinc (pc := 94) (i := 7) (ls' := [(6, .int v35), (0, .ref (ad 0)), (1, .int a1), (2, .int s11.1), (4, .int v5), (5, .int s11.2.1)]) 6 dX9_hadBy_94 rfl kci1 (Nat.le_of_ble_eq_true rfl) rfl (fun v36 => ?_)
                  refine mv_goto (pc := 97) (tgt := 44) dX9_hadBy_97 (by decide) ?_
                  refine mv_sub [2, 3, 4, 5, 6, 1, 0] rfl ?_
                  exact hf28 (v35, v36, M31)
        · intro j16 hj16
          refine mv_if_ne (pc := 31) (tgt := 38) dX9_hadBy_31 (by decide) ?_ ?_
          · refine mv_iconst (pc := 38) dX9_hadBy_38 kci0 ?_
            exact hj16 ((0 : Int32), M13)
          · refine mv_iconst (pc := 34) dX9_hadBy_34 kci1 ?_
            refine mv_goto (pc := 35) (tgt := 39) dX9_hadBy_35 (by decide) ?_
            exact hj16 ((1 : Int32), M13)

set_option maxRecDepth 100000 in
set_option maxHeartbeats 4000000 in
theorem ctX9_had (l : Launch) (D : va_G) (cA : Nat → ClassId) (ad : Nat → Nat) (F : Nat) (M : mv_M) : mv_C l (D, cA, ad, LM) yX9_had iX9_had mv_ri [.ref (ad 0)] M (fX9_had F M) := by
  refine mv_C.ofV (ls := [(0, .ref (ad 0))]) (by decide) rfl (Nat.le_of_ble_eq_true rfl) rfl ?_
  intro x hxl
  subst hxl
  unfold fX9_had
  refine mv_aload_n (pc := 0) (i := 0) 0 dX9_had_0 rfl rfl ?_
  refine mv_callVi (pc := 1) (As := []) (st := []) (i := 0) dX9_had_1 mlX9_215 vmX9_isWorld ⟨Nat.le_of_ble_eq_true rfl, Nat.le_of_ble_eq_true rfl⟩ lm_0 rfl rfl (Nat.le_of_ble_eq_true rfl) (ctX9_isWorld x.2.1 D cA ad F M) (fun v2 M1 => ?_)
  refine mv_if_eq (pc := 4) (tgt := 20) dX9_had_4 (by decide) ?_ ?_
  · refine mv_ldc (pc := 20) dX9_had_20 kwX9_137 ?_
    exact mv_ireturn (pc := 22) dX9_had_22 rfl
  · refine mv_aload_n (pc := 7) (i := 0) 0 dX9_had_7 rfl rfl ?_
    refine mv_aload_n (pc := 8) (i := 0) 0 dX9_had_8 rfl rfl ?_
    refine mv_getR (pc := 9) (i := 0) (j := 1) dX9_had_9 flX9_7 lm_0 rfl ?_
    refine mv_iconst (pc := 12) dX9_had_12 kci2 ?_
    refine mv_iald (pc := 13) (i := 1) dX9_had_13 lm_1 ?_
    refine mv_callVi (pc := 14) (As := [.int (M1.1 1 (2 : Int32).toNatClampNeg)]) (st := []) (i := 0) dX9_had_14 mlX9_225 vmX9_hadBy ⟨Nat.le_of_ble_eq_true rfl, Nat.le_of_ble_eq_true rfl⟩ lm_0 rfl rfl (Nat.le_of_ble_eq_true rfl) (ctX9_hadBy x.2.1 D cA ad F M1 (M1.1 1 (2 : Int32).toNatClampNeg)) (fun v4 M3 => ?_)
    refine mv_goto (pc := 17) (tgt := 22) dX9_had_17 (by decide) ?_
    exact mv_ireturn (pc := 22) dX9_had_22 rfl

set_option maxRecDepth 100000 in
set_option maxHeartbeats 4000000 in
theorem ctX9_needed (l : Launch) (D : va_G) (cA : Nat → ClassId) (ad : Nat → Nat) (F : Nat) (M : mv_M) (a1 : Int32) : mv_C l (D, cA, ad, LM) yX9_needed iX9_needed mv_ri [.ref (ad 0), .int a1] M (fX9_needed F M a1) := by
  refine mv_C.ofV (ls := [(0, .ref (ad 0)), (1, .int a1)]) (by decide) rfl (Nat.le_of_ble_eq_true rfl) rfl ?_
  intro x hxl
  subst hxl
  unfold fX9_needed
  refine mv_aload_n (pc := 0) (i := 0) 0 dX9_needed_0 rfl rfl ?_
  refine mv_iload_n (pc := 1) (i := 1) 1 dX9_needed_1 rfl rfl ?_
  refine mv_callVi (pc := 2) (As := [.int a1]) (st := []) (i := 0) dX9_needed_2 mlX9_143 vmX9_isType ⟨Nat.le_of_ble_eq_true rfl, Nat.le_of_ble_eq_true rfl⟩ lm_0 rfl rfl (Nat.le_of_ble_eq_true rfl) (ctX9_isType x.2.1 D cA ad F M a1) (fun v2 M1 => ?_)
  refine mv_if_ne (pc := 5) (tgt := 11) dX9_needed_5 (by decide) ?_ ?_
  · refine mv_iconst (pc := 11) dX9_needed_11 kci0 ?_
    refine mv_istore_n (pc := 12) (i := 2) (ls' := [(0, .ref (ad 0)), (1, .int a1)]) dX9_needed_12 rfl (Nat.le_of_ble_eq_true rfl) rfl (fun v3 => ?_)
    refine mv_iconst (pc := 13) dX9_needed_13 kci0 ?_
    refine mv_istore_n (pc := 14) (i := 3) (ls' := [(2, .int v3), (0, .ref (ad 0)), (1, .int a1)]) dX9_needed_14 rfl (Nat.le_of_ble_eq_true rfl) rfl (fun v4 => ?_)
    refine mv_sub [2, 3, 1, 0] rfl ?_
    refine mv_loop (pc := 15) (lj := fun (s5 : Int32 × Int32 × mv_M) => [(0, .ref (ad 0)), (1, .int a1), (2, .int s5.1), (3, .int s5.2.1)]) (Mj := fun (s5 : Int32 × Int32 × mv_M) => s5.2.2) (B := bX9_needed_15 F a1) ?_ F (v3, v4, M1)
    intro f6 hf6 s5
    unfold bX9_needed_15
    refine mv_iload_n (pc := 15) (i := 3) 3 dX9_needed_15 rfl rfl ?_
    refine mv_aload_n (pc := 16) (i := 0) 0 dX9_needed_16 rfl rfl ?_
    refine mv_getR (pc := 17) (i := 0) (j := 1) dX9_needed_17 flX9_7 lm_0 rfl ?_
    refine mv_iconst (pc := 20) dX9_needed_20 kci1 ?_
    refine mv_iald (pc := 21) (i := 1) dX9_needed_21 lm_1 ?_
    refine mv_icmp_ge (pc := 22) (tgt := 79) dX9_needed_22 (by decide) ?_ ?_
    · refine mv_iload_n (pc := 79) (i := 2) 2 dX9_needed_79 rfl rfl ?_
      exact mv_ireturn (pc := 80) dX9_needed_80 rfl
    · refine mv_aload_n (pc := 25) (i := 0) 0 dX9_needed_25 rfl rfl ?_
      refine mv_aload_n (pc := 26) (i := 0) 0 dX9_needed_26 rfl rfl ?_
      refine mv_getR (pc := 27) (i := 0) (j := 1) dX9_needed_27 flX9_7 lm_0 rfl ?_
      refine mv_iconst (pc := 30) dX9_needed_30 kci2 ?_
      refine mv_iald (pc := 31) (i := 1) dX9_needed_31 lm_1 ?_
      refine mv_callVi (pc := 32) (As := [.int (s5.2.2.1 1 (2 : Int32).toNatClampNeg)]) (st := []) (i := 0) dX9_needed_32 mlX9_225 vmX9_hadBy ⟨Nat.le_of_ble_eq_true rfl, Nat.le_of_ble_eq_true rfl⟩ lm_0 rfl rfl (Nat.le_of_ble_eq_true rfl) (ctX9_hadBy x.2.1 D cA ad F s5.2.2 (s5.2.2.1 1 (2 : Int32).toNatClampNeg)) (fun v8 M7 => ?_)
      refine mv_iload_n (pc := 35) (i := 1) 1 dX9_needed_35 rfl rfl ?_
      refine mv_callSi (pc := 36) (As := [.int v8, .int a1]) (st := []) dX9_needed_36 mlX9_166 smX9_has ⟨Nat.le_of_ble_eq_true rfl, Nat.le_of_ble_eq_true rfl⟩ rfl (Nat.le_of_ble_eq_true rfl) (ctX9_has x.2.1 D cA ad F M7 v8 a1) (fun v10 M9 => ?_)
      refine mv_if_eq (pc := 39) (tgt := 79) dX9_needed_39 (by decide) ?_ ?_
      · refine mv_iload_n (pc := 79) (i := 2) 2 dX9_needed_79 rfl rfl ?_
        exact mv_ireturn (pc := 80) dX9_needed_80 rfl
      · refine mv_iload_n (pc := 42) (i := 2) 2 dX9_needed_42 rfl rfl ?_
        refine mv_aload_n (pc := 43) (i := 0) 0 dX9_needed_43 rfl rfl ?_
        refine mv_aload_n (pc := 44) (i := 0) 0 dX9_needed_44 rfl rfl ?_
        refine mv_getR (pc := 45) (i := 0) (j := 1) dX9_needed_45 flX9_7 lm_0 rfl ?_
        refine mv_iconst (pc := 48) dX9_needed_48 kci2 ?_
        refine mv_iald (pc := 49) (i := 1) dX9_needed_49 lm_1 ?_
        refine mv_iconst (pc := 50) dX9_needed_50 kci1 ?_
        refine mv_iload_n (pc := 51) (i := 3) 3 dX9_needed_51 rfl rfl ?_
        refine mv_ishl (pc := 52) dX9_needed_52 ?_
        refine mv_ior (pc := 53) dX9_needed_53 ?_
        refine mv_callVi (pc := 54) (As := [.int ((M9.1 1 (2 : Int32).toNatClampNeg) ||| ((1 : Int32) <<< (s5.2.1 &&& 31)))]) (st := [.int s5.1]) (i := 0) dX9_needed_54 mlX9_225 vmX9_hadBy ⟨Nat.le_of_ble_eq_true rfl, Nat.le_of_ble_eq_true rfl⟩ lm_0 rfl rfl (Nat.le_of_ble_eq_true rfl) (ctX9_hadBy x.2.1 D cA ad F M9 ((M9.1 1 (2 : Int32).toNatClampNeg) ||| ((1 : Int32) <<< (s5.2.1 &&& 31)))) (fun v12 M11 => ?_)
        refine mv_iload_n (pc := 57) (i := 1) 1 dX9_needed_57 rfl rfl ?_
        refine mv_callSi (pc := 58) (As := [.int v12, .int a1]) (st := [.int s5.1]) dX9_needed_58 mlX9_166 smX9_has ⟨Nat.le_of_ble_eq_true rfl, Nat.le_of_ble_eq_true rfl⟩ rfl (Nat.le_of_ble_eq_true rfl) (ctX9_has x.2.1 D cA ad F M11 v12 a1) (fun v14 M13 => ?_)
        refine mv_if_eq (pc := 61) (tgt := 68) dX9_needed_61 (by decide) ?_ ?_
        · refine mv_iconst (pc := 68) dX9_needed_68 kci1 ?_
          refine mv_iload_n (pc := 69) (i := 3) 3 dX9_needed_69 rfl rfl ?_
          refine mv_ishl (pc := 70) dX9_needed_70 ?_
          refine mv_ior (pc := 71) dX9_needed_71 ?_
          refine mv_istore_n (pc := 72) (i := 2) (ls' := [(0, .ref (ad 0)), (1, .int a1), (3, .int s5.2.1)]) dX9_needed_72 rfl (Nat.le_of_ble_eq_true rfl) rfl (fun v15 => ?_)
          refine mv_iinc (pc := 73) (i := 3) (ls' := [(2, .int v15), (0, .ref (ad 0)), (1, .int a1)]) 3 dX9_needed_73 rfl kci1 (Nat.le_of_ble_eq_true rfl) rfl (fun v16 => ?_)
          refine mv_goto (pc := 76) (tgt := 15) dX9_needed_76 (by decide) ?_
          refine mv_sub [2, 3, 1, 0] rfl ?_
          exact hf6 (v15, v16, M13)
        · refine mv_iconst (pc := 64) dX9_needed_64 kci0 ?_
          refine mv_goto (pc := 65) (tgt := 71) dX9_needed_65 (by decide) ?_
          refine mv_ior (pc := 71) dX9_needed_71 ?_
          refine mv_istore_n (pc := 72) (i := 2) (ls' := [(0, .ref (ad 0)), (1, .int a1), (3, .int s5.2.1)]) dX9_needed_72 rfl (Nat.le_of_ble_eq_true rfl) rfl (fun v17 => ?_)
          refine mv_iinc (pc := 73) (i := 3) (ls' := [(2, .int v17), (0, .ref (ad 0)), (1, .int a1)]) 3 dX9_needed_73 rfl kci1 (Nat.le_of_ble_eq_true rfl) rfl (fun v18 => ?_)
          refine mv_goto (pc := 76) (tgt := 15) dX9_needed_76 (by decide) ?_
          refine mv_sub [2, 3, 1, 0] rfl ?_
          exact hf6 (v17, v18, M13)
  · refine mv_ldc (pc := 8) dX9_needed_8 kwX9_65 ?_
    exact mv_ireturn (pc := 10) dX9_needed_10 rfl

set_option maxRecDepth 100000 in
set_option maxHeartbeats 4000000 in
theorem ctX9_without (l : Launch) (D : va_G) (cA : Nat → ClassId) (ad : Nat → Nat) (F : Nat) (M : mv_M) (a1 : Int32) (a2 : Int32) : mv_C l (D, cA, ad, LM) yX9_without iX9_without mv_ri [.ref (ad 0), .int a1, .int a2] M (fX9_without F M a1 a2) := by
  refine mv_C.ofV (ls := [(0, .ref (ad 0)), (1, .int a1), (2, .int a2)]) (by decide) rfl (Nat.le_of_ble_eq_true rfl) rfl ?_
  intro x hxl
  subst hxl
  unfold fX9_without
  refine mv_aload_n (pc := 0) (i := 0) 0 dX9_without_0 rfl rfl ?_
  refine mv_iload_n (pc := 1) (i := 1) 1 dX9_without_1 rfl rfl ?_
  refine mv_callVi (pc := 2) (As := [.int a1]) (st := []) (i := 0) dX9_without_2 mlX9_143 vmX9_isType ⟨Nat.le_of_ble_eq_true rfl, Nat.le_of_ble_eq_true rfl⟩ lm_0 rfl rfl (Nat.le_of_ble_eq_true rfl) (ctX9_isType x.2.1 D cA ad F M a1) (fun v2 M1 => ?_)
  refine mv_if_eq (pc := 5) (tgt := 16) dX9_without_5 (by decide) ?_ ?_
  · refine mv_ldc (pc := 16) dX9_without_16 kwX9_65 ?_
    exact mv_ireturn (pc := 18) dX9_without_18 rfl
  · refine mv_aload_n (pc := 8) (i := 0) 0 dX9_without_8 rfl rfl ?_
    refine mv_iload_n (pc := 9) (i := 2) 2 dX9_without_9 rfl rfl ?_
    refine mv_callVi (pc := 10) (As := [.int a2]) (st := []) (i := 0) dX9_without_10 mlX9_134 vmX9_isMember ⟨Nat.le_of_ble_eq_true rfl, Nat.le_of_ble_eq_true rfl⟩ lm_0 rfl rfl (Nat.le_of_ble_eq_true rfl) (ctX9_isMember x.2.1 D cA ad F M1 a2) (fun v4 M3 => ?_)
    refine mv_if_ne (pc := 13) (tgt := 19) dX9_without_13 (by decide) ?_ ?_
    · refine mv_aload_n (pc := 19) (i := 0) 0 dX9_without_19 rfl rfl ?_
      refine mv_aload_n (pc := 20) (i := 0) 0 dX9_without_20 rfl rfl ?_
      refine mv_getR (pc := 21) (i := 0) (j := 1) dX9_without_21 flX9_7 lm_0 rfl ?_
      refine mv_iconst (pc := 24) dX9_without_24 kci2 ?_
      refine mv_iald (pc := 25) (i := 1) dX9_without_25 lm_1 ?_
      refine mv_iconst (pc := 26) dX9_without_26 kci1 ?_
      refine mv_iload_n (pc := 27) (i := 2) 2 dX9_without_27 rfl rfl ?_
      refine mv_ishl (pc := 28) dX9_without_28 ?_
      refine mv_ior (pc := 29) dX9_without_29 ?_
      refine mv_callVv (pc := 30) (As := [.int ((M3.1 1 (2 : Int32).toNatClampNeg) ||| ((1 : Int32) <<< (a2 &&& 31)))]) (st := []) (i := 0) dX9_without_30 mlX9_178 vmX9_layWays ⟨Nat.le_of_ble_eq_true rfl, Nat.le_of_ble_eq_true rfl⟩ lm_0 rfl rfl (Nat.le_of_ble_eq_true rfl) (ctX9_layWays x.2.1 D cA ad F M3 ((M3.1 1 (2 : Int32).toNatClampNeg) ||| ((1 : Int32) <<< (a2 &&& 31)))) (fun M5 => ?_)
      refine mv_aload_n (pc := 33) (i := 0) 0 dX9_without_33 rfl rfl ?_
      refine mv_iload_n (pc := 34) (i := 1) 1 dX9_without_34 rfl rfl ?_
      refine mv_callVi (pc := 35) (As := [.int a1]) (st := []) (i := 0) dX9_without_35 mlX9_186 vmX9_cheapestOf ⟨Nat.le_of_ble_eq_true rfl, Nat.le_of_ble_eq_true rfl⟩ lm_0 rfl rfl (Nat.le_of_ble_eq_true rfl) (ctX9_cheapestOf x.2.1 D cA ad F M5 a1) (fun v7 M6 => ?_)
      exact mv_ireturn (pc := 38) dX9_without_38 rfl
    · refine mv_ldc (pc := 16) dX9_without_16 kwX9_65 ?_
      exact mv_ireturn (pc := 18) dX9_without_18 rfl

set_option maxRecDepth 100000 in
set_option maxHeartbeats 4000000 in
theorem ctX9_share (l : Launch) (D : va_G) (cA : Nat → ClassId) (ad : Nat → Nat) (F : Nat) (M : mv_M) (a1 : Int32) (a2 : Int32) : mv_C l (D, cA, ad, LM) yX9_share iX9_share mv_ri [.ref (ad 0), .int a1, .int a2] M (fX9_share F M a1 a2) := by
  refine mv_C.ofV (ls := [(0, .ref (ad 0)), (1, .int a1), (2, .int a2)]) (by decide) rfl (Nat.le_of_ble_eq_true rfl) rfl ?_
  intro x hxl
  subst hxl
  unfold fX9_share
  refine mv_aload_n (pc := 0) (i := 0) 0 dX9_share_0 rfl rfl ?_
  refine mv_iload_n (pc := 1) (i := 1) 1 dX9_share_1 rfl rfl ?_
  refine mv_callVi (pc := 2) (As := [.int a1]) (st := []) (i := 0) dX9_share_2 mlX9_134 vmX9_isMember ⟨Nat.le_of_ble_eq_true rfl, Nat.le_of_ble_eq_true rfl⟩ lm_0 rfl rfl (Nat.le_of_ble_eq_true rfl) (ctX9_isMember x.2.1 D cA ad F M a1) (fun v2 M1 => ?_)
  refine mv_if_eq (pc := 5) (tgt := 20) dX9_share_5 (by decide) ?_ ?_
  · refine mv_ldc (pc := 20) dX9_share_20 kwX9_65 ?_
    exact mv_ireturn (pc := 22) dX9_share_22 rfl
  · refine mv_iload_n (pc := 8) (i := 2) 2 dX9_share_8 rfl rfl ?_
    refine mv_i2l (pc := 9) dX9_share_9 ?_
    refine mv_lconst (pc := 10) dX9_share_10 (by decide +kernel : Int64.ofNat ((0 : Fin 2) : Nat) = (0 : Int64)) ?_
    refine mv_ldc2_w (pc := 11) dX9_share_11 kwX9_228 ?_
    refine mv_callSi (pc := 14) (As := [.long a2.toInt64, .long (0 : Int64), .long (999 : Int64)]) (st := []) dX9_share_14 mlX9_48 smX9_in ⟨Nat.le_of_ble_eq_true rfl, Nat.le_of_ble_eq_true rfl⟩ rfl (Nat.le_of_ble_eq_true rfl) (ctX9_in x.2.1 D cA ad F M1 a2.toInt64 (0 : Int64) (999 : Int64)) (fun v4 M3 => ?_)
    refine mv_if_ne (pc := 17) (tgt := 23) dX9_share_17 (by decide) ?_ ?_
    · refine mv_aload_n (pc := 23) (i := 0) 0 dX9_share_23 rfl rfl ?_
      refine mv_getR (pc := 24) (i := 0) (j := 1) dX9_share_24 flX9_7 lm_0 rfl ?_
      refine mv_iconst (pc := 27) dX9_share_27 kci2 ?_
      refine mv_iald (pc := 28) (i := 1) dX9_share_28 lm_1 ?_
      refine mv_iload_n (pc := 29) (i := 1) 1 dX9_share_29 rfl rfl ?_
      refine mv_callSi (pc := 30) (As := [.int (M3.1 1 (2 : Int32).toNatClampNeg), .int a1]) (st := []) dX9_share_30 mlX9_166 smX9_has ⟨Nat.le_of_ble_eq_true rfl, Nat.le_of_ble_eq_true rfl⟩ rfl (Nat.le_of_ble_eq_true rfl) (ctX9_has x.2.1 D cA ad F M3 (M3.1 1 (2 : Int32).toNatClampNeg) a1) (fun v6 M5 => ?_)
      refine mv_if_eq (pc := 33) (tgt := 38) dX9_share_33 (by decide) ?_ ?_
      · refine mv_iconst (pc := 38) dX9_share_38 kci0 ?_
        refine mv_istore_n (pc := 39) (i := 3) (ls' := [(0, .ref (ad 0)), (1, .int a1), (2, .int a2)]) dX9_share_39 rfl (Nat.le_of_ble_eq_true rfl) rfl (fun v7 => ?_)
        refine mv_iconst (pc := 40) dX9_share_40 kci0 ?_
        refine mv_istore (pc := 41) (i := 4) (ls' := [(3, .int v7), (0, .ref (ad 0)), (1, .int a1), (2, .int a2)]) dX9_share_41 (Nat.le_of_ble_eq_true rfl) rfl (fun v8 => ?_)
        refine mv_jp (pj := 87) (lj := fun (s9 : Int32 × mv_M) => [(0, .ref (ad 0)), (1, .int a1), (2, .int a2), (3, .int s9.1)]) (sj := fun (s9 : Int32 × mv_M) => []) (Mj := fun (s9 : Int32 × mv_M) => s9.2) ?_ ?_
        · intro s9
          refine mv_iload_n (pc := 87) (i := 2) 2 dX9_share_87 rfl rfl ?_
          refine mv_istore (pc := 88) (i := 4) (ls' := [(0, .ref (ad 0)), (1, .int a1), (2, .int a2), (3, .int s9.1)]) dX9_share_88 (Nat.le_of_ble_eq_true rfl) rfl (fun v11 => ?_)
          refine mv_iconst (pc := 90) dX9_share_90 kci0 ?_
          refine mv_istore (pc := 91) (i := 5) (ls' := [(4, .int v11), (0, .ref (ad 0)), (1, .int a1), (2, .int a2), (3, .int s9.1)]) dX9_share_91 (Nat.le_of_ble_eq_true rfl) rfl (fun v12 => ?_)
          refine mv_iconst (pc := 93) dX9_share_93 kci0 ?_
          refine mv_istore (pc := 94) (i := 6) (ls' := [(5, .int v12), (4, .int v11), (0, .ref (ad 0)), (1, .int a1), (2, .int a2), (3, .int s9.1)]) dX9_share_94 (Nat.le_of_ble_eq_true rfl) rfl (fun v13 => ?_)
          refine mv_jp (pj := 176) (lj := fun (s14 : Int32 × Int32 × mv_M) => [(0, .ref (ad 0)), (1, .int a1), (2, .int a2), (3, .int s9.1), (4, .int s14.1), (5, .int s14.2.1)]) (sj := fun (s14 : Int32 × Int32 × mv_M) => []) (Mj := fun (s14 : Int32 × Int32 × mv_M) => s14.2.2) ?_ ?_
          · intro s14
            refine mv_iload_n (pc := 176) (i := 2) 2 dX9_share_176 rfl rfl ?_
            refine mv_aload_n (pc := 177) (i := 0) 0 dX9_share_177 rfl rfl ?_
            refine mv_iload_n (pc := 178) (i := 1) 1 dX9_share_178 rfl rfl ?_
            refine mv_callVi (pc := 179) (As := [.int a1]) (st := [.int a2]) (i := 0) dX9_share_179 mlX9_146 vmX9_priceOf ⟨Nat.le_of_ble_eq_true rfl, Nat.le_of_ble_eq_true rfl⟩ lm_0 rfl rfl (Nat.le_of_ble_eq_true rfl) (ctX9_priceOf x.2.1 D cA ad F s14.2.2 a1) (fun v17 M16 => ?_)
            refine mv_imul (pc := 182) dX9_share_182 ?_
            refine mv_iload_n (pc := 183) (i := 3) 3 dX9_share_183 rfl rfl ?_
            refine mv_idiv (pc := 184) dX9_share_184 ?_
            refine mv_iload (pc := 185) (i := 5) 5 dX9_share_185 rfl ?_
            refine mv_iload (pc := 187) (i := 4) 4 dX9_share_187 rfl ?_
            refine mv_icmp_ge (pc := 189) (tgt := 196) dX9_share_189 (by decide) ?_ ?_
            · refine mv_iconst (pc := 196) dX9_share_196 kci0 ?_
              refine mv_iadd (pc := 197) dX9_share_197 ?_
              exact mv_ireturn (pc := 198) dX9_share_198 rfl
            · refine mv_iconst (pc := 192) dX9_share_192 kci1 ?_
              refine mv_goto (pc := 193) (tgt := 197) dX9_share_193 (by decide) ?_
              refine mv_iadd (pc := 197) dX9_share_197 ?_
              exact mv_ireturn (pc := 198) dX9_share_198 rfl
          · intro j15 hj15
            refine mv_sub [3, 4, 5, 6, 2, 1, 0] rfl ?_
            refine mv_loop (pc := 96) (lj := fun (s18 : Int32 × Int32 × Int32 × mv_M) => [(0, .ref (ad 0)), (1, .int a1), (2, .int a2), (3, .int s9.1), (4, .int s18.1), (5, .int s18.2.1), (6, .int s18.2.2.1)]) (Mj := fun (s18 : Int32 × Int32 × Int32 × mv_M) => s18.2.2.2) (B := bX9_share_96 j15 F a1 s9 a2) ?_ F (v11, v12, v13, s9.2)
            intro f19 hf19 s18
            unfold bX9_share_96
            refine mv_iload (pc := 96) (i := 6) 6 dX9_share_96 rfl ?_
            refine mv_aload_n (pc := 98) (i := 0) 0 dX9_share_98 rfl rfl ?_
            refine mv_getR (pc := 99) (i := 0) (j := 1) dX9_share_99 flX9_7 lm_0 rfl ?_
            refine mv_iconst (pc := 102) dX9_share_102 kci1 ?_
            refine mv_iald (pc := 103) (i := 1) dX9_share_103 lm_1 ?_
            refine mv_icmp_ge (pc := 104) (tgt := 176) dX9_share_104 (by decide) ?_ ?_
            · refine mv_sub [0, 1, 2, 3, 4, 5] rfl ?_
              exact hj15 (s18.1, s18.2.1, s18.2.2.2)
            · refine mv_iload (pc := 107) (i := 4) 4 dX9_share_107 rfl ?_
              refine mv_aload_n (pc := 109) (i := 0) 0 dX9_share_109 rfl rfl ?_
              refine mv_getR (pc := 110) (i := 0) (j := 1) dX9_share_110 flX9_7 lm_0 rfl ?_
              refine mv_iconst (pc := 113) dX9_share_113 kci2 ?_
              refine mv_iald (pc := 114) (i := 1) dX9_share_114 lm_1 ?_
              refine mv_iload (pc := 115) (i := 6) 6 dX9_share_115 rfl ?_
              refine mv_callSi (pc := 117) (As := [.int (s18.2.2.2.1 1 (2 : Int32).toNatClampNeg), .int s18.2.2.1]) (st := [.int s18.1]) dX9_share_117 mlX9_166 smX9_has ⟨Nat.le_of_ble_eq_true rfl, Nat.le_of_ble_eq_true rfl⟩ rfl (Nat.le_of_ble_eq_true rfl) (ctX9_has x.2.1 D cA ad F s18.2.2.2 (s18.2.2.2.1 1 (2 : Int32).toNatClampNeg) s18.2.2.1) (fun v21 M20 => ?_)
              refine mv_jp (pj := 137) (lj := fun (s22 : Int32 × mv_M) => [(0, .ref (ad 0)), (1, .int a1), (2, .int a2), (3, .int s9.1), (5, .int s18.2.1), (6, .int s18.2.2.1)]) (sj := fun (s22 : Int32 × mv_M) => [.int s22.1, .int s18.1]) (Mj := fun (s22 : Int32 × mv_M) => s22.2) ?_ ?_
              · intro s22
                refine mv_isub (pc := 137) dX9_share_137 ?_
                refine mv_istore (pc := 138) (i := 4) (ls' := [(0, .ref (ad 0)), (1, .int a1), (2, .int a2), (3, .int s9.1), (5, .int s18.2.1), (6, .int s18.2.2.1)]) dX9_share_138 (Nat.le_of_ble_eq_true rfl) rfl (fun v24 => ?_)
                refine mv_iload (pc := 140) (i := 5) 5 dX9_share_140 rfl ?_
                refine mv_iload (pc := 142) (i := 6) 6 dX9_share_142 rfl ?_
                refine mv_iload_n (pc := 144) (i := 1) 2 dX9_share_144 rfl rfl ?_
                refine mv_icmp_ge (pc := 145) (tgt := 166) dX9_share_145 (by decide) ?_ ?_
                · refine mv_iconst (pc := 166) dX9_share_166 kci0 ?_
                  refine mv_iadd (pc := 167) dX9_share_167 ?_
                  refine mv_istore (pc := 168) (i := 5) (ls' := [(4, .int v24), (0, .ref (ad 0)), (1, .int a1), (2, .int a2), (3, .int s9.1), (6, .int s18.2.2.1)]) dX9_share_168 (Nat.le_of_ble_eq_true rfl) rfl (fun v25 => ?_)
                  refine mv_iinc (pc := 170) (i := 6) (ls' := [(5, .int v25), (4, .int v24), (0, .ref (ad 0)), (1, .int a1), (2, .int a2), (3, .int s9.1)]) 6 dX9_share_170 rfl kci1 (Nat.le_of_ble_eq_true rfl) rfl (fun v26 => ?_)
                  refine mv_goto (pc := 173) (tgt := 96) dX9_share_173 (by decide) ?_
                  refine mv_sub [3, 4, 5, 6, 2, 1, 0] rfl ?_
                  exact hf19 (v24, v25, v26, s22.2)
                · refine mv_aload_n (pc := 148) (i := 0) 1 dX9_share_148 rfl rfl ?_
                  refine mv_getR (pc := 149) (i := 0) (j := 1) dX9_share_149 flX9_7 lm_0 rfl ?_
                  refine mv_iconst (pc := 152) dX9_share_152 kci2 ?_
                  refine mv_iald (pc := 153) (i := 1) dX9_share_153 lm_1 ?_
                  refine mv_iload (pc := 154) (i := 6) 6 dX9_share_154 rfl ?_
                  refine mv_callSi (pc := 156) (As := [.int (s22.2.1 1 (2 : Int32).toNatClampNeg), .int s18.2.2.1]) (st := [.int s18.2.1]) dX9_share_156 mlX9_166 smX9_has ⟨Nat.le_of_ble_eq_true rfl, Nat.le_of_ble_eq_true rfl⟩ rfl (Nat.le_of_ble_eq_true rfl) (ctX9_has x.2.1 D cA ad F s22.2 (s22.2.1 1 (2 : Int32).toNatClampNeg) s18.2.2.1) (fun v28 M27 => ?_)
                  refine mv_if_ne (pc := 159) (tgt := 166) dX9_share_159 (by decide) ?_ ?_
                  · refine mv_iconst (pc := 166) dX9_share_166 kci0 ?_
                    refine mv_iadd (pc := 167) dX9_share_167 ?_
                    refine mv_istore (pc := 168) (i := 5) (ls' := [(4, .int v24), (0, .ref (ad 0)), (1, .int a1), (2, .int a2), (3, .int s9.1), (6, .int s18.2.2.1)]) dX9_share_168 (Nat.le_of_ble_eq_true rfl) rfl (fun v29 => ?_)
                    refine mv_iinc (pc := 170) (i := 6) (ls' := [(5, .int v29), (4, .int v24), (0, .ref (ad 0)), (1, .int a1), (2, .int a2), (3, .int s9.1)]) 6 dX9_share_170 rfl kci1 (Nat.le_of_ble_eq_true rfl) rfl (fun v30 => ?_)
                    refine mv_goto (pc := 173) (tgt := 96) dX9_share_173 (by decide) ?_
                    refine mv_sub [3, 4, 5, 6, 2, 1, 0] rfl ?_
                    exact hf19 (v24, v29, v30, M27)
                  · refine mv_iconst (pc := 162) dX9_share_162 kci1 ?_
                    refine mv_goto (pc := 163) (tgt := 167) dX9_share_163 (by decide) ?_
                    refine mv_iadd (pc := 167) dX9_share_167 ?_
                    refine mv_istore (pc := 168) (i := 5) (ls' := [(4, .int v24), (0, .ref (ad 0)), (1, .int a1), (2, .int a2), (3, .int s9.1), (6, .int s18.2.2.1)]) dX9_share_168 (Nat.le_of_ble_eq_true rfl) rfl (fun v31 => ?_)
                    refine mv_iinc (pc := 170) (i := 6) (ls' := [(5, .int v31), (4, .int v24), (0, .ref (ad 0)), (1, .int a1), (2, .int a2), (3, .int s9.1)]) 6 dX9_share_170 rfl kci1 (Nat.le_of_ble_eq_true rfl) rfl (fun v32 => ?_)
                    refine mv_goto (pc := 173) (tgt := 96) dX9_share_173 (by decide) ?_
                    refine mv_sub [3, 4, 5, 6, 2, 1, 0] rfl ?_
                    exact hf19 (v24, v31, v32, M27)
              · intro j23 hj23
                refine mv_if_eq (pc := 120) (tgt := 127) dX9_share_120 (by decide) ?_ ?_
                · refine mv_iload_n (pc := 127) (i := 2) 2 dX9_share_127 rfl rfl ?_
                  refine mv_aload_n (pc := 128) (i := 0) 0 dX9_share_128 rfl rfl ?_
                  refine mv_iload (pc := 129) (i := 6) 6 dX9_share_129 rfl ?_
                  refine mv_callVi (pc := 131) (As := [.int s18.2.2.1]) (st := [.int a2, .int s18.1]) (i := 0) dX9_share_131 mlX9_146 vmX9_priceOf ⟨Nat.le_of_ble_eq_true rfl, Nat.le_of_ble_eq_true rfl⟩ lm_0 rfl rfl (Nat.le_of_ble_eq_true rfl) (ctX9_priceOf x.2.1 D cA ad F M20 s18.2.2.1) (fun v34 M33 => ?_)
                  refine mv_imul (pc := 134) dX9_share_134 ?_
                  refine mv_iload_n (pc := 135) (i := 3) 3 dX9_share_135 rfl rfl ?_
                  refine mv_idiv (pc := 136) dX9_share_136 ?_
                  refine mv_sub [0, 1, 2, 3, 5, 6] rfl ?_
                  exact hj23 (((a2 * v34) / s9.1), M33)
                · refine mv_iconst (pc := 123) dX9_share_123 kci0 ?_
                  refine mv_goto (pc := 124) (tgt := 137) dX9_share_124 (by decide) ?_
                  refine mv_sub [0, 1, 2, 3, 5, 6] rfl ?_
                  exact hj23 ((0 : Int32), M20)
        · intro j10 hj10
          refine mv_sub [2, 3, 4, 1, 0] rfl ?_
          refine mv_loop (pc := 43) (lj := fun (s35 : Int32 × Int32 × mv_M) => [(0, .ref (ad 0)), (1, .int a1), (2, .int a2), (3, .int s35.1), (4, .int s35.2.1)]) (Mj := fun (s35 : Int32 × Int32 × mv_M) => s35.2.2) (B := bX9_share_43 j10 F) ?_ F (v7, v8, M5)
          intro f36 hf36 s35
          unfold bX9_share_43
          refine mv_iload (pc := 43) (i := 4) 4 dX9_share_43 rfl ?_
          refine mv_aload_n (pc := 45) (i := 0) 0 dX9_share_45 rfl rfl ?_
          refine mv_getR (pc := 46) (i := 0) (j := 1) dX9_share_46 flX9_7 lm_0 rfl ?_
          refine mv_iconst (pc := 49) dX9_share_49 kci1 ?_
          refine mv_iald (pc := 50) (i := 1) dX9_share_50 lm_1 ?_
          refine mv_icmp_ge (pc := 51) (tgt := 87) dX9_share_51 (by decide) ?_ ?_
          · refine mv_sub [0, 1, 2, 3] rfl ?_
            exact hj10 (s35.1, s35.2.2)
          · refine mv_iload_n (pc := 54) (i := 3) 3 dX9_share_54 rfl rfl ?_
            refine mv_aload_n (pc := 55) (i := 0) 0 dX9_share_55 rfl rfl ?_
            refine mv_getR (pc := 56) (i := 0) (j := 1) dX9_share_56 flX9_7 lm_0 rfl ?_
            refine mv_iconst (pc := 59) dX9_share_59 kci2 ?_
            refine mv_iald (pc := 60) (i := 1) dX9_share_60 lm_1 ?_
            refine mv_iload (pc := 61) (i := 4) 4 dX9_share_61 rfl ?_
            refine mv_callSi (pc := 63) (As := [.int (s35.2.2.1 1 (2 : Int32).toNatClampNeg), .int s35.2.1]) (st := [.int s35.1]) dX9_share_63 mlX9_166 smX9_has ⟨Nat.le_of_ble_eq_true rfl, Nat.le_of_ble_eq_true rfl⟩ rfl (Nat.le_of_ble_eq_true rfl) (ctX9_has x.2.1 D cA ad F s35.2.2 (s35.2.2.1 1 (2 : Int32).toNatClampNeg) s35.2.1) (fun v38 M37 => ?_)
            refine mv_if_eq (pc := 66) (tgt := 73) dX9_share_66 (by decide) ?_ ?_
            · refine mv_aload_n (pc := 73) (i := 0) 0 dX9_share_73 rfl rfl ?_
              refine mv_iload (pc := 74) (i := 4) 4 dX9_share_74 rfl ?_
              refine mv_callVi (pc := 76) (As := [.int s35.2.1]) (st := [.int s35.1]) (i := 0) dX9_share_76 mlX9_146 vmX9_priceOf ⟨Nat.le_of_ble_eq_true rfl, Nat.le_of_ble_eq_true rfl⟩ lm_0 rfl rfl (Nat.le_of_ble_eq_true rfl) (ctX9_priceOf x.2.1 D cA ad F M37 s35.2.1) (fun v40 M39 => ?_)
              refine mv_iadd (pc := 79) dX9_share_79 ?_
              refine mv_istore_n (pc := 80) (i := 3) (ls' := [(0, .ref (ad 0)), (1, .int a1), (2, .int a2), (4, .int s35.2.1)]) dX9_share_80 rfl (Nat.le_of_ble_eq_true rfl) rfl (fun v41 => ?_)
              refine mv_iinc (pc := 81) (i := 4) (ls' := [(3, .int v41), (0, .ref (ad 0)), (1, .int a1), (2, .int a2)]) 4 dX9_share_81 rfl kci1 (Nat.le_of_ble_eq_true rfl) rfl (fun v42 => ?_)
              refine mv_goto (pc := 84) (tgt := 43) dX9_share_84 (by decide) ?_
              refine mv_sub [2, 3, 4, 1, 0] rfl ?_
              exact hf36 (v41, v42, M39)
            · refine mv_iconst (pc := 69) dX9_share_69 kci0 ?_
              refine mv_goto (pc := 70) (tgt := 79) dX9_share_70 (by decide) ?_
              refine mv_iadd (pc := 79) dX9_share_79 ?_
              refine mv_istore_n (pc := 80) (i := 3) (ls' := [(0, .ref (ad 0)), (1, .int a1), (2, .int a2), (4, .int s35.2.1)]) dX9_share_80 rfl (Nat.le_of_ble_eq_true rfl) rfl (fun v43 => ?_)
              refine mv_iinc (pc := 81) (i := 4) (ls' := [(3, .int v43), (0, .ref (ad 0)), (1, .int a1), (2, .int a2)]) 4 dX9_share_81 rfl kci1 (Nat.le_of_ble_eq_true rfl) rfl (fun v44 => ?_)
              refine mv_goto (pc := 84) (tgt := 43) dX9_share_84 (by decide) ?_
              refine mv_sub [2, 3, 4, 1, 0] rfl ?_
              exact hf36 (v43, v44, M37)
      · refine mv_iconst (pc := 36) dX9_share_36 kci0 ?_
        exact mv_ireturn (pc := 37) dX9_share_37 rfl
    · refine mv_ldc (pc := 20) dX9_share_20 kwX9_65 ?_
      exact mv_ireturn (pc := 22) dX9_share_22 rfl

set_option maxRecDepth 100000 in
set_option maxHeartbeats 4000000 in
theorem ctX9_drawn (l : Launch) (D : va_G) (cA : Nat → ClassId) (ad : Nat → Nat) (F : Nat) (M : mv_M) (a1 : Int32) (a2 : Int32) (a3 : Int32) (a4 : Int32) : mv_C l (D, cA, ad, LM) yX9_drawn iX9_drawn mv_ri [.ref (ad 0), .int a1, .int a2, .int a3, .int a4] M (fX9_drawn F M a1 a2 a3 a4) := by
  refine mv_C.ofV (ls := [(0, .ref (ad 0)), (1, .int a1), (2, .int a2), (3, .int a3), (4, .int a4)]) (by decide) rfl (Nat.le_of_ble_eq_true rfl) rfl ?_
  intro x hxl
  subst hxl
  unfold fX9_drawn
  refine mv_aload_n (pc := 0) (i := 0) 0 dX9_drawn_0 rfl rfl ?_
  refine mv_iload_n (pc := 1) (i := 1) 1 dX9_drawn_1 rfl rfl ?_
  refine mv_callVi (pc := 2) (As := [.int a1]) (st := []) (i := 0) dX9_drawn_2 mlX9_143 vmX9_isType ⟨Nat.le_of_ble_eq_true rfl, Nat.le_of_ble_eq_true rfl⟩ lm_0 rfl rfl (Nat.le_of_ble_eq_true rfl) (ctX9_isType x.2.1 D cA ad F M a1) (fun v2 M1 => ?_)
  refine mv_if_eq (pc := 5) (tgt := 43) dX9_drawn_5 (by decide) ?_ ?_
  · refine mv_ldc (pc := 43) dX9_drawn_43 kwX9_65 ?_
    exact mv_ireturn (pc := 45) dX9_drawn_45 rfl
  · refine mv_iload_n (pc := 8) (i := 2) 2 dX9_drawn_8 rfl rfl ?_
    refine mv_i2l (pc := 9) dX9_drawn_9 ?_
    refine mv_lconst (pc := 10) dX9_drawn_10 (by decide +kernel : Int64.ofNat ((1 : Fin 2) : Nat) = (1 : Int64)) ?_
    refine mv_ldc2_w (pc := 11) dX9_drawn_11 kwX9_230 ?_
    refine mv_callSi (pc := 14) (As := [.long a2.toInt64, .long (1 : Int64), .long (60 : Int64)]) (st := []) dX9_drawn_14 mlX9_48 smX9_in ⟨Nat.le_of_ble_eq_true rfl, Nat.le_of_ble_eq_true rfl⟩ rfl (Nat.le_of_ble_eq_true rfl) (ctX9_in x.2.1 D cA ad F M1 a2.toInt64 (1 : Int64) (60 : Int64)) (fun v4 M3 => ?_)
    refine mv_if_eq (pc := 17) (tgt := 43) dX9_drawn_17 (by decide) ?_ ?_
    · refine mv_ldc (pc := 43) dX9_drawn_43 kwX9_65 ?_
      exact mv_ireturn (pc := 45) dX9_drawn_45 rfl
    · refine mv_iload_n (pc := 20) (i := 3) 3 dX9_drawn_20 rfl rfl ?_
      refine mv_i2l (pc := 21) dX9_drawn_21 ?_
      refine mv_lconst (pc := 22) dX9_drawn_22 (by decide +kernel : Int64.ofNat ((1 : Fin 2) : Nat) = (1 : Int64)) ?_
      refine mv_ldc2_w (pc := 23) dX9_drawn_23 kwX9_232 ?_
      refine mv_callSi (pc := 26) (As := [.long a3.toInt64, .long (1 : Int64), .long (999999 : Int64)]) (st := []) dX9_drawn_26 mlX9_48 smX9_in ⟨Nat.le_of_ble_eq_true rfl, Nat.le_of_ble_eq_true rfl⟩ rfl (Nat.le_of_ble_eq_true rfl) (ctX9_in x.2.1 D cA ad F M3 a3.toInt64 (1 : Int64) (999999 : Int64)) (fun v6 M5 => ?_)
      refine mv_if_eq (pc := 29) (tgt := 43) dX9_drawn_29 (by decide) ?_ ?_
      · refine mv_ldc (pc := 43) dX9_drawn_43 kwX9_65 ?_
        exact mv_ireturn (pc := 45) dX9_drawn_45 rfl
      · refine mv_iload (pc := 32) (i := 4) 4 dX9_drawn_32 rfl ?_
        refine mv_i2l (pc := 34) dX9_drawn_34 ?_
        refine mv_lconst (pc := 35) dX9_drawn_35 (by decide +kernel : Int64.ofNat ((0 : Fin 2) : Nat) = (0 : Int64)) ?_
        refine mv_lconst (pc := 36) dX9_drawn_36 (by decide +kernel : Int64.ofNat ((1 : Fin 2) : Nat) = (1 : Int64)) ?_
        refine mv_callSi (pc := 37) (As := [.long a4.toInt64, .long (0 : Int64), .long (1 : Int64)]) (st := []) dX9_drawn_37 mlX9_48 smX9_in ⟨Nat.le_of_ble_eq_true rfl, Nat.le_of_ble_eq_true rfl⟩ rfl (Nat.le_of_ble_eq_true rfl) (ctX9_in x.2.1 D cA ad F M5 a4.toInt64 (0 : Int64) (1 : Int64)) (fun v8 M7 => ?_)
        refine mv_if_ne (pc := 40) (tgt := 46) dX9_drawn_40 (by decide) ?_ ?_
        · refine mv_aload_n (pc := 46) (i := 0) 0 dX9_drawn_46 rfl rfl ?_
          refine mv_aload_n (pc := 47) (i := 0) 0 dX9_drawn_47 rfl rfl ?_
          refine mv_getR (pc := 48) (i := 0) (j := 1) dX9_drawn_48 flX9_7 lm_0 rfl ?_
          refine mv_iconst (pc := 51) dX9_drawn_51 kci2 ?_
          refine mv_iald (pc := 52) (i := 1) dX9_drawn_52 lm_1 ?_
          refine mv_callVv (pc := 53) (As := [.int (M7.1 1 (2 : Int32).toNatClampNeg)]) (st := []) (i := 0) dX9_drawn_53 mlX9_178 vmX9_layWays ⟨Nat.le_of_ble_eq_true rfl, Nat.le_of_ble_eq_true rfl⟩ lm_0 rfl rfl (Nat.le_of_ble_eq_true rfl) (ctX9_layWays x.2.1 D cA ad F M7 (M7.1 1 (2 : Int32).toNatClampNeg)) (fun M9 => ?_)
          refine mv_lconst (pc := 56) dX9_drawn_56 (by decide +kernel : Int64.ofNat ((0 : Fin 2) : Nat) = (0 : Int64)) ?_
          refine mv_lstore (pc := 57) (i := 5) (ls' := [(0, .ref (ad 0)), (1, .int a1), (2, .int a2), (3, .int a3), (4, .int a4)]) dX9_drawn_57 (Nat.le_of_ble_eq_true rfl) rfl (fun v10 => ?_)
          refine mv_iconst (pc := 59) dX9_drawn_59 kci1 ?_
          refine mv_istore (pc := 60) (i := 7) (ls' := [(5, .long v10), (0, .ref (ad 0)), (1, .int a1), (2, .int a2), (3, .int a3), (4, .int a4)]) dX9_drawn_60 (Nat.le_of_ble_eq_true rfl) rfl (fun v11 => ?_)
          refine mv_jp (pj := 95) (lj := fun (s12 : Int64 × mv_M) => [(0, .ref (ad 0)), (1, .int a1), (2, .int a2), (3, .int a3), (4, .int a4), (5, .long s12.1)]) (sj := fun (s12 : Int64 × mv_M) => []) (Mj := fun (s12 : Int64 × mv_M) => s12.2) ?_ ?_
          · intro s12
            refine mv_lload (pc := 95) (i := 5) 5 dX9_drawn_95 rfl ?_
            refine mv_lconst (pc := 97) dX9_drawn_97 (by decide +kernel : Int64.ofNat ((0 : Fin 2) : Nat) = (0 : Int64)) ?_
            refine mv_lcmp (pc := 98) dX9_drawn_98 ?_
            refine mv_if_ne (pc := 99) (tgt := 105) dX9_drawn_99 (by decide) ?_ ?_
            · refine mv_aload_n (pc := 105) (i := 0) 0 dX9_drawn_105 rfl rfl ?_
              refine mv_lload (pc := 106) (i := 5) 5 dX9_drawn_106 rfl ?_
              refine mv_callVi (pc := 108) (As := [.long s12.1]) (st := []) (i := 0) dX9_drawn_108 mlX9_182 vmX9_toldOf ⟨Nat.le_of_ble_eq_true rfl, Nat.le_of_ble_eq_true rfl⟩ lm_0 rfl rfl (Nat.le_of_ble_eq_true rfl) (ctX9_toldOf x.2.1 D cA ad F s12.2 s12.1) (fun v15 M14 => ?_)
              refine mv_istore (pc := 111) (i := 7) (ls' := [(0, .ref (ad 0)), (1, .int a1), (2, .int a2), (3, .int a3), (4, .int a4), (5, .long s12.1)]) dX9_drawn_111 (Nat.le_of_ble_eq_true rfl) rfl (fun v16 => ?_)
              refine mv_iload_n (pc := 113) (i := 3) 4 dX9_drawn_113 rfl rfl ?_
              refine mv_i2l (pc := 114) dX9_drawn_114 ?_
              refine mv_lstore (pc := 115) (i := 8) (ls' := [(7, .int v16), (0, .ref (ad 0)), (1, .int a1), (2, .int a2), (3, .int a3), (4, .int a4), (5, .long s12.1)]) dX9_drawn_115 (Nat.le_of_ble_eq_true rfl) rfl (fun v17 => ?_)
              refine mv_iconst (pc := 117) dX9_drawn_117 kci0 ?_
              refine mv_istore (pc := 118) (i := 10) (ls' := [(8, .long v17), (7, .int v16), (0, .ref (ad 0)), (1, .int a1), (2, .int a2), (3, .int a3), (4, .int a4), (5, .long s12.1)]) dX9_drawn_118 (Nat.le_of_ble_eq_true rfl) rfl (fun v18 => ?_)
              refine mv_iconst (pc := 120) dX9_drawn_120 kci0 ?_
              refine mv_istore (pc := 121) (i := 11) (ls' := [(10, .int v18), (8, .long v17), (7, .int v16), (0, .ref (ad 0)), (1, .int a1), (2, .int a2), (3, .int a3), (4, .int a4), (5, .long s12.1)]) dX9_drawn_121 (Nat.le_of_ble_eq_true rfl) rfl (fun v19 => ?_)
              refine mv_sub [4, 5, 6, 8, 3, 2, 1, 0] rfl ?_
              refine mv_loop (pc := 123) (lj := fun (s20 : Int64 × Int32 × Int32 × mv_M) => [(0, .ref (ad 0)), (1, .int a1), (2, .int a2), (4, .int a4), (7, .int v16), (8, .long s20.1), (10, .int s20.2.1), (11, .int s20.2.2.1)]) (Mj := fun (s20 : Int64 × Int32 × Int32 × mv_M) => s20.2.2.2) (B := bX9_drawn_123 a2 v16 F a1 a4) ?_ F (v17, v18, v19, M14)
              intro f21 hf21 s20
              unfold bX9_drawn_123
              refine mv_iload (pc := 123) (i := 11) 7 dX9_drawn_123 rfl ?_
              refine mv_iload_n (pc := 125) (i := 2) 2 dX9_drawn_125 rfl rfl ?_
              refine mv_icmp_ge (pc := 126) (tgt := 191) dX9_drawn_126 (by decide) ?_ ?_
              · refine mv_iload (pc := 191) (i := 10) 6 dX9_drawn_191 rfl ?_
                exact mv_ireturn (pc := 193) dX9_drawn_193 rfl
              · refine mv_lload (pc := 129) (i := 8) 5 dX9_drawn_129 rfl ?_
                refine mv_ldc2_w (pc := 131) dX9_drawn_131 kwX9_234 ?_
                refine mv_lmul (pc := 134) dX9_drawn_134 ?_
                refine mv_ldc2_w (pc := 135) dX9_drawn_135 kwX9_236 ?_
                refine mv_lrem (pc := 138) dX9_drawn_138 ?_
                refine mv_lstore (pc := 139) (i := 8) (ls' := [(0, .ref (ad 0)), (1, .int a1), (2, .int a2), (4, .int a4), (7, .int v16), (10, .int s20.2.1), (11, .int s20.2.2.1)]) dX9_drawn_139 (Nat.le_of_ble_eq_true rfl) rfl (fun v22 => ?_)
                refine mv_aload_n (pc := 141) (i := 0) 1 dX9_drawn_141 rfl rfl ?_
                refine mv_iload_n (pc := 142) (i := 1) 2 dX9_drawn_142 rfl rfl ?_
                refine mv_lload (pc := 143) (i := 8) 0 dX9_drawn_143 rfl ?_
                refine mv_iload (pc := 145) (i := 7) 5 dX9_drawn_145 rfl ?_
                refine mv_i2l (pc := 147) dX9_drawn_147 ?_
                refine mv_lrem (pc := 148) dX9_drawn_148 ?_
                refine mv_l2i (pc := 149) dX9_drawn_149 ?_
                refine mv_callVi (pc := 150) (As := [.int a1, .int ((v22 - v22 / v16.toInt64 * v16.toInt64).toInt32)]) (st := []) (i := 0) dX9_drawn_150 mlX9_212 vmX9_laysCode ⟨Nat.le_of_ble_eq_true rfl, Nat.le_of_ble_eq_true rfl⟩ lm_0 rfl rfl (Nat.le_of_ble_eq_true rfl) (ctX9_laysCode x.2.1 D cA ad F s20.2.2.2 a1 ((v22 - v22 / v16.toInt64 * v16.toInt64).toInt32)) (fun v24 M23 => ?_)
                refine mv_istore (pc := 153) (i := 12) (ls' := [(8, .long v22), (0, .ref (ad 0)), (1, .int a1), (2, .int a2), (4, .int a4), (7, .int v16), (10, .int s20.2.1), (11, .int s20.2.2.1)]) dX9_drawn_153 (Nat.le_of_ble_eq_true rfl) rfl (fun v25 => ?_)
                refine mv_iload (pc := 155) (i := 10) 7 dX9_drawn_155 rfl ?_
                refine mv_iload (pc := 157) (i := 12) 0 dX9_drawn_157 rfl ?_
                refine mv_if_ne (pc := 159) (tgt := 166) dX9_drawn_159 (by decide) ?_ ?_
                · refine mv_iload (pc := 166) (i := 4) 5 dX9_drawn_166 rfl ?_
                  refine mv_if_ne (pc := 168) (tgt := 178) dX9_drawn_168 (by decide) ?_ ?_
                  · refine mv_aload_n (pc := 178) (i := 0) 2 dX9_drawn_178 rfl rfl ?_
                    refine mv_getI (pc := 179) (i := 0) dX9_drawn_179 flX9_198 lm_0 rfl ?_
                    refine mv_iadd (pc := 182) dX9_drawn_182 ?_
                    refine mv_istore (pc := 183) (i := 10) (ls' := [(12, .int v25), (8, .long v22), (0, .ref (ad 0)), (1, .int a1), (2, .int a2), (4, .int a4), (7, .int v16), (11, .int s20.2.2.1)]) dX9_drawn_183 (Nat.le_of_ble_eq_true rfl) rfl (fun v26 => ?_)
                    refine mv_iinc (pc := 185) (i := 11) (ls' := [(10, .int v26), (12, .int v25), (8, .long v22), (0, .ref (ad 0)), (1, .int a1), (2, .int a2), (4, .int a4), (7, .int v16)]) 8 dX9_drawn_185 rfl kci1 (Nat.le_of_ble_eq_true rfl) rfl (fun v27 => ?_)
                    refine mv_goto (pc := 188) (tgt := 123) dX9_drawn_188 (by decide) ?_
                    refine mv_sub [4, 5, 6, 7, 8, 3, 1, 0] rfl ?_
                    exact hf21 (v22, v26, v27, M23)
                  · refine mv_aload_n (pc := 171) (i := 0) 2 dX9_drawn_171 rfl rfl ?_
                    refine mv_getI (pc := 172) (i := 0) dX9_drawn_172 flX9_201 lm_0 rfl ?_
                    refine mv_goto (pc := 175) (tgt := 182) dX9_drawn_175 (by decide) ?_
                    refine mv_iadd (pc := 182) dX9_drawn_182 ?_
                    refine mv_istore (pc := 183) (i := 10) (ls' := [(12, .int v25), (8, .long v22), (0, .ref (ad 0)), (1, .int a1), (2, .int a2), (4, .int a4), (7, .int v16), (11, .int s20.2.2.1)]) dX9_drawn_183 (Nat.le_of_ble_eq_true rfl) rfl (fun v28 => ?_)
                    refine mv_iinc (pc := 185) (i := 11) (ls' := [(10, .int v28), (12, .int v25), (8, .long v22), (0, .ref (ad 0)), (1, .int a1), (2, .int a2), (4, .int a4), (7, .int v16)]) 8 dX9_drawn_185 rfl kci1 (Nat.le_of_ble_eq_true rfl) rfl (fun v29 => ?_)
                    refine mv_goto (pc := 188) (tgt := 123) dX9_drawn_188 (by decide) ?_
                    refine mv_sub [4, 5, 6, 7, 8, 3, 1, 0] rfl ?_
                    exact hf21 (v22, v28, v29, M23)
                · refine mv_iconst (pc := 162) dX9_drawn_162 kci0 ?_
                  refine mv_goto (pc := 163) (tgt := 182) dX9_drawn_163 (by decide) ?_
                  refine mv_iadd (pc := 182) dX9_drawn_182 ?_
                  refine mv_istore (pc := 183) (i := 10) (ls' := [(12, .int v25), (8, .long v22), (0, .ref (ad 0)), (1, .int a1), (2, .int a2), (4, .int a4), (7, .int v16), (11, .int s20.2.2.1)]) dX9_drawn_183 (Nat.le_of_ble_eq_true rfl) rfl (fun v30 => ?_)
                  refine mv_iinc (pc := 185) (i := 11) (ls' := [(10, .int v30), (12, .int v25), (8, .long v22), (0, .ref (ad 0)), (1, .int a1), (2, .int a2), (4, .int a4), (7, .int v16)]) 8 dX9_drawn_185 rfl kci1 (Nat.le_of_ble_eq_true rfl) rfl (fun v31 => ?_)
                  refine mv_goto (pc := 188) (tgt := 123) dX9_drawn_188 (by decide) ?_
                  refine mv_sub [4, 5, 6, 7, 8, 3, 1, 0] rfl ?_
                  exact hf21 (v22, v30, v31, M23)
            · refine mv_ldc (pc := 102) dX9_drawn_102 kwX9_137 ?_
              exact mv_ireturn (pc := 104) dX9_drawn_104 rfl
          · intro j13 hj13
            refine mv_sub [2, 3, 4, 5, 6, 1, 0] rfl ?_
            refine mv_loop (pc := 62) (lj := fun (s32 : Int64 × Int32 × mv_M) => [(0, .ref (ad 0)), (1, .int a1), (2, .int a2), (3, .int a3), (4, .int a4), (5, .long s32.1), (7, .int s32.2.1)]) (Mj := fun (s32 : Int64 × Int32 × mv_M) => s32.2.2) (B := bX9_drawn_62 j13 a1 F) ?_ F (v10, v11, M9)
            intro f33 hf33 s32
            unfold bX9_drawn_62
            refine mv_iload (pc := 62) (i := 7) 6 dX9_drawn_62 rfl ?_
            refine mv_bipush (pc := 64) dX9_drawn_64 kcb24 ?_
            refine mv_icmp_gt (pc := 66) (tgt := 95) dX9_drawn_66 (by decide) ?_ ?_
            · refine mv_sub [0, 1, 2, 3, 4, 5] rfl ?_
              exact hj13 (s32.1, s32.2.2)
            · refine mv_lload (pc := 69) (i := 5) 5 dX9_drawn_69 rfl ?_
              refine mv_aload_n (pc := 71) (i := 0) 0 dX9_drawn_71 rfl rfl ?_
              refine mv_getR (pc := 72) (i := 0) (j := 7) dX9_drawn_72 flX9_28 lm_0 rfl ?_
              refine mv_bipush (pc := 75) dX9_drawn_75 kcb25 ?_
              refine mv_iload_n (pc := 77) (i := 1) 1 dX9_drawn_77 rfl rfl ?_
              refine mv_imul (pc := 78) dX9_drawn_78 ?_
              refine mv_iload (pc := 79) (i := 7) 6 dX9_drawn_79 rfl ?_
              refine mv_iadd (pc := 81) dX9_drawn_81 ?_
              refine mv_lald (pc := 82) (i := 7) dX9_drawn_82 lm_7 ?_
              refine mv_ladd (pc := 83) dX9_drawn_83 ?_
              refine mv_callSl (pc := 84) (As := [.long (s32.1 + (s32.2.2.2 7 (((25 : Int32) * a1) + s32.2.1).toNatClampNeg))]) (st := []) dX9_drawn_84 mlX9_162 smX9_cut ⟨Nat.le_of_ble_eq_true rfl, Nat.le_of_ble_eq_true rfl⟩ rfl (Nat.le_of_ble_eq_true rfl) (ctX9_cut x.2.1 D cA ad F s32.2.2 (s32.1 + (s32.2.2.2 7 (((25 : Int32) * a1) + s32.2.1).toNatClampNeg))) (fun v35 M34 => ?_)
              refine mv_lstore (pc := 87) (i := 5) (ls' := [(0, .ref (ad 0)), (1, .int a1), (2, .int a2), (3, .int a3), (4, .int a4), (7, .int s32.2.1)]) dX9_drawn_87 (Nat.le_of_ble_eq_true rfl) rfl (fun v36 => ?_)
              refine mv_iinc (pc := 89) (i := 7) (ls' := [(5, .long v36), (0, .ref (ad 0)), (1, .int a1), (2, .int a2), (3, .int a3), (4, .int a4)]) 6 dX9_drawn_89 rfl kci1 (Nat.le_of_ble_eq_true rfl) rfl (fun v37 => ?_)
              refine mv_goto (pc := 92) (tgt := 62) dX9_drawn_92 (by decide) ?_
              refine mv_sub [2, 3, 4, 5, 6, 1, 0] rfl ?_
              exact hf33 (v36, v37, M34)
        · refine mv_ldc (pc := 43) dX9_drawn_43 kwX9_65 ?_
          exact mv_ireturn (pc := 45) dX9_drawn_45 rfl
