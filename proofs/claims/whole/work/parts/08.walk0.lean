set_option maxRecDepth 100000 in
set_option maxHeartbeats 4000000 in
theorem ctX5_isRow (l : Launch) (D : va_G) (cA : Nat → ClassId) (ad : Nat → Nat) (F : Nat) (M : mv_M) (a1 : Int32) : mv_C l (D, cA, ad, LX) yX5_isRow iX5_isRow mv_ri [.int a1] M (fX5_isRow F M a1) := by
  refine mv_C.ofV (ls := [(0, .int a1)]) (by decide) rfl (Nat.le_of_ble_eq_true rfl) rfl ?_
  intro x hxl
  subst hxl
  unfold fX5_isRow
  refine mv_iload_n (pc := 0) (i := 0) 0 dX5_isRow_0 rfl rfl ?_
  refine mv_if_lt (pc := 1) (tgt := 14) dX5_isRow_1 (by decide) ?_ ?_
  · refine mv_iconst (pc := 14) dX5_isRow_14 kci0 ?_
    exact mv_zreturn (pc := 15) dX5_isRow_15 rfl
  · refine mv_iload_n (pc := 4) (i := 0) 0 dX5_isRow_4 rfl rfl ?_
    refine mv_bipush (pc := 5) dX5_isRow_5 kcb8 ?_
    refine mv_icmp_ge (pc := 7) (tgt := 14) dX5_isRow_7 (by decide) ?_ ?_
    · refine mv_iconst (pc := 14) dX5_isRow_14 kci0 ?_
      exact mv_zreturn (pc := 15) dX5_isRow_15 rfl
    · refine mv_iconst (pc := 10) dX5_isRow_10 kci1 ?_
      refine mv_goto (pc := 11) (tgt := 15) dX5_isRow_11 (by decide) ?_
      exact mv_zreturn (pc := 15) dX5_isRow_15 rfl

set_option maxRecDepth 100000 in
set_option maxHeartbeats 4000000 in
theorem ctX5_isLane (l : Launch) (D : va_G) (cA : Nat → ClassId) (ad : Nat → Nat) (F : Nat) (M : mv_M) (a1 : Int32) : mv_C l (D, cA, ad, LX) yX5_isLane iX5_isLane mv_ri [.int a1] M (fX5_isLane F M a1) := by
  refine mv_C.ofV (ls := [(0, .int a1)]) (by decide) rfl (Nat.le_of_ble_eq_true rfl) rfl ?_
  intro x hxl
  subst hxl
  unfold fX5_isLane
  refine mv_iload_n (pc := 0) (i := 0) 0 dX5_isLane_0 rfl rfl ?_
  refine mv_if_lt (pc := 1) (tgt := 13) dX5_isLane_1 (by decide) ?_ ?_
  · refine mv_iconst (pc := 13) dX5_isLane_13 kci0 ?_
    exact mv_zreturn (pc := 14) dX5_isLane_14 rfl
  · refine mv_iload_n (pc := 4) (i := 0) 0 dX5_isLane_4 rfl rfl ?_
    refine mv_iconst (pc := 5) dX5_isLane_5 kci2 ?_
    refine mv_icmp_gt (pc := 6) (tgt := 13) dX5_isLane_6 (by decide) ?_ ?_
    · refine mv_iconst (pc := 13) dX5_isLane_13 kci0 ?_
      exact mv_zreturn (pc := 14) dX5_isLane_14 rfl
    · refine mv_iconst (pc := 9) dX5_isLane_9 kci1 ?_
      refine mv_goto (pc := 10) (tgt := 14) dX5_isLane_10 (by decide) ?_
      exact mv_zreturn (pc := 14) dX5_isLane_14 rfl

set_option maxRecDepth 100000 in
set_option maxHeartbeats 4000000 in
theorem ctJ7_fill_53178 (l : Launch) (D : va_G) (cA : Nat → ClassId) (ad : Nat → Nat) (F : Nat) (M : mv_M) (i1 : Nat) (n1 : Nat) (a2 : Int32) (hi1 : LX[i1]? = some (1, n1, [])) : mv_C l (D, cA, ad, LX) yJ7_fill_53178 iJ7_fill_53178 mv_rv [.ref (ad i1), .int a2] M (fJ7_fill_53178 F M i1 n1 a2) := by
  refine mv_C.ofV (ls := [(0, .ref (ad i1)), (1, .int a2)]) (by decide) rfl (Nat.le_of_ble_eq_true rfl) rfl ?_
  intro x hxl
  subst hxl
  unfold fJ7_fill_53178
  refine mv_iconst (pc := 0) dJ7_fill_53178_0 kci0 ?_
  refine mv_istore_n (pc := 1) (i := 2) (ls' := [(0, .ref (ad i1)), (1, .int a2)]) dJ7_fill_53178_1 rfl (Nat.le_of_ble_eq_true rfl) rfl (fun v1 => ?_)
  refine mv_aload_n (pc := 2) (i := 0) 1 dJ7_fill_53178_2 rfl rfl ?_
  refine mv_alen (pc := 3) (i := i1) (t := 0) dJ7_fill_53178_3 hi1 rfl ?_
  refine mv_istore_n (pc := 4) (i := 3) (ls' := [(2, .int v1), (0, .ref (ad i1)), (1, .int a2)]) dJ7_fill_53178_4 rfl (Nat.le_of_ble_eq_true rfl) rfl (fun v2 => ?_)
  refine mv_sub [2, 3, 1, 0] rfl ?_
  refine mv_loop (pc := 5) (lj := fun (s3 : Int32 × mv_M) => [(0, .ref (ad i1)), (1, .int a2), (2, .int s3.1), (3, .int v2)]) (Mj := fun (s3 : Int32 × mv_M) => s3.2) (B := bJ7_fill_53178_5 v2 n1 i1 a2) ?_ F (v1, M)
  intro f4 hf4 s3
  unfold bJ7_fill_53178_5
  refine mv_iload_n (pc := 5) (i := 2) 2 dJ7_fill_53178_5 rfl rfl ?_
  refine mv_iload_n (pc := 6) (i := 3) 3 dJ7_fill_53178_6 rfl rfl ?_
  refine mv_icmp_ge (pc := 7) (tgt := 20) dJ7_fill_53178_7 (by decide) ?_ ?_
  · exact mv_return (pc := 20) dJ7_fill_53178_20 rfl
  · refine mv_aload_n (pc := 10) (i := 0) 0 dJ7_fill_53178_10 rfl rfl ?_
    refine mv_iload_n (pc := 11) (i := 2) 2 dJ7_fill_53178_11 rfl rfl ?_
    refine mv_iload_n (pc := 12) (i := 1) 1 dJ7_fill_53178_12 rfl rfl ?_
    refine mv_iast (pc := 13) (i := i1) dJ7_fill_53178_13 hi1 (fun M5 => ?_)
    refine mv_iinc (pc := 14) (i := 2) (ls' := [(0, .ref (ad i1)), (1, .int a2), (3, .int v2)]) 2 dJ7_fill_53178_14 rfl kci1 (Nat.le_of_ble_eq_true rfl) rfl (fun v6 => ?_)
    refine mv_goto (pc := 17) (tgt := 5) dJ7_fill_53178_17 (by decide) ?_
    refine mv_sub [1, 2, 0, 3] rfl ?_
    exact hf4 (v6, M5)

set_option maxRecDepth 100000 in
set_option maxHeartbeats 4000000 in
theorem ctX5_make (l : Launch) (D : va_G) (cA : Nat → ClassId) (ad : Nat → Nat) (F : Nat) (M : mv_M) (a1 : Int32) (a2 : Int32) (a3 : Int32) : mv_C l (D, cA, ad, LX) yX5_make iX5_make mv_rv [.ref (ad 29), .int a1, .int a2, .int a3] M (fX5_make F M a1 a2 a3) := by
  refine mv_C.ofV (ls := [(0, .ref (ad 29)), (1, .int a1), (2, .int a2), (3, .int a3)]) (by decide) rfl (Nat.le_of_ble_eq_true rfl) rfl ?_
  intro x hxl
  subst hxl
  unfold fX5_make
  refine mv_aload_n (pc := 0) (i := 0) 0 dX5_make_0 rfl rfl ?_
  refine mv_getR (pc := 1) (i := 29) (j := 39) dX5_make_1 flX5_14 lx_29 rfl ?_
  refine mv_iload_n (pc := 4) (i := 1) 1 dX5_make_4 rfl rfl ?_
  refine mv_iload_n (pc := 5) (i := 2) 2 dX5_make_5 rfl rfl ?_
  refine mv_iast (pc := 6) (i := 39) dX5_make_6 lx_39 (fun M1 => ?_)
  refine mv_aload_n (pc := 7) (i := 0) 0 dX5_make_7 rfl rfl ?_
  refine mv_getR (pc := 8) (i := 29) (j := 40) dX5_make_8 flX5_18 lx_29 rfl ?_
  refine mv_iload_n (pc := 11) (i := 1) 1 dX5_make_11 rfl rfl ?_
  refine mv_iload_n (pc := 12) (i := 3) 3 dX5_make_12 rfl rfl ?_
  refine mv_iast (pc := 13) (i := 40) dX5_make_13 lx_40 (fun M2 => ?_)
  refine mv_aload_n (pc := 14) (i := 0) 0 dX5_make_14 rfl rfl ?_
  refine mv_getR (pc := 15) (i := 29) (j := 30) dX5_make_15 flX5_11 lx_29 rfl ?_
  refine mv_iload_n (pc := 18) (i := 1) 1 dX5_make_18 rfl rfl ?_
  refine mv_aald (pc := 19) (i := 30) (b := 31) (t := 1) dX5_make_19 lx_30 (by decide) (by decide) (fun h3 => ?_)
  refine mv_iconst (pc := 20) dX5_make_20 kci0 ?_
  refine mv_callSv (pc := 21) (As := [.ref (ad (31 + a1.toNatClampNeg)), .int (0 : Int32)]) (st := []) dX5_make_21 mlX5_21 smJ7_fill_53178 ⟨Nat.le_of_ble_eq_true rfl, Nat.le_of_ble_eq_true rfl⟩ rfl (Nat.le_of_ble_eq_true rfl) (ctJ7_fill_53178 x.2.1 D cA ad F M2 (31 + a1.toNatClampNeg) 40 (0 : Int32) (lxr_31 _ h3)) (fun M4 => ?_)
  exact mv_return (pc := 24) dX5_make_24 rfl

set_option maxRecDepth 100000 in
set_option maxHeartbeats 4000000 in
theorem ctX8_unfound (l : Launch) (D : va_G) (cA : Nat → ClassId) (ad : Nat → Nat) (F : Nat) (M : mv_M) (a1 : Int32) : mv_C l (D, cA, ad, LX) yX8_unfound iX8_unfound mv_ri [.ref (ad 0), .int a1] M (fX8_unfound F M a1) := by
  refine mv_C.ofV (ls := [(0, .ref (ad 0)), (1, .int a1)]) (by decide) rfl (Nat.le_of_ble_eq_true rfl) rfl ?_
  intro x hxl
  subst hxl
  unfold fX8_unfound
  refine mv_aload_n (pc := 0) (i := 0) 0 dX8_unfound_0 rfl rfl ?_
  refine mv_iconst (pc := 1) dX8_unfound_1 kci0 ?_
  refine mv_putI (pc := 2) (i := 0) dX8_unfound_2 flX8_305 (Or.inl fpX8_10) lx_0 rfl (fun M1 => ?_)
  refine mv_iload_n (pc := 5) (i := 1) 1 dX8_unfound_5 rfl rfl ?_
  exact mv_ireturn (pc := 6) dX8_unfound_6 rfl

set_option maxRecDepth 100000 in
set_option maxHeartbeats 4000000 in
theorem ctX8_found (l : Launch) (D : va_G) (cA : Nat → ClassId) (ad : Nat → Nat) (F : Nat) (M : mv_M) (a1 : Int32) : mv_C l (D, cA, ad, LX) yX8_found iX8_found mv_ri [.ref (ad 0), .int a1] M (fX8_found F M a1) := by
  refine mv_C.ofV (ls := [(0, .ref (ad 0)), (1, .int a1)]) (by decide) rfl (Nat.le_of_ble_eq_true rfl) rfl ?_
  intro x hxl
  subst hxl
  unfold fX8_found
  refine mv_aload_n (pc := 0) (i := 0) 0 dX8_found_0 rfl rfl ?_
  refine mv_iload_n (pc := 1) (i := 1) 1 dX8_found_1 rfl rfl ?_
  refine mv_putI (pc := 2) (i := 0) dX8_found_2 flX8_305 (Or.inl fpX8_10) lx_0 rfl (fun M1 => ?_)
  refine mv_ldc_w (pc := 5) dX8_found_5 kwX8_308 ?_
  refine mv_iload_n (pc := 8) (i := 1) 1 dX8_found_8 rfl rfl ?_
  refine mv_isub (pc := 9) dX8_found_9 ?_
  exact mv_ireturn (pc := 10) dX8_found_10 rfl

set_option maxRecDepth 100000 in
set_option maxHeartbeats 4000000 in
theorem ctX8_row (l : Launch) (D : va_G) (cA : Nat → ClassId) (ad : Nat → Nat) (F : Nat) (M : mv_M) (a1 : Int32) (a2 : Int32) (a3 : Int32) : mv_C l (D, cA, ad, LX) yX8_row iX8_row mv_ri [.ref (ad 0), .int a1, .int a2, .int a3] M (fX8_row F M a1 a2 a3) := by
  refine mv_C.ofV (ls := [(0, .ref (ad 0)), (1, .int a1), (2, .int a2), (3, .int a3)]) (by decide) rfl (Nat.le_of_ble_eq_true rfl) rfl ?_
  intro x hxl
  subst hxl
  unfold fX8_row
  refine mv_iload_n (pc := 0) (i := 1) 1 dX8_row_0 rfl rfl ?_
  refine mv_callSi (pc := 1) (As := [.int a1]) (st := []) dX8_row_1 mlX8_73 smX5_isRow ⟨Nat.le_of_ble_eq_true rfl, Nat.le_of_ble_eq_true rfl⟩ rfl (Nat.le_of_ble_eq_true rfl) (ctX5_isRow x.2.1 D cA ad F M a1) (fun v2 M1 => ?_)
  refine mv_if_eq (pc := 4) (tgt := 20) dX8_row_4 (by decide) ?_ ?_
  · refine mv_ldc (pc := 20) dX8_row_20 kwX8_80 ?_
    exact mv_ireturn (pc := 22) dX8_row_22 rfl
  · refine mv_iload_n (pc := 7) (i := 2) 2 dX8_row_7 rfl rfl ?_
    refine mv_callSi (pc := 8) (As := [.int a2]) (st := []) dX8_row_8 mlX8_77 smX5_isLane ⟨Nat.le_of_ble_eq_true rfl, Nat.le_of_ble_eq_true rfl⟩ rfl (Nat.le_of_ble_eq_true rfl) (ctX5_isLane x.2.1 D cA ad F M1 a2) (fun v4 M3 => ?_)
    refine mv_if_eq (pc := 11) (tgt := 20) dX8_row_11 (by decide) ?_ ?_
    · refine mv_ldc (pc := 20) dX8_row_20 kwX8_80 ?_
      exact mv_ireturn (pc := 22) dX8_row_22 rfl
    · refine mv_iload_n (pc := 14) (i := 3) 3 dX8_row_14 rfl rfl ?_
      refine mv_bipush (pc := 15) dX8_row_15 kcb40 ?_
      refine mv_icmp_le (pc := 17) (tgt := 23) dX8_row_17 (by decide) ?_ ?_
      · refine mv_iload_n (pc := 23) (i := 3) 3 dX8_row_23 rfl rfl ?_
        refine mv_if_ge (pc := 24) (tgt := 33) dX8_row_24 (by decide) ?_ ?_
        · refine mv_aload_n (pc := 33) (i := 0) 0 dX8_row_33 rfl rfl ?_
          refine mv_getR (pc := 34) (i := 0) (j := 29) dX8_row_34 flX8_23 lx_0 rfl ?_
          refine mv_iload_n (pc := 37) (i := 1) 1 dX8_row_37 rfl rfl ?_
          refine mv_iload_n (pc := 38) (i := 2) 2 dX8_row_38 rfl rfl ?_
          refine mv_iload_n (pc := 39) (i := 3) 3 dX8_row_39 rfl rfl ?_
          refine mv_callVv (pc := 40) (As := [.int a1, .int a2, .int a3]) (st := []) (i := 29) dX8_row_40 mlX8_85 vmX5_make ⟨Nat.le_of_ble_eq_true rfl, Nat.le_of_ble_eq_true rfl⟩ lx_29 rfl rfl (Nat.le_of_ble_eq_true rfl) (ctX5_make x.2.1 D cA ad F M3 a1 a2 a3) (fun M5 => ?_)
          refine mv_aload_n (pc := 43) (i := 0) 0 dX8_row_43 rfl rfl ?_
          refine mv_iload_n (pc := 44) (i := 3) 3 dX8_row_44 rfl rfl ?_
          refine mv_callVi (pc := 45) (As := [.int a3]) (st := []) (i := 0) dX8_row_45 mlX8_89 vmX8_unfound ⟨Nat.le_of_ble_eq_true rfl, Nat.le_of_ble_eq_true rfl⟩ lx_0 rfl rfl (Nat.le_of_ble_eq_true rfl) (ctX8_unfound x.2.1 D cA ad F M5 a3) (fun v7 M6 => ?_)
          exact mv_ireturn (pc := 48) dX8_row_48 rfl
        · refine mv_aload_n (pc := 27) (i := 0) 0 dX8_row_27 rfl rfl ?_
          refine mv_iconst (pc := 28) dX8_row_28 kci4 ?_
          refine mv_callVi (pc := 29) (As := [.int (4 : Int32)]) (st := []) (i := 0) dX8_row_29 mlX8_81 vmX8_found ⟨Nat.le_of_ble_eq_true rfl, Nat.le_of_ble_eq_true rfl⟩ lx_0 rfl rfl (Nat.le_of_ble_eq_true rfl) (ctX8_found x.2.1 D cA ad F M3 (4 : Int32)) (fun v9 M8 => ?_)
          exact mv_ireturn (pc := 32) dX8_row_32 rfl
      · refine mv_ldc (pc := 20) dX8_row_20 kwX8_80 ?_
        exact mv_ireturn (pc := 22) dX8_row_22 rfl

set_option maxRecDepth 100000 in
set_option maxHeartbeats 4000000 in
theorem ctX5_isMissing (l : Launch) (D : va_G) (cA : Nat → ClassId) (ad : Nat → Nat) (F : Nat) (M : mv_M) (a1 : Int32) : mv_C l (D, cA, ad, LX) yX5_isMissing iX5_isMissing mv_ri [.ref (ad 29), .int a1] M (fX5_isMissing F M a1) := by
  refine mv_C.ofV (ls := [(0, .ref (ad 29)), (1, .int a1)]) (by decide) rfl (Nat.le_of_ble_eq_true rfl) rfl ?_
  intro x hxl
  subst hxl
  unfold fX5_isMissing
  refine mv_aload_n (pc := 0) (i := 0) 0 dX5_isMissing_0 rfl rfl ?_
  refine mv_getR (pc := 1) (i := 29) (j := 39) dX5_isMissing_1 flX5_14 lx_29 rfl ?_
  refine mv_iload_n (pc := 4) (i := 1) 1 dX5_isMissing_4 rfl rfl ?_
  refine mv_iald (pc := 5) (i := 39) dX5_isMissing_5 lx_39 ?_
  refine mv_iconst (pc := 6) dX5_isMissing_6 kcim1 ?_
  refine mv_icmp_ne (pc := 7) (tgt := 14) dX5_isMissing_7 (by decide) ?_ ?_
  · refine mv_iconst (pc := 14) dX5_isMissing_14 kci0 ?_
    exact mv_zreturn (pc := 15) dX5_isMissing_15 rfl
  · refine mv_iconst (pc := 10) dX5_isMissing_10 kci1 ?_
    refine mv_goto (pc := 11) (tgt := 15) dX5_isMissing_11 (by decide) ?_
    exact mv_zreturn (pc := 15) dX5_isMissing_15 rfl

set_option maxRecDepth 100000 in
set_option maxHeartbeats 4000000 in
theorem ctX5_hasPlaces (l : Launch) (D : va_G) (cA : Nat → ClassId) (ad : Nat → Nat) (F : Nat) (M : mv_M) (a1 : Int32) (a2 : Int32) (a3 : Int32) : mv_C l (D, cA, ad, LX) yX5_hasPlaces iX5_hasPlaces mv_ri [.ref (ad 29), .int a1, .int a2, .int a3] M (fX5_hasPlaces F M a1 a2 a3) := by
  refine mv_C.ofV (ls := [(0, .ref (ad 29)), (1, .int a1), (2, .int a2), (3, .int a3)]) (by decide) rfl (Nat.le_of_ble_eq_true rfl) rfl ?_
  intro x hxl
  subst hxl
  unfold fX5_hasPlaces
  refine mv_iload_n (pc := 0) (i := 2) 2 dX5_hasPlaces_0 rfl rfl ?_
  refine mv_if_lt (pc := 1) (tgt := 24) dX5_hasPlaces_1 (by decide) ?_ ?_
  · refine mv_iconst (pc := 24) dX5_hasPlaces_24 kci0 ?_
    exact mv_zreturn (pc := 25) dX5_hasPlaces_25 rfl
  · refine mv_iload_n (pc := 4) (i := 3) 3 dX5_hasPlaces_4 rfl rfl ?_
    refine mv_if_lt (pc := 5) (tgt := 24) dX5_hasPlaces_5 (by decide) ?_ ?_
    · refine mv_iconst (pc := 24) dX5_hasPlaces_24 kci0 ?_
      exact mv_zreturn (pc := 25) dX5_hasPlaces_25 rfl
    · refine mv_iload_n (pc := 8) (i := 2) 2 dX5_hasPlaces_8 rfl rfl ?_
      refine mv_aload_n (pc := 9) (i := 0) 0 dX5_hasPlaces_9 rfl rfl ?_
      refine mv_getR (pc := 10) (i := 29) (j := 40) dX5_hasPlaces_10 flX5_18 lx_29 rfl ?_
      refine mv_iload_n (pc := 13) (i := 1) 1 dX5_hasPlaces_13 rfl rfl ?_
      refine mv_iald (pc := 14) (i := 40) dX5_hasPlaces_14 lx_40 ?_
      refine mv_iload_n (pc := 15) (i := 3) 3 dX5_hasPlaces_15 rfl rfl ?_
      refine mv_isub (pc := 16) dX5_hasPlaces_16 ?_
      refine mv_icmp_gt (pc := 17) (tgt := 24) dX5_hasPlaces_17 (by decide) ?_ ?_
      · refine mv_iconst (pc := 24) dX5_hasPlaces_24 kci0 ?_
        exact mv_zreturn (pc := 25) dX5_hasPlaces_25 rfl
      · refine mv_iconst (pc := 20) dX5_hasPlaces_20 kci1 ?_
        refine mv_goto (pc := 21) (tgt := 25) dX5_hasPlaces_21 (by decide) ?_
        exact mv_zreturn (pc := 25) dX5_hasPlaces_25 rfl

set_option maxRecDepth 100000 in
set_option maxHeartbeats 4000000 in
theorem ctX5_put (l : Launch) (D : va_G) (cA : Nat → ClassId) (ad : Nat → Nat) (F : Nat) (M : mv_M) (a1 : Int32) (a2 : Int32) (a3 : Int32) : mv_C l (D, cA, ad, LX) yX5_put iX5_put mv_ri [.ref (ad 29), .int a1, .int a2, .int a3] M (fX5_put F M a1 a2 a3) := by
  refine mv_C.ofV (ls := [(0, .ref (ad 29)), (1, .int a1), (2, .int a2), (3, .int a3)]) (by decide) rfl (Nat.le_of_ble_eq_true rfl) rfl ?_
  intro x hxl
  subst hxl
  unfold fX5_put
  refine mv_iload_n (pc := 0) (i := 3) 3 dX5_put_0 rfl rfl ?_
  refine mv_istore (pc := 1) (i := 4) (ls' := [(0, .ref (ad 29)), (1, .int a1), (2, .int a2), (3, .int a3)]) dX5_put_1 (Nat.le_of_ble_eq_true rfl) rfl (fun v1 => ?_)
  refine mv_aload_n (pc := 3) (i := 0) 1 dX5_put_3 rfl rfl ?_
  refine mv_getR (pc := 4) (i := 29) (j := 39) dX5_put_4 flX5_14 lx_29 rfl ?_
  refine mv_iload_n (pc := 7) (i := 1) 2 dX5_put_7 rfl rfl ?_
  refine mv_iald (pc := 8) (i := 39) dX5_put_8 lx_39 ?_
  refine mv_jp (pj := 33) (lj := fun (s2 : Int32 × mv_M) => [(0, .ref (ad 29)), (1, .int a1), (2, .int a2), (4, .int s2.1)]) (sj := fun (s2 : Int32 × mv_M) => []) (Mj := fun (s2 : Int32 × mv_M) => s2.2) ?_ ?_
  · intro s2
    refine mv_aload_n (pc := 33) (i := 0) 0 dX5_put_33 rfl rfl ?_
    refine mv_getR (pc := 34) (i := 29) (j := 30) dX5_put_34 flX5_11 lx_29 rfl ?_
    refine mv_iload_n (pc := 37) (i := 1) 1 dX5_put_37 rfl rfl ?_
    refine mv_aald (pc := 38) (i := 30) (b := 31) (t := 1) dX5_put_38 lx_30 (by decide) (by decide) (fun h4 => ?_)
    refine mv_iload_n (pc := 39) (i := 2) 2 dX5_put_39 rfl rfl ?_
    refine mv_iload (pc := 40) (i := 4) 3 dX5_put_40 rfl ?_
    refine mv_iast (pc := 42) (i := (31 + a1.toNatClampNeg)) dX5_put_42 (lxr_31 _ h4) (fun M5 => ?_)
    refine mv_iload (pc := 43) (i := 4) 3 dX5_put_43 rfl ?_
    exact mv_ireturn (pc := 45) dX5_put_45 rfl
  · intro j3 hj3
    refine mv_if_ne (pc := 9) (tgt := 19) dX5_put_9 (by decide) ?_ ?_
    · refine mv_aload_n (pc := 19) (i := 0) 1 dX5_put_19 rfl rfl ?_
      refine mv_getR (pc := 20) (i := 29) (j := 39) dX5_put_20 flX5_14 lx_29 rfl ?_
      refine mv_iload_n (pc := 23) (i := 1) 2 dX5_put_23 rfl rfl ?_
      refine mv_iald (pc := 24) (i := 39) dX5_put_24 lx_39 ?_
      refine mv_iconst (pc := 25) dX5_put_25 kci1 ?_
      refine mv_icmp_ne (pc := 26) (tgt := 33) dX5_put_26 (by decide) ?_ ?_
      · refine mv_sub [1, 2, 3, 0] rfl ?_
        exact hj3 (v1, M)
      · refine mv_iload_n (pc := 29) (i := 3) 4 dX5_put_29 rfl rfl ?_
        refine mv_i2s (pc := 30) dX5_put_30 ?_
        refine mv_istore (pc := 31) (i := 4) (ls' := [(0, .ref (ad 29)), (1, .int a1), (2, .int a2), (3, .int a3)]) dX5_put_31 (Nat.le_of_ble_eq_true rfl) rfl (fun v6 => ?_)
        refine mv_sub [1, 2, 3, 0] rfl ?_
        exact hj3 (v6, M)
    · refine mv_iload_n (pc := 12) (i := 3) 4 dX5_put_12 rfl rfl ?_
      refine mv_i2b (pc := 13) dX5_put_13 ?_
      refine mv_istore (pc := 14) (i := 4) (ls' := [(0, .ref (ad 29)), (1, .int a1), (2, .int a2), (3, .int a3)]) dX5_put_14 (Nat.le_of_ble_eq_true rfl) rfl (fun v7 => ?_)
      refine mv_goto (pc := 16) (tgt := 33) dX5_put_16 (by decide) ?_
      refine mv_sub [1, 2, 3, 0] rfl ?_
      exact hj3 (v7, M)

set_option maxRecDepth 100000 in
set_option maxHeartbeats 4000000 in
theorem ctX8_set (l : Launch) (D : va_G) (cA : Nat → ClassId) (ad : Nat → Nat) (F : Nat) (M : mv_M) (a1 : Int32) (a2 : Int32) (a3 : Int32) : mv_C l (D, cA, ad, LX) yX8_set iX8_set mv_ri [.ref (ad 0), .int a1, .int a2, .int a3] M (fX8_set F M a1 a2 a3) := by
  refine mv_C.ofV (ls := [(0, .ref (ad 0)), (1, .int a1), (2, .int a2), (3, .int a3)]) (by decide) rfl (Nat.le_of_ble_eq_true rfl) rfl ?_
  intro x hxl
  subst hxl
  unfold fX8_set
  refine mv_iload_n (pc := 0) (i := 1) 1 dX8_set_0 rfl rfl ?_
  refine mv_callSi (pc := 1) (As := [.int a1]) (st := []) dX8_set_1 mlX8_73 smX5_isRow ⟨Nat.le_of_ble_eq_true rfl, Nat.le_of_ble_eq_true rfl⟩ rfl (Nat.le_of_ble_eq_true rfl) (ctX5_isRow x.2.1 D cA ad F M a1) (fun v2 M1 => ?_)
  refine mv_if_ne (pc := 4) (tgt := 10) dX8_set_4 (by decide) ?_ ?_
  · refine mv_aload_n (pc := 10) (i := 0) 0 dX8_set_10 rfl rfl ?_
    refine mv_getR (pc := 11) (i := 0) (j := 29) dX8_set_11 flX8_23 lx_0 rfl ?_
    refine mv_iload_n (pc := 14) (i := 1) 1 dX8_set_14 rfl rfl ?_
    refine mv_callVi (pc := 15) (As := [.int a1]) (st := []) (i := 29) dX8_set_15 mlX8_92 vmX5_isMissing ⟨Nat.le_of_ble_eq_true rfl, Nat.le_of_ble_eq_true rfl⟩ lx_29 rfl rfl (Nat.le_of_ble_eq_true rfl) (ctX5_isMissing x.2.1 D cA ad F M1 a1) (fun v4 M3 => ?_)
    refine mv_if_eq (pc := 18) (tgt := 27) dX8_set_18 (by decide) ?_ ?_
    · refine mv_aload_n (pc := 27) (i := 0) 0 dX8_set_27 rfl rfl ?_
      refine mv_getR (pc := 28) (i := 0) (j := 29) dX8_set_28 flX8_23 lx_0 rfl ?_
      refine mv_iload_n (pc := 31) (i := 1) 1 dX8_set_31 rfl rfl ?_
      refine mv_iload_n (pc := 32) (i := 2) 2 dX8_set_32 rfl rfl ?_
      refine mv_iconst (pc := 33) dX8_set_33 kci1 ?_
      refine mv_callVi (pc := 34) (As := [.int a1, .int a2, .int (1 : Int32)]) (st := []) (i := 29) dX8_set_34 mlX8_95 vmX5_hasPlaces ⟨Nat.le_of_ble_eq_true rfl, Nat.le_of_ble_eq_true rfl⟩ lx_29 rfl rfl (Nat.le_of_ble_eq_true rfl) (ctX5_hasPlaces x.2.1 D cA ad F M3 a1 a2 (1 : Int32)) (fun v6 M5 => ?_)
      refine mv_if_ne (pc := 37) (tgt := 46) dX8_set_37 (by decide) ?_ ?_
      · refine mv_aload_n (pc := 46) (i := 0) 0 dX8_set_46 rfl rfl ?_
        refine mv_aload_n (pc := 47) (i := 0) 0 dX8_set_47 rfl rfl ?_
        refine mv_getR (pc := 48) (i := 0) (j := 29) dX8_set_48 flX8_23 lx_0 rfl ?_
        refine mv_iload_n (pc := 51) (i := 1) 1 dX8_set_51 rfl rfl ?_
        refine mv_iload_n (pc := 52) (i := 2) 2 dX8_set_52 rfl rfl ?_
        refine mv_iload_n (pc := 53) (i := 3) 3 dX8_set_53 rfl rfl ?_
        refine mv_callVi (pc := 54) (As := [.int a1, .int a2, .int a3]) (st := [.ref (ad 0)]) (i := 29) dX8_set_54 mlX8_99 vmX5_put ⟨Nat.le_of_ble_eq_true rfl, Nat.le_of_ble_eq_true rfl⟩ lx_29 rfl rfl (Nat.le_of_ble_eq_true rfl) (ctX5_put x.2.1 D cA ad F M5 a1 a2 a3) (fun v8 M7 => ?_)
        refine mv_callVi (pc := 57) (As := [.int v8]) (st := []) (i := 0) dX8_set_57 mlX8_89 vmX8_unfound ⟨Nat.le_of_ble_eq_true rfl, Nat.le_of_ble_eq_true rfl⟩ lx_0 rfl rfl (Nat.le_of_ble_eq_true rfl) (ctX8_unfound x.2.1 D cA ad F M7 v8) (fun v10 M9 => ?_)
        exact mv_ireturn (pc := 60) dX8_set_60 rfl
      · refine mv_aload_n (pc := 40) (i := 0) 0 dX8_set_40 rfl rfl ?_
        refine mv_iconst (pc := 41) dX8_set_41 kci2 ?_
        refine mv_callVi (pc := 42) (As := [.int (2 : Int32)]) (st := []) (i := 0) dX8_set_42 mlX8_81 vmX8_found ⟨Nat.le_of_ble_eq_true rfl, Nat.le_of_ble_eq_true rfl⟩ lx_0 rfl rfl (Nat.le_of_ble_eq_true rfl) (ctX8_found x.2.1 D cA ad F M5 (2 : Int32)) (fun v12 M11 => ?_)
        exact mv_ireturn (pc := 45) dX8_set_45 rfl
    · refine mv_aload_n (pc := 21) (i := 0) 0 dX8_set_21 rfl rfl ?_
      refine mv_iconst (pc := 22) dX8_set_22 kci1 ?_
      refine mv_callVi (pc := 23) (As := [.int (1 : Int32)]) (st := []) (i := 0) dX8_set_23 mlX8_81 vmX8_found ⟨Nat.le_of_ble_eq_true rfl, Nat.le_of_ble_eq_true rfl⟩ lx_0 rfl rfl (Nat.le_of_ble_eq_true rfl) (ctX8_found x.2.1 D cA ad F M3 (1 : Int32)) (fun v14 M13 => ?_)
      exact mv_ireturn (pc := 26) dX8_set_26 rfl
  · refine mv_ldc (pc := 7) dX8_set_7 kwX8_80 ?_
    exact mv_ireturn (pc := 9) dX8_set_9 rfl

set_option maxRecDepth 100000 in
set_option maxHeartbeats 4000000 in
theorem ctX8_copy (l : Launch) (D : va_G) (cA : Nat → ClassId) (ad : Nat → Nat) (F : Nat) (M : mv_M) (a1 : Int32) (a2 : Int32) (a3 : Int32) (a4 : Int32) (a5 : Int32) : mv_C l (D, cA, ad, LX) yX8_copy iX8_copy mv_ri [.ref (ad 0), .int a1, .int a2, .int a3, .int a4, .int a5] M (fX8_copy F M a1 a2 a3 a4 a5) := by
  refine mv_C.ofV (ls := [(0, .ref (ad 0)), (1, .int a1), (2, .int a2), (3, .int a3), (4, .int a4), (5, .int a5)]) (by decide) rfl (Nat.le_of_ble_eq_true rfl) rfl ?_
  intro x hxl
  subst hxl
  unfold fX8_copy
  refine mv_iload_n (pc := 0) (i := 1) 1 dX8_copy_0 rfl rfl ?_
  refine mv_callSi (pc := 1) (As := [.int a1]) (st := []) dX8_copy_1 mlX8_73 smX5_isRow ⟨Nat.le_of_ble_eq_true rfl, Nat.le_of_ble_eq_true rfl⟩ rfl (Nat.le_of_ble_eq_true rfl) (ctX5_isRow x.2.1 D cA ad F M a1) (fun v2 M1 => ?_)
  refine mv_if_eq (pc := 4) (tgt := 14) dX8_copy_4 (by decide) ?_ ?_
  · refine mv_ldc (pc := 14) dX8_copy_14 kwX8_80 ?_
    exact mv_ireturn (pc := 16) dX8_copy_16 rfl
  · refine mv_iload_n (pc := 7) (i := 3) 3 dX8_copy_7 rfl rfl ?_
    refine mv_callSi (pc := 8) (As := [.int a3]) (st := []) dX8_copy_8 mlX8_73 smX5_isRow ⟨Nat.le_of_ble_eq_true rfl, Nat.le_of_ble_eq_true rfl⟩ rfl (Nat.le_of_ble_eq_true rfl) (ctX5_isRow x.2.1 D cA ad F M1 a3) (fun v4 M3 => ?_)
    refine mv_if_ne (pc := 11) (tgt := 17) dX8_copy_11 (by decide) ?_ ?_
    · refine mv_aload_n (pc := 17) (i := 0) 0 dX8_copy_17 rfl rfl ?_
      refine mv_getR (pc := 18) (i := 0) (j := 29) dX8_copy_18 flX8_23 lx_0 rfl ?_
      refine mv_iload_n (pc := 21) (i := 1) 1 dX8_copy_21 rfl rfl ?_
      refine mv_callVi (pc := 22) (As := [.int a1]) (st := []) (i := 29) dX8_copy_22 mlX8_92 vmX5_isMissing ⟨Nat.le_of_ble_eq_true rfl, Nat.le_of_ble_eq_true rfl⟩ lx_29 rfl rfl (Nat.le_of_ble_eq_true rfl) (ctX5_isMissing x.2.1 D cA ad F M3 a1) (fun v6 M5 => ?_)
      refine mv_if_ne (pc := 25) (tgt := 39) dX8_copy_25 (by decide) ?_ ?_
      · refine mv_aload_n (pc := 39) (i := 0) 0 dX8_copy_39 rfl rfl ?_
        refine mv_iconst (pc := 40) dX8_copy_40 kci1 ?_
        refine mv_callVi (pc := 41) (As := [.int (1 : Int32)]) (st := []) (i := 0) dX8_copy_41 mlX8_81 vmX8_found ⟨Nat.le_of_ble_eq_true rfl, Nat.le_of_ble_eq_true rfl⟩ lx_0 rfl rfl (Nat.le_of_ble_eq_true rfl) (ctX8_found x.2.1 D cA ad F M5 (1 : Int32)) (fun v8 M7 => ?_)
        exact mv_ireturn (pc := 44) dX8_copy_44 rfl
      · refine mv_aload_n (pc := 28) (i := 0) 0 dX8_copy_28 rfl rfl ?_
        refine mv_getR (pc := 29) (i := 0) (j := 29) dX8_copy_29 flX8_23 lx_0 rfl ?_
        refine mv_iload_n (pc := 32) (i := 3) 3 dX8_copy_32 rfl rfl ?_
        refine mv_callVi (pc := 33) (As := [.int a3]) (st := []) (i := 29) dX8_copy_33 mlX8_92 vmX5_isMissing ⟨Nat.le_of_ble_eq_true rfl, Nat.le_of_ble_eq_true rfl⟩ lx_29 rfl rfl (Nat.le_of_ble_eq_true rfl) (ctX5_isMissing x.2.1 D cA ad F M5 a3) (fun v10 M9 => ?_)
        refine mv_if_eq (pc := 36) (tgt := 45) dX8_copy_36 (by decide) ?_ ?_
        · refine mv_aload_n (pc := 45) (i := 0) 0 dX8_copy_45 rfl rfl ?_
          refine mv_getR (pc := 46) (i := 0) (j := 29) dX8_copy_46 flX8_23 lx_0 rfl ?_
          refine mv_getR (pc := 49) (i := 29) (j := 39) dX8_copy_49 flX8_103 lx_29 rfl ?_
          refine mv_iload_n (pc := 52) (i := 1) 1 dX8_copy_52 rfl rfl ?_
          refine mv_iald (pc := 53) (i := 39) dX8_copy_53 lx_39 ?_
          refine mv_aload_n (pc := 54) (i := 0) 0 dX8_copy_54 rfl rfl ?_
          refine mv_getR (pc := 55) (i := 0) (j := 29) dX8_copy_55 flX8_23 lx_0 rfl ?_
          refine mv_getR (pc := 58) (i := 29) (j := 39) dX8_copy_58 flX8_103 lx_29 rfl ?_
          refine mv_iload_n (pc := 61) (i := 3) 3 dX8_copy_61 rfl rfl ?_
          refine mv_iald (pc := 62) (i := 39) dX8_copy_62 lx_39 ?_
          refine mv_icmp_eq (pc := 63) (tgt := 72) dX8_copy_63 (by decide) ?_ ?_
          · refine mv_aload_n (pc := 72) (i := 0) 0 dX8_copy_72 rfl rfl ?_
            refine mv_getR (pc := 73) (i := 0) (j := 29) dX8_copy_73 flX8_23 lx_0 rfl ?_
            refine mv_iload_n (pc := 76) (i := 1) 1 dX8_copy_76 rfl rfl ?_
            refine mv_iload_n (pc := 77) (i := 2) 2 dX8_copy_77 rfl rfl ?_
            refine mv_iload (pc := 78) (i := 5) 5 dX8_copy_78 rfl ?_
            refine mv_callVi (pc := 80) (As := [.int a1, .int a2, .int a5]) (st := []) (i := 29) dX8_copy_80 mlX8_95 vmX5_hasPlaces ⟨Nat.le_of_ble_eq_true rfl, Nat.le_of_ble_eq_true rfl⟩ lx_29 rfl rfl (Nat.le_of_ble_eq_true rfl) (ctX5_hasPlaces x.2.1 D cA ad F M9 a1 a2 a5) (fun v12 M11 => ?_)
            refine mv_if_eq (pc := 83) (tgt := 101) dX8_copy_83 (by decide) ?_ ?_
            · refine mv_aload_n (pc := 101) (i := 0) 0 dX8_copy_101 rfl rfl ?_
              refine mv_iconst (pc := 102) dX8_copy_102 kci2 ?_
              refine mv_callVi (pc := 103) (As := [.int (2 : Int32)]) (st := []) (i := 0) dX8_copy_103 mlX8_81 vmX8_found ⟨Nat.le_of_ble_eq_true rfl, Nat.le_of_ble_eq_true rfl⟩ lx_0 rfl rfl (Nat.le_of_ble_eq_true rfl) (ctX8_found x.2.1 D cA ad F M11 (2 : Int32)) (fun v14 M13 => ?_)
              exact mv_ireturn (pc := 106) dX8_copy_106 rfl
            · refine mv_aload_n (pc := 86) (i := 0) 0 dX8_copy_86 rfl rfl ?_
              refine mv_getR (pc := 87) (i := 0) (j := 29) dX8_copy_87 flX8_23 lx_0 rfl ?_
              refine mv_iload_n (pc := 90) (i := 3) 3 dX8_copy_90 rfl rfl ?_
              refine mv_iload (pc := 91) (i := 4) 4 dX8_copy_91 rfl ?_
              refine mv_iload (pc := 93) (i := 5) 5 dX8_copy_93 rfl ?_
              refine mv_callVi (pc := 95) (As := [.int a3, .int a4, .int a5]) (st := []) (i := 29) dX8_copy_95 mlX8_95 vmX5_hasPlaces ⟨Nat.le_of_ble_eq_true rfl, Nat.le_of_ble_eq_true rfl⟩ lx_29 rfl rfl (Nat.le_of_ble_eq_true rfl) (ctX5_hasPlaces x.2.1 D cA ad F M11 a3 a4 a5) (fun v16 M15 => ?_)
              refine mv_if_ne (pc := 98) (tgt := 107) dX8_copy_98 (by decide) ?_ ?_
              · refine mv_aload_n (pc := 107) (i := 0) 0 dX8_copy_107 rfl rfl ?_
                refine mv_getR (pc := 108) (i := 0) (j := 29) dX8_copy_108 flX8_23 lx_0 rfl ?_
                refine mv_getR (pc := 111) (i := 29) (j := 30) dX8_copy_111 flX8_107 lx_29 rfl ?_
                refine mv_iload_n (pc := 114) (i := 1) 1 dX8_copy_114 rfl rfl ?_
                refine mv_aald (pc := 115) (i := 30) (b := 31) (t := 1) dX8_copy_115 lx_30 (by decide) (by decide) (fun h17 => ?_)
                refine mv_iload_n (pc := 116) (i := 2) 2 dX8_copy_116 rfl rfl ?_
                refine mv_aload_n (pc := 117) (i := 0) 0 dX8_copy_117 rfl rfl ?_
                refine mv_getR (pc := 118) (i := 0) (j := 29) dX8_copy_118 flX8_23 lx_0 rfl ?_
                refine mv_getR (pc := 121) (i := 29) (j := 30) dX8_copy_121 flX8_107 lx_29 rfl ?_
                refine mv_iload_n (pc := 124) (i := 3) 3 dX8_copy_124 rfl rfl ?_
                refine mv_aald (pc := 125) (i := 30) (b := 31) (t := 1) dX8_copy_125 lx_30 (by decide) (by decide) (fun h18 => ?_)
                refine mv_iload (pc := 126) (i := 4) 4 dX8_copy_126 rfl ?_
                refine mv_iload (pc := 128) (i := 5) 5 dX8_copy_128 rfl ?_
                refine mv_copy (pc := 130) (i := (31 + a1.toNatClampNeg)) (j := (31 + a3.toNatClampNeg)) dX8_copy_130 mwX8_111 (lxr_31 _ h17) (lxr_31 _ h18) ⟨Nat.le_of_ble_eq_true rfl, Nat.le_of_ble_eq_true rfl⟩ (fun M19 => ?_)
                refine mv_aload_n (pc := 133) (i := 0) 0 dX8_copy_133 rfl rfl ?_
                refine mv_iload (pc := 134) (i := 5) 5 dX8_copy_134 rfl ?_
                refine mv_callVi (pc := 136) (As := [.int a5]) (st := []) (i := 0) dX8_copy_136 mlX8_89 vmX8_unfound ⟨Nat.le_of_ble_eq_true rfl, Nat.le_of_ble_eq_true rfl⟩ lx_0 rfl rfl (Nat.le_of_ble_eq_true rfl) (ctX8_unfound x.2.1 D cA ad F M19 a5) (fun v21 M20 => ?_)
                exact mv_ireturn (pc := 139) dX8_copy_139 rfl
              · refine mv_aload_n (pc := 101) (i := 0) 0 dX8_copy_101 rfl rfl ?_
                refine mv_iconst (pc := 102) dX8_copy_102 kci2 ?_
                refine mv_callVi (pc := 103) (As := [.int (2 : Int32)]) (st := []) (i := 0) dX8_copy_103 mlX8_81 vmX8_found ⟨Nat.le_of_ble_eq_true rfl, Nat.le_of_ble_eq_true rfl⟩ lx_0 rfl rfl (Nat.le_of_ble_eq_true rfl) (ctX8_found x.2.1 D cA ad F M15 (2 : Int32)) (fun v23 M22 => ?_)
                exact mv_ireturn (pc := 106) dX8_copy_106 rfl
          · refine mv_aload_n (pc := 66) (i := 0) 0 dX8_copy_66 rfl rfl ?_
            refine mv_iconst (pc := 67) dX8_copy_67 kci5 ?_
            refine mv_callVi (pc := 68) (As := [.int (5 : Int32)]) (st := []) (i := 0) dX8_copy_68 mlX8_81 vmX8_found ⟨Nat.le_of_ble_eq_true rfl, Nat.le_of_ble_eq_true rfl⟩ lx_0 rfl rfl (Nat.le_of_ble_eq_true rfl) (ctX8_found x.2.1 D cA ad F M9 (5 : Int32)) (fun v25 M24 => ?_)
            exact mv_ireturn (pc := 71) dX8_copy_71 rfl
        · refine mv_aload_n (pc := 39) (i := 0) 0 dX8_copy_39 rfl rfl ?_
          refine mv_iconst (pc := 40) dX8_copy_40 kci1 ?_
          refine mv_callVi (pc := 41) (As := [.int (1 : Int32)]) (st := []) (i := 0) dX8_copy_41 mlX8_81 vmX8_found ⟨Nat.le_of_ble_eq_true rfl, Nat.le_of_ble_eq_true rfl⟩ lx_0 rfl rfl (Nat.le_of_ble_eq_true rfl) (ctX8_found x.2.1 D cA ad F M9 (1 : Int32)) (fun v27 M26 => ?_)
          exact mv_ireturn (pc := 44) dX8_copy_44 rfl
    · refine mv_ldc (pc := 14) dX8_copy_14 kwX8_80 ?_
      exact mv_ireturn (pc := 16) dX8_copy_16 rfl

set_option maxRecDepth 100000 in
set_option maxHeartbeats 4000000 in
theorem ctX5_lose (l : Launch) (D : va_G) (cA : Nat → ClassId) (ad : Nat → Nat) (F : Nat) (M : mv_M) (a1 : Int32) : mv_C l (D, cA, ad, LX) yX5_lose iX5_lose mv_ri [.ref (ad 29), .int a1] M (fX5_lose F M a1) := by
  refine mv_C.ofV (ls := [(0, .ref (ad 29)), (1, .int a1)]) (by decide) rfl (Nat.le_of_ble_eq_true rfl) rfl ?_
  intro x hxl
  subst hxl
  unfold fX5_lose
  refine mv_aload_n (pc := 0) (i := 0) 0 dX5_lose_0 rfl rfl ?_
  refine mv_getR (pc := 1) (i := 29) (j := 39) dX5_lose_1 flX5_14 lx_29 rfl ?_
  refine mv_iload_n (pc := 4) (i := 1) 1 dX5_lose_4 rfl rfl ?_
  refine mv_iconst (pc := 5) dX5_lose_5 kcim1 ?_
  refine mv_iast (pc := 6) (i := 39) dX5_lose_6 lx_39 (fun M1 => ?_)
  refine mv_aload_n (pc := 7) (i := 0) 0 dX5_lose_7 rfl rfl ?_
  refine mv_getR (pc := 8) (i := 29) (j := 40) dX5_lose_8 flX5_18 lx_29 rfl ?_
  refine mv_iload_n (pc := 11) (i := 1) 1 dX5_lose_11 rfl rfl ?_
  refine mv_iald (pc := 12) (i := 40) dX5_lose_12 lx_40 ?_
  exact mv_ireturn (pc := 13) dX5_lose_13 rfl

set_option maxRecDepth 100000 in
set_option maxHeartbeats 4000000 in
theorem ctX8_drop (l : Launch) (D : va_G) (cA : Nat → ClassId) (ad : Nat → Nat) (F : Nat) (M : mv_M) (a1 : Int32) : mv_C l (D, cA, ad, LX) yX8_drop iX8_drop mv_ri [.ref (ad 0), .int a1] M (fX8_drop F M a1) := by
  refine mv_C.ofV (ls := [(0, .ref (ad 0)), (1, .int a1)]) (by decide) rfl (Nat.le_of_ble_eq_true rfl) rfl ?_
  intro x hxl
  subst hxl
  unfold fX8_drop
  refine mv_iload_n (pc := 0) (i := 1) 1 dX8_drop_0 rfl rfl ?_
  refine mv_callSi (pc := 1) (As := [.int a1]) (st := []) dX8_drop_1 mlX8_73 smX5_isRow ⟨Nat.le_of_ble_eq_true rfl, Nat.le_of_ble_eq_true rfl⟩ rfl (Nat.le_of_ble_eq_true rfl) (ctX5_isRow x.2.1 D cA ad F M a1) (fun v2 M1 => ?_)
  refine mv_if_ne (pc := 4) (tgt := 10) dX8_drop_4 (by decide) ?_ ?_
  · refine mv_aload_n (pc := 10) (i := 0) 0 dX8_drop_10 rfl rfl ?_
    refine mv_getR (pc := 11) (i := 0) (j := 29) dX8_drop_11 flX8_23 lx_0 rfl ?_
    refine mv_iload_n (pc := 14) (i := 1) 1 dX8_drop_14 rfl rfl ?_
    refine mv_callVi (pc := 15) (As := [.int a1]) (st := []) (i := 29) dX8_drop_15 mlX8_92 vmX5_isMissing ⟨Nat.le_of_ble_eq_true rfl, Nat.le_of_ble_eq_true rfl⟩ lx_29 rfl rfl (Nat.le_of_ble_eq_true rfl) (ctX5_isMissing x.2.1 D cA ad F M1 a1) (fun v4 M3 => ?_)
    refine mv_if_eq (pc := 18) (tgt := 27) dX8_drop_18 (by decide) ?_ ?_
    · refine mv_aload_n (pc := 27) (i := 0) 0 dX8_drop_27 rfl rfl ?_
      refine mv_aload_n (pc := 28) (i := 0) 0 dX8_drop_28 rfl rfl ?_
      refine mv_getR (pc := 29) (i := 0) (j := 29) dX8_drop_29 flX8_23 lx_0 rfl ?_
      refine mv_iload_n (pc := 32) (i := 1) 1 dX8_drop_32 rfl rfl ?_
      refine mv_callVi (pc := 33) (As := [.int a1]) (st := [.ref (ad 0)]) (i := 29) dX8_drop_33 mlX8_117 vmX5_lose ⟨Nat.le_of_ble_eq_true rfl, Nat.le_of_ble_eq_true rfl⟩ lx_29 rfl rfl (Nat.le_of_ble_eq_true rfl) (ctX5_lose x.2.1 D cA ad F M3 a1) (fun v6 M5 => ?_)
      refine mv_callVi (pc := 36) (As := [.int v6]) (st := []) (i := 0) dX8_drop_36 mlX8_89 vmX8_unfound ⟨Nat.le_of_ble_eq_true rfl, Nat.le_of_ble_eq_true rfl⟩ lx_0 rfl rfl (Nat.le_of_ble_eq_true rfl) (ctX8_unfound x.2.1 D cA ad F M5 v6) (fun v8 M7 => ?_)
      exact mv_ireturn (pc := 39) dX8_drop_39 rfl
    · refine mv_aload_n (pc := 21) (i := 0) 0 dX8_drop_21 rfl rfl ?_
      refine mv_iconst (pc := 22) dX8_drop_22 kci1 ?_
      refine mv_callVi (pc := 23) (As := [.int (1 : Int32)]) (st := []) (i := 0) dX8_drop_23 mlX8_81 vmX8_found ⟨Nat.le_of_ble_eq_true rfl, Nat.le_of_ble_eq_true rfl⟩ lx_0 rfl rfl (Nat.le_of_ble_eq_true rfl) (ctX8_found x.2.1 D cA ad F M3 (1 : Int32)) (fun v10 M9 => ?_)
      exact mv_ireturn (pc := 26) dX8_drop_26 rfl
  · refine mv_ldc (pc := 7) dX8_drop_7 kwX8_80 ?_
    exact mv_ireturn (pc := 9) dX8_drop_9 rfl

set_option maxRecDepth 100000 in
set_option maxHeartbeats 4000000 in
theorem ctX4_isFull (l : Launch) (D : va_G) (cA : Nat → ClassId) (ad : Nat → Nat) (F : Nat) (M : mv_M) : mv_C l (D, cA, ad, LX) yX4_isFull iX4_isFull mv_ri [.ref (ad 41)] M (fX4_isFull F M) := by
  refine mv_C.ofV (ls := [(0, .ref (ad 41))]) (by decide) rfl (Nat.le_of_ble_eq_true rfl) rfl ?_
  intro x hxl
  subst hxl
  unfold fX4_isFull
  refine mv_aload_n (pc := 0) (i := 0) 0 dX4_isFull_0 rfl rfl ?_
  refine mv_getI (pc := 1) (i := 41) dX4_isFull_1 flX4_22 lx_41 rfl ?_
  refine mv_sipush (pc := 4) dX4_isFull_4 kcs140 ?_
  refine mv_icmp_lt (pc := 7) (tgt := 14) dX4_isFull_7 (by decide) ?_ ?_
  · refine mv_iconst (pc := 14) dX4_isFull_14 kci0 ?_
    exact mv_zreturn (pc := 15) dX4_isFull_15 rfl
  · refine mv_iconst (pc := 10) dX4_isFull_10 kci1 ?_
    refine mv_goto (pc := 11) (tgt := 15) dX4_isFull_11 (by decide) ?_
    exact mv_zreturn (pc := 15) dX4_isFull_15 rfl

set_option maxRecDepth 100000 in
set_option maxHeartbeats 4000000 in
theorem ctX4_append (l : Launch) (D : va_G) (cA : Nat → ClassId) (ad : Nat → Nat) (F : Nat) (M : mv_M) (a1 : Int32) : mv_C l (D, cA, ad, LX) yX4_append iX4_append mv_ri [.ref (ad 41), .int a1] M (fX4_append F M a1) := by
  refine mv_C.ofV (ls := [(0, .ref (ad 41)), (1, .int a1)]) (by decide) rfl (Nat.le_of_ble_eq_true rfl) rfl ?_
  intro x hxl
  subst hxl
  unfold fX4_append
  refine mv_aload_n (pc := 0) (i := 0) 0 dX4_append_0 rfl rfl ?_
  refine mv_getR (pc := 1) (i := 41) (j := 42) dX4_append_1 flX4_11 lx_41 rfl ?_
  refine mv_aload_n (pc := 4) (i := 0) 0 dX4_append_4 rfl rfl ?_
  refine mv_getI (pc := 5) (i := 41) dX4_append_5 flX4_22 lx_41 rfl ?_
  refine mv_iload_n (pc := 8) (i := 1) 1 dX4_append_8 rfl rfl ?_
  refine mv_iast (pc := 9) (i := 42) dX4_append_9 lx_42 (fun M1 => ?_)
  refine mv_aload_n (pc := 10) (i := 0) 0 dX4_append_10 rfl rfl ?_
  refine mv_dup (pc := 11) dX4_append_11 rfl ?_
  refine mv_getI (pc := 12) (i := 41) dX4_append_12 flX4_22 lx_41 rfl ?_
  refine mv_iconst (pc := 15) dX4_append_15 kci1 ?_
  refine mv_iadd (pc := 16) dX4_append_16 ?_
  refine mv_putI (pc := 17) (i := 41) dX4_append_17 flX4_22 (Or.inl fpX4_1) lx_41 rfl (fun M2 => ?_)
  refine mv_aload_n (pc := 20) (i := 0) 0 dX4_append_20 rfl rfl ?_
  refine mv_getI (pc := 21) (i := 41) dX4_append_21 flX4_22 lx_41 rfl ?_
  exact mv_ireturn (pc := 24) dX4_append_24 rfl

set_option maxRecDepth 100000 in
set_option maxHeartbeats 4000000 in
theorem ctX8_feed (l : Launch) (D : va_G) (cA : Nat → ClassId) (ad : Nat → Nat) (F : Nat) (M : mv_M) (a1 : Int32) : mv_C l (D, cA, ad, LX) yX8_feed iX8_feed mv_ri [.ref (ad 0), .int a1] M (fX8_feed F M a1) := by
  refine mv_C.ofV (ls := [(0, .ref (ad 0)), (1, .int a1)]) (by decide) rfl (Nat.le_of_ble_eq_true rfl) rfl ?_
  intro x hxl
  subst hxl
  unfold fX8_feed
  refine mv_iload_n (pc := 0) (i := 1) 1 dX8_feed_0 rfl rfl ?_
  refine mv_if_lt (pc := 1) (tgt := 11) dX8_feed_1 (by decide) ?_ ?_
  · refine mv_ldc (pc := 11) dX8_feed_11 kwX8_80 ?_
    exact mv_ireturn (pc := 13) dX8_feed_13 rfl
  · refine mv_iload_n (pc := 4) (i := 1) 1 dX8_feed_4 rfl rfl ?_
    refine mv_sipush (pc := 5) dX8_feed_5 kcs255 ?_
    refine mv_icmp_le (pc := 8) (tgt := 14) dX8_feed_8 (by decide) ?_ ?_
    · refine mv_aload_n (pc := 14) (i := 0) 0 dX8_feed_14 rfl rfl ?_
      refine mv_getR (pc := 15) (i := 0) (j := 41) dX8_feed_15 flX8_30 lx_0 rfl ?_
      refine mv_callVi (pc := 18) (As := []) (st := []) (i := 41) dX8_feed_18 mlX8_120 vmX4_isFull ⟨Nat.le_of_ble_eq_true rfl, Nat.le_of_ble_eq_true rfl⟩ lx_41 rfl rfl (Nat.le_of_ble_eq_true rfl) (ctX4_isFull x.2.1 D cA ad F M) (fun v2 M1 => ?_)
      refine mv_if_eq (pc := 21) (tgt := 27) dX8_feed_21 (by decide) ?_ ?_
      · refine mv_aload_n (pc := 27) (i := 0) 0 dX8_feed_27 rfl rfl ?_
        refine mv_getR (pc := 28) (i := 0) (j := 41) dX8_feed_28 flX8_30 lx_0 rfl ?_
        refine mv_iload_n (pc := 31) (i := 1) 1 dX8_feed_31 rfl rfl ?_
        refine mv_callVi (pc := 32) (As := [.int a1]) (st := []) (i := 41) dX8_feed_32 mlX8_125 vmX4_append ⟨Nat.le_of_ble_eq_true rfl, Nat.le_of_ble_eq_true rfl⟩ lx_41 rfl rfl (Nat.le_of_ble_eq_true rfl) (ctX4_append x.2.1 D cA ad F M1 a1) (fun v4 M3 => ?_)
        exact mv_ireturn (pc := 35) dX8_feed_35 rfl
      · refine mv_ldc (pc := 24) dX8_feed_24 kwX8_124 ?_
        exact mv_ireturn (pc := 26) dX8_feed_26 rfl
    · refine mv_ldc (pc := 11) dX8_feed_11 kwX8_80 ?_
      exact mv_ireturn (pc := 13) dX8_feed_13 rfl

set_option maxRecDepth 100000 in
set_option maxHeartbeats 4000000 in
theorem ctX4_byteAt (l : Launch) (D : va_G) (cA : Nat → ClassId) (ad : Nat → Nat) (F : Nat) (M : mv_M) (a1 : Int32) : mv_C l (D, cA, ad, LX) yX4_byteAt iX4_byteAt mv_ri [.ref (ad 41), .int a1] M (fX4_byteAt F M a1) := by
  refine mv_C.ofV (ls := [(0, .ref (ad 41)), (1, .int a1)]) (by decide) rfl (Nat.le_of_ble_eq_true rfl) rfl ?_
  intro x hxl
  subst hxl
  unfold fX4_byteAt
  refine mv_iload_n (pc := 0) (i := 1) 1 dX4_byteAt_0 rfl rfl ?_
  refine mv_aload_n (pc := 1) (i := 0) 0 dX4_byteAt_1 rfl rfl ?_
  refine mv_getI (pc := 2) (i := 41) dX4_byteAt_2 flX4_22 lx_41 rfl ?_
  refine mv_icmp_ge (pc := 5) (tgt := 17) dX4_byteAt_5 (by decide) ?_ ?_
  · refine mv_iconst (pc := 17) dX4_byteAt_17 kcim1 ?_
    exact mv_ireturn (pc := 18) dX4_byteAt_18 rfl
  · refine mv_aload_n (pc := 8) (i := 0) 0 dX4_byteAt_8 rfl rfl ?_
    refine mv_getR (pc := 9) (i := 41) (j := 42) dX4_byteAt_9 flX4_11 lx_41 rfl ?_
    refine mv_iload_n (pc := 12) (i := 1) 1 dX4_byteAt_12 rfl rfl ?_
    refine mv_iald (pc := 13) (i := 42) dX4_byteAt_13 lx_42 ?_
    refine mv_goto (pc := 14) (tgt := 18) dX4_byteAt_14 (by decide) ?_
    exact mv_ireturn (pc := 18) dX4_byteAt_18 rfl

set_option maxRecDepth 100000 in
set_option maxHeartbeats 4000000 in
theorem ctX4_here (l : Launch) (D : va_G) (cA : Nat → ClassId) (ad : Nat → Nat) (F : Nat) (M : mv_M) : mv_C l (D, cA, ad, LX) yX4_here iX4_here mv_ri [.ref (ad 41)] M (fX4_here F M) := by
  refine mv_C.ofV (ls := [(0, .ref (ad 41))]) (by decide) rfl (Nat.le_of_ble_eq_true rfl) rfl ?_
  intro x hxl
  subst hxl
  unfold fX4_here
  refine mv_aload_n (pc := 0) (i := 0) 0 dX4_here_0 rfl rfl ?_
  refine mv_aload_n (pc := 1) (i := 0) 0 dX4_here_1 rfl rfl ?_
  refine mv_getI (pc := 2) (i := 41) dX4_here_2 flX4_26 lx_41 rfl ?_
  refine mv_callVi (pc := 5) (As := [.int (M.1 41 3)]) (st := []) (i := 41) dX4_here_5 mlX4_105 vmX4_byteAt ⟨Nat.le_of_ble_eq_true rfl, Nat.le_of_ble_eq_true rfl⟩ lx_41 rfl rfl (Nat.le_of_ble_eq_true rfl) (ctX4_byteAt x.2.1 D cA ad F M (M.1 41 3)) (fun v2 M1 => ?_)
  exact mv_ireturn (pc := 8) dX4_here_8 rfl

set_option maxRecDepth 100000 in
set_option maxHeartbeats 4000000 in
theorem ctX4_refuse (l : Launch) (D : va_G) (cA : Nat → ClassId) (ad : Nat → Nat) (F : Nat) (M : mv_M) (a1 : Int32) : mv_C l (D, cA, ad, LX) yX4_refuse iX4_refuse mv_ri [.ref (ad 41), .int a1] M (fX4_refuse F M a1) := by
  refine mv_C.ofV (ls := [(0, .ref (ad 41)), (1, .int a1)]) (by decide) rfl (Nat.le_of_ble_eq_true rfl) rfl ?_
  intro x hxl
  subst hxl
  unfold fX4_refuse
  refine mv_aload_n (pc := 0) (i := 0) 0 dX4_refuse_0 rfl rfl ?_
  refine mv_iload_n (pc := 1) (i := 1) 1 dX4_refuse_1 rfl rfl ?_
  refine mv_putI (pc := 2) (i := 41) dX4_refuse_2 flX4_29 (Or.inl fpX4_4) lx_41 rfl (fun M1 => ?_)
  refine mv_iconst (pc := 5) dX4_refuse_5 kci0 ?_
  exact mv_zreturn (pc := 6) dX4_refuse_6 rfl

set_option maxRecDepth 100000 in
set_option maxHeartbeats 4000000 in
theorem ctX4_take (l : Launch) (D : va_G) (cA : Nat → ClassId) (ad : Nat → Nat) (F : Nat) (M : mv_M) (a1 : Int32) : mv_C l (D, cA, ad, LX) yX4_take iX4_take mv_ri [.ref (ad 41), .int a1] M (fX4_take F M a1) := by
  refine mv_C.ofV (ls := [(0, .ref (ad 41)), (1, .int a1)]) (by decide) rfl (Nat.le_of_ble_eq_true rfl) rfl ?_
  intro x hxl
  subst hxl
  unfold fX4_take
  refine mv_aload_n (pc := 0) (i := 0) 0 dX4_take_0 rfl rfl ?_
  refine mv_callVi (pc := 1) (As := []) (st := []) (i := 41) dX4_take_1 mlX4_73 vmX4_here ⟨Nat.le_of_ble_eq_true rfl, Nat.le_of_ble_eq_true rfl⟩ lx_41 rfl rfl (Nat.le_of_ble_eq_true rfl) (ctX4_here x.2.1 D cA ad F M) (fun v2 M1 => ?_)
  refine mv_iload_n (pc := 4) (i := 1) 1 dX4_take_4 rfl rfl ?_
  refine mv_icmp_eq (pc := 5) (tgt := 14) dX4_take_5 (by decide) ?_ ?_
  · refine mv_aload_n (pc := 14) (i := 0) 0 dX4_take_14 rfl rfl ?_
    refine mv_dup (pc := 15) dX4_take_15 rfl ?_
    refine mv_getI (pc := 16) (i := 41) dX4_take_16 flX4_26 lx_41 rfl ?_
    refine mv_iconst (pc := 19) dX4_take_19 kci1 ?_
    refine mv_iadd (pc := 20) dX4_take_20 ?_
    refine mv_putI (pc := 21) (i := 41) dX4_take_21 flX4_26 (Or.inl fpX4_3) lx_41 rfl (fun M3 => ?_)
    refine mv_iconst (pc := 24) dX4_take_24 kci1 ?_
    exact mv_zreturn (pc := 25) dX4_take_25 rfl
  · refine mv_aload_n (pc := 8) (i := 0) 0 dX4_take_8 rfl rfl ?_
    refine mv_iconst (pc := 9) dX4_take_9 kci1 ?_
    refine mv_callVi (pc := 10) (As := [.int (1 : Int32)]) (st := []) (i := 41) dX4_take_10 mlX4_81 vmX4_refuse ⟨Nat.le_of_ble_eq_true rfl, Nat.le_of_ble_eq_true rfl⟩ lx_41 rfl rfl (Nat.le_of_ble_eq_true rfl) (ctX4_refuse x.2.1 D cA ad F M1 (1 : Int32)) (fun v5 M4 => ?_)
    exact mv_zreturn (pc := 13) dX4_take_13 rfl

set_option maxRecDepth 100000 in
set_option maxHeartbeats 4000000 in
theorem ctX4_isFigure (l : Launch) (D : va_G) (cA : Nat → ClassId) (ad : Nat → Nat) (F : Nat) (M : mv_M) (a1 : Int32) : mv_C l (D, cA, ad, LX) yX4_isFigure iX4_isFigure mv_ri [.int a1] M (fX4_isFigure F M a1) := by
  refine mv_C.ofV (ls := [(0, .int a1)]) (by decide) rfl (Nat.le_of_ble_eq_true rfl) rfl ?_
  intro x hxl
  subst hxl
  unfold fX4_isFigure
  refine mv_iload_n (pc := 0) (i := 0) 0 dX4_isFigure_0 rfl rfl ?_
  refine mv_bipush (pc := 1) dX4_isFigure_1 kcb48 ?_
  refine mv_icmp_lt (pc := 3) (tgt := 16) dX4_isFigure_3 (by decide) ?_ ?_
  · refine mv_iconst (pc := 16) dX4_isFigure_16 kci0 ?_
    exact mv_zreturn (pc := 17) dX4_isFigure_17 rfl
  · refine mv_iload_n (pc := 6) (i := 0) 0 dX4_isFigure_6 rfl rfl ?_
    refine mv_bipush (pc := 7) dX4_isFigure_7 kcb57 ?_
    refine mv_icmp_gt (pc := 9) (tgt := 16) dX4_isFigure_9 (by decide) ?_ ?_
    · refine mv_iconst (pc := 16) dX4_isFigure_16 kci0 ?_
      exact mv_zreturn (pc := 17) dX4_isFigure_17 rfl
    · refine mv_iconst (pc := 12) dX4_isFigure_12 kci1 ?_
      refine mv_goto (pc := 13) (tgt := 17) dX4_isFigure_13 (by decide) ?_
      exact mv_zreturn (pc := 17) dX4_isFigure_17 rfl

set_option maxRecDepth 100000 in
set_option maxHeartbeats 4000000 in
theorem ctX4_takeNumber (l : Launch) (D : va_G) (cA : Nat → ClassId) (ad : Nat → Nat) (F : Nat) (M : mv_M) (a1 : Int32) (a2 : Int32) : mv_C l (D, cA, ad, LX) yX4_takeNumber iX4_takeNumber mv_ri [.ref (ad 41), .int a1, .int a2] M (fX4_takeNumber F M a1 a2) := by
  refine mv_C.ofV (ls := [(0, .ref (ad 41)), (1, .int a1), (2, .int a2)]) (by decide) rfl (Nat.le_of_ble_eq_true rfl) rfl ?_
  intro x hxl
  subst hxl
  unfold fX4_takeNumber
  refine mv_iconst (pc := 0) dX4_takeNumber_0 kci0 ?_
  refine mv_istore_n (pc := 1) (i := 3) (ls' := [(0, .ref (ad 41)), (1, .int a1), (2, .int a2)]) dX4_takeNumber_1 rfl (Nat.le_of_ble_eq_true rfl) rfl (fun v1 => ?_)
  refine mv_iconst (pc := 2) dX4_takeNumber_2 kci0 ?_
  refine mv_istore (pc := 3) (i := 4) (ls' := [(3, .int v1), (0, .ref (ad 41)), (1, .int a1), (2, .int a2)]) dX4_takeNumber_3 (Nat.le_of_ble_eq_true rfl) rfl (fun v2 => ?_)
  refine mv_jp (pj := 53) (lj := fun (s3 : Int32 × Int32 × mv_M) => [(0, .ref (ad 41)), (1, .int a1), (2, .int a2), (3, .int s3.1), (4, .int s3.2.1)]) (sj := fun (s3 : Int32 × Int32 × mv_M) => []) (Mj := fun (s3 : Int32 × Int32 × mv_M) => s3.2.2) ?_ ?_
  · intro s3
    refine mv_iload_n (pc := 53) (i := 3) 3 dX4_takeNumber_53 rfl rfl ?_
    refine mv_if_eq (pc := 54) (tgt := 62) dX4_takeNumber_54 (by decide) ?_ ?_
    · refine mv_aload_n (pc := 62) (i := 0) 0 dX4_takeNumber_62 rfl rfl ?_
      refine mv_iconst (pc := 63) dX4_takeNumber_63 kci1 ?_
      refine mv_callVi (pc := 64) (As := [.int (1 : Int32)]) (st := []) (i := 41) dX4_takeNumber_64 mlX4_81 vmX4_refuse ⟨Nat.le_of_ble_eq_true rfl, Nat.le_of_ble_eq_true rfl⟩ lx_41 rfl rfl (Nat.le_of_ble_eq_true rfl) (ctX4_refuse x.2.1 D cA ad F s3.2.2 (1 : Int32)) (fun v6 M5 => ?_)
      refine mv_pop (pc := 67) dX4_takeNumber_67 rfl ?_
      refine mv_iconst (pc := 68) dX4_takeNumber_68 kcim1 ?_
      exact mv_ireturn (pc := 69) dX4_takeNumber_69 rfl
    · refine mv_iload_n (pc := 57) (i := 3) 3 dX4_takeNumber_57 rfl rfl ?_
      refine mv_iconst (pc := 58) dX4_takeNumber_58 kci2 ?_
      refine mv_icmp_le (pc := 59) (tgt := 70) dX4_takeNumber_59 (by decide) ?_ ?_
      · refine mv_iload (pc := 70) (i := 4) 4 dX4_takeNumber_70 rfl ?_
        refine mv_iload_n (pc := 72) (i := 1) 1 dX4_takeNumber_72 rfl rfl ?_
        refine mv_icmp_lt (pc := 73) (tgt := 82) dX4_takeNumber_73 (by decide) ?_ ?_
        · refine mv_aload_n (pc := 82) (i := 0) 0 dX4_takeNumber_82 rfl rfl ?_
          refine mv_iconst (pc := 83) dX4_takeNumber_83 kci2 ?_
          refine mv_callVi (pc := 84) (As := [.int (2 : Int32)]) (st := []) (i := 41) dX4_takeNumber_84 mlX4_81 vmX4_refuse ⟨Nat.le_of_ble_eq_true rfl, Nat.le_of_ble_eq_true rfl⟩ lx_41 rfl rfl (Nat.le_of_ble_eq_true rfl) (ctX4_refuse x.2.1 D cA ad F s3.2.2 (2 : Int32)) (fun v8 M7 => ?_)
          refine mv_pop (pc := 87) dX4_takeNumber_87 rfl ?_
          refine mv_iconst (pc := 88) dX4_takeNumber_88 kcim1 ?_
          exact mv_ireturn (pc := 89) dX4_takeNumber_89 rfl
        · refine mv_iload (pc := 76) (i := 4) 4 dX4_takeNumber_76 rfl ?_
          refine mv_iload_n (pc := 78) (i := 2) 2 dX4_takeNumber_78 rfl rfl ?_
          refine mv_icmp_le (pc := 79) (tgt := 90) dX4_takeNumber_79 (by decide) ?_ ?_
          · refine mv_aload_n (pc := 90) (i := 0) 0 dX4_takeNumber_90 rfl rfl ?_
            refine mv_dup (pc := 91) dX4_takeNumber_91 rfl ?_
            refine mv_getI (pc := 92) (i := 41) dX4_takeNumber_92 flX4_26 lx_41 rfl ?_
            refine mv_iload_n (pc := 95) (i := 3) 3 dX4_takeNumber_95 rfl rfl ?_
            refine mv_iadd (pc := 96) dX4_takeNumber_96 ?_
            refine mv_putI (pc := 97) (i := 41) dX4_takeNumber_97 flX4_26 (Or.inl fpX4_3) lx_41 rfl (fun M9 => ?_)
            refine mv_iload (pc := 100) (i := 4) 4 dX4_takeNumber_100 rfl ?_
            exact mv_ireturn (pc := 102) dX4_takeNumber_102 rfl
          · refine mv_aload_n (pc := 82) (i := 0) 0 dX4_takeNumber_82 rfl rfl ?_
            refine mv_iconst (pc := 83) dX4_takeNumber_83 kci2 ?_
            refine mv_callVi (pc := 84) (As := [.int (2 : Int32)]) (st := []) (i := 41) dX4_takeNumber_84 mlX4_81 vmX4_refuse ⟨Nat.le_of_ble_eq_true rfl, Nat.le_of_ble_eq_true rfl⟩ lx_41 rfl rfl (Nat.le_of_ble_eq_true rfl) (ctX4_refuse x.2.1 D cA ad F s3.2.2 (2 : Int32)) (fun v11 M10 => ?_)
            refine mv_pop (pc := 87) dX4_takeNumber_87 rfl ?_
            refine mv_iconst (pc := 88) dX4_takeNumber_88 kcim1 ?_
            exact mv_ireturn (pc := 89) dX4_takeNumber_89 rfl
      · refine mv_aload_n (pc := 62) (i := 0) 0 dX4_takeNumber_62 rfl rfl ?_
        refine mv_iconst (pc := 63) dX4_takeNumber_63 kci1 ?_
        refine mv_callVi (pc := 64) (As := [.int (1 : Int32)]) (st := []) (i := 41) dX4_takeNumber_64 mlX4_81 vmX4_refuse ⟨Nat.le_of_ble_eq_true rfl, Nat.le_of_ble_eq_true rfl⟩ lx_41 rfl rfl (Nat.le_of_ble_eq_true rfl) (ctX4_refuse x.2.1 D cA ad F s3.2.2 (1 : Int32)) (fun v13 M12 => ?_)
        refine mv_pop (pc := 67) dX4_takeNumber_67 rfl ?_
        refine mv_iconst (pc := 68) dX4_takeNumber_68 kcim1 ?_
        exact mv_ireturn (pc := 69) dX4_takeNumber_69 rfl
  · intro j4 hj4
    refine mv_sub [2, 3, 4, 1, 0] rfl ?_
    refine mv_loop (pc := 5) (lj := fun (s14 : Int32 × Int32 × mv_M) => [(0, .ref (ad 41)), (1, .int a1), (2, .int a2), (3, .int s14.1), (4, .int s14.2.1)]) (Mj := fun (s14 : Int32 × Int32 × mv_M) => s14.2.2) (B := bX4_takeNumber_5 j4 F) ?_ F (v1, v2, M)
    intro f15 hf15 s14
    unfold bX4_takeNumber_5
    refine mv_iload_n (pc := 5) (i := 3) 3 dX4_takeNumber_5 rfl rfl ?_
    refine mv_iconst (pc := 6) dX4_takeNumber_6 kci2 ?_
    refine mv_icmp_gt (pc := 7) (tgt := 53) dX4_takeNumber_7 (by decide) ?_ ?_
    · exact hj4 (s14.1, s14.2.1, s14.2.2)
    · refine mv_aload_n (pc := 10) (i := 0) 0 dX4_takeNumber_10 rfl rfl ?_
      refine mv_aload_n (pc := 11) (i := 0) 0 dX4_takeNumber_11 rfl rfl ?_
      refine mv_getI (pc := 12) (i := 41) dX4_takeNumber_12 flX4_26 lx_41 rfl ?_
      refine mv_iload_n (pc := 15) (i := 3) 3 dX4_takeNumber_15 rfl rfl ?_
      refine mv_iadd (pc := 16) dX4_takeNumber_16 ?_
      refine mv_callVi (pc := 17) (As := [.int ((s14.2.2.1 41 3) + s14.1)]) (st := []) (i := 41) dX4_takeNumber_17 mlX4_105 vmX4_byteAt ⟨Nat.le_of_ble_eq_true rfl, Nat.le_of_ble_eq_true rfl⟩ lx_41 rfl rfl (Nat.le_of_ble_eq_true rfl) (ctX4_byteAt x.2.1 D cA ad F s14.2.2 ((s14.2.2.1 41 3) + s14.1)) (fun v17 M16 => ?_)
      refine mv_callSi (pc := 20) (As := [.int v17]) (st := []) dX4_takeNumber_20 mlX4_108 smX4_isFigure ⟨Nat.le_of_ble_eq_true rfl, Nat.le_of_ble_eq_true rfl⟩ rfl (Nat.le_of_ble_eq_true rfl) (ctX4_isFigure x.2.1 D cA ad F M16 v17) (fun v19 M18 => ?_)
      refine mv_if_eq (pc := 23) (tgt := 53) dX4_takeNumber_23 (by decide) ?_ ?_
      · exact hj4 (s14.1, s14.2.1, M18)
      · refine mv_iload (pc := 26) (i := 4) 4 dX4_takeNumber_26 rfl ?_
        refine mv_bipush (pc := 28) dX4_takeNumber_28 kcb10 ?_
        refine mv_imul (pc := 30) dX4_takeNumber_30 ?_
        refine mv_aload_n (pc := 31) (i := 0) 0 dX4_takeNumber_31 rfl rfl ?_
        refine mv_aload_n (pc := 32) (i := 0) 0 dX4_takeNumber_32 rfl rfl ?_
        refine mv_getI (pc := 33) (i := 41) dX4_takeNumber_33 flX4_26 lx_41 rfl ?_
        refine mv_iload_n (pc := 36) (i := 3) 3 dX4_takeNumber_36 rfl rfl ?_
        refine mv_iadd (pc := 37) dX4_takeNumber_37 ?_
        refine mv_callVi (pc := 38) (As := [.int ((M18.1 41 3) + s14.1)]) (st := [.int (s14.2.1 * (10 : Int32))]) (i := 41) dX4_takeNumber_38 mlX4_105 vmX4_byteAt ⟨Nat.le_of_ble_eq_true rfl, Nat.le_of_ble_eq_true rfl⟩ lx_41 rfl rfl (Nat.le_of_ble_eq_true rfl) (ctX4_byteAt x.2.1 D cA ad F M18 ((M18.1 41 3) + s14.1)) (fun v21 M20 => ?_)
        refine mv_iadd (pc := 41) dX4_takeNumber_41 ?_
        refine mv_bipush (pc := 42) dX4_takeNumber_42 kcb48 ?_
        refine mv_isub (pc := 44) dX4_takeNumber_44 ?_
        refine mv_istore (pc := 45) (i := 4) (ls' := [(0, .ref (ad 41)), (1, .int a1), (2, .int a2), (3, .int s14.1)]) dX4_takeNumber_45 (Nat.le_of_ble_eq_true rfl) rfl (fun v22 => ?_)
        refine mv_iinc (pc := 47) (i := 3) (ls' := [(4, .int v22), (0, .ref (ad 41)), (1, .int a1), (2, .int a2)]) 4 dX4_takeNumber_47 rfl kci1 (Nat.le_of_ble_eq_true rfl) rfl (fun v23 => ?_)
        refine mv_goto (pc := 50) (tgt := 5) dX4_takeNumber_50 (by decide) ?_
        refine mv_sub [2, 3, 4, 0, 1] rfl ?_
        exact hf15 (v23, v22, M20)

set_option maxRecDepth 100000 in
set_option maxHeartbeats 4000000 in
theorem ctX4_readLaw (l : Launch) (D : va_G) (cA : Nat → ClassId) (ad : Nat → Nat) (F : Nat) (M : mv_M) : mv_C l (D, cA, ad, LX) yX4_readLaw iX4_readLaw mv_ri [.ref (ad 41)] M (fX4_readLaw F M) := by
  refine mv_C.ofV (ls := [(0, .ref (ad 41))]) (by decide) rfl (Nat.le_of_ble_eq_true rfl) rfl ?_
  intro x hxl
  subst hxl
  unfold fX4_readLaw
  refine mv_aload_n (pc := 0) (i := 0) 0 dX4_readLaw_0 rfl rfl ?_
  refine mv_bipush (pc := 1) dX4_readLaw_1 kcb119 ?_
  refine mv_callVi (pc := 3) (As := [.int (119 : Int32)]) (st := []) (i := 41) dX4_readLaw_3 mlX4_51 vmX4_take ⟨Nat.le_of_ble_eq_true rfl, Nat.le_of_ble_eq_true rfl⟩ lx_41 rfl rfl (Nat.le_of_ble_eq_true rfl) (ctX4_take x.2.1 D cA ad F M (119 : Int32)) (fun v2 M1 => ?_)
  refine mv_if_ne (pc := 6) (tgt := 11) dX4_readLaw_6 (by decide) ?_ ?_
  · refine mv_aload_n (pc := 11) (i := 0) 0 dX4_readLaw_11 rfl rfl ?_
    refine mv_iconst (pc := 12) dX4_readLaw_12 kci1 ?_
    refine mv_bipush (pc := 13) dX4_readLaw_13 kcb8 ?_
    refine mv_callVi (pc := 15) (As := [.int (1 : Int32), .int (8 : Int32)]) (st := []) (i := 41) dX4_readLaw_15 mlX4_55 vmX4_takeNumber ⟨Nat.le_of_ble_eq_true rfl, Nat.le_of_ble_eq_true rfl⟩ lx_41 rfl rfl (Nat.le_of_ble_eq_true rfl) (ctX4_takeNumber x.2.1 D cA ad F M1 (1 : Int32) (8 : Int32)) (fun v4 M3 => ?_)
    refine mv_istore_n (pc := 18) (i := 1) (ls' := [(0, .ref (ad 41))]) dX4_readLaw_18 rfl (Nat.le_of_ble_eq_true rfl) rfl (fun v5 => ?_)
    refine mv_aload_n (pc := 19) (i := 0) 1 dX4_readLaw_19 rfl rfl ?_
    refine mv_getR (pc := 20) (i := 41) (j := 43) dX4_readLaw_20 flX4_18 lx_41 rfl ?_
    refine mv_iload_n (pc := 23) (i := 1) 0 dX4_readLaw_23 rfl rfl ?_
    refine mv_iconst (pc := 24) dX4_readLaw_24 kci0 ?_
    refine mv_max (pc := 25) dX4_readLaw_25 mwX4_59 mx_max ⟨Nat.le_of_ble_eq_true rfl, Nat.le_of_ble_eq_true rfl⟩ ?_
    refine mv_putI (pc := 28) (i := 43) dX4_readLaw_28 flX4_32 (Or.inl fpX7_0) lx_43 rfl (fun M6 => ?_)
    refine mv_iload_n (pc := 31) (i := 1) 0 dX4_readLaw_31 rfl rfl ?_
    refine mv_if_lt (pc := 32) (tgt := 48) dX4_readLaw_32 (by decide) ?_ ?_
    · refine mv_iconst (pc := 48) dX4_readLaw_48 kci0 ?_
      exact mv_zreturn (pc := 49) dX4_readLaw_49 rfl
    · refine mv_aload_n (pc := 35) (i := 0) 1 dX4_readLaw_35 rfl rfl ?_
      refine mv_bipush (pc := 36) dX4_readLaw_36 kcb59 ?_
      refine mv_callVi (pc := 38) (As := [.int (59 : Int32)]) (st := []) (i := 41) dX4_readLaw_38 mlX4_51 vmX4_take ⟨Nat.le_of_ble_eq_true rfl, Nat.le_of_ble_eq_true rfl⟩ lx_41 rfl rfl (Nat.le_of_ble_eq_true rfl) (ctX4_take x.2.1 D cA ad F M6 (59 : Int32)) (fun v8 M7 => ?_)
      refine mv_if_eq (pc := 41) (tgt := 48) dX4_readLaw_41 (by decide) ?_ ?_
      · refine mv_iconst (pc := 48) dX4_readLaw_48 kci0 ?_
        exact mv_zreturn (pc := 49) dX4_readLaw_49 rfl
      · refine mv_iconst (pc := 44) dX4_readLaw_44 kci1 ?_
        refine mv_goto (pc := 45) (tgt := 49) dX4_readLaw_45 (by decide) ?_
        exact mv_zreturn (pc := 49) dX4_readLaw_49 rfl
  · refine mv_iconst (pc := 9) dX4_readLaw_9 kci0 ?_
    exact mv_zreturn (pc := 10) dX4_readLaw_10 rfl

set_option maxRecDepth 100000 in
set_option maxHeartbeats 4000000 in
theorem ctX7_seeAbove_43 (l : Launch) (D : va_G) (cA : Nat → ClassId) (ad : Nat → Nat) (F : Nat) (M : mv_M) : mv_C l (D, cA, ad, LX) yX7_seeAbove iX7_seeAbove mv_rv [.ref (ad 43)] M (fX7_seeAbove_43 F M) := by
  refine mv_C.ofV (ls := [(0, .ref (ad 43))]) (by decide) rfl (Nat.le_of_ble_eq_true rfl) rfl ?_
  intro x hxl
  subst hxl
  unfold fX7_seeAbove_43
  refine mv_iconst (pc := 0) dX7_seeAbove_0 kci0 ?_
  refine mv_istore_n (pc := 1) (i := 1) (ls' := [(0, .ref (ad 43))]) dX7_seeAbove_1 rfl (Nat.le_of_ble_eq_true rfl) rfl (fun v1 => ?_)
  refine mv_sub [1, 0] rfl ?_
  refine mv_loop (pc := 2) (lj := fun (s2 : Int32 × mv_M) => [(0, .ref (ad 43)), (1, .int s2.1)]) (Mj := fun (s2 : Int32 × mv_M) => s2.2) (B := bX7_seeAbove_43_2) ?_ F (v1, M)
  intro f3 hf3 s2
  unfold bX7_seeAbove_43_2
  refine mv_iload_n (pc := 2) (i := 1) 1 dX7_seeAbove_2 rfl rfl ?_
  refine mv_aload_n (pc := 3) (i := 0) 0 dX7_seeAbove_3 rfl rfl ?_
  refine mv_getI (pc := 4) (i := 43) dX7_seeAbove_4 flX7_36 lx_43 rfl ?_
  refine mv_icmp_ge (pc := 7) (tgt := 50) dX7_seeAbove_7 (by decide) ?_ ?_
  · exact mv_return (pc := 50) dX7_seeAbove_50 rfl
  · refine mv_aload_n (pc := 10) (i := 0) 0 dX7_seeAbove_10 rfl rfl ?_
    refine mv_getR (pc := 11) (i := 43) (j := 44) dX7_seeAbove_11 flX7_9 lx_43 rfl ?_
    refine mv_iload_n (pc := 14) (i := 1) 1 dX7_seeAbove_14 rfl rfl ?_
    refine mv_iald (pc := 15) (i := 44) dX7_seeAbove_15 lx_44 ?_
    refine mv_istore_n (pc := 16) (i := 2) (ls' := [(0, .ref (ad 43)), (1, .int s2.1)]) dX7_seeAbove_16 rfl (Nat.le_of_ble_eq_true rfl) rfl (fun v4 => ?_)
    refine mv_aload_n (pc := 17) (i := 0) 1 dX7_seeAbove_17 rfl rfl ?_
    refine mv_getR (pc := 18) (i := 43) (j := 45) dX7_seeAbove_18 flX7_15 lx_43 rfl ?_
    refine mv_iload_n (pc := 21) (i := 1) 2 dX7_seeAbove_21 rfl rfl ?_
    refine mv_iload_n (pc := 22) (i := 2) 0 dX7_seeAbove_22 rfl rfl ?_
    refine mv_iload_n (pc := 23) (i := 1) 2 dX7_seeAbove_23 rfl rfl ?_
    refine mv_icmp_ne (pc := 24) (tgt := 33) dX7_seeAbove_24 (by decide) ?_ ?_
    · refine mv_iconst (pc := 33) dX7_seeAbove_33 kci1 ?_
      refine mv_iload_n (pc := 34) (i := 1) 2 dX7_seeAbove_34 rfl rfl ?_
      refine mv_ishl (pc := 35) dX7_seeAbove_35 ?_
      refine mv_aload_n (pc := 36) (i := 0) 1 dX7_seeAbove_36 rfl rfl ?_
      refine mv_getR (pc := 37) (i := 43) (j := 45) dX7_seeAbove_37 flX7_15 lx_43 rfl ?_
      refine mv_iload_n (pc := 40) (i := 2) 0 dX7_seeAbove_40 rfl rfl ?_
      refine mv_iald (pc := 41) (i := 45) dX7_seeAbove_41 lx_45 ?_
      refine mv_ior (pc := 42) dX7_seeAbove_42 ?_
      refine mv_iast (pc := 43) (i := 45) dX7_seeAbove_43 lx_45 (fun M5 => ?_)
      refine mv_iinc (pc := 44) (i := 1) (ls' := [(2, .int v4), (0, .ref (ad 43))]) 2 dX7_seeAbove_44 rfl kci1 (Nat.le_of_ble_eq_true rfl) rfl (fun v6 => ?_)
      refine mv_goto (pc := 47) (tgt := 2) dX7_seeAbove_47 (by decide) ?_
      refine mv_sub [2, 0] rfl ?_
      exact hf3 (v6, M5)
    · refine mv_iconst (pc := 27) dX7_seeAbove_27 kci1 ?_
      refine mv_iload_n (pc := 28) (i := 1) 2 dX7_seeAbove_28 rfl rfl ?_
      refine mv_ishl (pc := 29) dX7_seeAbove_29 ?_
      refine mv_goto (pc := 30) (tgt := 43) dX7_seeAbove_30 (by decide) ?_
      refine mv_iast (pc := 43) (i := 45) dX7_seeAbove_43 lx_45 (fun M7 => ?_)
      refine mv_iinc (pc := 44) (i := 1) (ls' := [(2, .int v4), (0, .ref (ad 43))]) 2 dX7_seeAbove_44 rfl kci1 (Nat.le_of_ble_eq_true rfl) rfl (fun v8 => ?_)
      refine mv_goto (pc := 47) (tgt := 2) dX7_seeAbove_47 (by decide) ?_
      refine mv_sub [2, 0] rfl ?_
      exact hf3 (v8, M7)

set_option maxRecDepth 100000 in
set_option maxHeartbeats 4000000 in
theorem ctX4_readTypes (l : Launch) (D : va_G) (cA : Nat → ClassId) (ad : Nat → Nat) (F : Nat) (M : mv_M) : mv_C l (D, cA, ad, LX) yX4_readTypes iX4_readTypes mv_ri [.ref (ad 41)] M (fX4_readTypes F M) := by
  refine mv_C.ofV (ls := [(0, .ref (ad 41))]) (by decide) rfl (Nat.le_of_ble_eq_true rfl) rfl ?_
  intro x hxl
  subst hxl
  unfold fX4_readTypes
  refine mv_iconst (pc := 0) dX4_readTypes_0 kci0 ?_
  refine mv_istore_n (pc := 1) (i := 1) (ls' := [(0, .ref (ad 41))]) dX4_readTypes_1 rfl (Nat.le_of_ble_eq_true rfl) rfl (fun v1 => ?_)
  refine mv_jp (pj := 62) (lj := fun (s2 : mv_M) => [(0, .ref (ad 41))]) (sj := fun (s2 : mv_M) => []) (Mj := fun (s2 : mv_M) => s2) ?_ ?_
  · intro s2
    refine mv_aload_n (pc := 62) (i := 0) 0 dX4_readTypes_62 rfl rfl ?_
    refine mv_getR (pc := 63) (i := 41) (j := 43) dX4_readTypes_63 flX4_18 lx_41 rfl ?_
    refine mv_callVv (pc := 66) (As := []) (st := []) (i := 43) dX4_readTypes_66 mlX4_67 vmX7_seeAbove ⟨Nat.le_of_ble_eq_true rfl, Nat.le_of_ble_eq_true rfl⟩ lx_43 rfl rfl (Nat.le_of_ble_eq_true rfl) (ctX7_seeAbove_43 x.2.1 D cA ad F s2) (fun M4 => ?_)
    refine mv_iconst (pc := 69) dX4_readTypes_69 kci1 ?_
    exact mv_zreturn (pc := 70) dX4_readTypes_70 rfl
  · intro j3 hj3
    refine mv_sub [1, 0] rfl ?_
    refine mv_loop (pc := 2) (lj := fun (s5 : Int32 × mv_M) => [(0, .ref (ad 41)), (1, .int s5.1)]) (Mj := fun (s5 : Int32 × mv_M) => s5.2) (B := bX4_readTypes_2 j3 F) ?_ F (v1, M)
    intro f6 hf6 s5
    unfold bX4_readTypes_2
    refine mv_iload_n (pc := 2) (i := 1) 1 dX4_readTypes_2 rfl rfl ?_
    refine mv_aload_n (pc := 3) (i := 0) 0 dX4_readTypes_3 rfl rfl ?_
    refine mv_getR (pc := 4) (i := 41) (j := 43) dX4_readTypes_4 flX4_18 lx_41 rfl ?_
    refine mv_getI (pc := 7) (i := 43) dX4_readTypes_7 flX4_32 lx_43 rfl ?_
    refine mv_icmp_ge (pc := 10) (tgt := 62) dX4_readTypes_10 (by decide) ?_ ?_
    · refine mv_sub [0] rfl ?_
      exact hj3 (s5.2)
    · refine mv_aload_n (pc := 13) (i := 0) 0 dX4_readTypes_13 rfl rfl ?_
      refine mv_bipush (pc := 14) dX4_readTypes_14 kcb117 ?_
      refine mv_callVi (pc := 16) (As := [.int (117 : Int32)]) (st := []) (i := 41) dX4_readTypes_16 mlX4_51 vmX4_take ⟨Nat.le_of_ble_eq_true rfl, Nat.le_of_ble_eq_true rfl⟩ lx_41 rfl rfl (Nat.le_of_ble_eq_true rfl) (ctX4_take x.2.1 D cA ad F s5.2 (117 : Int32)) (fun v8 M7 => ?_)
      refine mv_if_ne (pc := 19) (tgt := 24) dX4_readTypes_19 (by decide) ?_ ?_
      · refine mv_aload_n (pc := 24) (i := 0) 0 dX4_readTypes_24 rfl rfl ?_
        refine mv_iconst (pc := 25) dX4_readTypes_25 kci0 ?_
        refine mv_iload_n (pc := 26) (i := 1) 1 dX4_readTypes_26 rfl rfl ?_
        refine mv_callVi (pc := 27) (As := [.int (0 : Int32), .int s5.1]) (st := []) (i := 41) dX4_readTypes_27 mlX4_55 vmX4_takeNumber ⟨Nat.le_of_ble_eq_true rfl, Nat.le_of_ble_eq_true rfl⟩ lx_41 rfl rfl (Nat.le_of_ble_eq_true rfl) (ctX4_takeNumber x.2.1 D cA ad F M7 (0 : Int32) s5.1) (fun v10 M9 => ?_)
        refine mv_istore_n (pc := 30) (i := 2) (ls' := [(0, .ref (ad 41)), (1, .int s5.1)]) dX4_readTypes_30 rfl (Nat.le_of_ble_eq_true rfl) rfl (fun v11 => ?_)
        refine mv_iload_n (pc := 31) (i := 2) 0 dX4_readTypes_31 rfl rfl ?_
        refine mv_if_lt (pc := 32) (tgt := 44) dX4_readTypes_32 (by decide) ?_ ?_
        · refine mv_iconst (pc := 44) dX4_readTypes_44 kci0 ?_
          exact mv_zreturn (pc := 45) dX4_readTypes_45 rfl
        · refine mv_aload_n (pc := 35) (i := 0) 1 dX4_readTypes_35 rfl rfl ?_
          refine mv_bipush (pc := 36) dX4_readTypes_36 kcb59 ?_
          refine mv_callVi (pc := 38) (As := [.int (59 : Int32)]) (st := []) (i := 41) dX4_readTypes_38 mlX4_51 vmX4_take ⟨Nat.le_of_ble_eq_true rfl, Nat.le_of_ble_eq_true rfl⟩ lx_41 rfl rfl (Nat.le_of_ble_eq_true rfl) (ctX4_take x.2.1 D cA ad F M9 (59 : Int32)) (fun v13 M12 => ?_)
          refine mv_if_ne (pc := 41) (tgt := 46) dX4_readTypes_41 (by decide) ?_ ?_
          · refine mv_aload_n (pc := 46) (i := 0) 1 dX4_readTypes_46 rfl rfl ?_
            refine mv_getR (pc := 47) (i := 41) (j := 43) dX4_readTypes_47 flX4_18 lx_41 rfl ?_
            refine mv_getR (pc := 50) (i := 43) (j := 44) dX4_readTypes_50 flX4_64 lx_43 rfl ?_
            refine mv_iload_n (pc := 53) (i := 1) 2 dX4_readTypes_53 rfl rfl ?_
            refine mv_iload_n (pc := 54) (i := 2) 0 dX4_readTypes_54 rfl rfl ?_
            refine mv_iast (pc := 55) (i := 44) dX4_readTypes_55 lx_44 (fun M14 => ?_)
            refine mv_iinc (pc := 56) (i := 1) (ls' := [(2, .int v11), (0, .ref (ad 41))]) 2 dX4_readTypes_56 rfl kci1 (Nat.le_of_ble_eq_true rfl) rfl (fun v15 => ?_)
            refine mv_goto (pc := 59) (tgt := 2) dX4_readTypes_59 (by decide) ?_
            refine mv_sub [2, 0] rfl ?_
            exact hf6 (v15, M14)
          · refine mv_iconst (pc := 44) dX4_readTypes_44 kci0 ?_
            exact mv_zreturn (pc := 45) dX4_readTypes_45 rfl
      · refine mv_iconst (pc := 22) dX4_readTypes_22 kci0 ?_
        exact mv_zreturn (pc := 23) dX4_readTypes_23 rfl

set_option maxRecDepth 100000 in
set_option maxHeartbeats 4000000 in
theorem ctX4_kindOf (l : Launch) (D : va_G) (cA : Nat → ClassId) (ad : Nat → Nat) (F : Nat) (M : mv_M) (a1 : Int32) : mv_C l (D, cA, ad, LX) yX4_kindOf iX4_kindOf mv_ri [.int a1] M (fX4_kindOf F M a1) := by
  refine mv_C.ofV (ls := [(0, .int a1)]) (by decide) rfl (Nat.le_of_ble_eq_true rfl) rfl ?_
  intro x hxl
  subst hxl
  unfold fX4_kindOf
  refine mv_iload_n (pc := 0) (i := 0) 0 dX4_kindOf_0 rfl rfl ?_
  refine mv_swc (pc := 1) (v := (99 : Int32)) (off := 73) (tgt := 74) dX4_kindOf_1 (by decide +kernel) (by decide +kernel) (by decide +kernel) (by decide) ?_ (fun h1 => ?_)
  · refine mv_iconst (pc := 74) dX4_kindOf_74 kci4 ?_
    exact mv_ireturn (pc := 75) dX4_kindOf_75 rfl
  refine mv_swc (pc := 1) (v := (100 : Int32)) (off := 77) (tgt := 78) dX4_kindOf_1 (by decide +kernel) (by decide +kernel) (by decide +kernel) (by decide) ?_ (fun h2 => ?_)
  · refine mv_iconst (pc := 78) dX4_kindOf_78 kci0 ?_
    exact mv_ireturn (pc := 79) dX4_kindOf_79 rfl
  refine mv_swc (pc := 1) (v := (101 : Int32)) (off := 77) (tgt := 78) dX4_kindOf_1 (by decide +kernel) (by decide +kernel) (by decide +kernel) (by decide) ?_ (fun h3 => ?_)
  · refine mv_iconst (pc := 78) dX4_kindOf_78 kci0 ?_
    exact mv_ireturn (pc := 79) dX4_kindOf_79 rfl
  refine mv_swc (pc := 1) (v := (102 : Int32)) (off := 69) (tgt := 70) dX4_kindOf_1 (by decide +kernel) (by decide +kernel) (by decide +kernel) (by decide) ?_ (fun h4 => ?_)
  · refine mv_iconst (pc := 70) dX4_kindOf_70 kci2 ?_
    exact mv_ireturn (pc := 71) dX4_kindOf_71 rfl
  refine mv_swc (pc := 1) (v := (103 : Int32)) (off := 77) (tgt := 78) dX4_kindOf_1 (by decide +kernel) (by decide +kernel) (by decide +kernel) (by decide) ?_ (fun h5 => ?_)
  · refine mv_iconst (pc := 78) dX4_kindOf_78 kci0 ?_
    exact mv_ireturn (pc := 79) dX4_kindOf_79 rfl
  refine mv_swc (pc := 1) (v := (104 : Int32)) (off := 77) (tgt := 78) dX4_kindOf_1 (by decide +kernel) (by decide +kernel) (by decide +kernel) (by decide) ?_ (fun h6 => ?_)
  · refine mv_iconst (pc := 78) dX4_kindOf_78 kci0 ?_
    exact mv_ireturn (pc := 79) dX4_kindOf_79 rfl
  refine mv_swc (pc := 1) (v := (105 : Int32)) (off := 77) (tgt := 78) dX4_kindOf_1 (by decide +kernel) (by decide +kernel) (by decide +kernel) (by decide) ?_ (fun h7 => ?_)
  · refine mv_iconst (pc := 78) dX4_kindOf_78 kci0 ?_
    exact mv_ireturn (pc := 79) dX4_kindOf_79 rfl
  refine mv_swc (pc := 1) (v := (106 : Int32)) (off := 77) (tgt := 78) dX4_kindOf_1 (by decide +kernel) (by decide +kernel) (by decide +kernel) (by decide) ?_ (fun h8 => ?_)
  · refine mv_iconst (pc := 78) dX4_kindOf_78 kci0 ?_
    exact mv_ireturn (pc := 79) dX4_kindOf_79 rfl
  refine mv_swc (pc := 1) (v := (107 : Int32)) (off := 77) (tgt := 78) dX4_kindOf_1 (by decide +kernel) (by decide +kernel) (by decide +kernel) (by decide) ?_ (fun h9 => ?_)
  · refine mv_iconst (pc := 78) dX4_kindOf_78 kci0 ?_
    exact mv_ireturn (pc := 79) dX4_kindOf_79 rfl
  refine mv_swc (pc := 1) (v := (108 : Int32)) (off := 67) (tgt := 68) dX4_kindOf_1 (by decide +kernel) (by decide +kernel) (by decide +kernel) (by decide) ?_ (fun h10 => ?_)
  · refine mv_iconst (pc := 68) dX4_kindOf_68 kci1 ?_
    exact mv_ireturn (pc := 69) dX4_kindOf_69 rfl
  refine mv_swc (pc := 1) (v := (109 : Int32)) (off := 75) (tgt := 76) dX4_kindOf_1 (by decide +kernel) (by decide +kernel) (by decide +kernel) (by decide) ?_ (fun h11 => ?_)
  · refine mv_iconst (pc := 76) dX4_kindOf_76 kci5 ?_
    exact mv_ireturn (pc := 77) dX4_kindOf_77 rfl
  refine mv_swc (pc := 1) (v := (110 : Int32)) (off := 77) (tgt := 78) dX4_kindOf_1 (by decide +kernel) (by decide +kernel) (by decide +kernel) (by decide) ?_ (fun h12 => ?_)
  · refine mv_iconst (pc := 78) dX4_kindOf_78 kci0 ?_
    exact mv_ireturn (pc := 79) dX4_kindOf_79 rfl
  refine mv_swc (pc := 1) (v := (111 : Int32)) (off := 71) (tgt := 72) dX4_kindOf_1 (by decide +kernel) (by decide +kernel) (by decide +kernel) (by decide) ?_ (fun h13 => ?_)
  · refine mv_iconst (pc := 72) dX4_kindOf_72 kci3 ?_
    exact mv_ireturn (pc := 73) dX4_kindOf_73 rfl
  refine mv_swd (pc := 1) (tgt := 78) dX4_kindOf_1 (by have e0 := mv_ne (n := 99) (by decide +kernel) h1; have e1 := mv_ne (n := 100) (by decide +kernel) h2; have e2 := mv_ne (n := 101) (by decide +kernel) h3; have e3 := mv_ne (n := 102) (by decide +kernel) h4; have e4 := mv_ne (n := 103) (by decide +kernel) h5; have e5 := mv_ne (n := 104) (by decide +kernel) h6; have e6 := mv_ne (n := 105) (by decide +kernel) h7; have e7 := mv_ne (n := 106) (by decide +kernel) h8; have e8 := mv_ne (n := 107) (by decide +kernel) h9; have e9 := mv_ne (n := 108) (by decide +kernel) h10; have e10 := mv_ne (n := 109) (by decide +kernel) h11; have e11 := mv_ne (n := 110) (by decide +kernel) h12; have e12 := mv_ne (n := 111) (by decide +kernel) h13; omega) (by decide) ?_
  refine mv_iconst (pc := 78) dX4_kindOf_78 kci0 ?_
  exact mv_ireturn (pc := 79) dX4_kindOf_79 rfl

set_option maxRecDepth 100000 in
set_option maxHeartbeats 4000000 in
theorem ctX4_readTaken (l : Launch) (D : va_G) (cA : Nat → ClassId) (ad : Nat → Nat) (F : Nat) (M : mv_M) (a1 : Int32) : mv_C l (D, cA, ad, LX) yX4_readTaken iX4_readTaken mv_ri [.ref (ad 41), .int a1] M (fX4_readTaken F M a1) := by
  refine mv_C.ofV (ls := [(0, .ref (ad 41)), (1, .int a1)]) (by decide) rfl (Nat.le_of_ble_eq_true rfl) rfl ?_
  intro x hxl
  subst hxl
  unfold fX4_readTaken
  refine mv_aload_n (pc := 0) (i := 0) 0 dX4_readTaken_0 rfl rfl ?_
  refine mv_bipush (pc := 1) dX4_readTaken_1 kcb44 ?_
  refine mv_callVi (pc := 3) (As := [.int (44 : Int32)]) (st := []) (i := 41) dX4_readTaken_3 mlX4_51 vmX4_take ⟨Nat.le_of_ble_eq_true rfl, Nat.le_of_ble_eq_true rfl⟩ lx_41 rfl rfl (Nat.le_of_ble_eq_true rfl) (ctX4_take x.2.1 D cA ad F M (44 : Int32)) (fun v2 M1 => ?_)
  refine mv_if_ne (pc := 6) (tgt := 11) dX4_readTaken_6 (by decide) ?_ ?_
  · refine mv_aload_n (pc := 11) (i := 0) 0 dX4_readTaken_11 rfl rfl ?_
    refine mv_getR (pc := 12) (i := 41) (j := 43) dX4_readTaken_12 flX4_18 lx_41 rfl ?_
    refine mv_getR (pc := 15) (i := 43) (j := 50) dX4_readTaken_15 flX4_99 lx_43 rfl ?_
    refine mv_iload_n (pc := 18) (i := 1) 1 dX4_readTaken_18 rfl rfl ?_
    refine mv_aload_n (pc := 19) (i := 0) 0 dX4_readTaken_19 rfl rfl ?_
    refine mv_iconst (pc := 20) dX4_readTaken_20 kci0 ?_
    refine mv_aload_n (pc := 21) (i := 0) 0 dX4_readTaken_21 rfl rfl ?_
    refine mv_getR (pc := 22) (i := 41) (j := 43) dX4_readTaken_22 flX4_18 lx_41 rfl ?_
    refine mv_getI (pc := 25) (i := 43) dX4_readTaken_25 flX4_32 lx_43 rfl ?_
    refine mv_iconst (pc := 28) dX4_readTaken_28 kci1 ?_
    refine mv_isub (pc := 29) dX4_readTaken_29 ?_
    refine mv_callVi (pc := 30) (As := [.int (0 : Int32), .int ((M1.1 43 0) - (1 : Int32))]) (st := [.int a1, .ref (ad 50)]) (i := 41) dX4_readTaken_30 mlX4_55 vmX4_takeNumber ⟨Nat.le_of_ble_eq_true rfl, Nat.le_of_ble_eq_true rfl⟩ lx_41 rfl rfl (Nat.le_of_ble_eq_true rfl) (ctX4_takeNumber x.2.1 D cA ad F M1 (0 : Int32) ((M1.1 43 0) - (1 : Int32))) (fun v4 M3 => ?_)
    refine mv_iast (pc := 33) (i := 50) dX4_readTaken_33 lx_50 (fun M5 => ?_)
    refine mv_aload_n (pc := 34) (i := 0) 0 dX4_readTaken_34 rfl rfl ?_
    refine mv_getR (pc := 35) (i := 41) (j := 43) dX4_readTaken_35 flX4_18 lx_41 rfl ?_
    refine mv_getR (pc := 38) (i := 43) (j := 49) dX4_readTaken_38 flX4_93 lx_43 rfl ?_
    refine mv_iload_n (pc := 41) (i := 1) 1 dX4_readTaken_41 rfl rfl ?_
    refine mv_iconst (pc := 42) dX4_readTaken_42 kci1 ?_
    refine mv_iast (pc := 43) (i := 49) dX4_readTaken_43 lx_49 (fun M6 => ?_)
    refine mv_aload_n (pc := 44) (i := 0) 0 dX4_readTaken_44 rfl rfl ?_
    refine mv_getR (pc := 45) (i := 41) (j := 43) dX4_readTaken_45 flX4_18 lx_41 rfl ?_
    refine mv_getR (pc := 48) (i := 43) (j := 50) dX4_readTaken_48 flX4_99 lx_43 rfl ?_
    refine mv_iload_n (pc := 51) (i := 1) 1 dX4_readTaken_51 rfl rfl ?_
    refine mv_iald (pc := 52) (i := 50) dX4_readTaken_52 lx_50 ?_
    refine mv_if_lt (pc := 53) (tgt := 65) dX4_readTaken_53 (by decide) ?_ ?_
    · refine mv_aload_n (pc := 65) (i := 0) 0 dX4_readTaken_65 rfl rfl ?_
      refine mv_getR (pc := 66) (i := 41) (j := 43) dX4_readTaken_66 flX4_18 lx_41 rfl ?_
      refine mv_getR (pc := 69) (i := 43) (j := 50) dX4_readTaken_69 flX4_99 lx_43 rfl ?_
      refine mv_iload_n (pc := 72) (i := 1) 1 dX4_readTaken_72 rfl rfl ?_
      refine mv_iald (pc := 73) (i := 50) dX4_readTaken_73 lx_50 ?_
      refine mv_if_lt (pc := 74) (tgt := 81) dX4_readTaken_74 (by decide) ?_ ?_
      · refine mv_iconst (pc := 81) dX4_readTaken_81 kci0 ?_
        exact mv_zreturn (pc := 82) dX4_readTaken_82 rfl
      · refine mv_iconst (pc := 77) dX4_readTaken_77 kci1 ?_
        refine mv_goto (pc := 78) (tgt := 82) dX4_readTaken_78 (by decide) ?_
        exact mv_zreturn (pc := 82) dX4_readTaken_82 rfl
    · refine mv_aload_n (pc := 56) (i := 0) 0 dX4_readTaken_56 rfl rfl ?_
      refine mv_callVi (pc := 57) (As := []) (st := []) (i := 41) dX4_readTaken_57 mlX4_73 vmX4_here ⟨Nat.le_of_ble_eq_true rfl, Nat.le_of_ble_eq_true rfl⟩ lx_41 rfl rfl (Nat.le_of_ble_eq_true rfl) (ctX4_here x.2.1 D cA ad F M6) (fun v8 M7 => ?_)
      refine mv_bipush (pc := 60) dX4_readTaken_60 kcb44 ?_
      refine mv_icmp_eq (pc := 62) (tgt := 83) dX4_readTaken_62 (by decide) ?_ ?_
      · refine mv_aload_n (pc := 83) (i := 0) 0 dX4_readTaken_83 rfl rfl ?_
        refine mv_dup (pc := 84) dX4_readTaken_84 rfl ?_
        refine mv_getI (pc := 85) (i := 41) dX4_readTaken_85 flX4_26 lx_41 rfl ?_
        refine mv_iconst (pc := 88) dX4_readTaken_88 kci1 ?_
        refine mv_iadd (pc := 89) dX4_readTaken_89 ?_
        refine mv_putI (pc := 90) (i := 41) dX4_readTaken_90 flX4_26 (Or.inl fpX4_3) lx_41 rfl (fun M9 => ?_)
        refine mv_aload_n (pc := 93) (i := 0) 0 dX4_readTaken_93 rfl rfl ?_
        refine mv_getR (pc := 94) (i := 41) (j := 43) dX4_readTaken_94 flX4_18 lx_41 rfl ?_
        refine mv_getR (pc := 97) (i := 43) (j := 51) dX4_readTaken_97 flX4_102 lx_43 rfl ?_
        refine mv_iload_n (pc := 100) (i := 1) 1 dX4_readTaken_100 rfl rfl ?_
        refine mv_aload_n (pc := 101) (i := 0) 0 dX4_readTaken_101 rfl rfl ?_
        refine mv_iconst (pc := 102) dX4_readTaken_102 kci0 ?_
        refine mv_aload_n (pc := 103) (i := 0) 0 dX4_readTaken_103 rfl rfl ?_
        refine mv_getR (pc := 104) (i := 41) (j := 43) dX4_readTaken_104 flX4_18 lx_41 rfl ?_
        refine mv_getI (pc := 107) (i := 43) dX4_readTaken_107 flX4_32 lx_43 rfl ?_
        refine mv_iconst (pc := 110) dX4_readTaken_110 kci1 ?_
        refine mv_isub (pc := 111) dX4_readTaken_111 ?_
        refine mv_callVi (pc := 112) (As := [.int (0 : Int32), .int ((M9.1 43 0) - (1 : Int32))]) (st := [.int a1, .ref (ad 51)]) (i := 41) dX4_readTaken_112 mlX4_55 vmX4_takeNumber ⟨Nat.le_of_ble_eq_true rfl, Nat.le_of_ble_eq_true rfl⟩ lx_41 rfl rfl (Nat.le_of_ble_eq_true rfl) (ctX4_takeNumber x.2.1 D cA ad F M9 (0 : Int32) ((M9.1 43 0) - (1 : Int32))) (fun v11 M10 => ?_)
        refine mv_iast (pc := 115) (i := 51) dX4_readTaken_115 lx_51 (fun M12 => ?_)
        refine mv_aload_n (pc := 116) (i := 0) 0 dX4_readTaken_116 rfl rfl ?_
        refine mv_getR (pc := 117) (i := 41) (j := 43) dX4_readTaken_117 flX4_18 lx_41 rfl ?_
        refine mv_getR (pc := 120) (i := 43) (j := 49) dX4_readTaken_120 flX4_93 lx_43 rfl ?_
        refine mv_iload_n (pc := 123) (i := 1) 1 dX4_readTaken_123 rfl rfl ?_
        refine mv_iconst (pc := 124) dX4_readTaken_124 kci2 ?_
        refine mv_iast (pc := 125) (i := 49) dX4_readTaken_125 lx_49 (fun M13 => ?_)
        refine mv_aload_n (pc := 126) (i := 0) 0 dX4_readTaken_126 rfl rfl ?_
        refine mv_getR (pc := 127) (i := 41) (j := 43) dX4_readTaken_127 flX4_18 lx_41 rfl ?_
        refine mv_getR (pc := 130) (i := 43) (j := 51) dX4_readTaken_130 flX4_102 lx_43 rfl ?_
        refine mv_iload_n (pc := 133) (i := 1) 1 dX4_readTaken_133 rfl rfl ?_
        refine mv_iald (pc := 134) (i := 51) dX4_readTaken_134 lx_51 ?_
        refine mv_if_lt (pc := 135) (tgt := 142) dX4_readTaken_135 (by decide) ?_ ?_
        · refine mv_iconst (pc := 142) dX4_readTaken_142 kci0 ?_
          exact mv_zreturn (pc := 143) dX4_readTaken_143 rfl
        · refine mv_iconst (pc := 138) dX4_readTaken_138 kci1 ?_
          refine mv_goto (pc := 139) (tgt := 143) dX4_readTaken_139 (by decide) ?_
          exact mv_zreturn (pc := 143) dX4_readTaken_143 rfl
      · refine mv_aload_n (pc := 65) (i := 0) 0 dX4_readTaken_65 rfl rfl ?_
        refine mv_getR (pc := 66) (i := 41) (j := 43) dX4_readTaken_66 flX4_18 lx_41 rfl ?_
        refine mv_getR (pc := 69) (i := 43) (j := 50) dX4_readTaken_69 flX4_99 lx_43 rfl ?_
        refine mv_iload_n (pc := 72) (i := 1) 1 dX4_readTaken_72 rfl rfl ?_
        refine mv_iald (pc := 73) (i := 50) dX4_readTaken_73 lx_50 ?_
        refine mv_if_lt (pc := 74) (tgt := 81) dX4_readTaken_74 (by decide) ?_ ?_
        · refine mv_iconst (pc := 81) dX4_readTaken_81 kci0 ?_
          exact mv_zreturn (pc := 82) dX4_readTaken_82 rfl
        · refine mv_iconst (pc := 77) dX4_readTaken_77 kci1 ?_
          refine mv_goto (pc := 78) (tgt := 82) dX4_readTaken_78 (by decide) ?_
          exact mv_zreturn (pc := 82) dX4_readTaken_82 rfl
  · refine mv_iconst (pc := 9) dX4_readTaken_9 kci0 ?_
    exact mv_zreturn (pc := 10) dX4_readTaken_10 rfl

set_option maxRecDepth 100000 in
set_option maxHeartbeats 4000000 in
theorem ctX4_readMember (l : Launch) (D : va_G) (cA : Nat → ClassId) (ad : Nat → Nat) (F : Nat) (M : mv_M) (a1 : Int32) : mv_C l (D, cA, ad, LX) yX4_readMember iX4_readMember mv_ri [.ref (ad 41), .int a1] M (fX4_readMember F M a1) := by
  refine mv_C.ofV (ls := [(0, .ref (ad 41)), (1, .int a1)]) (by decide) rfl (Nat.le_of_ble_eq_true rfl) rfl ?_
  intro x hxl
  subst hxl
  unfold fX4_readMember
  refine mv_aload_n (pc := 0) (i := 0) 0 dX4_readMember_0 rfl rfl ?_
  refine mv_callVi (pc := 1) (As := []) (st := []) (i := 41) dX4_readMember_1 mlX4_73 vmX4_here ⟨Nat.le_of_ble_eq_true rfl, Nat.le_of_ble_eq_true rfl⟩ lx_41 rfl rfl (Nat.le_of_ble_eq_true rfl) (ctX4_here x.2.1 D cA ad F M) (fun v2 M1 => ?_)
  refine mv_callSi (pc := 4) (As := [.int v2]) (st := []) dX4_readMember_4 mlX4_77 smX4_kindOf ⟨Nat.le_of_ble_eq_true rfl, Nat.le_of_ble_eq_true rfl⟩ rfl (Nat.le_of_ble_eq_true rfl) (ctX4_kindOf x.2.1 D cA ad F M1 v2) (fun v4 M3 => ?_)
  refine mv_istore_n (pc := 7) (i := 2) (ls' := [(0, .ref (ad 41)), (1, .int a1)]) dX4_readMember_7 rfl (Nat.le_of_ble_eq_true rfl) rfl (fun v5 => ?_)
  refine mv_iload_n (pc := 8) (i := 2) 0 dX4_readMember_8 rfl rfl ?_
  refine mv_if_ne (pc := 9) (tgt := 18) dX4_readMember_9 (by decide) ?_ ?_
  · refine mv_iload_n (pc := 18) (i := 1) 2 dX4_readMember_18 rfl rfl ?_
    refine mv_bipush (pc := 19) dX4_readMember_19 kcb12 ?_
    refine mv_icmp_lt (pc := 21) (tgt := 30) dX4_readMember_21 (by decide) ?_ ?_
    · refine mv_aload_n (pc := 30) (i := 0) 1 dX4_readMember_30 rfl rfl ?_
      refine mv_dup (pc := 31) dX4_readMember_31 rfl ?_
      refine mv_getI (pc := 32) (i := 41) dX4_readMember_32 flX4_26 lx_41 rfl ?_
      refine mv_iconst (pc := 35) dX4_readMember_35 kci1 ?_
      refine mv_iadd (pc := 36) dX4_readMember_36 ?_
      refine mv_putI (pc := 37) (i := 41) dX4_readMember_37 flX4_26 (Or.inl fpX4_3) lx_41 rfl (fun M6 => ?_)
      refine mv_aload_n (pc := 40) (i := 0) 1 dX4_readMember_40 rfl rfl ?_
      refine mv_iconst (pc := 41) dX4_readMember_41 kci0 ?_
      refine mv_aload_n (pc := 42) (i := 0) 1 dX4_readMember_42 rfl rfl ?_
      refine mv_getR (pc := 43) (i := 41) (j := 43) dX4_readMember_43 flX4_18 lx_41 rfl ?_
      refine mv_getI (pc := 46) (i := 43) dX4_readMember_46 flX4_32 lx_43 rfl ?_
      refine mv_iconst (pc := 49) dX4_readMember_49 kci1 ?_
      refine mv_isub (pc := 50) dX4_readMember_50 ?_
      refine mv_callVi (pc := 51) (As := [.int (0 : Int32), .int ((M6.1 43 0) - (1 : Int32))]) (st := []) (i := 41) dX4_readMember_51 mlX4_55 vmX4_takeNumber ⟨Nat.le_of_ble_eq_true rfl, Nat.le_of_ble_eq_true rfl⟩ lx_41 rfl rfl (Nat.le_of_ble_eq_true rfl) (ctX4_takeNumber x.2.1 D cA ad F M6 (0 : Int32) ((M6.1 43 0) - (1 : Int32))) (fun v8 M7 => ?_)
      refine mv_istore_n (pc := 54) (i := 3) (ls' := [(2, .int v5), (0, .ref (ad 41)), (1, .int a1)]) dX4_readMember_54 rfl (Nat.le_of_ble_eq_true rfl) rfl (fun v9 => ?_)
      refine mv_iload_n (pc := 55) (i := 3) 0 dX4_readMember_55 rfl rfl ?_
      refine mv_if_lt (pc := 56) (tgt := 68) dX4_readMember_56 (by decide) ?_ ?_
      · refine mv_iconst (pc := 68) dX4_readMember_68 kci0 ?_
        exact mv_zreturn (pc := 69) dX4_readMember_69 rfl
      · refine mv_aload_n (pc := 59) (i := 0) 2 dX4_readMember_59 rfl rfl ?_
        refine mv_bipush (pc := 60) dX4_readMember_60 kcb44 ?_
        refine mv_callVi (pc := 62) (As := [.int (44 : Int32)]) (st := []) (i := 41) dX4_readMember_62 mlX4_51 vmX4_take ⟨Nat.le_of_ble_eq_true rfl, Nat.le_of_ble_eq_true rfl⟩ lx_41 rfl rfl (Nat.le_of_ble_eq_true rfl) (ctX4_take x.2.1 D cA ad F M7 (44 : Int32)) (fun v11 M10 => ?_)
        refine mv_if_ne (pc := 65) (tgt := 70) dX4_readMember_65 (by decide) ?_ ?_
        · refine mv_aload_n (pc := 70) (i := 0) 2 dX4_readMember_70 rfl rfl ?_
          refine mv_iconst (pc := 71) dX4_readMember_71 kci1 ?_
          refine mv_bipush (pc := 72) dX4_readMember_72 kcb9 ?_
          refine mv_callVi (pc := 74) (As := [.int (1 : Int32), .int (9 : Int32)]) (st := []) (i := 41) dX4_readMember_74 mlX4_55 vmX4_takeNumber ⟨Nat.le_of_ble_eq_true rfl, Nat.le_of_ble_eq_true rfl⟩ lx_41 rfl rfl (Nat.le_of_ble_eq_true rfl) (ctX4_takeNumber x.2.1 D cA ad F M10 (1 : Int32) (9 : Int32)) (fun v13 M12 => ?_)
          refine mv_istore (pc := 77) (i := 4) (ls' := [(3, .int v9), (2, .int v5), (0, .ref (ad 41)), (1, .int a1)]) dX4_readMember_77 (Nat.le_of_ble_eq_true rfl) rfl (fun v14 => ?_)
          refine mv_iload (pc := 79) (i := 4) 0 dX4_readMember_79 rfl ?_
          refine mv_if_ge (pc := 81) (tgt := 86) dX4_readMember_81 (by decide) ?_ ?_
          · refine mv_aload_n (pc := 86) (i := 0) 3 dX4_readMember_86 rfl rfl ?_
            refine mv_getR (pc := 87) (i := 41) (j := 43) dX4_readMember_87 flX4_18 lx_41 rfl ?_
            refine mv_getR (pc := 90) (i := 43) (j := 46) dX4_readMember_90 flX4_84 lx_43 rfl ?_
            refine mv_iload_n (pc := 93) (i := 1) 4 dX4_readMember_93 rfl rfl ?_
            refine mv_iload_n (pc := 94) (i := 2) 2 dX4_readMember_94 rfl rfl ?_
            refine mv_iast (pc := 95) (i := 46) dX4_readMember_95 lx_46 (fun M15 => ?_)
            refine mv_aload_n (pc := 96) (i := 0) 3 dX4_readMember_96 rfl rfl ?_
            refine mv_getR (pc := 97) (i := 41) (j := 43) dX4_readMember_97 flX4_18 lx_41 rfl ?_
            refine mv_getR (pc := 100) (i := 43) (j := 47) dX4_readMember_100 flX4_87 lx_43 rfl ?_
            refine mv_iload_n (pc := 103) (i := 1) 4 dX4_readMember_103 rfl rfl ?_
            refine mv_iload_n (pc := 104) (i := 3) 1 dX4_readMember_104 rfl rfl ?_
            refine mv_iast (pc := 105) (i := 47) dX4_readMember_105 lx_47 (fun M16 => ?_)
            refine mv_aload_n (pc := 106) (i := 0) 3 dX4_readMember_106 rfl rfl ?_
            refine mv_getR (pc := 107) (i := 41) (j := 43) dX4_readMember_107 flX4_18 lx_41 rfl ?_
            refine mv_getR (pc := 110) (i := 43) (j := 48) dX4_readMember_110 flX4_90 lx_43 rfl ?_
            refine mv_iload_n (pc := 113) (i := 1) 4 dX4_readMember_113 rfl rfl ?_
            refine mv_iload (pc := 114) (i := 4) 0 dX4_readMember_114 rfl ?_
            refine mv_iast (pc := 116) (i := 48) dX4_readMember_116 lx_48 (fun M17 => ?_)
            refine mv_aload_n (pc := 117) (i := 0) 3 dX4_readMember_117 rfl rfl ?_
            refine mv_getR (pc := 118) (i := 41) (j := 43) dX4_readMember_118 flX4_18 lx_41 rfl ?_
            refine mv_getR (pc := 121) (i := 43) (j := 49) dX4_readMember_121 flX4_93 lx_43 rfl ?_
            refine mv_iload_n (pc := 124) (i := 1) 4 dX4_readMember_124 rfl rfl ?_
            refine mv_iconst (pc := 125) dX4_readMember_125 kci0 ?_
            refine mv_iast (pc := 126) (i := 49) dX4_readMember_126 lx_49 (fun M18 => ?_)
            refine mv_aload_n (pc := 127) (i := 0) 3 dX4_readMember_127 rfl rfl ?_
            refine mv_getR (pc := 128) (i := 41) (j := 43) dX4_readMember_128 flX4_18 lx_41 rfl ?_
            refine mv_iload_n (pc := 131) (i := 1) 4 dX4_readMember_131 rfl rfl ?_
            refine mv_iconst (pc := 132) dX4_readMember_132 kci1 ?_
            refine mv_iadd (pc := 133) dX4_readMember_133 ?_
            refine mv_putI (pc := 134) (i := 43) dX4_readMember_134 flX4_35 (Or.inl fpX7_1) lx_43 rfl (fun M19 => ?_)
            refine mv_iload_n (pc := 137) (i := 2) 2 dX4_readMember_137 rfl rfl ?_
            refine mv_iconst (pc := 138) dX4_readMember_138 kci4 ?_
            refine mv_icmp_eq (pc := 139) (tgt := 147) dX4_readMember_139 (by decide) ?_ ?_
            · refine mv_aload_n (pc := 147) (i := 0) 3 dX4_readMember_147 rfl rfl ?_
              refine mv_iload_n (pc := 148) (i := 1) 4 dX4_readMember_148 rfl rfl ?_
              refine mv_callVi (pc := 149) (As := [.int a1]) (st := []) (i := 41) dX4_readMember_149 mlX4_96 vmX4_readTaken ⟨Nat.le_of_ble_eq_true rfl, Nat.le_of_ble_eq_true rfl⟩ lx_41 rfl rfl (Nat.le_of_ble_eq_true rfl) (ctX4_readTaken x.2.1 D cA ad F M19 a1) (fun v21 M20 => ?_)
              refine mv_if_eq (pc := 152) (tgt := 168) dX4_readMember_152 (by decide) ?_ ?_
              · refine mv_iconst (pc := 168) dX4_readMember_168 kci0 ?_
                exact mv_zreturn (pc := 169) dX4_readMember_169 rfl
              · refine mv_aload_n (pc := 155) (i := 0) 3 dX4_readMember_155 rfl rfl ?_
                refine mv_bipush (pc := 156) dX4_readMember_156 kcb59 ?_
                refine mv_callVi (pc := 158) (As := [.int (59 : Int32)]) (st := []) (i := 41) dX4_readMember_158 mlX4_51 vmX4_take ⟨Nat.le_of_ble_eq_true rfl, Nat.le_of_ble_eq_true rfl⟩ lx_41 rfl rfl (Nat.le_of_ble_eq_true rfl) (ctX4_take x.2.1 D cA ad F M20 (59 : Int32)) (fun v23 M22 => ?_)
                refine mv_if_eq (pc := 161) (tgt := 168) dX4_readMember_161 (by decide) ?_ ?_
                · refine mv_iconst (pc := 168) dX4_readMember_168 kci0 ?_
                  exact mv_zreturn (pc := 169) dX4_readMember_169 rfl
                · refine mv_iconst (pc := 164) dX4_readMember_164 kci1 ?_
                  refine mv_goto (pc := 165) (tgt := 169) dX4_readMember_165 (by decide) ?_
                  exact mv_zreturn (pc := 169) dX4_readMember_169 rfl
            · refine mv_iload_n (pc := 142) (i := 2) 2 dX4_readMember_142 rfl rfl ?_
              refine mv_iconst (pc := 143) dX4_readMember_143 kci5 ?_
              refine mv_icmp_ne (pc := 144) (tgt := 155) dX4_readMember_144 (by decide) ?_ ?_
              · refine mv_aload_n (pc := 155) (i := 0) 3 dX4_readMember_155 rfl rfl ?_
                refine mv_bipush (pc := 156) dX4_readMember_156 kcb59 ?_
                refine mv_callVi (pc := 158) (As := [.int (59 : Int32)]) (st := []) (i := 41) dX4_readMember_158 mlX4_51 vmX4_take ⟨Nat.le_of_ble_eq_true rfl, Nat.le_of_ble_eq_true rfl⟩ lx_41 rfl rfl (Nat.le_of_ble_eq_true rfl) (ctX4_take x.2.1 D cA ad F M19 (59 : Int32)) (fun v25 M24 => ?_)
                refine mv_if_eq (pc := 161) (tgt := 168) dX4_readMember_161 (by decide) ?_ ?_
                · refine mv_iconst (pc := 168) dX4_readMember_168 kci0 ?_
                  exact mv_zreturn (pc := 169) dX4_readMember_169 rfl
                · refine mv_iconst (pc := 164) dX4_readMember_164 kci1 ?_
                  refine mv_goto (pc := 165) (tgt := 169) dX4_readMember_165 (by decide) ?_
                  exact mv_zreturn (pc := 169) dX4_readMember_169 rfl
              · refine mv_aload_n (pc := 147) (i := 0) 3 dX4_readMember_147 rfl rfl ?_
                refine mv_iload_n (pc := 148) (i := 1) 4 dX4_readMember_148 rfl rfl ?_
                refine mv_callVi (pc := 149) (As := [.int a1]) (st := []) (i := 41) dX4_readMember_149 mlX4_96 vmX4_readTaken ⟨Nat.le_of_ble_eq_true rfl, Nat.le_of_ble_eq_true rfl⟩ lx_41 rfl rfl (Nat.le_of_ble_eq_true rfl) (ctX4_readTaken x.2.1 D cA ad F M19 a1) (fun v27 M26 => ?_)
                refine mv_if_eq (pc := 152) (tgt := 168) dX4_readMember_152 (by decide) ?_ ?_
                · refine mv_iconst (pc := 168) dX4_readMember_168 kci0 ?_
                  exact mv_zreturn (pc := 169) dX4_readMember_169 rfl
                · refine mv_aload_n (pc := 155) (i := 0) 3 dX4_readMember_155 rfl rfl ?_
                  refine mv_bipush (pc := 156) dX4_readMember_156 kcb59 ?_
                  refine mv_callVi (pc := 158) (As := [.int (59 : Int32)]) (st := []) (i := 41) dX4_readMember_158 mlX4_51 vmX4_take ⟨Nat.le_of_ble_eq_true rfl, Nat.le_of_ble_eq_true rfl⟩ lx_41 rfl rfl (Nat.le_of_ble_eq_true rfl) (ctX4_take x.2.1 D cA ad F M26 (59 : Int32)) (fun v29 M28 => ?_)
                  refine mv_if_eq (pc := 161) (tgt := 168) dX4_readMember_161 (by decide) ?_ ?_
                  · refine mv_iconst (pc := 168) dX4_readMember_168 kci0 ?_
                    exact mv_zreturn (pc := 169) dX4_readMember_169 rfl
                  · refine mv_iconst (pc := 164) dX4_readMember_164 kci1 ?_
                    refine mv_goto (pc := 165) (tgt := 169) dX4_readMember_165 (by decide) ?_
                    exact mv_zreturn (pc := 169) dX4_readMember_169 rfl
          · refine mv_iconst (pc := 84) dX4_readMember_84 kci0 ?_
            exact mv_zreturn (pc := 85) dX4_readMember_85 rfl
        · refine mv_iconst (pc := 68) dX4_readMember_68 kci0 ?_
          exact mv_zreturn (pc := 69) dX4_readMember_69 rfl
    · refine mv_aload_n (pc := 24) (i := 0) 1 dX4_readMember_24 rfl rfl ?_
      refine mv_iconst (pc := 25) dX4_readMember_25 kci3 ?_
      refine mv_callVi (pc := 26) (As := [.int (3 : Int32)]) (st := []) (i := 41) dX4_readMember_26 mlX4_81 vmX4_refuse ⟨Nat.le_of_ble_eq_true rfl, Nat.le_of_ble_eq_true rfl⟩ lx_41 rfl rfl (Nat.le_of_ble_eq_true rfl) (ctX4_refuse x.2.1 D cA ad F M3 (3 : Int32)) (fun v31 M30 => ?_)
      exact mv_zreturn (pc := 29) dX4_readMember_29 rfl
  · refine mv_aload_n (pc := 12) (i := 0) 1 dX4_readMember_12 rfl rfl ?_
    refine mv_iconst (pc := 13) dX4_readMember_13 kci1 ?_
    refine mv_callVi (pc := 14) (As := [.int (1 : Int32)]) (st := []) (i := 41) dX4_readMember_14 mlX4_81 vmX4_refuse ⟨Nat.le_of_ble_eq_true rfl, Nat.le_of_ble_eq_true rfl⟩ lx_41 rfl rfl (Nat.le_of_ble_eq_true rfl) (ctX4_refuse x.2.1 D cA ad F M3 (1 : Int32)) (fun v33 M32 => ?_)
    exact mv_zreturn (pc := 17) dX4_readMember_17 rfl

set_option maxRecDepth 100000 in
set_option maxHeartbeats 4000000 in
theorem ctX4_readMembers (l : Launch) (D : va_G) (cA : Nat → ClassId) (ad : Nat → Nat) (F : Nat) (M : mv_M) : mv_C l (D, cA, ad, LX) yX4_readMembers iX4_readMembers mv_ri [.ref (ad 41)] M (fX4_readMembers F M) := by
  refine mv_C.ofV (ls := [(0, .ref (ad 41))]) (by decide) rfl (Nat.le_of_ble_eq_true rfl) rfl ?_
  intro x hxl
  subst hxl
  unfold fX4_readMembers
  refine mv_iconst (pc := 0) dX4_readMembers_0 kci0 ?_
  refine mv_istore_n (pc := 1) (i := 1) (ls' := [(0, .ref (ad 41))]) dX4_readMembers_1 rfl (Nat.le_of_ble_eq_true rfl) rfl (fun v1 => ?_)
  refine mv_sub [1, 0] rfl ?_
  refine mv_loop (pc := 2) (lj := fun (s2 : Int32 × mv_M) => [(0, .ref (ad 41)), (1, .int s2.1)]) (Mj := fun (s2 : Int32 × mv_M) => s2.2) (B := bX4_readMembers_2 F) ?_ F (v1, M)
  intro f3 hf3 s2
  unfold bX4_readMembers_2
  refine mv_iload_n (pc := 2) (i := 1) 1 dX4_readMembers_2 rfl rfl ?_
  refine mv_bipush (pc := 3) dX4_readMembers_3 kcb12 ?_
  refine mv_icmp_gt (pc := 5) (tgt := 41) dX4_readMembers_5 (by decide) ?_ ?_
  · refine mv_iconst (pc := 41) dX4_readMembers_41 kci0 ?_
    exact mv_zreturn (pc := 42) dX4_readMembers_42 rfl
  · refine mv_iload_n (pc := 8) (i := 1) 1 dX4_readMembers_8 rfl rfl ?_
    refine mv_if_le (pc := 9) (tgt := 25) dX4_readMembers_9 (by decide) ?_ ?_
    · refine mv_aload_n (pc := 25) (i := 0) 0 dX4_readMembers_25 rfl rfl ?_
      refine mv_iload_n (pc := 26) (i := 1) 1 dX4_readMembers_26 rfl rfl ?_
      refine mv_callVi (pc := 27) (As := [.int s2.1]) (st := []) (i := 41) dX4_readMembers_27 mlX4_70 vmX4_readMember ⟨Nat.le_of_ble_eq_true rfl, Nat.le_of_ble_eq_true rfl⟩ lx_41 rfl rfl (Nat.le_of_ble_eq_true rfl) (ctX4_readMember x.2.1 D cA ad F s2.2 s2.1) (fun v5 M4 => ?_)
      refine mv_if_ne (pc := 30) (tgt := 35) dX4_readMembers_30 (by decide) ?_ ?_
      · refine mv_iinc (pc := 35) (i := 1) (ls' := [(0, .ref (ad 41))]) 1 dX4_readMembers_35 rfl kci1 (Nat.le_of_ble_eq_true rfl) rfl (fun v6 => ?_)
        refine mv_goto (pc := 38) (tgt := 2) dX4_readMembers_38 (by decide) ?_
        refine mv_sub [1, 0] rfl ?_
        exact hf3 (v6, M4)
      · refine mv_iconst (pc := 33) dX4_readMembers_33 kci0 ?_
        exact mv_zreturn (pc := 34) dX4_readMembers_34 rfl
    · refine mv_aload_n (pc := 12) (i := 0) 0 dX4_readMembers_12 rfl rfl ?_
      refine mv_getI (pc := 13) (i := 41) dX4_readMembers_13 flX4_26 lx_41 rfl ?_
      refine mv_aload_n (pc := 16) (i := 0) 0 dX4_readMembers_16 rfl rfl ?_
      refine mv_getI (pc := 17) (i := 41) dX4_readMembers_17 flX4_22 lx_41 rfl ?_
      refine mv_icmp_ne (pc := 20) (tgt := 25) dX4_readMembers_20 (by decide) ?_ ?_
      · refine mv_aload_n (pc := 25) (i := 0) 0 dX4_readMembers_25 rfl rfl ?_
        refine mv_iload_n (pc := 26) (i := 1) 1 dX4_readMembers_26 rfl rfl ?_
        refine mv_callVi (pc := 27) (As := [.int s2.1]) (st := []) (i := 41) dX4_readMembers_27 mlX4_70 vmX4_readMember ⟨Nat.le_of_ble_eq_true rfl, Nat.le_of_ble_eq_true rfl⟩ lx_41 rfl rfl (Nat.le_of_ble_eq_true rfl) (ctX4_readMember x.2.1 D cA ad F s2.2 s2.1) (fun v8 M7 => ?_)
        refine mv_if_ne (pc := 30) (tgt := 35) dX4_readMembers_30 (by decide) ?_ ?_
        · refine mv_iinc (pc := 35) (i := 1) (ls' := [(0, .ref (ad 41))]) 1 dX4_readMembers_35 rfl kci1 (Nat.le_of_ble_eq_true rfl) rfl (fun v9 => ?_)
          refine mv_goto (pc := 38) (tgt := 2) dX4_readMembers_38 (by decide) ?_
          refine mv_sub [1, 0] rfl ?_
          exact hf3 (v9, M7)
        · refine mv_iconst (pc := 33) dX4_readMembers_33 kci0 ?_
          exact mv_zreturn (pc := 34) dX4_readMembers_34 rfl
      · refine mv_iconst (pc := 23) dX4_readMembers_23 kci1 ?_
        exact mv_zreturn (pc := 24) dX4_readMembers_24 rfl

set_option maxRecDepth 100000 in
set_option maxHeartbeats 4000000 in
theorem ctX4_readTape (l : Launch) (D : va_G) (cA : Nat → ClassId) (ad : Nat → Nat) (F : Nat) (M : mv_M) : mv_C l (D, cA, ad, LX) yX4_readTape iX4_readTape mv_ri [.ref (ad 41)] M (fX4_readTape F M) := by
  refine mv_C.ofV (ls := [(0, .ref (ad 41))]) (by decide) rfl (Nat.le_of_ble_eq_true rfl) rfl ?_
  intro x hxl
  subst hxl
  unfold fX4_readTape
  refine mv_aload_n (pc := 0) (i := 0) 0 dX4_readTape_0 rfl rfl ?_
  refine mv_iconst (pc := 1) dX4_readTape_1 kci0 ?_
  refine mv_putI (pc := 2) (i := 41) dX4_readTape_2 flX4_26 (Or.inl fpX4_3) lx_41 rfl (fun M1 => ?_)
  refine mv_aload_n (pc := 5) (i := 0) 0 dX4_readTape_5 rfl rfl ?_
  refine mv_iconst (pc := 6) dX4_readTape_6 kci0 ?_
  refine mv_putI (pc := 7) (i := 41) dX4_readTape_7 flX4_29 (Or.inl fpX4_4) lx_41 rfl (fun M2 => ?_)
  refine mv_aload_n (pc := 10) (i := 0) 0 dX4_readTape_10 rfl rfl ?_
  refine mv_getR (pc := 11) (i := 41) (j := 43) dX4_readTape_11 flX4_18 lx_41 rfl ?_
  refine mv_iconst (pc := 14) dX4_readTape_14 kci0 ?_
  refine mv_putI (pc := 15) (i := 43) dX4_readTape_15 flX4_32 (Or.inl fpX7_0) lx_43 rfl (fun M3 => ?_)
  refine mv_aload_n (pc := 18) (i := 0) 0 dX4_readTape_18 rfl rfl ?_
  refine mv_getR (pc := 19) (i := 41) (j := 43) dX4_readTape_19 flX4_18 lx_41 rfl ?_
  refine mv_iconst (pc := 22) dX4_readTape_22 kci0 ?_
  refine mv_putI (pc := 23) (i := 43) dX4_readTape_23 flX4_35 (Or.inl fpX7_1) lx_43 rfl (fun M4 => ?_)
  refine mv_aload_n (pc := 26) (i := 0) 0 dX4_readTape_26 rfl rfl ?_
  refine mv_getR (pc := 27) (i := 41) (j := 43) dX4_readTape_27 flX4_18 lx_41 rfl ?_
  refine mv_iconst (pc := 30) dX4_readTape_30 kci0 ?_
  refine mv_putI (pc := 31) (i := 43) dX4_readTape_31 flX4_38 (Or.inl fpX7_2) lx_43 rfl (fun M5 => ?_)
  refine mv_aload_n (pc := 34) (i := 0) 0 dX4_readTape_34 rfl rfl ?_
  refine mv_callVi (pc := 35) (As := []) (st := []) (i := 41) dX4_readTape_35 mlX4_41 vmX4_readLaw ⟨Nat.le_of_ble_eq_true rfl, Nat.le_of_ble_eq_true rfl⟩ lx_41 rfl rfl (Nat.le_of_ble_eq_true rfl) (ctX4_readLaw x.2.1 D cA ad F M5) (fun v7 M6 => ?_)
  refine mv_if_eq (pc := 38) (tgt := 59) dX4_readTape_38 (by decide) ?_ ?_
  · refine mv_iconst (pc := 59) dX4_readTape_59 kci0 ?_
    exact mv_zreturn (pc := 60) dX4_readTape_60 rfl
  · refine mv_aload_n (pc := 41) (i := 0) 0 dX4_readTape_41 rfl rfl ?_
    refine mv_callVi (pc := 42) (As := []) (st := []) (i := 41) dX4_readTape_42 mlX4_45 vmX4_readTypes ⟨Nat.le_of_ble_eq_true rfl, Nat.le_of_ble_eq_true rfl⟩ lx_41 rfl rfl (Nat.le_of_ble_eq_true rfl) (ctX4_readTypes x.2.1 D cA ad F M6) (fun v9 M8 => ?_)
    refine mv_if_eq (pc := 45) (tgt := 59) dX4_readTape_45 (by decide) ?_ ?_
    · refine mv_iconst (pc := 59) dX4_readTape_59 kci0 ?_
      exact mv_zreturn (pc := 60) dX4_readTape_60 rfl
    · refine mv_aload_n (pc := 48) (i := 0) 0 dX4_readTape_48 rfl rfl ?_
      refine mv_callVi (pc := 49) (As := []) (st := []) (i := 41) dX4_readTape_49 mlX4_48 vmX4_readMembers ⟨Nat.le_of_ble_eq_true rfl, Nat.le_of_ble_eq_true rfl⟩ lx_41 rfl rfl (Nat.le_of_ble_eq_true rfl) (ctX4_readMembers x.2.1 D cA ad F M8) (fun v11 M10 => ?_)
      refine mv_if_eq (pc := 52) (tgt := 59) dX4_readTape_52 (by decide) ?_ ?_
      · refine mv_iconst (pc := 59) dX4_readTape_59 kci0 ?_
        exact mv_zreturn (pc := 60) dX4_readTape_60 rfl
      · refine mv_iconst (pc := 55) dX4_readTape_55 kci1 ?_
        refine mv_goto (pc := 56) (tgt := 60) dX4_readTape_56 (by decide) ?_
        exact mv_zreturn (pc := 60) dX4_readTape_60 rfl

set_option maxRecDepth 100000 in
set_option maxHeartbeats 4000000 in
theorem ctX4_emptyTape (l : Launch) (D : va_G) (cA : Nat → ClassId) (ad : Nat → Nat) (F : Nat) (M : mv_M) : mv_C l (D, cA, ad, LX) yX4_emptyTape iX4_emptyTape mv_rv [.ref (ad 41)] M (fX4_emptyTape F M) := by
  refine mv_C.ofV (ls := [(0, .ref (ad 41))]) (by decide) rfl (Nat.le_of_ble_eq_true rfl) rfl ?_
  intro x hxl
  subst hxl
  unfold fX4_emptyTape
  refine mv_aload_n (pc := 0) (i := 0) 0 dX4_emptyTape_0 rfl rfl ?_
  refine mv_iconst (pc := 1) dX4_emptyTape_1 kci0 ?_
  refine mv_putI (pc := 2) (i := 41) dX4_emptyTape_2 flX4_22 (Or.inl fpX4_1) lx_41 rfl (fun M1 => ?_)
  exact mv_return (pc := 5) dX4_emptyTape_5 rfl

set_option maxRecDepth 100000 in
set_option maxHeartbeats 4000000 in
theorem ctX7_become_o43 (l : Launch) (D : va_G) (cA : Nat → ClassId) (ad : Nat → Nat) (F : Nat) (M : mv_M) : mv_C l (D, cA, ad, LX) yX7_become iX7_become mv_rv [.ref (ad 1), .ref (ad 43)] M (fX7_become_o43 F M) := by
  refine mv_C.ofV (ls := [(0, .ref (ad 1)), (1, .ref (ad 43))]) (by decide) rfl (Nat.le_of_ble_eq_true rfl) rfl ?_
  intro x hxl
  subst hxl
  unfold fX7_become_o43
  refine mv_aload_n (pc := 0) (i := 0) 0 dX7_become_0 rfl rfl ?_
  refine mv_aload_n (pc := 1) (i := 1) 1 dX7_become_1 rfl rfl ?_
  refine mv_getI (pc := 2) (i := 43) dX7_become_2 flX7_36 lx_43 rfl ?_
  refine mv_putI (pc := 5) (i := 1) dX7_become_5 flX7_36 (Or.inl fpX7_0) lx_1 rfl (fun M1 => ?_)
  refine mv_aload_n (pc := 8) (i := 0) 0 dX7_become_8 rfl rfl ?_
  refine mv_aload_n (pc := 9) (i := 1) 1 dX7_become_9 rfl rfl ?_
  refine mv_getI (pc := 10) (i := 43) dX7_become_10 flX7_40 lx_43 rfl ?_
  refine mv_putI (pc := 13) (i := 1) dX7_become_13 flX7_40 (Or.inl fpX7_1) lx_1 rfl (fun M2 => ?_)
  refine mv_aload_n (pc := 16) (i := 0) 0 dX7_become_16 rfl rfl ?_
  refine mv_aload_n (pc := 17) (i := 1) 1 dX7_become_17 rfl rfl ?_
  refine mv_getI (pc := 18) (i := 43) dX7_become_18 flX7_43 lx_43 rfl ?_
  refine mv_putI (pc := 21) (i := 1) dX7_become_21 flX7_43 (Or.inl fpX7_2) lx_1 rfl (fun M3 => ?_)
  refine mv_aload_n (pc := 24) (i := 1) 1 dX7_become_24 rfl rfl ?_
  refine mv_getR (pc := 25) (i := 43) (j := 44) dX7_become_25 flX7_9 lx_43 rfl ?_
  refine mv_iconst (pc := 28) dX7_become_28 kci0 ?_
  refine mv_aload_n (pc := 29) (i := 0) 0 dX7_become_29 rfl rfl ?_
  refine mv_getR (pc := 30) (i := 1) (j := 2) dX7_become_30 flX7_9 lx_1 rfl ?_
  refine mv_iconst (pc := 33) dX7_become_33 kci0 ?_
  refine mv_bipush (pc := 34) dX7_become_34 kcb8 ?_
  refine mv_copy (pc := 36) (i := 44) (j := 2) dX7_become_36 mwX7_46 lx_44 lx_2 ⟨Nat.le_of_ble_eq_true rfl, Nat.le_of_ble_eq_true rfl⟩ (fun M4 => ?_)
  refine mv_aload_n (pc := 39) (i := 1) 1 dX7_become_39 rfl rfl ?_
  refine mv_getR (pc := 40) (i := 43) (j := 45) dX7_become_40 flX7_15 lx_43 rfl ?_
  refine mv_iconst (pc := 43) dX7_become_43 kci0 ?_
  refine mv_aload_n (pc := 44) (i := 0) 0 dX7_become_44 rfl rfl ?_
  refine mv_getR (pc := 45) (i := 1) (j := 3) dX7_become_45 flX7_15 lx_1 rfl ?_
  refine mv_iconst (pc := 48) dX7_become_48 kci0 ?_
  refine mv_bipush (pc := 49) dX7_become_49 kcb8 ?_
  refine mv_copy (pc := 51) (i := 45) (j := 3) dX7_become_51 mwX7_46 lx_45 lx_3 ⟨Nat.le_of_ble_eq_true rfl, Nat.le_of_ble_eq_true rfl⟩ (fun M5 => ?_)
  refine mv_aload_n (pc := 54) (i := 1) 1 dX7_become_54 rfl rfl ?_
  refine mv_getR (pc := 55) (i := 43) (j := 46) dX7_become_55 flX7_18 lx_43 rfl ?_
  refine mv_iconst (pc := 58) dX7_become_58 kci0 ?_
  refine mv_aload_n (pc := 59) (i := 0) 0 dX7_become_59 rfl rfl ?_
  refine mv_getR (pc := 60) (i := 1) (j := 4) dX7_become_60 flX7_18 lx_1 rfl ?_
  refine mv_iconst (pc := 63) dX7_become_63 kci0 ?_
  refine mv_bipush (pc := 64) dX7_become_64 kcb12 ?_
  refine mv_copy (pc := 66) (i := 46) (j := 4) dX7_become_66 mwX7_46 lx_46 lx_4 ⟨Nat.le_of_ble_eq_true rfl, Nat.le_of_ble_eq_true rfl⟩ (fun M6 => ?_)
  refine mv_aload_n (pc := 69) (i := 1) 1 dX7_become_69 rfl rfl ?_
  refine mv_getR (pc := 70) (i := 43) (j := 47) dX7_become_70 flX7_21 lx_43 rfl ?_
  refine mv_iconst (pc := 73) dX7_become_73 kci0 ?_
  refine mv_aload_n (pc := 74) (i := 0) 0 dX7_become_74 rfl rfl ?_
  refine mv_getR (pc := 75) (i := 1) (j := 5) dX7_become_75 flX7_21 lx_1 rfl ?_
  refine mv_iconst (pc := 78) dX7_become_78 kci0 ?_
  refine mv_bipush (pc := 79) dX7_become_79 kcb12 ?_
  refine mv_copy (pc := 81) (i := 47) (j := 5) dX7_become_81 mwX7_46 lx_47 lx_5 ⟨Nat.le_of_ble_eq_true rfl, Nat.le_of_ble_eq_true rfl⟩ (fun M7 => ?_)
  refine mv_aload_n (pc := 84) (i := 1) 1 dX7_become_84 rfl rfl ?_
  refine mv_getR (pc := 85) (i := 43) (j := 48) dX7_become_85 flX7_24 lx_43 rfl ?_
  refine mv_iconst (pc := 88) dX7_become_88 kci0 ?_
  refine mv_aload_n (pc := 89) (i := 0) 0 dX7_become_89 rfl rfl ?_
  refine mv_getR (pc := 90) (i := 1) (j := 6) dX7_become_90 flX7_24 lx_1 rfl ?_
  refine mv_iconst (pc := 93) dX7_become_93 kci0 ?_
  refine mv_bipush (pc := 94) dX7_become_94 kcb12 ?_
  refine mv_copy (pc := 96) (i := 48) (j := 6) dX7_become_96 mwX7_46 lx_48 lx_6 ⟨Nat.le_of_ble_eq_true rfl, Nat.le_of_ble_eq_true rfl⟩ (fun M8 => ?_)
  refine mv_aload_n (pc := 99) (i := 1) 1 dX7_become_99 rfl rfl ?_
  refine mv_getR (pc := 100) (i := 43) (j := 49) dX7_become_100 flX7_27 lx_43 rfl ?_
  refine mv_iconst (pc := 103) dX7_become_103 kci0 ?_
  refine mv_aload_n (pc := 104) (i := 0) 0 dX7_become_104 rfl rfl ?_
  refine mv_getR (pc := 105) (i := 1) (j := 7) dX7_become_105 flX7_27 lx_1 rfl ?_
  refine mv_iconst (pc := 108) dX7_become_108 kci0 ?_
  refine mv_bipush (pc := 109) dX7_become_109 kcb12 ?_
  refine mv_copy (pc := 111) (i := 49) (j := 7) dX7_become_111 mwX7_46 lx_49 lx_7 ⟨Nat.le_of_ble_eq_true rfl, Nat.le_of_ble_eq_true rfl⟩ (fun M9 => ?_)
  refine mv_aload_n (pc := 114) (i := 1) 1 dX7_become_114 rfl rfl ?_
  refine mv_getR (pc := 115) (i := 43) (j := 50) dX7_become_115 flX7_30 lx_43 rfl ?_
  refine mv_iconst (pc := 118) dX7_become_118 kci0 ?_
  refine mv_aload_n (pc := 119) (i := 0) 0 dX7_become_119 rfl rfl ?_
  refine mv_getR (pc := 120) (i := 1) (j := 8) dX7_become_120 flX7_30 lx_1 rfl ?_
  refine mv_iconst (pc := 123) dX7_become_123 kci0 ?_
  refine mv_bipush (pc := 124) dX7_become_124 kcb12 ?_
  refine mv_copy (pc := 126) (i := 50) (j := 8) dX7_become_126 mwX7_46 lx_50 lx_8 ⟨Nat.le_of_ble_eq_true rfl, Nat.le_of_ble_eq_true rfl⟩ (fun M10 => ?_)
  refine mv_aload_n (pc := 129) (i := 1) 1 dX7_become_129 rfl rfl ?_
  refine mv_getR (pc := 130) (i := 43) (j := 51) dX7_become_130 flX7_33 lx_43 rfl ?_
  refine mv_iconst (pc := 133) dX7_become_133 kci0 ?_
  refine mv_aload_n (pc := 134) (i := 0) 0 dX7_become_134 rfl rfl ?_
  refine mv_getR (pc := 135) (i := 1) (j := 9) dX7_become_135 flX7_33 lx_1 rfl ?_
  refine mv_iconst (pc := 138) dX7_become_138 kci0 ?_
  refine mv_bipush (pc := 139) dX7_become_139 kcb12 ?_
  refine mv_copy (pc := 141) (i := 51) (j := 9) dX7_become_141 mwX7_46 lx_51 lx_9 ⟨Nat.le_of_ble_eq_true rfl, Nat.le_of_ble_eq_true rfl⟩ (fun M11 => ?_)
  exact mv_return (pc := 144) dX7_become_144 rfl
