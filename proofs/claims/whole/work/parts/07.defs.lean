/-! what each method answers and does: by program out of its bytecode -/
def fX5_isRow (F : Nat) (M : mv_M) (a1 : Int32) : Option (Int32 × mv_M) :=
  (if a1 < 0 then mv_b1 (0 : Int32) (some ((0 : Int32), M)) else (if (8 : Int32) ≤ a1 then mv_b1 (0 : Int32) (some ((0 : Int32), M)) else mv_b1 (1 : Int32) (some ((1 : Int32), M))))

def fX5_isLane (F : Nat) (M : mv_M) (a1 : Int32) : Option (Int32 × mv_M) :=
  (if a1 < 0 then mv_b1 (0 : Int32) (some ((0 : Int32), M)) else (if (2 : Int32) < a1 then mv_b1 (0 : Int32) (some ((0 : Int32), M)) else mv_b1 (1 : Int32) (some ((1 : Int32), M))))

def bJ7_fill_53178_5 (v2 : Int32) (n1 : Nat) (i1 : Nat) (a2 : Int32) (f4 : (Int32 × mv_M) → Option (mv_M)) (s3 : Int32 × mv_M) : Option (mv_M) :=
  (if v2 ≤ s3.1 then some s3.2 else mv_ob s3.1 n1 (mv_let (mv_wI s3.2 i1 s3.1.toNatClampNeg a2) (fun M5 => mv_let (s3.1 + (1 : Int32)) (fun v6 => f4 (v6, M5)))))
def fJ7_fill_53178 (F : Nat) (M : mv_M) (i1 : Nat) (n1 : Nat) (a2 : Int32) : Option (mv_M) :=
  mv_let (0 : Int32) (fun v1 => mv_let (Int32.ofNat n1) (fun v2 => mv_lp (bJ7_fill_53178_5 v2 n1 i1 a2) F (v1, M)))

def fX5_make (F : Nat) (M : mv_M) (a1 : Int32) (a2 : Int32) (a3 : Int32) : Option (mv_M) :=
  mv_ob a1 8 (mv_let (mv_wI M 39 a1.toNatClampNeg a2) (fun M1 => mv_ob a1 8 (mv_let (mv_wI M1 40 a1.toNatClampNeg a3) (fun M2 => mv_ob a1 8 (mv_bv (fJ7_fill_53178 F M2 (31 + a1.toNatClampNeg) 40 (0 : Int32)) (fun M4 => some M4))))))

def fX8_unfound (F : Nat) (M : mv_M) (a1 : Int32) : Option (Int32 × mv_M) :=
  mv_let (mv_wI M 0 10 (0 : Int32)) (fun M1 => some (a1, M1))

def fX8_found (F : Nat) (M : mv_M) (a1 : Int32) : Option (Int32 × mv_M) :=
  mv_let (mv_wI M 0 10 a1) (fun M1 => some (((-1000010 : Int32) - a1), M1))

def fX8_row (F : Nat) (M : mv_M) (a1 : Int32) (a2 : Int32) (a3 : Int32) : Option (Int32 × mv_M) :=
  mv_bi (fX5_isRow F M a1) (fun v2 M1 => (if v2 = 0 then some ((-1000001 : Int32), M1) else mv_bi (fX5_isLane F M1 a2) (fun v4 M3 => (if v4 = 0 then some ((-1000001 : Int32), M3) else (if a3 ≤ (40 : Int32) then (if 0 ≤ a3 then mv_bv (fX5_make F M3 a1 a2 a3) (fun M5 => mv_bi (fX8_unfound F M5 a3) (fun v7 M6 => some (v7, M6))) else mv_bi (fX8_found F M3 (4 : Int32)) (fun v9 M8 => some (v9, M8))) else some ((-1000001 : Int32), M3))))))

def fX5_isMissing (F : Nat) (M : mv_M) (a1 : Int32) : Option (Int32 × mv_M) :=
  mv_ob a1 8 ((if (M.1 39 a1.toNatClampNeg) = (-1 : Int32) then mv_b1 (1 : Int32) (some ((1 : Int32), M)) else mv_b1 (0 : Int32) (some ((0 : Int32), M))))

def fX5_hasPlaces (F : Nat) (M : mv_M) (a1 : Int32) (a2 : Int32) (a3 : Int32) : Option (Int32 × mv_M) :=
  (if a2 < 0 then mv_b1 (0 : Int32) (some ((0 : Int32), M)) else (if a3 < 0 then mv_b1 (0 : Int32) (some ((0 : Int32), M)) else mv_ob a1 8 ((if ((M.1 40 a1.toNatClampNeg) - a3) < a2 then mv_b1 (0 : Int32) (some ((0 : Int32), M)) else mv_b1 (1 : Int32) (some ((1 : Int32), M))))))

def fX5_put (F : Nat) (M : mv_M) (a1 : Int32) (a2 : Int32) (a3 : Int32) : Option (Int32 × mv_M) :=
  mv_let a3 (fun v1 => mv_ob a1 8 (mv_let (fun s2 : Int32 × mv_M => mv_ob a1 8 (mv_ob a2 40 (mv_let (mv_wI s2.2 (31 + a1.toNatClampNeg) a2.toNatClampNeg s2.1) (fun M5 => some (s2.1, M5))))) (fun j3 => (if (M.1 39 a1.toNatClampNeg) = 0 then mv_let a3.toInt8.toInt32 (fun v7 => j3 (v7, M)) else mv_ob a1 8 ((if (M.1 39 a1.toNatClampNeg) = (1 : Int32) then mv_let a3.toInt16.toInt32 (fun v6 => j3 (v6, M)) else j3 (v1, M)))))))

def fX8_set (F : Nat) (M : mv_M) (a1 : Int32) (a2 : Int32) (a3 : Int32) : Option (Int32 × mv_M) :=
  mv_bi (fX5_isRow F M a1) (fun v2 M1 => (if v2 = 0 then some ((-1000001 : Int32), M1) else mv_bi (fX5_isMissing F M1 a1) (fun v4 M3 => (if v4 = 0 then mv_bi (fX5_hasPlaces F M3 a1 a2 (1 : Int32)) (fun v6 M5 => (if v6 = 0 then mv_bi (fX8_found F M5 (2 : Int32)) (fun v12 M11 => some (v12, M11)) else mv_bi (fX5_put F M5 a1 a2 a3) (fun v8 M7 => mv_bi (fX8_unfound F M7 v8) (fun v10 M9 => some (v10, M9))))) else mv_bi (fX8_found F M3 (1 : Int32)) (fun v14 M13 => some (v14, M13))))))

def fX8_copy (F : Nat) (M : mv_M) (a1 : Int32) (a2 : Int32) (a3 : Int32) (a4 : Int32) (a5 : Int32) : Option (Int32 × mv_M) :=
  mv_bi (fX5_isRow F M a1) (fun v2 M1 => (if v2 = 0 then some ((-1000001 : Int32), M1) else mv_bi (fX5_isRow F M1 a3) (fun v4 M3 => (if v4 = 0 then some ((-1000001 : Int32), M3) else mv_bi (fX5_isMissing F M3 a1) (fun v6 M5 => (if v6 = 0 then mv_bi (fX5_isMissing F M5 a3) (fun v10 M9 => (if v10 = 0 then mv_ob a1 8 (mv_ob a3 8 ((if (M9.1 39 a1.toNatClampNeg) = (M9.1 39 a3.toNatClampNeg) then mv_bi (fX5_hasPlaces F M9 a1 a2 a5) (fun v12 M11 => (if v12 = 0 then mv_bi (fX8_found F M11 (2 : Int32)) (fun v14 M13 => some (v14, M13)) else mv_bi (fX5_hasPlaces F M11 a3 a4 a5) (fun v16 M15 => (if v16 = 0 then mv_bi (fX8_found F M15 (2 : Int32)) (fun v23 M22 => some (v23, M22)) else mv_ob a1 8 (mv_ob a3 8 (mv_cp a2 a4 a5 40 40 (mv_let (mv_wA M15 (31 + a3.toNatClampNeg) (va_cpy (M15.1 (31 + a1.toNatClampNeg)) (M15.1 (31 + a3.toNatClampNeg)) a2.toNatClampNeg a4.toNatClampNeg a5.toNatClampNeg)) (fun M19 => mv_bi (fX8_unfound F M19 a5) (fun v21 M20 => some (v21, M20)))))))))) else mv_bi (fX8_found F M9 (5 : Int32)) (fun v25 M24 => some (v25, M24))))) else mv_bi (fX8_found F M9 (1 : Int32)) (fun v27 M26 => some (v27, M26)))) else mv_bi (fX8_found F M5 (1 : Int32)) (fun v8 M7 => some (v8, M7))))))))

def fX5_lose (F : Nat) (M : mv_M) (a1 : Int32) : Option (Int32 × mv_M) :=
  mv_ob a1 8 (mv_let (mv_wI M 39 a1.toNatClampNeg (-1 : Int32)) (fun M1 => mv_ob a1 8 (some ((M1.1 40 a1.toNatClampNeg), M1))))

def fX8_drop (F : Nat) (M : mv_M) (a1 : Int32) : Option (Int32 × mv_M) :=
  mv_bi (fX5_isRow F M a1) (fun v2 M1 => (if v2 = 0 then some ((-1000001 : Int32), M1) else mv_bi (fX5_isMissing F M1 a1) (fun v4 M3 => (if v4 = 0 then mv_bi (fX5_lose F M3 a1) (fun v6 M5 => mv_bi (fX8_unfound F M5 v6) (fun v8 M7 => some (v8, M7))) else mv_bi (fX8_found F M3 (1 : Int32)) (fun v10 M9 => some (v10, M9))))))

def fX4_isFull (F : Nat) (M : mv_M) : Option (Int32 × mv_M) :=
  (if (M.1 41 1) < (140 : Int32) then mv_b1 (0 : Int32) (some ((0 : Int32), M)) else mv_b1 (1 : Int32) (some ((1 : Int32), M)))

def fX4_append (F : Nat) (M : mv_M) (a1 : Int32) : Option (Int32 × mv_M) :=
  mv_ob (M.1 41 1) 140 (mv_let (mv_wI M 42 (M.1 41 1).toNatClampNeg a1) (fun M1 => mv_let (mv_wI M1 41 1 ((M1.1 41 1) + (1 : Int32))) (fun M2 => some ((M2.1 41 1), M2))))

def fX8_feed (F : Nat) (M : mv_M) (a1 : Int32) : Option (Int32 × mv_M) :=
  (if a1 < 0 then some ((-1000001 : Int32), M) else (if a1 ≤ (255 : Int32) then mv_bi (fX4_isFull F M) (fun v2 M1 => (if v2 = 0 then mv_bi (fX4_append F M1 a1) (fun v4 M3 => some (v4, M3)) else some ((-1000003 : Int32), M1))) else some ((-1000001 : Int32), M)))

def fX4_byteAt (F : Nat) (M : mv_M) (a1 : Int32) : Option (Int32 × mv_M) :=
  (if (M.1 41 1) ≤ a1 then some ((-1 : Int32), M) else mv_ob a1 140 (some ((M.1 42 a1.toNatClampNeg), M)))

def fX4_here (F : Nat) (M : mv_M) : Option (Int32 × mv_M) :=
  mv_bi (fX4_byteAt F M (M.1 41 3)) (fun v2 M1 => some (v2, M1))

def fX4_refuse (F : Nat) (M : mv_M) (a1 : Int32) : Option (Int32 × mv_M) :=
  mv_let (mv_wI M 41 4 a1) (fun M1 => mv_b1 (0 : Int32) (some ((0 : Int32), M1)))

def fX4_take (F : Nat) (M : mv_M) (a1 : Int32) : Option (Int32 × mv_M) :=
  mv_bi (fX4_here F M) (fun v2 M1 => (if v2 = a1 then mv_let (mv_wI M1 41 3 ((M1.1 41 3) + (1 : Int32))) (fun M3 => mv_b1 (1 : Int32) (some ((1 : Int32), M3))) else mv_bi (fX4_refuse F M1 (1 : Int32)) (fun v5 M4 => mv_b1 v5 (some (v5, M4)))))

def fX4_isFigure (F : Nat) (M : mv_M) (a1 : Int32) : Option (Int32 × mv_M) :=
  (if a1 < (48 : Int32) then mv_b1 (0 : Int32) (some ((0 : Int32), M)) else (if (57 : Int32) < a1 then mv_b1 (0 : Int32) (some ((0 : Int32), M)) else mv_b1 (1 : Int32) (some ((1 : Int32), M))))

def bX4_takeNumber_5 (j4 : (Int32 × Int32 × mv_M) → Option (Int32 × mv_M)) (F : Nat) (f15 : (Int32 × Int32 × mv_M) → Option (Int32 × mv_M)) (s14 : Int32 × Int32 × mv_M) : Option (Int32 × mv_M) :=
  (if (2 : Int32) < s14.1 then j4 (s14.1, s14.2.1, s14.2.2) else mv_bi (fX4_byteAt F s14.2.2 ((s14.2.2.1 41 3) + s14.1)) (fun v17 M16 => mv_bi (fX4_isFigure F M16 v17) (fun v19 M18 => (if v19 = 0 then j4 (s14.1, s14.2.1, M18) else mv_bi (fX4_byteAt F M18 ((M18.1 41 3) + s14.1)) (fun v21 M20 => mv_let (((s14.2.1 * (10 : Int32)) + v21) - (48 : Int32)) (fun v22 => mv_let (s14.1 + (1 : Int32)) (fun v23 => f15 (v23, v22, M20))))))))
def fX4_takeNumber (F : Nat) (M : mv_M) (a1 : Int32) (a2 : Int32) : Option (Int32 × mv_M) :=
  mv_let (0 : Int32) (fun v1 => mv_let (0 : Int32) (fun v2 => mv_let (fun s3 : Int32 × Int32 × mv_M => (if s3.1 = 0 then mv_bi (fX4_refuse F s3.2.2 (1 : Int32)) (fun v6 M5 => some ((-1 : Int32), M5)) else (if s3.1 ≤ (2 : Int32) then (if s3.2.1 < a1 then mv_bi (fX4_refuse F s3.2.2 (2 : Int32)) (fun v8 M7 => some ((-1 : Int32), M7)) else (if s3.2.1 ≤ a2 then mv_let (mv_wI s3.2.2 41 3 ((s3.2.2.1 41 3) + s3.1)) (fun M9 => some (s3.2.1, M9)) else mv_bi (fX4_refuse F s3.2.2 (2 : Int32)) (fun v11 M10 => some ((-1 : Int32), M10)))) else mv_bi (fX4_refuse F s3.2.2 (1 : Int32)) (fun v13 M12 => some ((-1 : Int32), M12))))) (fun j4 => mv_lp (bX4_takeNumber_5 j4 F) F (v1, v2, M))))

def fX4_readLaw (F : Nat) (M : mv_M) : Option (Int32 × mv_M) :=
  mv_bi (fX4_take F M (119 : Int32)) (fun v2 M1 => (if v2 = 0 then mv_b1 (0 : Int32) (some ((0 : Int32), M1)) else mv_bi (fX4_takeNumber F M1 (1 : Int32) (8 : Int32)) (fun v4 M3 => mv_let v4 (fun v5 => mv_let (mv_wI M3 43 0 (if v5 < (0 : Int32) then (0 : Int32) else v5)) (fun M6 => (if v5 < 0 then mv_b1 (0 : Int32) (some ((0 : Int32), M6)) else mv_bi (fX4_take F M6 (59 : Int32)) (fun v8 M7 => (if v8 = 0 then mv_b1 (0 : Int32) (some ((0 : Int32), M7)) else mv_b1 (1 : Int32) (some ((1 : Int32), M7))))))))))

def bX7_seeAbove_43_2 (f3 : (Int32 × mv_M) → Option (mv_M)) (s2 : Int32 × mv_M) : Option (mv_M) :=
  (if (s2.2.1 43 0) ≤ s2.1 then some s2.2 else mv_ob s2.1 8 (mv_let (s2.2.1 44 s2.1.toNatClampNeg) (fun v4 => (if v4 = s2.1 then mv_ob s2.1 8 (mv_let (mv_wI s2.2 45 s2.1.toNatClampNeg ((1 : Int32) <<< (s2.1 &&& 31))) (fun M7 => mv_let (s2.1 + (1 : Int32)) (fun v8 => f3 (v8, M7)))) else mv_ob v4 8 (mv_ob s2.1 8 (mv_let (mv_wI s2.2 45 s2.1.toNatClampNeg (((1 : Int32) <<< (s2.1 &&& 31)) ||| (s2.2.1 45 v4.toNatClampNeg))) (fun M5 => mv_let (s2.1 + (1 : Int32)) (fun v6 => f3 (v6, M5)))))))))
def fX7_seeAbove_43 (F : Nat) (M : mv_M) : Option (mv_M) :=
  mv_let (0 : Int32) (fun v1 => mv_lp (bX7_seeAbove_43_2) F (v1, M))

def bX4_readTypes_2 (j3 : (mv_M) → Option (Int32 × mv_M)) (F : Nat) (f6 : (Int32 × mv_M) → Option (Int32 × mv_M)) (s5 : Int32 × mv_M) : Option (Int32 × mv_M) :=
  (if (s5.2.1 43 0) ≤ s5.1 then j3 (s5.2) else mv_bi (fX4_take F s5.2 (117 : Int32)) (fun v8 M7 => (if v8 = 0 then mv_b1 (0 : Int32) (some ((0 : Int32), M7)) else mv_bi (fX4_takeNumber F M7 (0 : Int32) s5.1) (fun v10 M9 => mv_let v10 (fun v11 => (if v11 < 0 then mv_b1 (0 : Int32) (some ((0 : Int32), M9)) else mv_bi (fX4_take F M9 (59 : Int32)) (fun v13 M12 => (if v13 = 0 then mv_b1 (0 : Int32) (some ((0 : Int32), M12)) else mv_ob s5.1 8 (mv_let (mv_wI M12 44 s5.1.toNatClampNeg v11) (fun M14 => mv_let (s5.1 + (1 : Int32)) (fun v15 => f6 (v15, M14))))))))))))
def fX4_readTypes (F : Nat) (M : mv_M) : Option (Int32 × mv_M) :=
  mv_let (0 : Int32) (fun v1 => mv_let (fun s2 : mv_M => mv_bv (fX7_seeAbove_43 F s2) (fun M4 => mv_b1 (1 : Int32) (some ((1 : Int32), M4)))) (fun j3 => mv_lp (bX4_readTypes_2 j3 F) F (v1, M)))

def fX4_kindOf (F : Nat) (M : mv_M) (a1 : Int32) : Option (Int32 × mv_M) :=
  (if a1 = (99 : Int32) then some ((4 : Int32), M) else (if a1 = (100 : Int32) then some ((0 : Int32), M) else (if a1 = (101 : Int32) then some ((0 : Int32), M) else (if a1 = (102 : Int32) then some ((2 : Int32), M) else (if a1 = (103 : Int32) then some ((0 : Int32), M) else (if a1 = (104 : Int32) then some ((0 : Int32), M) else (if a1 = (105 : Int32) then some ((0 : Int32), M) else (if a1 = (106 : Int32) then some ((0 : Int32), M) else (if a1 = (107 : Int32) then some ((0 : Int32), M) else (if a1 = (108 : Int32) then some ((1 : Int32), M) else (if a1 = (109 : Int32) then some ((5 : Int32), M) else (if a1 = (110 : Int32) then some ((0 : Int32), M) else (if a1 = (111 : Int32) then some ((3 : Int32), M) else some ((0 : Int32), M))))))))))))))

def fX4_readTaken (F : Nat) (M : mv_M) (a1 : Int32) : Option (Int32 × mv_M) :=
  mv_bi (fX4_take F M (44 : Int32)) (fun v2 M1 => (if v2 = 0 then mv_b1 (0 : Int32) (some ((0 : Int32), M1)) else mv_bi (fX4_takeNumber F M1 (0 : Int32) ((M1.1 43 0) - (1 : Int32))) (fun v4 M3 => mv_ob a1 12 (mv_let (mv_wI M3 50 a1.toNatClampNeg v4) (fun M5 => mv_ob a1 12 (mv_let (mv_wI M5 49 a1.toNatClampNeg (1 : Int32)) (fun M6 => mv_ob a1 12 ((if (M6.1 50 a1.toNatClampNeg) < 0 then mv_ob a1 12 ((if (M6.1 50 a1.toNatClampNeg) < 0 then mv_b1 (0 : Int32) (some ((0 : Int32), M6)) else mv_b1 (1 : Int32) (some ((1 : Int32), M6)))) else mv_bi (fX4_here F M6) (fun v8 M7 => (if v8 = (44 : Int32) then mv_let (mv_wI M7 41 3 ((M7.1 41 3) + (1 : Int32))) (fun M9 => mv_bi (fX4_takeNumber F M9 (0 : Int32) ((M9.1 43 0) - (1 : Int32))) (fun v11 M10 => mv_ob a1 12 (mv_let (mv_wI M10 51 a1.toNatClampNeg v11) (fun M12 => mv_ob a1 12 (mv_let (mv_wI M12 49 a1.toNatClampNeg (2 : Int32)) (fun M13 => mv_ob a1 12 ((if (M13.1 51 a1.toNatClampNeg) < 0 then mv_b1 (0 : Int32) (some ((0 : Int32), M13)) else mv_b1 (1 : Int32) (some ((1 : Int32), M13)))))))))) else mv_ob a1 12 ((if (M7.1 50 a1.toNatClampNeg) < 0 then mv_b1 (0 : Int32) (some ((0 : Int32), M7)) else mv_b1 (1 : Int32) (some ((1 : Int32), M7)))))))))))))))

def fX4_readMember (F : Nat) (M : mv_M) (a1 : Int32) : Option (Int32 × mv_M) :=
  mv_bi (fX4_here F M) (fun v2 M1 => mv_bi (fX4_kindOf F M1 v2) (fun v4 M3 => mv_let v4 (fun v5 => (if v5 = 0 then mv_bi (fX4_refuse F M3 (1 : Int32)) (fun v33 M32 => mv_b1 v33 (some (v33, M32))) else (if a1 < (12 : Int32) then mv_let (mv_wI M3 41 3 ((M3.1 41 3) + (1 : Int32))) (fun M6 => mv_bi (fX4_takeNumber F M6 (0 : Int32) ((M6.1 43 0) - (1 : Int32))) (fun v8 M7 => mv_let v8 (fun v9 => (if v9 < 0 then mv_b1 (0 : Int32) (some ((0 : Int32), M7)) else mv_bi (fX4_take F M7 (44 : Int32)) (fun v11 M10 => (if v11 = 0 then mv_b1 (0 : Int32) (some ((0 : Int32), M10)) else mv_bi (fX4_takeNumber F M10 (1 : Int32) (9 : Int32)) (fun v13 M12 => mv_let v13 (fun v14 => (if 0 ≤ v14 then mv_ob a1 12 (mv_let (mv_wI M12 46 a1.toNatClampNeg v5) (fun M15 => mv_ob a1 12 (mv_let (mv_wI M15 47 a1.toNatClampNeg v9) (fun M16 => mv_ob a1 12 (mv_let (mv_wI M16 48 a1.toNatClampNeg v14) (fun M17 => mv_ob a1 12 (mv_let (mv_wI M17 49 a1.toNatClampNeg (0 : Int32)) (fun M18 => mv_let (mv_wI M18 43 1 (a1 + (1 : Int32))) (fun M19 => (if v5 = (4 : Int32) then mv_bi (fX4_readTaken F M19 a1) (fun v21 M20 => (if v21 = 0 then mv_b1 (0 : Int32) (some ((0 : Int32), M20)) else mv_bi (fX4_take F M20 (59 : Int32)) (fun v23 M22 => (if v23 = 0 then mv_b1 (0 : Int32) (some ((0 : Int32), M22)) else mv_b1 (1 : Int32) (some ((1 : Int32), M22)))))) else (if v5 = (5 : Int32) then mv_bi (fX4_readTaken F M19 a1) (fun v27 M26 => (if v27 = 0 then mv_b1 (0 : Int32) (some ((0 : Int32), M26)) else mv_bi (fX4_take F M26 (59 : Int32)) (fun v29 M28 => (if v29 = 0 then mv_b1 (0 : Int32) (some ((0 : Int32), M28)) else mv_b1 (1 : Int32) (some ((1 : Int32), M28)))))) else mv_bi (fX4_take F M19 (59 : Int32)) (fun v25 M24 => (if v25 = 0 then mv_b1 (0 : Int32) (some ((0 : Int32), M24)) else mv_b1 (1 : Int32) (some ((1 : Int32), M24))))))))))))))) else mv_b1 (0 : Int32) (some ((0 : Int32), M12))))))))))) else mv_bi (fX4_refuse F M3 (3 : Int32)) (fun v31 M30 => mv_b1 v31 (some (v31, M30))))))))

def bX4_readMembers_2 (F : Nat) (f3 : (Int32 × mv_M) → Option (Int32 × mv_M)) (s2 : Int32 × mv_M) : Option (Int32 × mv_M) :=
  (if (12 : Int32) < s2.1 then mv_b1 (0 : Int32) (some ((0 : Int32), s2.2)) else (if s2.1 ≤ 0 then mv_bi (fX4_readMember F s2.2 s2.1) (fun v5 M4 => (if v5 = 0 then mv_b1 (0 : Int32) (some ((0 : Int32), M4)) else mv_let (s2.1 + (1 : Int32)) (fun v6 => f3 (v6, M4)))) else (if (s2.2.1 41 3) = (s2.2.1 41 1) then mv_b1 (1 : Int32) (some ((1 : Int32), s2.2)) else mv_bi (fX4_readMember F s2.2 s2.1) (fun v8 M7 => (if v8 = 0 then mv_b1 (0 : Int32) (some ((0 : Int32), M7)) else mv_let (s2.1 + (1 : Int32)) (fun v9 => f3 (v9, M7)))))))
def fX4_readMembers (F : Nat) (M : mv_M) : Option (Int32 × mv_M) :=
  mv_let (0 : Int32) (fun v1 => mv_lp (bX4_readMembers_2 F) F (v1, M))

def fX4_readTape (F : Nat) (M : mv_M) : Option (Int32 × mv_M) :=
  mv_let (mv_wI M 41 3 (0 : Int32)) (fun M1 => mv_let (mv_wI M1 41 4 (0 : Int32)) (fun M2 => mv_let (mv_wI M2 43 0 (0 : Int32)) (fun M3 => mv_let (mv_wI M3 43 1 (0 : Int32)) (fun M4 => mv_let (mv_wI M4 43 2 (0 : Int32)) (fun M5 => mv_bi (fX4_readLaw F M5) (fun v7 M6 => (if v7 = 0 then mv_b1 (0 : Int32) (some ((0 : Int32), M6)) else mv_bi (fX4_readTypes F M6) (fun v9 M8 => (if v9 = 0 then mv_b1 (0 : Int32) (some ((0 : Int32), M8)) else mv_bi (fX4_readMembers F M8) (fun v11 M10 => (if v11 = 0 then mv_b1 (0 : Int32) (some ((0 : Int32), M10)) else mv_b1 (1 : Int32) (some ((1 : Int32), M10)))))))))))))

def fX4_emptyTape (F : Nat) (M : mv_M) : Option (mv_M) :=
  mv_let (mv_wI M 41 1 (0 : Int32)) (fun M1 => some M1)

def fX7_become_o43 (F : Nat) (M : mv_M) : Option (mv_M) :=
  mv_let (mv_wI M 1 0 (M.1 43 0)) (fun M1 => mv_let (mv_wI M1 1 1 (M1.1 43 1)) (fun M2 => mv_let (mv_wI M2 1 2 (M2.1 43 2)) (fun M3 => mv_cp (0 : Int32) (0 : Int32) (8 : Int32) 8 8 (mv_let (mv_wA M3 2 (va_cpy (M3.1 44) (M3.1 2) (0 : Int32).toNatClampNeg (0 : Int32).toNatClampNeg (8 : Int32).toNatClampNeg)) (fun M4 => mv_cp (0 : Int32) (0 : Int32) (8 : Int32) 8 8 (mv_let (mv_wA M4 3 (va_cpy (M4.1 45) (M4.1 3) (0 : Int32).toNatClampNeg (0 : Int32).toNatClampNeg (8 : Int32).toNatClampNeg)) (fun M5 => mv_cp (0 : Int32) (0 : Int32) (12 : Int32) 12 12 (mv_let (mv_wA M5 4 (va_cpy (M5.1 46) (M5.1 4) (0 : Int32).toNatClampNeg (0 : Int32).toNatClampNeg (12 : Int32).toNatClampNeg)) (fun M6 => mv_cp (0 : Int32) (0 : Int32) (12 : Int32) 12 12 (mv_let (mv_wA M6 5 (va_cpy (M6.1 47) (M6.1 5) (0 : Int32).toNatClampNeg (0 : Int32).toNatClampNeg (12 : Int32).toNatClampNeg)) (fun M7 => mv_cp (0 : Int32) (0 : Int32) (12 : Int32) 12 12 (mv_let (mv_wA M7 6 (va_cpy (M7.1 48) (M7.1 6) (0 : Int32).toNatClampNeg (0 : Int32).toNatClampNeg (12 : Int32).toNatClampNeg)) (fun M8 => mv_cp (0 : Int32) (0 : Int32) (12 : Int32) 12 12 (mv_let (mv_wA M8 7 (va_cpy (M8.1 49) (M8.1 7) (0 : Int32).toNatClampNeg (0 : Int32).toNatClampNeg (12 : Int32).toNatClampNeg)) (fun M9 => mv_cp (0 : Int32) (0 : Int32) (12 : Int32) 12 12 (mv_let (mv_wA M9 8 (va_cpy (M9.1 50) (M9.1 8) (0 : Int32).toNatClampNeg (0 : Int32).toNatClampNeg (12 : Int32).toNatClampNeg)) (fun M10 => mv_cp (0 : Int32) (0 : Int32) (12 : Int32) 12 12 (mv_let (mv_wA M10 9 (va_cpy (M10.1 51) (M10.1 9) (0 : Int32).toNatClampNeg (0 : Int32).toNatClampNeg (12 : Int32).toNatClampNeg)) (fun M11 => some M11)))))))))))))))))))

def fX8_standAs_o43 (F : Nat) (M : mv_M) : Option (mv_M) :=
  mv_bv (fX7_become_o43 F M) (fun M1 => mv_let (mv_wI M1 52 3 (0 : Int32)) (fun M2 => mv_let (mv_wI M2 58 1 (0 : Int32)) (fun M3 => some M3)))

def fX8_world (F : Nat) (M : mv_M) : Option (Int32 × mv_M) :=
  mv_bi (fX4_readTape F M) (fun v2 M1 => mv_let v2 (fun v3 => mv_bv (fX4_emptyTape F M1) (fun M4 => (if v3 = 0 then mv_let (mv_wI M4 0 9 (M4.1 41 4)) (fun M6 => some (((-1000100 : Int32) - (M6.1 41 3)), M6)) else mv_bv (fX8_standAs_o43 F M4) (fun M5 => some ((M5.1 1 1), M5))))))

def fX8_fault (F : Nat) (M : mv_M) : Option (Int32 × mv_M) :=
  some ((M.1 0 9), M)

def fX7_hasMember (F : Nat) (M : mv_M) (a1 : Int32) : Option (Int32 × mv_M) :=
  (if a1 < 0 then mv_b1 (0 : Int32) (some ((0 : Int32), M)) else (if (M.1 1 1) ≤ a1 then mv_b1 (0 : Int32) (some ((0 : Int32), M)) else mv_b1 (1 : Int32) (some ((1 : Int32), M))))

def fX7_isHidden (F : Nat) (M : mv_M) (a1 : Int32) : Option (Int32 × mv_M) :=
  (if (((M.1 1 2) >>> (a1 &&& 31)) &&& (1 : Int32)) = 0 then mv_b1 (0 : Int32) (some ((0 : Int32), M)) else mv_b1 (1 : Int32) (some ((1 : Int32), M)))

def fX0_forgetOldest (F : Nat) (M : mv_M) : Option (mv_M) :=
  mv_let (mv_wI M 52 3 (23 : Int32)) (fun M1 => mv_cp (1 : Int32) (0 : Int32) (M1.1 52 3) 24 24 (mv_let (mv_wA M1 53 (va_cpy (M1.1 53) (M1.1 53) (1 : Int32).toNatClampNeg (0 : Int32).toNatClampNeg (M1.1 52 3).toNatClampNeg)) (fun M2 => mv_cp (1 : Int32) (0 : Int32) (M2.1 52 3) 24 24 (mv_let (mv_wA M2 54 (va_cpy (M2.1 54) (M2.1 54) (1 : Int32).toNatClampNeg (0 : Int32).toNatClampNeg (M2.1 52 3).toNatClampNeg)) (fun M3 => mv_cp (1 : Int32) (0 : Int32) (M3.1 52 3) 24 24 (mv_let (mv_wA M3 55 (va_cpy (M3.1 55) (M3.1 55) (1 : Int32).toNatClampNeg (0 : Int32).toNatClampNeg (M3.1 52 3).toNatClampNeg)) (fun M4 => some M4)))))))

def fX0_keep (F : Nat) (M : mv_M) (a1 : Int32) (a2 : Int32) (a3 : Int32) : Option (mv_M) :=
  mv_let (fun s1 : mv_M => mv_ob (s1.1 52 3) 24 (mv_let (mv_wI s1 53 (s1.1 52 3).toNatClampNeg a1) (fun M3 => mv_ob (M3.1 52 3) 24 (mv_let (mv_wI M3 54 (M3.1 52 3).toNatClampNeg a2) (fun M4 => mv_ob (M4.1 52 3) 24 (mv_let (mv_wI M4 55 (M4.1 52 3).toNatClampNeg a3) (fun M5 => mv_let (mv_wI M5 52 3 ((M5.1 52 3) + (1 : Int32))) (fun M6 => some M6)))))))) (fun j2 => (if (M.1 52 3) = (24 : Int32) then mv_bv (fX0_forgetOldest F M) (fun M7 => j2 M7) else j2 M))

def fX7_putHidden (F : Nat) (M : mv_M) (a1 : Int32) (a2 : Int32) : Option (mv_M) :=
  (if a2 = 0 then mv_let (mv_wI M 1 2 ((M.1 1 2) &&& (((1 : Int32) <<< (a1 &&& 31)) ^^^ (-1 : Int32)))) (fun M2 => some M2) else mv_let (mv_wI M 1 2 ((M.1 1 2) ||| ((1 : Int32) <<< (a1 &&& 31)))) (fun M1 => some M1))

def bX7_seeAbove_2 (f3 : (Int32 × mv_M) → Option (mv_M)) (s2 : Int32 × mv_M) : Option (mv_M) :=
  (if (s2.2.1 1 0) ≤ s2.1 then some s2.2 else mv_ob s2.1 8 (mv_let (s2.2.1 2 s2.1.toNatClampNeg) (fun v4 => (if v4 = s2.1 then mv_ob s2.1 8 (mv_let (mv_wI s2.2 3 s2.1.toNatClampNeg ((1 : Int32) <<< (s2.1 &&& 31))) (fun M7 => mv_let (s2.1 + (1 : Int32)) (fun v8 => f3 (v8, M7)))) else mv_ob v4 8 (mv_ob s2.1 8 (mv_let (mv_wI s2.2 3 s2.1.toNatClampNeg (((1 : Int32) <<< (s2.1 &&& 31)) ||| (s2.2.1 3 v4.toNatClampNeg))) (fun M5 => mv_let (s2.1 + (1 : Int32)) (fun v6 => f3 (v6, M5)))))))))
def fX7_seeAbove (F : Nat) (M : mv_M) : Option (mv_M) :=
  mv_let (0 : Int32) (fun v1 => mv_lp (bX7_seeAbove_2) F (v1, M))

def fX8_change (F : Nat) (M : mv_M) (a1 : Int32) (a2 : Int32) (a3 : Int32) : Option (mv_M) :=
  (if a1 = (0 : Int32) then mv_bv (fX7_putHidden F M a2 a3) (fun M1 => mv_let (mv_wI M1 58 1 (0 : Int32)) (fun M2 => some M2)) else (if a1 = (1 : Int32) then mv_ob a2 12 (mv_let (mv_wI M 6 a2.toNatClampNeg a3) (fun M4 => mv_let (mv_wI M4 58 1 (0 : Int32)) (fun M5 => some M5))) else mv_ob a2 8 (mv_let (mv_wI M 2 a2.toNatClampNeg a3) (fun M7 => mv_bv (fX7_seeAbove F M7) (fun M8 => mv_let (mv_wI M8 58 1 (0 : Int32)) (fun M9 => some M9))))))

def fX8_hide (F : Nat) (M : mv_M) (a1 : Int32) (a2 : Int32) : Option (Int32 × mv_M) :=
  mv_bi (fX7_hasMember F M a1) (fun v2 M1 => (if v2 = 0 then some ((-1000001 : Int32), M1) else (if a2 < 0 then some ((-1000001 : Int32), M1) else (if a2 ≤ (1 : Int32) then mv_bi (fX7_isHidden F M1 a1) (fun v4 M3 => mv_let (fun s5 : Int32 × mv_M => mv_let s5.1 (fun v7 => (if a2 = v7 then some ((-1000002 : Int32), s5.2) else mv_bv (fX0_keep F s5.2 (0 : Int32) a1 v7) (fun M8 => mv_bv (fX8_change F M8 (0 : Int32) a1 a2) (fun M9 => some ((M9.1 1 2), M9)))))) (fun j6 => (if v4 = 0 then j6 ((0 : Int32), M3) else j6 ((1 : Int32), M3)))) else some ((-1000001 : Int32), M1)))))

def fX8_cost (F : Nat) (M : mv_M) (a1 : Int32) (a2 : Int32) : Option (Int32 × mv_M) :=
  mv_bi (fX7_hasMember F M a1) (fun v2 M1 => (if v2 = 0 then some ((-1000001 : Int32), M1) else (if a2 < (1 : Int32) then some ((-1000001 : Int32), M1) else (if a2 ≤ (9 : Int32) then mv_ob a1 12 (mv_let (M1.1 6 a1.toNatClampNeg) (fun v3 => mv_bv (fX0_keep F M1 (1 : Int32) a1 v3) (fun M4 => mv_bv (fX8_change F M4 (1 : Int32) a1 a2) (fun M5 => some (v3, M5))))) else some ((-1000001 : Int32), M1)))))

def fX7_hasType (F : Nat) (M : mv_M) (a1 : Int32) : Option (Int32 × mv_M) :=
  (if a1 < 0 then mv_b1 (0 : Int32) (some ((0 : Int32), M)) else (if (M.1 1 0) ≤ a1 then mv_b1 (0 : Int32) (some ((0 : Int32), M)) else mv_b1 (1 : Int32) (some ((1 : Int32), M))))

def fX8_above (F : Nat) (M : mv_M) (a1 : Int32) (a2 : Int32) : Option (Int32 × mv_M) :=
  mv_bi (fX7_hasType F M a1) (fun v2 M1 => (if v2 = 0 then some ((-1000001 : Int32), M1) else (if a2 < 0 then some ((-1000001 : Int32), M1) else (if a2 ≤ a1 then mv_ob a1 8 (mv_let (M1.1 2 a1.toNatClampNeg) (fun v3 => mv_bv (fX0_keep F M1 (2 : Int32) a1 v3) (fun M4 => mv_bv (fX8_change F M4 (2 : Int32) a1 a2) (fun M5 => some (v3, M5))))) else some ((-1000001 : Int32), M1)))))

def fX8_undo (F : Nat) (M : mv_M) : Option (Int32 × mv_M) :=
  (if (M.1 52 3) = 0 then some ((-1000002 : Int32), M) else mv_let (mv_wI M 52 3 ((M.1 52 3) - (1 : Int32))) (fun M1 => mv_let (M1.1 52 3) (fun v2 => mv_ob v2 24 (mv_ob v2 24 (mv_ob v2 24 (mv_bv (fX8_change F M1 (M1.1 53 v2.toNatClampNeg) (M1.1 54 v2.toNatClampNeg) (M1.1 55 v2.toNatClampNeg)) (fun M3 => some (v2, M3))))))))

def fX7_priceOf (F : Nat) (M : mv_M) (a1 : Int32) : Option (Int32 × mv_M) :=
  mv_ob a1 12 ((if (M.1 4 a1.toNatClampNeg) = (2 : Int32) then mv_ob a1 12 (some (((M.1 6 a1.toNatClampNeg) + (2 : Int32)), M)) else (if (M.1 4 a1.toNatClampNeg) = (3 : Int32) then mv_ob a1 12 (some (((M.1 6 a1.toNatClampNeg) * (3 : Int32)), M)) else (if (M.1 4 a1.toNatClampNeg) = (4 : Int32) then mv_ob a1 12 (some ((M.1 6 a1.toNatClampNeg), M)) else (if (M.1 4 a1.toNatClampNeg) = (5 : Int32) then mv_ob a1 12 (mv_ob a1 12 (some (((M.1 6 a1.toNatClampNeg) + (M.1 7 a1.toNatClampNeg)), M))) else mv_ob a1 12 (some ((M.1 6 a1.toNatClampNeg), M)))))))

def fX8_member (F : Nat) (M : mv_M) (a1 : Int32) (a2 : Int32) : Option (Int32 × mv_M) :=
  mv_bi (fX7_hasMember F M a1) (fun v2 M1 => (if v2 = 0 then some ((-1000001 : Int32), M1) else (if a2 = (0 : Int32) then mv_ob a1 12 (some ((M1.1 5 a1.toNatClampNeg), M1)) else (if a2 = (1 : Int32) then mv_ob a1 12 (some ((M1.1 6 a1.toNatClampNeg), M1)) else (if a2 = (2 : Int32) then mv_bi (fX7_priceOf F M1 a1) (fun v6 M5 => some (v6, M5)) else (if a2 = (3 : Int32) then mv_ob a1 12 (some ((M1.1 7 a1.toNatClampNeg), M1)) else (if a2 = (4 : Int32) then mv_ob a1 12 ((if (M1.1 7 a1.toNatClampNeg) ≤ 0 then some ((-1000000 : Int32), M1) else mv_ob a1 12 (some ((M1.1 8 a1.toNatClampNeg), M1)))) else (if a2 = (5 : Int32) then mv_ob a1 12 ((if (M1.1 7 a1.toNatClampNeg) ≤ (1 : Int32) then some ((-1000000 : Int32), M1) else mv_ob a1 12 (some ((M1.1 9 a1.toNatClampNeg), M1)))) else (if a2 = (6 : Int32) then mv_bi (fX7_isHidden F M1 a1) (fun v12 M11 => (if v12 = 0 then some ((0 : Int32), M11) else some ((1 : Int32), M11))) else some ((-1000001 : Int32), M1))))))))))

def fX7_isOf (F : Nat) (M : mv_M) (a1 : Int32) (a2 : Int32) : Option (Int32 × mv_M) :=
  mv_ob a1 8 ((if (((M.1 3 a1.toNatClampNeg) >>> (a2 &&& 31)) &&& (1 : Int32)) = 0 then mv_b1 (0 : Int32) (some ((0 : Int32), M)) else mv_b1 (1 : Int32) (some ((1 : Int32), M))))

def bX7_typesOf_4 (F : Nat) (a1 : Int32) (f4 : (Int32 × Int32 × mv_M) → Option (Int32 × mv_M)) (s3 : Int32 × Int32 × mv_M) : Option (Int32 × mv_M) :=
  (if (s3.2.2.1 1 0) ≤ s3.2.1 then some (s3.1, s3.2.2) else mv_bi (fX7_isOf F s3.2.2 s3.2.1 a1) (fun v6 M5 => (if v6 = 0 then mv_let (s3.2.1 + (1 : Int32)) (fun v7 => f4 (s3.1, v7, M5)) else mv_let (s3.1 ||| ((1 : Int32) <<< (s3.2.1 &&& 31))) (fun v8 => mv_let (s3.2.1 + (1 : Int32)) (fun v9 => f4 (v8, v9, M5))))))
def fX7_typesOf (F : Nat) (M : mv_M) (a1 : Int32) : Option (Int32 × mv_M) :=
  mv_let (0 : Int32) (fun v1 => mv_let (0 : Int32) (fun v2 => mv_lp (bX7_typesOf_4 F a1) F (v1, v2, M)))

def fX7_givesOne (F : Nat) (M : mv_M) (a1 : Int32) (a2 : Int32) : Option (Int32 × mv_M) :=
  mv_ob a1 12 (mv_bi (fX7_isOf F M (M.1 5 a1.toNatClampNeg) a2) (fun v2 M1 => mv_b1 v2 (some (v2, M1))))

def bX7_membersOf_4 (F : Nat) (a1 : Int32) (f4 : (Int32 × Int32 × mv_M) → Option (Int32 × mv_M)) (s3 : Int32 × Int32 × mv_M) : Option (Int32 × mv_M) :=
  (if (s3.2.2.1 1 1) ≤ s3.2.1 then some (s3.1, s3.2.2) else mv_bi (fX7_givesOne F s3.2.2 s3.2.1 a1) (fun v6 M5 => (if v6 = 0 then mv_let (s3.2.1 + (1 : Int32)) (fun v7 => f4 (s3.1, v7, M5)) else mv_let (s3.1 ||| ((1 : Int32) <<< (s3.2.1 &&& 31))) (fun v8 => mv_let (s3.2.1 + (1 : Int32)) (fun v9 => f4 (v8, v9, M5))))))
def fX7_membersOf (F : Nat) (M : mv_M) (a1 : Int32) : Option (Int32 × mv_M) :=
  mv_let (0 : Int32) (fun v1 => mv_let (0 : Int32) (fun v2 => mv_lp (bX7_membersOf_4 F a1) F (v1, v2, M)))

def fX8_type (F : Nat) (M : mv_M) (a1 : Int32) (a2 : Int32) : Option (Int32 × mv_M) :=
  mv_bi (fX7_hasType F M a1) (fun v2 M1 => (if v2 = 0 then some ((-1000001 : Int32), M1) else (if a2 = (0 : Int32) then mv_ob a1 8 (some ((M1.1 2 a1.toNatClampNeg), M1)) else (if a2 = (1 : Int32) then mv_ob a1 8 (some ((M1.1 3 a1.toNatClampNeg), M1)) else (if a2 = (2 : Int32) then mv_bi (fX7_typesOf F M1 a1) (fun v6 M5 => some (v6, M5)) else (if a2 = (3 : Int32) then mv_bi (fX7_membersOf F M1 a1) (fun v9 M8 => some (v9, M8)) else some ((-1000001 : Int32), M1)))))))

def bX2_addTo_3 (a1 : Int32) (a2 : Int32) (a3 : Int64) (f3 : (Int32 × mv_M) → Option (mv_M)) (s2 : Int32 × mv_M) : Option (mv_M) :=
  (if (s2.2.1 1 0) ≤ s2.1 then some s2.2 else (if ((a1 >>> (s2.1 &&& 31)) &&& (1 : Int32)) = 0 then mv_let (s2.1 + (1 : Int32)) (fun v4 => f3 (v4, s2.2)) else mv_ob s2.1 8 (mv_ob s2.1 8 (mv_ob a2 25 (mv_ob a2 25 (mv_let (mv_wL s2.2 (73 + s2.1.toNatClampNeg) a2.toNatClampNeg (if (1000000000 : Int64) < ((s2.2.2 (73 + s2.1.toNatClampNeg) a2.toNatClampNeg) + a3) then (1000000000 : Int64) else ((s2.2.2 (73 + s2.1.toNatClampNeg) a2.toNatClampNeg) + a3))) (fun M7 => mv_let (s2.1 + (1 : Int32)) (fun v8 => f3 (v8, M7)))))))))
def fX2_addTo (F : Nat) (M : mv_M) (a1 : Int32) (a2 : Int32) (a3 : Int64) : Option (mv_M) :=
  mv_let (0 : Int32) (fun v1 => mv_lp (bX2_addTo_3 a1 a2 a3) F (v1, M))

def bX2_ways_5 (a3 : Int32) (i1 : Nat) (i2 : Nat) (f4 : (Int64 × Int32 × mv_M) → Option (Int64 × mv_M)) (s3 : Int64 × Int32 × mv_M) : Option (Int64 × mv_M) :=
  (if a3 < s3.2.1 then some ((if (1000000000 : Int64) < s3.1 then (1000000000 : Int64) else s3.1), s3.2.2) else (if 0 ≤ (lg_cmp s3.1 (1000000000 : Int64)) then some ((if (1000000000 : Int64) < s3.1 then (1000000000 : Int64) else s3.1), s3.2.2) else mv_ob s3.2.1 25 (mv_ob (a3 - s3.2.1) 25 (mv_let (s3.1 + ((s3.2.2.2 i1 s3.2.1.toNatClampNeg) * (s3.2.2.2 i2 (a3 - s3.2.1).toNatClampNeg))) (fun v5 => mv_let (s3.2.1 + (1 : Int32)) (fun v6 => f4 (v5, v6, s3.2.2)))))))
def fX2_ways (F : Nat) (M : mv_M) (i1 : Nat) (i2 : Nat) (a3 : Int32) : Option (Int64 × mv_M) :=
  mv_let (0 : Int64) (fun v1 => mv_let (0 : Int32) (fun v2 => mv_lp (bX2_ways_5 a3 i1 i2) F (v1, v2, M)))

def fX2_manyWith (F : Nat) (M : mv_M) (a1 : Int32) (a2 : Int32) : Option (Int64 × mv_M) :=
  mv_bi (fX7_priceOf F M a1) (fun v2 M1 => mv_let (a2 - v2) (fun v3 => (if 0 ≤ v3 then mv_ob a1 12 ((if (M1.1 7 a1.toNatClampNeg) = (0 : Int32) then (if v3 = 0 then some ((1 : Int64), M1) else some ((0 : Int64), M1)) else (if (M1.1 7 a1.toNatClampNeg) = (1 : Int32) then mv_ob a1 12 (mv_ob (M1.1 8 a1.toNatClampNeg) 8 (mv_ob v3 25 (some ((M1.2 (73 + (M1.1 8 a1.toNatClampNeg).toNatClampNeg) v3.toNatClampNeg), M1)))) else mv_ob a1 12 (mv_ob (M1.1 8 a1.toNatClampNeg) 8 (mv_ob a1 12 (mv_ob (M1.1 9 a1.toNatClampNeg) 8 (mv_bl (fX2_ways F M1 (73 + (M1.1 8 a1.toNatClampNeg).toNatClampNeg) (73 + (M1.1 9 a1.toNatClampNeg).toNatClampNeg) v3) (fun v10 M9 => some (v10, M9))))))))) else some ((0 : Int64), M1))))

def bX2_countPrice_30 (F : Nat) (a1 : Int32) (f6 : (Int32 × mv_M) → Option (mv_M)) (s5 : Int32 × mv_M) : Option (mv_M) :=
  (if (s5.2.1 1 1) ≤ s5.1 then some s5.2 else mv_bi (fX7_isHidden F s5.2 s5.1) (fun v8 M7 => mv_let (fun s9 : Int64 × mv_M => mv_let s9.1 (fun v11 => mv_ob s5.1 12 (mv_ob a1 25 (mv_let (mv_wL s9.2 (60 + s5.1.toNatClampNeg) a1.toNatClampNeg v11) (fun M13 => (if (lg_cmp v11 (0 : Int64)) ≤ 0 then mv_let (s5.1 + (1 : Int32)) (fun v14 => f6 (v14, M13)) else mv_ob s5.1 12 (mv_ob (M13.1 5 s5.1.toNatClampNeg) 8 (mv_bv (fX2_addTo F M13 (M13.1 3 (M13.1 5 s5.1.toNatClampNeg).toNatClampNeg) a1 v11) (fun M15 => mv_let (s5.1 + (1 : Int32)) (fun v16 => f6 (v16, M15))))))))))) (fun j10 => (if v8 = 0 then mv_bl (fX2_manyWith F M7 s5.1 a1) (fun v18 M17 => j10 (v18, M17)) else j10 ((0 : Int64), M7)))))
def bX2_countPrice_2 (j3 : (mv_M) → Option (mv_M)) (a1 : Int32) (f20 : (Int32 × mv_M) → Option (mv_M)) (s19 : Int32 × mv_M) : Option (mv_M) :=
  (if (s19.2.1 1 0) ≤ s19.1 then j3 (s19.2) else mv_ob s19.1 8 (mv_ob a1 25 (mv_let (mv_wL s19.2 (73 + s19.1.toNatClampNeg) a1.toNatClampNeg (0 : Int64)) (fun M22 => mv_let (s19.1 + (1 : Int32)) (fun v23 => f20 (v23, M22))))))
def fX2_countPrice (F : Nat) (M : mv_M) (a1 : Int32) : Option (mv_M) :=
  mv_let (0 : Int32) (fun v1 => mv_let (fun s2 : mv_M => mv_let (0 : Int32) (fun v4 => mv_lp (bX2_countPrice_30 F a1) F (v4, s2))) (fun j3 => mv_lp (bX2_countPrice_2 j3 a1) F (v1, M)))

def bX2_countAll_10 (F : Nat) (f3 : (Int32 × mv_M) → Option (mv_M)) (s2 : Int32 × mv_M) : Option (mv_M) :=
  (if (24 : Int32) < s2.1 then mv_let (mv_wI s2.2 58 1 (1 : Int32)) (fun M4 => some M4) else mv_bv (fX2_countPrice F s2.2 s2.1) (fun M5 => mv_let (s2.1 + (1 : Int32)) (fun v6 => f3 (v6, M5))))
def fX2_countAll (F : Nat) (M : mv_M) : Option (mv_M) :=
  (if (M.1 58 1) = 0 then mv_let (1 : Int32) (fun v1 => mv_lp (bX2_countAll_10 F) F (v1, M)) else some M)

def fX2_manyOfPrice (F : Nat) (M : mv_M) (a1 : Int32) (a2 : Int32) : Option (Int32 × mv_M) :=
  mv_bv (fX2_countAll F M) (fun M1 => mv_ob a1 8 (mv_ob a2 25 (some ((if (999999999 : Int64) < (M1.2 (73 + a1.toNatClampNeg) a2.toNatClampNeg) then (999999999 : Int64) else (M1.2 (73 + a1.toNatClampNeg) a2.toNatClampNeg)).toInt32, M1))))

def fX8_many (F : Nat) (M : mv_M) (a1 : Int32) (a2 : Int32) : Option (Int32 × mv_M) :=
  mv_bi (fX7_hasType F M a1) (fun v2 M1 => (if v2 = 0 then some ((-1000001 : Int32), M1) else (if a2 < (1 : Int32) then some ((-1000001 : Int32), M1) else (if a2 ≤ (24 : Int32) then mv_bi (fX2_manyOfPrice F M1 a1 a2) (fun v4 M3 => some (v4, M3)) else some ((-1000001 : Int32), M1)))))

def fX3_leastWith (F : Nat) (M : mv_M) (a1 : Int32) : Option (Int32 × mv_M) :=
  mv_bi (fX7_priceOf F M a1) (fun v2 M1 => mv_let v2 (fun v3 => mv_ob a1 12 (mv_let (fun s4 : Int32 × mv_M => mv_ob a1 12 ((if (s4.2.1 7 a1.toNatClampNeg) ≤ (1 : Int32) then some (s4.1, s4.2) else mv_ob a1 12 (mv_ob (s4.2.1 9 a1.toNatClampNeg) 8 (mv_let (s4.1 + (s4.2.1 57 (s4.2.1 9 a1.toNatClampNeg).toNatClampNeg)) (fun v6 => some (v6, s4.2))))))) (fun j5 => (if (M1.1 7 a1.toNatClampNeg) ≤ 0 then j5 (v3, M1) else mv_ob a1 12 (mv_ob (M1.1 8 a1.toNatClampNeg) 8 (mv_let (v3 + (M1.1 57 (M1.1 8 a1.toNatClampNeg).toNatClampNeg)) (fun v7 => j5 (v7, M1)))))))))

def bX3_lower_5 (a1 : Int32) (a2 : Int32) (f4 : (Int32 × Int32 × mv_M) → Option (Int32 × mv_M)) (s3 : Int32 × Int32 × mv_M) : Option (Int32 × mv_M) :=
  (if (s3.2.2.1 1 0) ≤ s3.2.1 then mv_b1 s3.1 (some (s3.1, s3.2.2)) else (if ((a1 >>> (s3.2.1 &&& 31)) &&& (1 : Int32)) = 0 then mv_let (s3.2.1 + (1 : Int32)) (fun v5 => f4 (s3.1, v5, s3.2.2)) else mv_ob s3.2.1 8 ((if (s3.2.2.1 57 s3.2.1.toNatClampNeg) ≤ a2 then mv_let (s3.2.1 + (1 : Int32)) (fun v6 => f4 (s3.1, v6, s3.2.2)) else mv_ob s3.2.1 8 (mv_let (mv_wI s3.2.2 57 s3.2.1.toNatClampNeg a2) (fun M7 => mv_let (1 : Int32) (fun v8 => mv_let (s3.2.1 + (1 : Int32)) (fun v9 => f4 (v8, v9, M7)))))))))
def fX3_lower (F : Nat) (M : mv_M) (a1 : Int32) (a2 : Int32) : Option (Int32 × mv_M) :=
  mv_let (0 : Int32) (fun v1 => mv_let (0 : Int32) (fun v2 => mv_lp (bX3_lower_5 a1 a2) F (v1, v2, M)))

def bX3_seek_28 (s4 : Int32 × Int32 × mv_M) (f5 : (Int32 × Int32 × mv_M) → Option (mv_M)) (a1 : Int32) (F : Nat) (f9 : (Int32 × Int32 × mv_M) → Option (mv_M)) (s8 : Int32 × Int32 × mv_M) : Option (mv_M) :=
  (if (s8.2.2.1 1 1) ≤ s8.2.1 then mv_let (s4.2.1 + (1 : Int32)) (fun v10 => f5 (s8.1, v10, s8.2.2)) else (if ((a1 >>> (s8.2.1 &&& 31)) &&& (1 : Int32)) = 0 then mv_ob s8.2.1 12 (mv_ob (s8.2.2.1 5 s8.2.1.toNatClampNeg) 8 (mv_bi (fX3_leastWith F s8.2.2 s8.2.1) (fun v13 M12 => mv_bi (fX3_lower F M12 (s8.2.2.1 3 (s8.2.2.1 5 s8.2.1.toNatClampNeg).toNatClampNeg) v13) (fun v15 M14 => (if v15 = 0 then mv_let (s8.2.1 + (1 : Int32)) (fun v16 => f9 (s8.1, v16, M14)) else mv_let (1 : Int32) (fun v17 => mv_let (s8.2.1 + (1 : Int32)) (fun v18 => f9 (v17, v18, M14)))))))) else mv_let (s8.2.1 + (1 : Int32)) (fun v11 => f9 (s8.1, v11, s8.2.2))))
def bX3_seek_13 (a1 : Int32) (F : Nat) (f5 : (Int32 × Int32 × mv_M) → Option (mv_M)) (s4 : Int32 × Int32 × mv_M) : Option (mv_M) :=
  (if (8 : Int32) < s4.2.1 then some s4.2.2 else (if s4.1 = 0 then some s4.2.2 else mv_let (0 : Int32) (fun v6 => mv_let (0 : Int32) (fun v7 => mv_lp (bX3_seek_28 s4 f5 a1 F) F (v6, v7, s4.2.2)))))
def fX3_seek (F : Nat) (M : mv_M) (a1 : Int32) : Option (mv_M) :=
  mv_bv (fJ7_fill_53178 F M 57 8 (100000000 : Int32)) (fun M1 => mv_let (1 : Int32) (fun v2 => mv_let (0 : Int32) (fun v3 => mv_lp (bX3_seek_13 a1 F) F (v2, v3, M1))))

def fX3_leastListed (F : Nat) (M : mv_M) (a1 : Int32) (a2 : Int32) : Option (Int32 × mv_M) :=
  mv_bv (fX3_seek F M a2) (fun M1 => mv_ob a1 8 ((if (24 : Int32) < (M1.1 57 a1.toNatClampNeg) then some ((-1000000 : Int32), M1) else mv_ob a1 8 (some ((M1.1 57 a1.toNatClampNeg), M1)))))

def fX8_cheapest (F : Nat) (M : mv_M) (a1 : Int32) : Option (Int32 × mv_M) :=
  mv_bi (fX7_hasType F M a1) (fun v2 M1 => (if v2 = 0 then some ((-1000001 : Int32), M1) else mv_bi (fX3_leastListed F M1 a1 (M1.1 1 2)) (fun v4 M3 => some (v4, M3))))

def bX2_findPlace_12 (a1 : Int32) (f5 : (Int32 × mv_M) → Option (Int32 × mv_M)) (s4 : Int32 × mv_M) : Option (Int32 × mv_M) :=
  (if (24 : Int32) < s4.1 then some ((-1000000 : Int32), s4.2) else mv_ob a1 8 (mv_ob s4.1 25 ((if 0 ≤ (lg_cmp (s4.2.2 58 8) (s4.2.2 (73 + a1.toNatClampNeg) s4.1.toNatClampNeg)) then mv_ob a1 8 (mv_ob s4.1 25 (mv_let (mv_wL s4.2 58 8 ((s4.2.2 58 8) - (s4.2.2 (73 + a1.toNatClampNeg) s4.1.toNatClampNeg))) (fun M8 => mv_let (s4.1 + (1 : Int32)) (fun v9 => f5 (v9, M8))))) else some (s4.1, s4.2)))))
def fX2_findPlace (F : Nat) (M : mv_M) (a1 : Int32) (a2 : Int32) : Option (Int32 × mv_M) :=
  mv_bv (fX2_countAll F M) (fun M1 => mv_let (mv_wL M1 58 8 a2.toInt64) (fun M2 => mv_let (1 : Int32) (fun v3 => mv_lp (bX2_findPlace_12 a1) F (v3, M2))))

def fX2_want (F : Nat) (M : mv_M) (a1 : Int32) : Option (mv_M) :=
  (if (24 : Int32) ≤ (M.1 58 6) then some M else mv_ob (M.1 58 6) 25 (mv_let (mv_wI M 107 (M.1 58 6).toNatClampNeg a1) (fun M1 => mv_let (mv_wI M1 58 6 ((M1.1 58 6) + (1 : Int32))) (fun M2 => some M2))))

def fX2_waysWith (F : Nat) (M : mv_M) (a1 : Int32) (a2 : Int32) (a3 : Int32) : Option (Int64 × mv_M) :=
  mv_bi (fX7_isHidden F M a1) (fun v2 M1 => (if v2 = 0 then mv_bi (fX7_givesOne F M1 a1 a2) (fun v4 M3 => (if v4 = 0 then some ((0 : Int64), M3) else mv_ob a1 12 (mv_ob (M3.1 58 6) 25 (mv_bl (fX2_ways F M3 (60 + a1.toNatClampNeg) (82 + (M3.1 58 6).toNatClampNeg) a3) (fun v8 M7 => some (v8, M7)))))) else some ((0 : Int64), M1)))

def bX2_choose_2 (F : Nat) (a1 : Int32) (a2 : Int32) (f3 : (Int32 × mv_M) → Option (Int32 × mv_M)) (s2 : Int32 × mv_M) : Option (Int32 × mv_M) :=
  (if (s2.2.1 1 1) ≤ s2.1 then some ((-1 : Int32), s2.2) else mv_bl (fX2_waysWith F s2.2 s2.1 a1 a2) (fun v5 M4 => mv_let v5 (fun v6 => (if 0 ≤ (lg_cmp (M4.2 58 8) v6) then mv_let (mv_wL M4 58 8 ((M4.2 58 8) - v6)) (fun M7 => mv_let (s2.1 + (1 : Int32)) (fun v8 => f3 (v8, M7))) else some (s2.1, M4)))))
def fX2_choose (F : Nat) (M : mv_M) (a1 : Int32) (a2 : Int32) : Option (Int32 × mv_M) :=
  mv_let (0 : Int32) (fun v1 => mv_lp (bX2_choose_2 F a1 a2) F (v1, M))

def bX2_fillRest_19 (a1 : Int32) (F : Nat) (M : mv_M) (f4 : (Int32 × mv_M) → Option (mv_M)) (s3 : Int32 × mv_M) : Option (mv_M) :=
  (if a1 < s3.1 then some s3.2 else mv_ob (s3.2.1 58 6) 25 (mv_ob ((s3.2.1 58 6) - (1 : Int32)) 25 (mv_bl (fX2_ways F s3.2 (73 + (M.1 107 ((M.1 58 6) - (1 : Int32)).toNatClampNeg).toNatClampNeg) (82 + ((s3.2.1 58 6) - (1 : Int32)).toNatClampNeg) s3.1) (fun v8 M7 => mv_ob s3.1 25 (mv_let (mv_wL M7 (82 + (s3.2.1 58 6).toNatClampNeg) s3.1.toNatClampNeg v8) (fun M9 => mv_let (s3.1 + (1 : Int32)) (fun v10 => f4 (v10, M9))))))))
def fX2_fillRest (F : Nat) (M : mv_M) (a1 : Int32) : Option (mv_M) :=
  mv_ob ((M.1 58 6) - (1 : Int32)) 25 (mv_ob (M.1 107 ((M.1 58 6) - (1 : Int32)).toNatClampNeg) 8 (mv_let (0 : Int32) (fun v2 => mv_lp (bX2_fillRest_19 a1 F M) F (v2, M))))

def fX2_wantTaken (F : Nat) (M : mv_M) (a1 : Int32) (a2 : Int32) : Option (mv_M) :=
  mv_ob a1 12 (mv_let (fun s1 : mv_M => mv_ob a1 12 ((if (s1.1 7 a1.toNatClampNeg) ≤ 0 then some s1 else mv_ob a1 12 (mv_bv (fX2_want F s1 (s1.1 8 a1.toNatClampNeg)) (fun M3 => some M3))))) (fun j2 => (if (M.1 7 a1.toNatClampNeg) ≤ (1 : Int32) then j2 M else mv_ob a1 12 (mv_bv (fX2_want F M (M.1 9 a1.toNatClampNeg)) (fun M4 => mv_bv (fX2_fillRest F M4 a2) (fun M5 => j2 M5))))))

def bX2_spell_18 (F : Nat) (f7 : (Int32 × Int32 × Int32 × mv_M) → Option (Int32 × mv_M)) (s6 : Int32 × Int32 × Int32 × mv_M) : Option (Int32 × mv_M) :=
  (if (24 : Int32) ≤ s6.2.2.1 then some (s6.2.1, s6.2.2.2) else (if (s6.2.2.2.1 58 6) ≤ 0 then some (s6.2.1, s6.2.2.2) else mv_let (mv_wI s6.2.2.2 58 6 ((s6.2.2.2.1 58 6) - (1 : Int32))) (fun M8 => mv_ob (M8.1 58 6) 25 (mv_bi (fX2_choose F M8 (M8.1 107 (M8.1 58 6).toNatClampNeg) s6.1) (fun v10 M9 => mv_let v10 (fun v11 => (if 0 ≤ v11 then mv_ob s6.2.2.1 24 (mv_let (mv_wI M9 108 s6.2.2.1.toNatClampNeg v11) (fun M12 => mv_let (s6.2.2.1 + (1 : Int32)) (fun v13 => mv_bi (fX7_priceOf F M12 v11) (fun v15 M14 => mv_let (s6.1 - v15) (fun v16 => mv_bv (fX2_wantTaken F M14 v11 v16) (fun M17 => mv_let (s6.2.2.1 + (1 : Int32)) (fun v18 => f7 (v16, v13, v18, M17)))))))) else some (s6.2.1, M9))))))))
def fX2_spell (F : Nat) (M : mv_M) (a1 : Int32) (a2 : Int32) : Option (Int32 × mv_M) :=
  mv_let a2 (fun v1 => mv_let (0 : Int32) (fun v2 => mv_let (mv_wI M 58 6 (0 : Int32)) (fun M3 => mv_bv (fX2_want F M3 a1) (fun M4 => mv_let (0 : Int32) (fun v5 => mv_lp (bX2_spell_18 F) F (v1, v2, v5, M4))))))

def fX8_listed (F : Nat) (M : mv_M) (a1 : Int32) (a2 : Int32) (a3 : Int32) : Option (Int32 × mv_M) :=
  mv_bi (fX7_hasType F M a1) (fun v2 M1 => (if v2 = 0 then some ((-1000001 : Int32), M1) else (if a2 < 0 then some ((-1000001 : Int32), M1) else (if (999999999 : Int32) ≤ a2 then some ((-1000001 : Int32), M1) else (if (-1 : Int32) ≤ a3 then mv_bi (fX2_findPlace F M1 a1 a2) (fun v4 M3 => mv_let v4 (fun v5 => (if v5 = (-1000000 : Int32) then some (v5, M3) else (if a3 = (-1 : Int32) then some (v5, M3) else mv_bi (fX2_spell F M3 a1 v5) (fun v7 M6 => mv_let v7 (fun v8 => (if v8 ≤ a3 then some ((-1000000 : Int32), M6) else mv_ob a3 24 (some ((M6.1 108 a3.toNatClampNeg), M6))))))))) else some ((-1000001 : Int32), M1))))))

def fX6_isLength (F : Nat) (M : mv_M) (a1 : Int32) : Option (Int32 × mv_M) :=
  (if a1 < (1 : Int32) then mv_b1 (0 : Int32) (some ((0 : Int32), M)) else (if (24 : Int32) < a1 then mv_b1 (0 : Int32) (some ((0 : Int32), M)) else mv_b1 (1 : Int32) (some ((1 : Int32), M))))

def fX6_take (F : Nat) (M : mv_M) (a1 : Int32) (a2 : Int32) (a3 : Int32) : Option (Int32 × mv_M) :=
  mv_bi (fX5_isMissing F M a1) (fun v2 M1 => (if v2 = 0 then mv_bi (fX5_hasPlaces F M1 a1 a2 a3) (fun v4 M3 => (if v4 = 0 then some ((2 : Int32), M3) else mv_ob a1 8 (mv_cp a2 (0 : Int32) a3 40 24 (mv_let (mv_wA M3 110 (va_cpy (M3.1 (31 + a1.toNatClampNeg)) (M3.1 110) a2.toNatClampNeg (0 : Int32).toNatClampNeg a3.toNatClampNeg)) (fun M6 => mv_let (mv_wI M6 109 3 a3) (fun M7 => some ((0 : Int32), M7))))))) else some ((1 : Int32), M1)))

def fX6_fits (F : Nat) (M : mv_M) (a1 : Int32) (a2 : Int32) : Option (Int32 × mv_M) :=
  mv_ob a1 24 (mv_let (M.1 110 a1.toNatClampNeg) (fun v1 => mv_bi (fX7_hasMember F M v1) (fun v3 M2 => (if v3 = 0 then mv_b1 (0 : Int32) (some ((0 : Int32), M2)) else mv_bi (fX7_isHidden F M2 v1) (fun v5 M4 => (if v5 = 0 then (if a1 = 0 then mv_b1 (1 : Int32) (some ((1 : Int32), M4)) else mv_ob (a2 - (1 : Int32)) 26 (mv_bi (fX7_givesOne F M4 v1 (M4.1 111 (a2 - (1 : Int32)).toNatClampNeg)) (fun v7 M6 => (if v7 = 0 then mv_b1 (0 : Int32) (some ((0 : Int32), M6)) else mv_b1 (1 : Int32) (some ((1 : Int32), M6)))))) else mv_b1 (0 : Int32) (some ((0 : Int32), M4))))))))

def fX6_wantTaken (F : Nat) (M : mv_M) (a1 : Int32) (a2 : Int32) : Option (Int32 × mv_M) :=
  mv_let a2 (fun v1 => mv_ob a1 12 (mv_let (fun s2 : Int32 × mv_M => mv_ob a1 12 ((if (s2.2.1 7 a1.toNatClampNeg) ≤ 0 then some (s2.1, s2.2) else mv_ob a1 12 (mv_ob s2.1 26 (mv_let (mv_wI s2.2 111 s2.1.toNatClampNeg (s2.2.1 8 a1.toNatClampNeg)) (fun M4 => mv_let (s2.1 + (1 : Int32)) (fun v5 => some (v5, M4)))))))) (fun j3 => (if (M.1 7 a1.toNatClampNeg) ≤ (1 : Int32) then j3 (v1, M) else mv_ob a1 12 (mv_ob v1 26 (mv_let (mv_wI M 111 v1.toNatClampNeg (M.1 9 a1.toNatClampNeg)) (fun M6 => mv_let (v1 + (1 : Int32)) (fun v7 => j3 (v7, M6)))))))))

def bX6_isWhole_4 (j4 : (Int32 × mv_M) → Option (Int32 × mv_M)) (F : Nat) (f6 : (Int32 × Int32 × mv_M) → Option (Int32 × mv_M)) (s5 : Int32 × Int32 × mv_M) : Option (Int32 × mv_M) :=
  (if (s5.2.2.1 109 3) ≤ s5.2.1 then j4 (s5.1, s5.2.2) else (if s5.2.1 ≤ 0 then mv_bi (fX6_fits F s5.2.2 s5.2.1 s5.1) (fun v8 M7 => (if v8 = 0 then mv_b1 (0 : Int32) (some ((0 : Int32), M7)) else mv_ob s5.2.1 24 (mv_bi (fX6_wantTaken F M7 (M7.1 110 s5.2.1.toNatClampNeg) (if (s5.1 - (1 : Int32)) < (0 : Int32) then (0 : Int32) else (s5.1 - (1 : Int32)))) (fun v10 M9 => mv_let v10 (fun v11 => mv_let (s5.2.1 + (1 : Int32)) (fun v12 => f6 (v11, v12, M9))))))) else (if s5.1 = 0 then mv_b1 (0 : Int32) (some ((0 : Int32), s5.2.2)) else mv_bi (fX6_fits F s5.2.2 s5.2.1 s5.1) (fun v14 M13 => (if v14 = 0 then mv_b1 (0 : Int32) (some ((0 : Int32), M13)) else mv_ob s5.2.1 24 (mv_bi (fX6_wantTaken F M13 (M13.1 110 s5.2.1.toNatClampNeg) (if (s5.1 - (1 : Int32)) < (0 : Int32) then (0 : Int32) else (s5.1 - (1 : Int32)))) (fun v16 M15 => mv_let v16 (fun v17 => mv_let (s5.2.1 + (1 : Int32)) (fun v18 => f6 (v17, v18, M15))))))))))
def fX6_isWhole (F : Nat) (M : mv_M) : Option (Int32 × mv_M) :=
  mv_let (0 : Int32) (fun v1 => mv_let (0 : Int32) (fun v2 => mv_let (fun s3 : Int32 × mv_M => (if s3.1 = 0 then mv_b1 (1 : Int32) (some ((1 : Int32), s3.2)) else mv_b1 (0 : Int32) (some ((0 : Int32), s3.2)))) (fun j4 => mv_lp (bX6_isWhole_4 j4 F) F (v1, v2, M))))

def bX6_priceTogether_4 (F : Nat) (f4 : (Int32 × Int32 × mv_M) → Option (Int32 × mv_M)) (s3 : Int32 × Int32 × mv_M) : Option (Int32 × mv_M) :=
  (if (s3.2.2.1 109 3) ≤ s3.2.1 then some (s3.1, s3.2.2) else mv_ob s3.2.1 24 (mv_bi (fX7_priceOf F s3.2.2 (s3.2.2.1 110 s3.2.1.toNatClampNeg)) (fun v6 M5 => mv_let (s3.1 + v6) (fun v7 => mv_let (s3.2.1 + (1 : Int32)) (fun v8 => f4 (v7, v8, M5))))))
def fX6_priceTogether (F : Nat) (M : mv_M) : Option (Int32 × mv_M) :=
  mv_let (0 : Int32) (fun v1 => mv_let (0 : Int32) (fun v2 => mv_lp (bX6_priceTogether_4 F) F (v1, v2, M)))

def fX6_given (F : Nat) (M : mv_M) : Option (Int32 × mv_M) :=
  mv_ob (0 : Int32) 24 (mv_ob (M.1 110 (0 : Int32).toNatClampNeg) 12 (some ((M.1 5 (M.1 110 (0 : Int32).toNatClampNeg).toNatClampNeg), M)))

def fX8_word (F : Nat) (M : mv_M) (a1 : Int32) (a2 : Int32) (a3 : Int32) (a4 : Int32) : Option (Int32 × mv_M) :=
  mv_bi (fX5_isRow F M a1) (fun v2 M1 => (if v2 = 0 then some ((-1000001 : Int32), M1) else mv_bi (fX6_isLength F M1 a3) (fun v4 M3 => (if v4 = 0 then some ((-1000001 : Int32), M3) else (if a4 < 0 then some ((-1000001 : Int32), M3) else (if a4 ≤ (1 : Int32) then (if (M3.1 1 0) = 0 then some ((-1000002 : Int32), M3) else mv_bi (fX6_take F M3 a1 a2 a3) (fun v6 M5 => mv_let v6 (fun v7 => (if v7 = 0 then mv_bi (fX6_isWhole F M5) (fun v9 M8 => (if v9 = 0 then mv_bi (fX8_unfound F M8 (-1000000 : Int32)) (fun v19 M18 => some (v19, M18)) else (if a4 = 0 then mv_bi (fX6_given F M8) (fun v15 M14 => mv_bi (fX8_unfound F M14 v15) (fun v17 M16 => some (v17, M16))) else mv_bi (fX6_priceTogether F M8) (fun v11 M10 => mv_bi (fX8_unfound F M10 v11) (fun v13 M12 => some (v13, M12)))))) else mv_bi (fX8_found F M5 v7) (fun v21 M20 => some (v21, M20)))))) else some ((-1000001 : Int32), M3)))))))

def bX2_manyBelow_9 (a2 : Int32) (a1 : Int32) (f5 : (Int64 × Int32 × mv_M) → Option (Int64 × mv_M)) (s4 : Int64 × Int32 × mv_M) : Option (Int64 × mv_M) :=
  (if a2 ≤ s4.2.1 then some (s4.1, s4.2.2) else mv_ob a1 8 (mv_ob s4.2.1 25 (mv_let (s4.1 + (s4.2.2.2 (73 + a1.toNatClampNeg) s4.2.1.toNatClampNeg)) (fun v7 => mv_let (s4.2.1 + (1 : Int32)) (fun v8 => f5 (v7, v8, s4.2.2))))))
def fX2_manyBelow (F : Nat) (M : mv_M) (a1 : Int32) (a2 : Int32) : Option (Int64 × mv_M) :=
  mv_bv (fX2_countAll F M) (fun M1 => mv_let (0 : Int64) (fun v2 => mv_let (1 : Int32) (fun v3 => mv_lp (bX2_manyBelow_9 a2 a1) F (v2, v3, M1))))

def bX2_placeOf_52 (s10 : Int64 × Int32 × Int32 × mv_M) (i2 : Nat) (j15 : (Int64 × mv_M) → Option (Int32 × mv_M)) (F : Nat) (f22 : (Int64 × Int32 × mv_M) → Option (Int32 × mv_M)) (s21 : Int64 × Int32 × mv_M) : Option (Int32 × mv_M) :=
  mv_ob s10.2.2.1 24 ((if (s21.2.2.1 i2 s10.2.2.1.toNatClampNeg) ≤ s21.2.1 then j15 (s21.1, s21.2.2) else mv_ob (s21.2.2.1 58 6) 25 (mv_bl (fX2_waysWith F s21.2.2 s21.2.1 (s21.2.2.1 107 (s21.2.2.1 58 6).toNatClampNeg) s10.2.1) (fun v24 M23 => mv_let (s21.1 + v24) (fun v25 => mv_let (s21.2.1 + (1 : Int32)) (fun v26 => f22 (v25, v26, M23)))))))
def bX2_placeOf_26 (a3 : Int32) (j9 : (Int64 × mv_M) → Option (Int32 × mv_M)) (F : Nat) (i2 : Nat) (f11 : (Int64 × Int32 × Int32 × mv_M) → Option (Int32 × mv_M)) (s10 : Int64 × Int32 × Int32 × mv_M) : Option (Int32 × mv_M) :=
  (if a3 ≤ s10.2.2.1 then j9 (s10.1, s10.2.2.2) else (if (s10.2.2.2.1 58 6) ≤ 0 then j9 (s10.1, s10.2.2.2) else mv_let (mv_wI s10.2.2.2 58 6 ((s10.2.2.2.1 58 6) - (1 : Int32))) (fun M12 => mv_let (0 : Int32) (fun v13 => mv_let (fun s14 : Int64 × mv_M => mv_ob s10.2.2.1 24 (mv_bi (fX7_priceOf F s14.2 (s14.2.1 i2 s10.2.2.1.toNatClampNeg)) (fun v17 M16 => mv_let (s10.2.1 - v17) (fun v18 => mv_ob s10.2.2.1 24 (mv_bv (fX2_wantTaken F M16 (M16.1 i2 s10.2.2.1.toNatClampNeg) v18) (fun M19 => mv_let (s10.2.2.1 + (1 : Int32)) (fun v20 => f11 (s14.1, v18, v20, M19)))))))) (fun j15 => mv_lp (bX2_placeOf_52 s10 i2 j15 F) F (s10.1, v13, M12))))))
def fX2_placeOf (F : Nat) (M : mv_M) (a1 : Int32) (i2 : Nat) (a3 : Int32) (a4 : Int32) : Option (Int32 × mv_M) :=
  mv_bl (fX2_manyBelow F M a1 a4) (fun v2 M1 => mv_let v2 (fun v3 => mv_let a4 (fun v4 => mv_let (mv_wI M1 58 6 (0 : Int32)) (fun M5 => mv_bv (fX2_want F M5 a1) (fun M6 => mv_let (0 : Int32) (fun v7 => mv_let (fun s8 : Int64 × mv_M => (if 0 ≤ (lg_cmp s8.1 (999999999 : Int64)) then some ((-1000000 : Int32), s8.2) else some (s8.1.toInt32, s8.2))) (fun j9 => mv_lp (bX2_placeOf_26 a3 j9 F i2) F (v3, v4, v7, M6))))))))

def fX8_place (F : Nat) (M : mv_M) (a1 : Int32) (a2 : Int32) (a3 : Int32) : Option (Int32 × mv_M) :=
  mv_bi (fX7_hasType F M a1) (fun v2 M1 => (if v2 = 0 then some ((-1000001 : Int32), M1) else mv_bi (fX5_isRow F M1 a2) (fun v4 M3 => (if v4 = 0 then some ((-1000001 : Int32), M3) else mv_bi (fX6_isLength F M3 a3) (fun v6 M5 => (if v6 = 0 then some ((-1000001 : Int32), M5) else mv_bi (fX6_take F M5 a2 (0 : Int32) a3) (fun v8 M7 => mv_let v8 (fun v9 => (if v9 = 0 then mv_bi (fX6_isWhole F M7) (fun v11 M10 => (if v11 = 0 then mv_bi (fX8_unfound F M10 (-1000000 : Int32)) (fun v13 M12 => some (v13, M12)) else mv_bi (fX6_given F M10) (fun v15 M14 => mv_bi (fX7_isOf F M14 v15 a1) (fun v17 M16 => (if v17 = 0 then mv_bi (fX8_unfound F M16 (-1000000 : Int32)) (fun v28 M27 => some (v28, M27)) else mv_bi (fX6_priceTogether F M16) (fun v19 M18 => mv_let v19 (fun v20 => (if v20 ≤ (24 : Int32) then mv_bi (fX2_placeOf F M18 a1 110 a3 v20) (fun v22 M21 => mv_bi (fX8_unfound F M21 v22) (fun v24 M23 => some (v24, M23))) else mv_bi (fX8_unfound F M18 (-1000000 : Int32)) (fun v26 M25 => some (v26, M25)))))))))) else mv_bi (fX8_found F M7 v9) (fun v30 M29 => some (v30, M29)))))))))))

def bX3_typesHad_9 (f5 : (Int32 × Int32 × mv_M) → Option (Int32 × mv_M)) (s4 : Int32 × Int32 × mv_M) : Option (Int32 × mv_M) :=
  (if (s4.2.2.1 1 0) ≤ s4.2.1 then some (s4.1, s4.2.2) else mv_ob s4.2.1 8 ((if (100000000 : Int32) ≤ (s4.2.2.1 57 s4.2.1.toNatClampNeg) then mv_let (s4.2.1 + (1 : Int32)) (fun v6 => f5 (s4.1, v6, s4.2.2)) else mv_let (s4.1 ||| ((1 : Int32) <<< (s4.2.1 &&& 31))) (fun v7 => mv_let (s4.2.1 + (1 : Int32)) (fun v8 => f5 (v7, v8, s4.2.2))))))
def fX3_typesHad (F : Nat) (M : mv_M) (a1 : Int32) : Option (Int32 × mv_M) :=
  mv_bv (fX3_seek F M a1) (fun M1 => mv_let (0 : Int32) (fun v2 => mv_let (0 : Int32) (fun v3 => mv_lp (bX3_typesHad_9) F (v2, v3, M1))))

def fX8_had (F : Nat) (M : mv_M) : Option (Int32 × mv_M) :=
  (if (M.1 1 0) = 0 then some ((-1000002 : Int32), M) else mv_bi (fX3_typesHad F M (M.1 1 2)) (fun v2 M1 => some (v2, M1)))

def bX3_membersNeeded_24 (F : Nat) (a1 : Int32) (f6 : (Int32 × Int32 × mv_M) → Option (Int32 × mv_M)) (s5 : Int32 × Int32 × mv_M) : Option (Int32 × mv_M) :=
  (if (s5.2.2.1 1 1) ≤ s5.2.1 then some (s5.1, s5.2.2) else mv_bi (fX3_typesHad F s5.2.2 ((s5.2.2.1 1 2) ||| ((1 : Int32) <<< (s5.2.1 &&& 31)))) (fun v8 M7 => (if ((v8 >>> (a1 &&& 31)) &&& (1 : Int32)) = 0 then mv_let (s5.1 ||| ((1 : Int32) <<< (s5.2.1 &&& 31))) (fun v10 => mv_let (s5.2.1 + (1 : Int32)) (fun v11 => f6 (v10, v11, M7))) else mv_let (s5.2.1 + (1 : Int32)) (fun v9 => f6 (s5.1, v9, M7)))))
def fX3_membersNeeded (F : Nat) (M : mv_M) (a1 : Int32) : Option (Int32 × mv_M) :=
  mv_bi (fX3_typesHad F M (M.1 1 2)) (fun v2 M1 => (if ((v2 >>> (a1 &&& 31)) &&& (1 : Int32)) = 0 then some ((0 : Int32), M1) else mv_let (0 : Int32) (fun v3 => mv_let (0 : Int32) (fun v4 => mv_lp (bX3_membersNeeded_24 F a1) F (v3, v4, M1)))))

def fX8_needed (F : Nat) (M : mv_M) (a1 : Int32) : Option (Int32 × mv_M) :=
  mv_bi (fX7_hasType F M a1) (fun v2 M1 => (if v2 = 0 then some ((-1000001 : Int32), M1) else mv_bi (fX3_membersNeeded F M1 a1) (fun v4 M3 => some (v4, M3))))

def fX8_without (F : Nat) (M : mv_M) (a1 : Int32) (a2 : Int32) : Option (Int32 × mv_M) :=
  mv_bi (fX7_hasType F M a1) (fun v2 M1 => (if v2 = 0 then some ((-1000001 : Int32), M1) else mv_bi (fX7_hasMember F M1 a2) (fun v4 M3 => (if v4 = 0 then some ((-1000001 : Int32), M3) else mv_bi (fX3_leastListed F M3 a1 ((M3.1 1 2) ||| ((1 : Int32) <<< (a2 &&& 31)))) (fun v6 M5 => some (v6, M5))))))

def bX7_pricesShown_4 (F : Nat) (f4 : (Int32 × Int32 × mv_M) → Option (Int32 × mv_M)) (s3 : Int32 × Int32 × mv_M) : Option (Int32 × mv_M) :=
  (if (s3.2.2.1 1 1) ≤ s3.2.1 then some (s3.1, s3.2.2) else mv_bi (fX7_isHidden F s3.2.2 s3.2.1) (fun v6 M5 => (if v6 = 0 then mv_bi (fX7_priceOf F M5 s3.2.1) (fun v9 M8 => mv_let (s3.1 + v9) (fun v10 => mv_let (s3.2.1 + (1 : Int32)) (fun v11 => f4 (v10, v11, M8)))) else mv_let (s3.2.1 + (1 : Int32)) (fun v7 => f4 (s3.1, v7, M5)))))
def fX7_pricesShown (F : Nat) (M : mv_M) : Option (Int32 × mv_M) :=
  mv_let (0 : Int32) (fun v1 => mv_let (0 : Int32) (fun v2 => mv_lp (bX7_pricesShown_4 F) F (v1, v2, M)))

def bX7_shareOf_21 (j8 : (Int32 × Int32 × mv_M) → Option (Int32 × mv_M)) (F : Nat) (v3 : Int32) (a2 : Int32) (a1 : Int32) (f12 : (Int32 × Int32 × Int32 × mv_M) → Option (Int32 × mv_M)) (s11 : Int32 × Int32 × Int32 × mv_M) : Option (Int32 × mv_M) :=
  (if (s11.2.2.2.1 1 1) ≤ s11.2.2.1 then j8 (s11.1, s11.2.1, s11.2.2.2) else mv_bi (fX7_isHidden F s11.2.2.2 s11.2.2.1) (fun v14 M13 => (if v14 = 0 then mv_bi (fX7_priceOf F M13 s11.2.2.1) (fun v17 M16 => mv_nz v3 (mv_let (s11.1 - ((a2 * v17) / v3)) (fun v18 => (if a1 ≤ s11.2.2.1 then mv_let (s11.2.1 + (0 : Int32)) (fun v19 => mv_let (s11.2.2.1 + (1 : Int32)) (fun v20 => f12 (v18, v19, v20, M16))) else mv_let (s11.2.1 + (1 : Int32)) (fun v21 => mv_let (s11.2.2.1 + (1 : Int32)) (fun v22 => f12 (v18, v21, v22, M16))))))) else mv_let (s11.2.2.1 + (1 : Int32)) (fun v15 => f12 (s11.1, s11.2.1, v15, M13)))))
def fX7_shareOf (F : Nat) (M : mv_M) (a1 : Int32) (a2 : Int32) : Option (Int32 × mv_M) :=
  mv_bi (fX7_pricesShown F M) (fun v2 M1 => mv_let v2 (fun v3 => (if (1 : Int32) ≤ v3 then mv_let a2 (fun v4 => mv_let (0 : Int32) (fun v5 => mv_let (0 : Int32) (fun v6 => mv_let (fun s7 : Int32 × Int32 × mv_M => mv_bi (fX7_priceOf F s7.2.2 a1) (fun v10 M9 => mv_nz v3 ((if s7.1 ≤ s7.2.1 then some ((((a2 * v10) / v3) + (0 : Int32)), M9) else some ((((a2 * v10) / v3) + (1 : Int32)), M9))))) (fun j8 => mv_lp (bX7_shareOf_21 j8 F v3 a2 a1) F (v4, v5, v6, M1))))) else some ((0 : Int32), M1))))

def fX8_share (F : Nat) (M : mv_M) (a1 : Int32) (a2 : Int32) : Option (Int32 × mv_M) :=
  mv_bi (fX7_hasMember F M a1) (fun v2 M1 => (if v2 = 0 then some ((-1000001 : Int32), M1) else (if a2 < 0 then some ((-1000001 : Int32), M1) else (if a2 ≤ (999 : Int32) then mv_bi (fX7_isHidden F M1 a1) (fun v4 M3 => (if v4 = 0 then mv_bi (fX7_shareOf F M3 a1 a2) (fun v6 M5 => some (v6, M5)) else some ((0 : Int32), M3))) else some ((-1000001 : Int32), M1)))))

def fX2_size (F : Nat) (M : mv_M) (a1 : Int32) : Option (Int32 × mv_M) :=
  mv_bl (fX2_manyBelow F M a1 (25 : Int32)) (fun v2 M1 => some ((if (999999999 : Int64) < v2 then (999999999 : Int64) else v2).toInt32, M1))

def bX8_drawn_77 (a2 : Int32) (v5 : Int32) (F : Nat) (a1 : Int32) (a4 : Int32) (f10 : (Int64 × Int32 × Int32 × mv_M) → Option (Int32 × mv_M)) (s9 : Int64 × Int32 × Int32 × mv_M) : Option (Int32 × mv_M) :=
  (if a2 ≤ s9.2.2.1 then some (s9.2.1, s9.2.2.2) else mv_nzl (2147483647 : Int64) (mv_let ((s9.1 * (16807 : Int64)) - (s9.1 * (16807 : Int64)) / (2147483647 : Int64) * (2147483647 : Int64)) (fun v11 => mv_nzl v5.toInt64 (mv_bi (fX2_findPlace F s9.2.2.2 a1 ((v11 - v11 / v5.toInt64 * v5.toInt64).toInt32)) (fun v13 M12 => mv_let v13 (fun v14 => (if a4 = 0 then mv_let (s9.2.1 + v14) (fun v19 => mv_let (s9.2.2.1 + (1 : Int32)) (fun v20 => f10 (v11, v19, v20, M12))) else mv_bi (fX2_spell F M12 a1 v14) (fun v16 M15 => mv_let (s9.2.1 + v16) (fun v17 => mv_let (s9.2.2.1 + (1 : Int32)) (fun v18 => f10 (v11, v17, v18, M15)))))))))))
def fX8_drawn (F : Nat) (M : mv_M) (a1 : Int32) (a2 : Int32) (a3 : Int32) (a4 : Int32) : Option (Int32 × mv_M) :=
  mv_bi (fX7_hasType F M a1) (fun v2 M1 => (if v2 = 0 then some ((-1000001 : Int32), M1) else (if a2 < (1 : Int32) then some ((-1000001 : Int32), M1) else (if (60 : Int32) < a2 then some ((-1000001 : Int32), M1) else (if a3 < (1 : Int32) then some ((-1000001 : Int32), M1) else (if (999999 : Int32) < a3 then some ((-1000001 : Int32), M1) else (if a4 < 0 then some ((-1000001 : Int32), M1) else (if a4 ≤ (1 : Int32) then mv_bi (fX2_size F M1 a1) (fun v4 M3 => mv_let v4 (fun v5 => (if (1 : Int32) ≤ v5 then mv_let a3.toInt64 (fun v6 => mv_let (0 : Int32) (fun v7 => mv_let (0 : Int32) (fun v8 => mv_lp (bX8_drawn_77 a2 v5 F a1 a4) F (v6, v7, v8, M3)))) else some ((-1000002 : Int32), M3)))) else some ((-1000001 : Int32), M1)))))))))

def fX7_become_11_o1 (F : Nat) (M : mv_M) : Option (mv_M) :=
  mv_let (mv_wI M 11 0 (M.1 1 0)) (fun M1 => mv_let (mv_wI M1 11 1 (M1.1 1 1)) (fun M2 => mv_let (mv_wI M2 11 2 (M2.1 1 2)) (fun M3 => mv_cp (0 : Int32) (0 : Int32) (8 : Int32) 8 8 (mv_let (mv_wA M3 13 (va_cpy (M3.1 2) (M3.1 13) (0 : Int32).toNatClampNeg (0 : Int32).toNatClampNeg (8 : Int32).toNatClampNeg)) (fun M4 => mv_cp (0 : Int32) (0 : Int32) (8 : Int32) 8 8 (mv_let (mv_wA M4 14 (va_cpy (M4.1 3) (M4.1 14) (0 : Int32).toNatClampNeg (0 : Int32).toNatClampNeg (8 : Int32).toNatClampNeg)) (fun M5 => mv_cp (0 : Int32) (0 : Int32) (12 : Int32) 12 12 (mv_let (mv_wA M5 15 (va_cpy (M5.1 4) (M5.1 15) (0 : Int32).toNatClampNeg (0 : Int32).toNatClampNeg (12 : Int32).toNatClampNeg)) (fun M6 => mv_cp (0 : Int32) (0 : Int32) (12 : Int32) 12 12 (mv_let (mv_wA M6 16 (va_cpy (M6.1 5) (M6.1 16) (0 : Int32).toNatClampNeg (0 : Int32).toNatClampNeg (12 : Int32).toNatClampNeg)) (fun M7 => mv_cp (0 : Int32) (0 : Int32) (12 : Int32) 12 12 (mv_let (mv_wA M7 17 (va_cpy (M7.1 6) (M7.1 17) (0 : Int32).toNatClampNeg (0 : Int32).toNatClampNeg (12 : Int32).toNatClampNeg)) (fun M8 => mv_cp (0 : Int32) (0 : Int32) (12 : Int32) 12 12 (mv_let (mv_wA M8 18 (va_cpy (M8.1 7) (M8.1 18) (0 : Int32).toNatClampNeg (0 : Int32).toNatClampNeg (12 : Int32).toNatClampNeg)) (fun M9 => mv_cp (0 : Int32) (0 : Int32) (12 : Int32) 12 12 (mv_let (mv_wA M9 19 (va_cpy (M9.1 8) (M9.1 19) (0 : Int32).toNatClampNeg (0 : Int32).toNatClampNeg (12 : Int32).toNatClampNeg)) (fun M10 => mv_cp (0 : Int32) (0 : Int32) (12 : Int32) 12 12 (mv_let (mv_wA M10 20 (va_cpy (M10.1 9) (M10.1 20) (0 : Int32).toNatClampNeg (0 : Int32).toNatClampNeg (12 : Int32).toNatClampNeg)) (fun M11 => some M11)))))))))))))))))))

def fX7_become_12_o1 (F : Nat) (M : mv_M) : Option (mv_M) :=
  mv_let (mv_wI M 12 0 (M.1 1 0)) (fun M1 => mv_let (mv_wI M1 12 1 (M1.1 1 1)) (fun M2 => mv_let (mv_wI M2 12 2 (M2.1 1 2)) (fun M3 => mv_cp (0 : Int32) (0 : Int32) (8 : Int32) 8 8 (mv_let (mv_wA M3 21 (va_cpy (M3.1 2) (M3.1 21) (0 : Int32).toNatClampNeg (0 : Int32).toNatClampNeg (8 : Int32).toNatClampNeg)) (fun M4 => mv_cp (0 : Int32) (0 : Int32) (8 : Int32) 8 8 (mv_let (mv_wA M4 22 (va_cpy (M4.1 3) (M4.1 22) (0 : Int32).toNatClampNeg (0 : Int32).toNatClampNeg (8 : Int32).toNatClampNeg)) (fun M5 => mv_cp (0 : Int32) (0 : Int32) (12 : Int32) 12 12 (mv_let (mv_wA M5 23 (va_cpy (M5.1 4) (M5.1 23) (0 : Int32).toNatClampNeg (0 : Int32).toNatClampNeg (12 : Int32).toNatClampNeg)) (fun M6 => mv_cp (0 : Int32) (0 : Int32) (12 : Int32) 12 12 (mv_let (mv_wA M6 24 (va_cpy (M6.1 5) (M6.1 24) (0 : Int32).toNatClampNeg (0 : Int32).toNatClampNeg (12 : Int32).toNatClampNeg)) (fun M7 => mv_cp (0 : Int32) (0 : Int32) (12 : Int32) 12 12 (mv_let (mv_wA M7 25 (va_cpy (M7.1 6) (M7.1 25) (0 : Int32).toNatClampNeg (0 : Int32).toNatClampNeg (12 : Int32).toNatClampNeg)) (fun M8 => mv_cp (0 : Int32) (0 : Int32) (12 : Int32) 12 12 (mv_let (mv_wA M8 26 (va_cpy (M8.1 7) (M8.1 26) (0 : Int32).toNatClampNeg (0 : Int32).toNatClampNeg (12 : Int32).toNatClampNeg)) (fun M9 => mv_cp (0 : Int32) (0 : Int32) (12 : Int32) 12 12 (mv_let (mv_wA M9 27 (va_cpy (M9.1 8) (M9.1 27) (0 : Int32).toNatClampNeg (0 : Int32).toNatClampNeg (12 : Int32).toNatClampNeg)) (fun M10 => mv_cp (0 : Int32) (0 : Int32) (12 : Int32) 12 12 (mv_let (mv_wA M10 28 (va_cpy (M10.1 9) (M10.1 28) (0 : Int32).toNatClampNeg (0 : Int32).toNatClampNeg (12 : Int32).toNatClampNeg)) (fun M11 => some M11)))))))))))))))))))

def fX8_image (F : Nat) (M : mv_M) (a1 : Int32) : Option (Int32 × mv_M) :=
  (if a1 < 0 then some ((-1000001 : Int32), M) else (if a1 < (2 : Int32) then (if (M.1 1 0) = 0 then some ((-1000002 : Int32), M) else mv_ob a1 2 (if a1 = 0 then mv_bv (fX7_become_11_o1 F M) (fun M1 => some ((1 : Int32), M1)) else mv_bv (fX7_become_12_o1 F M) (fun M2 => some ((1 : Int32), M2)))) else some ((-1000001 : Int32), M)))

def fX7_become_o11 (F : Nat) (M : mv_M) : Option (mv_M) :=
  mv_let (mv_wI M 1 0 (M.1 11 0)) (fun M1 => mv_let (mv_wI M1 1 1 (M1.1 11 1)) (fun M2 => mv_let (mv_wI M2 1 2 (M2.1 11 2)) (fun M3 => mv_cp (0 : Int32) (0 : Int32) (8 : Int32) 8 8 (mv_let (mv_wA M3 2 (va_cpy (M3.1 13) (M3.1 2) (0 : Int32).toNatClampNeg (0 : Int32).toNatClampNeg (8 : Int32).toNatClampNeg)) (fun M4 => mv_cp (0 : Int32) (0 : Int32) (8 : Int32) 8 8 (mv_let (mv_wA M4 3 (va_cpy (M4.1 14) (M4.1 3) (0 : Int32).toNatClampNeg (0 : Int32).toNatClampNeg (8 : Int32).toNatClampNeg)) (fun M5 => mv_cp (0 : Int32) (0 : Int32) (12 : Int32) 12 12 (mv_let (mv_wA M5 4 (va_cpy (M5.1 15) (M5.1 4) (0 : Int32).toNatClampNeg (0 : Int32).toNatClampNeg (12 : Int32).toNatClampNeg)) (fun M6 => mv_cp (0 : Int32) (0 : Int32) (12 : Int32) 12 12 (mv_let (mv_wA M6 5 (va_cpy (M6.1 16) (M6.1 5) (0 : Int32).toNatClampNeg (0 : Int32).toNatClampNeg (12 : Int32).toNatClampNeg)) (fun M7 => mv_cp (0 : Int32) (0 : Int32) (12 : Int32) 12 12 (mv_let (mv_wA M7 6 (va_cpy (M7.1 17) (M7.1 6) (0 : Int32).toNatClampNeg (0 : Int32).toNatClampNeg (12 : Int32).toNatClampNeg)) (fun M8 => mv_cp (0 : Int32) (0 : Int32) (12 : Int32) 12 12 (mv_let (mv_wA M8 7 (va_cpy (M8.1 18) (M8.1 7) (0 : Int32).toNatClampNeg (0 : Int32).toNatClampNeg (12 : Int32).toNatClampNeg)) (fun M9 => mv_cp (0 : Int32) (0 : Int32) (12 : Int32) 12 12 (mv_let (mv_wA M9 8 (va_cpy (M9.1 19) (M9.1 8) (0 : Int32).toNatClampNeg (0 : Int32).toNatClampNeg (12 : Int32).toNatClampNeg)) (fun M10 => mv_cp (0 : Int32) (0 : Int32) (12 : Int32) 12 12 (mv_let (mv_wA M10 9 (va_cpy (M10.1 20) (M10.1 9) (0 : Int32).toNatClampNeg (0 : Int32).toNatClampNeg (12 : Int32).toNatClampNeg)) (fun M11 => some M11)))))))))))))))))))

def fX8_standAs_o11 (F : Nat) (M : mv_M) : Option (mv_M) :=
  mv_bv (fX7_become_o11 F M) (fun M1 => mv_let (mv_wI M1 52 3 (0 : Int32)) (fun M2 => mv_let (mv_wI M2 58 1 (0 : Int32)) (fun M3 => some M3)))

def fX7_become_o12 (F : Nat) (M : mv_M) : Option (mv_M) :=
  mv_let (mv_wI M 1 0 (M.1 12 0)) (fun M1 => mv_let (mv_wI M1 1 1 (M1.1 12 1)) (fun M2 => mv_let (mv_wI M2 1 2 (M2.1 12 2)) (fun M3 => mv_cp (0 : Int32) (0 : Int32) (8 : Int32) 8 8 (mv_let (mv_wA M3 2 (va_cpy (M3.1 21) (M3.1 2) (0 : Int32).toNatClampNeg (0 : Int32).toNatClampNeg (8 : Int32).toNatClampNeg)) (fun M4 => mv_cp (0 : Int32) (0 : Int32) (8 : Int32) 8 8 (mv_let (mv_wA M4 3 (va_cpy (M4.1 22) (M4.1 3) (0 : Int32).toNatClampNeg (0 : Int32).toNatClampNeg (8 : Int32).toNatClampNeg)) (fun M5 => mv_cp (0 : Int32) (0 : Int32) (12 : Int32) 12 12 (mv_let (mv_wA M5 4 (va_cpy (M5.1 23) (M5.1 4) (0 : Int32).toNatClampNeg (0 : Int32).toNatClampNeg (12 : Int32).toNatClampNeg)) (fun M6 => mv_cp (0 : Int32) (0 : Int32) (12 : Int32) 12 12 (mv_let (mv_wA M6 5 (va_cpy (M6.1 24) (M6.1 5) (0 : Int32).toNatClampNeg (0 : Int32).toNatClampNeg (12 : Int32).toNatClampNeg)) (fun M7 => mv_cp (0 : Int32) (0 : Int32) (12 : Int32) 12 12 (mv_let (mv_wA M7 6 (va_cpy (M7.1 25) (M7.1 6) (0 : Int32).toNatClampNeg (0 : Int32).toNatClampNeg (12 : Int32).toNatClampNeg)) (fun M8 => mv_cp (0 : Int32) (0 : Int32) (12 : Int32) 12 12 (mv_let (mv_wA M8 7 (va_cpy (M8.1 26) (M8.1 7) (0 : Int32).toNatClampNeg (0 : Int32).toNatClampNeg (12 : Int32).toNatClampNeg)) (fun M9 => mv_cp (0 : Int32) (0 : Int32) (12 : Int32) 12 12 (mv_let (mv_wA M9 8 (va_cpy (M9.1 27) (M9.1 8) (0 : Int32).toNatClampNeg (0 : Int32).toNatClampNeg (12 : Int32).toNatClampNeg)) (fun M10 => mv_cp (0 : Int32) (0 : Int32) (12 : Int32) 12 12 (mv_let (mv_wA M10 9 (va_cpy (M10.1 28) (M10.1 9) (0 : Int32).toNatClampNeg (0 : Int32).toNatClampNeg (12 : Int32).toNatClampNeg)) (fun M11 => some M11)))))))))))))))))))

def fX8_standAs_o12 (F : Nat) (M : mv_M) : Option (mv_M) :=
  mv_bv (fX7_become_o12 F M) (fun M1 => mv_let (mv_wI M1 52 3 (0 : Int32)) (fun M2 => mv_let (mv_wI M2 58 1 (0 : Int32)) (fun M3 => some M3)))

def fX8_restore (F : Nat) (M : mv_M) (a1 : Int32) : Option (Int32 × mv_M) :=
  (if a1 < 0 then some ((-1000001 : Int32), M) else (if a1 < (2 : Int32) then mv_ob a1 2 (if a1 = 0 then (if (M.1 11 0) = 0 then some ((-1000002 : Int32), M) else mv_ob a1 2 (if a1 = 0 then mv_bv (fX8_standAs_o11 F M) (fun M1 => some ((1 : Int32), M1)) else mv_bv (fX8_standAs_o12 F M) (fun M2 => some ((1 : Int32), M2)))) else (if (M.1 12 0) = 0 then some ((-1000002 : Int32), M) else mv_ob a1 2 (if a1 = 0 then mv_bv (fX8_standAs_o11 F M) (fun M3 => some ((1 : Int32), M3)) else mv_bv (fX8_standAs_o12 F M) (fun M4 => some ((1 : Int32), M4))))) else some ((-1000001 : Int32), M)))

def fX8_kind (F : Nat) (M : mv_M) (a1 : Int32) : Option (Int32 × mv_M) :=
  mv_bi (fX7_hasMember F M a1) (fun v2 M1 => (if v2 = 0 then some ((-1000001 : Int32), M1) else mv_ob a1 12 (some ((M1.1 4 a1.toNatClampNeg), M1))))

def fX7_isKind (F : Nat) (M : mv_M) (a1 : Int32) (a2 : Int32) : Option (Int32 × mv_M) :=
  mv_ob a1 12 (mv_let (M.1 4 a1.toNatClampNeg) (fun v1 => (if a2 = (1 : Int32) then (if v1 = (1 : Int32) then mv_b1 (1 : Int32) (some ((1 : Int32), M)) else (if v1 = (2 : Int32) then mv_b1 (1 : Int32) (some ((1 : Int32), M)) else (if v1 = (3 : Int32) then mv_b1 (1 : Int32) (some ((1 : Int32), M)) else mv_b1 (0 : Int32) (some ((0 : Int32), M))))) else (if a2 = (4 : Int32) then (if v1 = (4 : Int32) then mv_b1 (1 : Int32) (some ((1 : Int32), M)) else (if v1 = (5 : Int32) then mv_b1 (1 : Int32) (some ((1 : Int32), M)) else mv_b1 (0 : Int32) (some ((0 : Int32), M)))) else (if a2 = 0 then mv_b1 (1 : Int32) (some ((1 : Int32), M)) else (if v1 = a2 then mv_b1 (1 : Int32) (some ((1 : Int32), M)) else mv_b1 (0 : Int32) (some ((0 : Int32), M))))))))

def fX8_as (F : Nat) (M : mv_M) (a1 : Int32) (a2 : Int32) : Option (Int32 × mv_M) :=
  mv_bi (fX7_hasMember F M a1) (fun v2 M1 => (if v2 = 0 then some ((-1000001 : Int32), M1) else (if a2 < 0 then some ((-1000001 : Int32), M1) else (if a2 ≤ (5 : Int32) then mv_bi (fX7_isKind F M1 a1 a2) (fun v4 M3 => (if v4 = 0 then mv_bi (fX8_found F M3 (3 : Int32)) (fun v6 M5 => some (v6, M5)) else mv_bi (fX8_unfound F M3 a1) (fun v8 M7 => some (v8, M7)))) else some ((-1000001 : Int32), M1)))))

def fX1_begin (F : Nat) (M : mv_M) (a1 : Int32) : Option (mv_M) :=
  (if (16 : Int32) ≤ (M.1 112 2) then some M else mv_ob (M.1 112 2) 16 (mv_let (mv_wI M 113 (M.1 112 2).toNatClampNeg a1) (fun M1 => mv_let (mv_wI M1 112 2 ((M1.1 112 2) + (1 : Int32))) (fun M2 => some M2))))

def fX1_body21 (F : Nat) (M : mv_M) (a1 : Int32) : Option (Int32 × mv_M) :=
  mv_bv (fX1_begin F M (21 : Int32)) (fun M1 => mv_bv (fX1_begin F M1 (20 : Int32)) (fun M2 => mv_ob a1 12 (some ((a1 + (M2.1 5 a1.toNatClampNeg)), M2))))

def fX1_body24 (F : Nat) (M : mv_M) (a1 : Int32) : Option (Int32 × mv_M) :=
  mv_bv (fX1_begin F M (24 : Int32)) (fun M1 => mv_bi (fX1_body21 F M1 a1) (fun v3 M2 => some ((v3 * (2 : Int32)), M2)))

def fX1_body22 (F : Nat) (M : mv_M) (a1 : Int32) : Option (Int32 × mv_M) :=
  mv_bv (fX1_begin F M (22 : Int32)) (fun M1 => mv_bi (fX1_body21 F M1 a1) (fun v3 M2 => some ((v3 - (1000 : Int32)), M2)))

def fX1_markOfLocal (F : Nat) (M : mv_M) (a1 : Int32) : Option (Int32 × mv_M) :=
  mv_ob a1 12 ((if (M.1 4 a1.toNatClampNeg) = (2 : Int32) then mv_bi (fX1_body24 F M a1) (fun v2 M1 => some (v2, M1)) else (if (M.1 4 a1.toNatClampNeg) = (3 : Int32) then mv_bi (fX1_body22 F M a1) (fun v5 M4 => some (v5, M4)) else mv_bi (fX1_body21 F M a1) (fun v8 M7 => some (v8, M7)))))

def fX1_body10 (F : Nat) (M : mv_M) (a1 : Int32) : Option (Int32 × mv_M) :=
  mv_bv (fX1_begin F M (10 : Int32)) (fun M1 => mv_ob a1 12 (some ((M1.1 6 a1.toNatClampNeg), M1)))

def fX1_body13 (F : Nat) (M : mv_M) (a1 : Int32) : Option (Int32 × mv_M) :=
  mv_bv (fX1_begin F M (13 : Int32)) (fun M1 => mv_bi (fX1_body10 F M1 a1) (fun v3 M2 => some ((v3 - (100 : Int32)), M2)))

def fX1_body14 (F : Nat) (M : mv_M) (a1 : Int32) : Option (Int32 × mv_M) :=
  mv_bv (fX1_begin F M (14 : Int32)) (fun M1 => mv_bi (fX1_body13 F M1 a1) (fun v3 M2 => some ((v3 * (2 : Int32)), M2)))

def fX1_sizeOfCall (F : Nat) (M : mv_M) (a1 : Int32) : Option (Int32 × mv_M) :=
  mv_bi (fX7_isKind F M a1 (5 : Int32)) (fun v2 M1 => (if v2 = 0 then mv_bi (fX1_body13 F M1 a1) (fun v4 M3 => some (v4, M3)) else mv_bi (fX1_body14 F M1 a1) (fun v6 M5 => some (v6, M5))))

def fX1_body23 (F : Nat) (M : mv_M) (a1 : Int32) : Option (Int32 × mv_M) :=
  mv_bv (fX1_begin F M (23 : Int32)) (fun M1 => mv_bv (fX1_begin F M1 (20 : Int32)) (fun M2 => mv_bi (fX1_sizeOfCall F M2 a1) (fun v4 M3 => some ((a1 - v4), M3))))

def fX1_markOf (F : Nat) (M : mv_M) (a1 : Int32) : Option (Int32 × mv_M) :=
  mv_bi (fX7_isKind F M a1 (4 : Int32)) (fun v2 M1 => (if v2 = 0 then mv_bi (fX1_markOfLocal F M1 a1) (fun v4 M3 => some (v4, M3)) else mv_bi (fX1_body23 F M1 a1) (fun v6 M5 => some (v6, M5))))

def fX1_body11 (F : Nat) (M : mv_M) (a1 : Int32) : Option (Int32 × mv_M) :=
  mv_bv (fX1_begin F M (11 : Int32)) (fun M1 => mv_bi (fX1_body10 F M1 a1) (fun v3 M2 => mv_let v3 (fun v4 => mv_bi (fX1_markOfLocal F M2 a1) (fun v6 M5 => some ((v4 + v6), M5)))))

def fX1_body12 (F : Nat) (M : mv_M) (a1 : Int32) : Option (Int32 × mv_M) :=
  mv_bv (fX1_begin F M (12 : Int32)) (fun M1 => mv_bi (fX1_body11 F M1 a1) (fun v3 M2 => some ((-v3), M2)))

def fX1_sizeOf (F : Nat) (M : mv_M) (a1 : Int32) : Option (Int32 × mv_M) :=
  mv_ob a1 12 ((if (M.1 4 a1.toNatClampNeg) = (2 : Int32) then mv_bi (fX1_body12 F M a1) (fun v2 M1 => some (v2, M1)) else (if (M.1 4 a1.toNatClampNeg) = (3 : Int32) then mv_bi (fX1_body11 F M a1) (fun v5 M4 => some (v5, M4)) else (if (M.1 4 a1.toNatClampNeg) = (4 : Int32) then mv_bi (fX1_sizeOfCall F M a1) (fun v8 M7 => some (v8, M7)) else (if (M.1 4 a1.toNatClampNeg) = (5 : Int32) then mv_bi (fX1_sizeOfCall F M a1) (fun v11 M10 => some (v11, M10)) else mv_bi (fX1_body11 F M a1) (fun v14 M13 => some (v14, M13)))))))

def fX8_ask (F : Nat) (M : mv_M) (a1 : Int32) (a2 : Int32) : Option (Int32 × mv_M) :=
  mv_bi (fX7_hasMember F M a1) (fun v2 M1 => (if v2 = 0 then some ((-1000001 : Int32), M1) else (if a2 < 0 then some ((-1000001 : Int32), M1) else (if a2 ≤ (1 : Int32) then mv_let (mv_wI M1 112 2 (0 : Int32)) (fun M3 => (if a2 = 0 then mv_bi (fX1_sizeOf F M3 a1) (fun v7 M6 => some (v7, M6)) else mv_bi (fX1_markOf F M3 a1) (fun v5 M4 => some (v5, M4)))) else some ((-1000001 : Int32), M1)))))

def fX8_trace (F : Nat) (M : mv_M) (a1 : Int32) : Option (Int32 × mv_M) :=
  (if a1 < 0 then some ((-1000000 : Int32), M) else (if (M.1 112 2) ≤ a1 then some ((-1000000 : Int32), M) else mv_ob a1 16 (some ((M.1 113 a1.toNatClampNeg), M))))

def bX5_present_4 (F : Nat) (f4 : (Int32 × Int32 × mv_M) → Option (Int32 × mv_M)) (s3 : Int32 × Int32 × mv_M) : Option (Int32 × mv_M) :=
  (if (8 : Int32) ≤ s3.2.1 then some (s3.1, s3.2.2) else mv_bi (fX5_isMissing F s3.2.2 s3.2.1) (fun v6 M5 => (if v6 = 0 then mv_let (s3.1 + (1 : Int32)) (fun v7 => mv_let (s3.2.1 + (1 : Int32)) (fun v8 => f4 (v7, v8, M5))) else mv_let (s3.1 + (0 : Int32)) (fun v9 => mv_let (s3.2.1 + (1 : Int32)) (fun v10 => f4 (v9, v10, M5))))))
def fX5_present (F : Nat) (M : mv_M) : Option (Int32 × mv_M) :=
  mv_let (0 : Int32) (fun v1 => mv_let (0 : Int32) (fun v2 => mv_lp (bX5_present_4 F) F (v1, v2, M)))

def fX8_count (F : Nat) (M : mv_M) (a1 : Int32) : Option (Int32 × mv_M) :=
  (if a1 = (0 : Int32) then mv_bi (fX5_present F M) (fun v2 M1 => some (v2, M1)) else (if a1 = (1 : Int32) then some ((M.1 1 0), M) else (if a1 = (2 : Int32) then some ((M.1 1 1), M) else (if a1 = (3 : Int32) then some ((M.1 1 2), M) else (if a1 = (4 : Int32) then some ((M.1 52 3), M) else (if a1 = (5 : Int32) then some ((M.1 41 1), M) else some ((-1000001 : Int32), M)))))))

def fX8_status (F : Nat) (M : mv_M) : Option (Int32 × mv_M) :=
  some ((M.1 0 10), M)

def fX9_in (F : Nat) (M : mv_M) (a1 : Int64) (a2 : Int64) (a3 : Int64) : Option (Int32 × mv_M) :=
  (if (lg_cmp a1 a2) < 0 then mv_b1 (0 : Int32) (some ((0 : Int32), M)) else (if 0 < (lg_cmp a1 a3) then mv_b1 (0 : Int32) (some ((0 : Int32), M)) else mv_b1 (1 : Int32) (some ((1 : Int32), M))))

def fX9_isRow (F : Nat) (M : mv_M) (a1 : Int32) : Option (Int32 × mv_M) :=
  mv_bi (fX9_in F M a1.toInt64 (0 : Int64) (7 : Int64)) (fun v2 M1 => mv_b1 v2 (some (v2, M1)))

def fX9_finds (F : Nat) (M : mv_M) (a1 : Int32) : Option (Int32 × mv_M) :=
  mv_let (mv_wI M 0 5 a1) (fun M1 => some (((-1000010 : Int32) - a1), M1))

def bX9_row_60 (a3 : Int32) (a1 : Int32) (f10 : (Int32 × mv_M) → Option (Int32 × mv_M)) (s9 : Int32 × mv_M) : Option (Int32 × mv_M) :=
  (if (40 : Int32) ≤ s9.1 then some (a3, s9.2) else mv_ob (((40 : Int32) * a1) + s9.1) 320 (mv_let (mv_wI s9.2 5 (((40 : Int32) * a1) + s9.1).toNatClampNeg (0 : Int32)) (fun M11 => mv_let (s9.1 + (1 : Int32)) (fun v12 => f10 (v12, M11)))))
def fX9_row (F : Nat) (M : mv_M) (a1 : Int32) (a2 : Int32) (a3 : Int32) : Option (Int32 × mv_M) :=
  mv_bi (fX9_isRow F M a1) (fun v2 M1 => (if v2 = 0 then some ((-1000001 : Int32), M1) else mv_bi (fX9_in F M1 a2.toInt64 (0 : Int64) (2 : Int64)) (fun v4 M3 => (if v4 = 0 then some ((-1000001 : Int32), M3) else (if a3 ≤ (40 : Int32) then (if 0 ≤ a3 then mv_let (mv_wI M3 0 5 (0 : Int32)) (fun M5 => mv_ob a1 8 (mv_let (mv_wI M5 3 a1.toNatClampNeg a3) (fun M6 => mv_ob a1 8 (mv_let (mv_wI M6 4 a1.toNatClampNeg a2) (fun M7 => mv_let (0 : Int32) (fun v8 => mv_lp (bX9_row_60 a3 a1) F (v8, M7))))))) else mv_bi (fX9_finds F M3 (4 : Int32)) (fun v14 M13 => some (v14, M13))) else some ((-1000001 : Int32), M3))))))

def fX9_against (F : Nat) (M : mv_M) (a1 : Int32) (a2 : Int32) (a3 : Int32) : Option (Int32 × mv_M) :=
  mv_ob a1 8 ((if 0 ≤ (M.1 3 a1.toNatClampNeg) then (if a2 < 0 then some ((2 : Int32), M) else (if a3 < 0 then some ((2 : Int32), M) else mv_ob a1 8 ((if (lg_cmp (a2.toInt64 + a3.toInt64) ((M.1 3 a1.toNatClampNeg).toInt64)) ≤ 0 then some ((0 : Int32), M) else some ((2 : Int32), M))))) else some ((1 : Int32), M)))

def fX9_set (F : Nat) (M : mv_M) (a1 : Int32) (a2 : Int32) (a3 : Int32) : Option (Int32 × mv_M) :=
  mv_bi (fX9_isRow F M a1) (fun v2 M1 => (if v2 = 0 then some ((-1000001 : Int32), M1) else mv_bi (fX9_against F M1 a1 a2 (1 : Int32)) (fun v4 M3 => mv_let v4 (fun v5 => (if v5 ≤ 0 then mv_let (mv_wI M3 0 5 (0 : Int32)) (fun M6 => mv_ob a1 8 (mv_let (fun s7 : Int32 × mv_M => mv_ob (((40 : Int32) * a1) + a2) 320 (mv_let (mv_wI s7.2 5 (((40 : Int32) * a1) + a2).toNatClampNeg s7.1) (fun M9 => mv_ob (((40 : Int32) * a1) + a2) 320 (some ((M9.1 5 (((40 : Int32) * a1) + a2).toNatClampNeg), M9))))) (fun j8 => (if (M6.1 4 a1.toNatClampNeg) = 0 then j8 (a3.toInt8.toInt32, M6) else mv_ob a1 8 ((if (M6.1 4 a1.toNatClampNeg) = (1 : Int32) then j8 (a3.toInt16.toInt32, M6) else j8 (a3, M6))))))) else mv_bi (fX9_finds F M3 v5) (fun v11 M10 => some (v11, M10)))))))

def bX9_copy_136 (a5 : Int32) (a3 : Int32) (a4 : Int32) (f19 : (Int32 × mv_M) → Option (Int32 × mv_M)) (s18 : Int32 × mv_M) : Option (Int32 × mv_M) :=
  (if a5 ≤ s18.1 then some (a5, s18.2) else mv_ob s18.1 40 (mv_ob ((((40 : Int32) * a3) + a4) + s18.1) 320 (mv_let (mv_wI s18.2 5 ((((40 : Int32) * a3) + a4) + s18.1).toNatClampNeg (s18.2.1 6 s18.1.toNatClampNeg)) (fun M20 => mv_let (s18.1 + (1 : Int32)) (fun v21 => f19 (v21, M20))))))
def bX9_copy_99 (a5 : Int32) (j16 : (mv_M) → Option (Int32 × mv_M)) (a1 : Int32) (a2 : Int32) (f23 : (Int32 × mv_M) → Option (Int32 × mv_M)) (s22 : Int32 × mv_M) : Option (Int32 × mv_M) :=
  (if a5 ≤ s22.1 then j16 (s22.2) else mv_ob ((((40 : Int32) * a1) + a2) + s22.1) 320 (mv_ob s22.1 40 (mv_let (mv_wI s22.2 6 s22.1.toNatClampNeg (s22.2.1 5 ((((40 : Int32) * a1) + a2) + s22.1).toNatClampNeg)) (fun M24 => mv_let (s22.1 + (1 : Int32)) (fun v25 => f23 (v25, M24))))))
def fX9_copy (F : Nat) (M : mv_M) (a1 : Int32) (a2 : Int32) (a3 : Int32) (a4 : Int32) (a5 : Int32) : Option (Int32 × mv_M) :=
  mv_bi (fX9_isRow F M a1) (fun v2 M1 => (if v2 = 0 then some ((-1000001 : Int32), M1) else mv_bi (fX9_isRow F M1 a3) (fun v4 M3 => (if v4 = 0 then some ((-1000001 : Int32), M3) else mv_ob a1 8 ((if (M3.1 3 a1.toNatClampNeg) < 0 then mv_bi (fX9_finds F M3 (1 : Int32)) (fun v6 M5 => some (v6, M5)) else mv_ob a3 8 ((if 0 ≤ (M3.1 3 a3.toNatClampNeg) then mv_ob a1 8 (mv_ob a3 8 ((if (M3.1 4 a1.toNatClampNeg) = (M3.1 4 a3.toNatClampNeg) then mv_bi (fX9_against F M3 a1 a2 a5) (fun v8 M7 => (if 0 < v8 then mv_bi (fX9_finds F M7 (2 : Int32)) (fun v10 M9 => some (v10, M9)) else mv_bi (fX9_against F M7 a3 a4 a5) (fun v12 M11 => (if v12 ≤ 0 then mv_let (mv_wI M11 0 5 (0 : Int32)) (fun M13 => mv_let (0 : Int32) (fun v14 => mv_let (fun s15 : mv_M => mv_let (0 : Int32) (fun v17 => mv_lp (bX9_copy_136 a5 a3 a4) F (v17, s15))) (fun j16 => mv_lp (bX9_copy_99 a5 j16 a1 a2) F (v14, M13)))) else mv_bi (fX9_finds F M11 (2 : Int32)) (fun v27 M26 => some (v27, M26)))))) else mv_bi (fX9_finds F M3 (5 : Int32)) (fun v29 M28 => some (v29, M28))))) else mv_bi (fX9_finds F M3 (1 : Int32)) (fun v31 M30 => some (v31, M30))))))))))

def fX9_drop (F : Nat) (M : mv_M) (a1 : Int32) : Option (Int32 × mv_M) :=
  mv_bi (fX9_isRow F M a1) (fun v2 M1 => (if v2 = 0 then some ((-1000001 : Int32), M1) else mv_ob a1 8 ((if 0 ≤ (M1.1 3 a1.toNatClampNeg) then mv_let (mv_wI M1 0 5 (0 : Int32)) (fun M3 => mv_ob a1 8 (mv_let (M3.1 3 a1.toNatClampNeg) (fun v4 => mv_ob a1 8 (mv_let (mv_wI M3 3 a1.toNatClampNeg (-1 : Int32)) (fun M5 => some (v4, M5)))))) else mv_bi (fX9_finds F M1 (1 : Int32)) (fun v7 M6 => some (v7, M6))))))

def fX9_feed (F : Nat) (M : mv_M) (a1 : Int32) : Option (Int32 × mv_M) :=
  mv_bi (fX9_in F M a1.toInt64 (0 : Int64) (255 : Int64)) (fun v2 M1 => (if v2 = 0 then some ((-1000001 : Int32), M1) else (if (M1.1 0 3) = (140 : Int32) then some ((-1000003 : Int32), M1) else mv_ob (M1.1 0 3) 140 (mv_let (mv_wI M1 2 (M1.1 0 3).toNatClampNeg a1) (fun M3 => mv_let (mv_wI M3 0 3 ((M3.1 0 3) + (1 : Int32))) (fun M4 => some ((M4.1 0 3), M4)))))))

def fX9_here (F : Nat) (M : mv_M) : Option (Int32 × mv_M) :=
  (if (M.1 0 3) ≤ (M.1 0 10) then some ((-1 : Int32), M) else mv_ob (M.1 0 10) 140 (some ((M.1 2 (M.1 0 10).toNatClampNeg), M)))

def fX9_fails (F : Nat) (M : mv_M) (a1 : Int32) (a2 : Int32) : Option (Int32 × mv_M) :=
  mv_let (mv_wI M 0 4 a1) (fun M1 => mv_let (mv_wI M1 0 11 a2) (fun M2 => mv_b1 (0 : Int32) (some ((0 : Int32), M2))))

def fX9_takes (F : Nat) (M : mv_M) (a1 : Int32) : Option (Int32 × mv_M) :=
  mv_bi (fX9_here F M) (fun v2 M1 => (if v2 = a1 then mv_let (mv_wI M1 0 10 ((M1.1 0 10) + (1 : Int32))) (fun M3 => mv_b1 (1 : Int32) (some ((1 : Int32), M3))) else mv_bi (fX9_fails F M1 (1 : Int32) (M1.1 0 10)) (fun v5 M4 => mv_b1 v5 (some (v5, M4)))))

def bX9_takesNumber_10 (F : Nat) (j4 : (mv_M) → Option (Int32 × mv_M)) (v1 : Int32) (f14 : (mv_M) → Option (Int32 × mv_M)) (s13 : mv_M) : Option (Int32 × mv_M) :=
  mv_bi (fX9_here F s13) (fun v16 M15 => mv_bi (fX9_in F M15 v16.toInt64 (48 : Int64) (57 : Int64)) (fun v18 M17 => (if v18 = 0 then j4 M17 else mv_let (fun s19 : Int32 × mv_M => mv_let (mv_wI s19.2 0 12 s19.1) (fun M21 => mv_let (mv_wI M21 0 10 ((M21.1 0 10) + (1 : Int32))) (fun M22 => f14 M22))) (fun j20 => (if (2 : Int32) ≤ ((M17.1 0 10) - v1) then j20 ((M17.1 0 12), M17) else mv_bi (fX9_here F M17) (fun v24 M23 => j20 (((((10 : Int32) * (M17.1 0 12)) + v24) - (48 : Int32)), M23)))))))
def fX9_takesNumber (F : Nat) (M : mv_M) (a1 : Int32) (a2 : Int32) : Option (Int32 × mv_M) :=
  mv_let (M.1 0 10) (fun v1 => mv_let (mv_wI M 0 12 (0 : Int32)) (fun M2 => mv_let (fun s3 : mv_M => mv_bi (fX9_in F s3 (((s3.1 0 10) - v1).toInt64) (1 : Int64) (2 : Int64)) (fun v6 M5 => (if v6 = 0 then mv_bi (fX9_fails F M5 (1 : Int32) v1) (fun v12 M11 => mv_b1 v12 (some (v12, M11))) else mv_bi (fX9_in F M5 ((M5.1 0 12).toInt64) a1.toInt64 a2.toInt64) (fun v8 M7 => (if v8 = 0 then mv_bi (fX9_fails F M7 (2 : Int32) v1) (fun v10 M9 => mv_b1 v10 (some (v10, M9))) else mv_b1 (1 : Int32) (some ((1 : Int32), M7))))))) (fun j4 => mv_lp (bX9_takesNumber_10 F j4 v1) F M2)))

def fX9_takesLaw (F : Nat) (M : mv_M) : Option (Int32 × mv_M) :=
  mv_bi (fX9_takes F M (119 : Int32)) (fun v2 M1 => (if v2 = 0 then mv_b1 (0 : Int32) (some ((0 : Int32), M1)) else mv_bi (fX9_takesNumber F M1 (1 : Int32) (8 : Int32)) (fun v4 M3 => (if v4 = 0 then mv_b1 (0 : Int32) (some ((0 : Int32), M3)) else mv_ob (83 : Int32) 2324 (mv_let (mv_wI M3 1 (83 : Int32).toNatClampNeg (M3.1 0 12)) (fun M5 => mv_bi (fX9_takes F M5 (59 : Int32)) (fun v7 M6 => mv_b1 v7 (some (v7, M6)))))))))

def fX9_kindOf (F : Nat) (M : mv_M) (a1 : Int32) : Option (Int32 × mv_M) :=
  (if a1 = (108 : Int32) then some ((1 : Int32), M) else (if a1 = (102 : Int32) then some ((2 : Int32), M) else (if a1 = (111 : Int32) then some ((3 : Int32), M) else (if a1 = (99 : Int32) then some ((4 : Int32), M) else (if a1 = (109 : Int32) then some ((5 : Int32), M) else some ((0 : Int32), M))))))

def bX9_takesMember_134 (v5 : Int32) (j19 : (Int32 × mv_M) → Option (Int32 × mv_M)) (F : Nat) (v6 : Int32) (f25 : (Int32 × mv_M) → Option (Int32 × mv_M)) (s24 : Int32 × mv_M) : Option (Int32 × mv_M) :=
  (if v5 < (4 : Int32) then j19 (s24.1, s24.2) else (if (2 : Int32) ≤ s24.1 then j19 (s24.1, s24.2) else (if s24.1 = 0 then mv_bi (fX9_takes F s24.2 (44 : Int32)) (fun v27 M26 => (if v27 = 0 then mv_b1 (0 : Int32) (some ((0 : Int32), M26)) else mv_ob (83 : Int32) 2324 (mv_bi (fX9_takesNumber F M26 (0 : Int32) ((M26.1 1 (83 : Int32).toNatClampNeg) - (1 : Int32))) (fun v29 M28 => (if v29 = 0 then mv_b1 (0 : Int32) (some ((0 : Int32), M28)) else mv_ob (((142 : Int32) + ((12 : Int32) * s24.1)) + v6) 2324 (mv_let (mv_wI M28 1 (((142 : Int32) + ((12 : Int32) * s24.1)) + v6).toNatClampNeg (M28.1 0 12)) (fun M30 => mv_let (s24.1 + (1 : Int32)) (fun v31 => f25 (v31, M30))))))))) else mv_bi (fX9_here F s24.2) (fun v33 M32 => (if v33 = (44 : Int32) then mv_bi (fX9_takes F M32 (44 : Int32)) (fun v35 M34 => (if v35 = 0 then mv_b1 (0 : Int32) (some ((0 : Int32), M34)) else mv_ob (83 : Int32) 2324 (mv_bi (fX9_takesNumber F M34 (0 : Int32) ((M34.1 1 (83 : Int32).toNatClampNeg) - (1 : Int32))) (fun v37 M36 => (if v37 = 0 then mv_b1 (0 : Int32) (some ((0 : Int32), M36)) else mv_ob (((142 : Int32) + ((12 : Int32) * s24.1)) + v6) 2324 (mv_let (mv_wI M36 1 (((142 : Int32) + ((12 : Int32) * s24.1)) + v6).toNatClampNeg (M36.1 0 12)) (fun M38 => mv_let (s24.1 + (1 : Int32)) (fun v39 => f25 (v39, M38))))))))) else j19 (s24.1, M32))))))
def fX9_takesMember (F : Nat) (M : mv_M) : Option (Int32 × mv_M) :=
  mv_bi (fX9_here F M) (fun v2 M1 => mv_bi (fX9_kindOf F M1 v2) (fun v4 M3 => mv_let v4 (fun v5 => (if v5 = 0 then mv_bi (fX9_fails F M3 (1 : Int32) (M3.1 0 10)) (fun v43 M42 => mv_b1 v43 (some (v43, M42))) else mv_ob (84 : Int32) 2324 (mv_let (M3.1 1 (84 : Int32).toNatClampNeg) (fun v6 => (if v6 = (12 : Int32) then mv_bi (fX9_fails F M3 (3 : Int32) (M3.1 0 10)) (fun v41 M40 => mv_b1 v41 (some (v41, M40))) else mv_let (mv_wI M3 0 10 ((M3.1 0 10) + (1 : Int32))) (fun M7 => mv_ob ((94 : Int32) + v6) 2324 (mv_let (mv_wI M7 1 ((94 : Int32) + v6).toNatClampNeg v5) (fun M8 => mv_ob (83 : Int32) 2324 (mv_bi (fX9_takesNumber F M8 (0 : Int32) ((M8.1 1 (83 : Int32).toNatClampNeg) - (1 : Int32))) (fun v10 M9 => (if v10 = 0 then mv_b1 (0 : Int32) (some ((0 : Int32), M9)) else mv_ob ((106 : Int32) + v6) 2324 (mv_let (mv_wI M9 1 ((106 : Int32) + v6).toNatClampNeg (M9.1 0 12)) (fun M11 => mv_bi (fX9_takes F M11 (44 : Int32)) (fun v13 M12 => (if v13 = 0 then mv_b1 (0 : Int32) (some ((0 : Int32), M12)) else mv_bi (fX9_takesNumber F M12 (1 : Int32) (9 : Int32)) (fun v15 M14 => (if v15 = 0 then mv_b1 (0 : Int32) (some ((0 : Int32), M14)) else mv_ob ((118 : Int32) + v6) 2324 (mv_let (mv_wI M14 1 ((118 : Int32) + v6).toNatClampNeg (M14.1 0 12)) (fun M16 => mv_let (0 : Int32) (fun v17 => mv_let (fun s18 : Int32 × mv_M => mv_ob ((130 : Int32) + v6) 2324 (mv_let (mv_wI s18.2 1 ((130 : Int32) + v6).toNatClampNeg s18.1) (fun M20 => mv_ob (84 : Int32) 2324 (mv_ob (84 : Int32) 2324 (mv_let (mv_wI M20 1 (84 : Int32).toNatClampNeg ((M20.1 1 (84 : Int32).toNatClampNeg) + (1 : Int32))) (fun M21 => mv_bi (fX9_takes F M21 (59 : Int32)) (fun v23 M22 => mv_b1 v23 (some (v23, M22))))))))) (fun j19 => mv_lp (bX9_takesMember_134 v5 j19 F v6) F (v17, M16))))))))))))))))))))))))

def fX9_takesType (F : Nat) (M : mv_M) (a1 : Int32) : Option (Int32 × mv_M) :=
  mv_bi (fX9_takes F M (117 : Int32)) (fun v2 M1 => (if v2 = 0 then mv_b1 (0 : Int32) (some ((0 : Int32), M1)) else mv_bi (fX9_takesNumber F M1 (0 : Int32) a1) (fun v4 M3 => (if v4 = 0 then mv_b1 (0 : Int32) (some ((0 : Int32), M3)) else mv_ob ((86 : Int32) + a1) 2324 (mv_let (mv_wI M3 1 ((86 : Int32) + a1).toNatClampNeg (M3.1 0 12)) (fun M5 => mv_bi (fX9_takes F M5 (59 : Int32)) (fun v7 M6 => mv_b1 v7 (some (v7, M6)))))))))

def bX9_takesAll_38 (F : Nat) (f7 : (mv_M) → Option (Int32 × mv_M)) (s6 : mv_M) : Option (Int32 × mv_M) :=
  mv_ob (84 : Int32) 2324 ((if (s6.1 1 (84 : Int32).toNatClampNeg) = 0 then mv_bi (fX9_takesMember F s6) (fun v9 M8 => (if v9 = 0 then mv_b1 (0 : Int32) (some ((0 : Int32), M8)) else f7 M8)) else (if (s6.1 0 3) ≤ (s6.1 0 10) then mv_b1 (1 : Int32) (some ((1 : Int32), s6)) else mv_bi (fX9_takesMember F s6) (fun v11 M10 => (if v11 = 0 then mv_b1 (0 : Int32) (some ((0 : Int32), M10)) else f7 M10)))))
def bX9_takesAll_11 (j5 : (mv_M) → Option (Int32 × mv_M)) (F : Nat) (f13 : (Int32 × mv_M) → Option (Int32 × mv_M)) (s12 : Int32 × mv_M) : Option (Int32 × mv_M) :=
  mv_ob (83 : Int32) 2324 ((if (s12.2.1 1 (83 : Int32).toNatClampNeg) ≤ s12.1 then j5 (s12.2) else mv_bi (fX9_takesType F s12.2 s12.1) (fun v15 M14 => (if v15 = 0 then mv_b1 (0 : Int32) (some ((0 : Int32), M14)) else mv_let (s12.1 + (1 : Int32)) (fun v16 => f13 (v16, M14))))))
def fX9_takesAll (F : Nat) (M : mv_M) : Option (Int32 × mv_M) :=
  mv_bi (fX9_takesLaw F M) (fun v2 M1 => (if v2 = 0 then mv_b1 (0 : Int32) (some ((0 : Int32), M1)) else mv_let (0 : Int32) (fun v3 => mv_let (fun s4 : mv_M => mv_lp (bX9_takesAll_38 F) F s4) (fun j5 => mv_lp (bX9_takesAll_11 j5 F) F (v3, M1)))))

def bX9_copyOf_2 (a1 : Int32) (a2 : Int32) (f3 : (Int32 × mv_M) → Option (mv_M)) (s2 : Int32 × mv_M) : Option (mv_M) :=
  (if (83 : Int32) ≤ s2.1 then some s2.2 else mv_ob (a1 + s2.1) 2324 (mv_ob (a2 + s2.1) 2324 (mv_let (mv_wI s2.2 1 (a2 + s2.1).toNatClampNeg (s2.2.1 1 (a1 + s2.1).toNatClampNeg)) (fun M4 => mv_let (s2.1 + (1 : Int32)) (fun v5 => f3 (v5, M4))))))
def fX9_copyOf (F : Nat) (M : mv_M) (a1 : Int32) (a2 : Int32) : Option (mv_M) :=
  mv_let (0 : Int32) (fun v1 => mv_lp (bX9_copyOf_2 a1 a2) F (v1, M))

def bX9_world_2 (j3 : (mv_M) → Option (Int32 × mv_M)) (f12 : (Int32 × mv_M) → Option (Int32 × mv_M)) (s11 : Int32 × mv_M) : Option (Int32 × mv_M) :=
  (if (83 : Int32) ≤ s11.1 then j3 (s11.2) else mv_ob ((83 : Int32) + s11.1) 2324 (mv_let (mv_wI s11.2 1 ((83 : Int32) + s11.1).toNatClampNeg (0 : Int32)) (fun M13 => mv_let (s11.1 + (1 : Int32)) (fun v14 => f12 (v14, M13)))))
def fX9_world (F : Nat) (M : mv_M) : Option (Int32 × mv_M) :=
  mv_let (0 : Int32) (fun v1 => mv_let (fun s2 : mv_M => mv_let (mv_wI s2 0 10 (0 : Int32)) (fun M4 => mv_bi (fX9_takesAll F M4) (fun v6 M5 => mv_let v6 (fun v7 => mv_let (mv_wI M5 0 3 (0 : Int32)) (fun M8 => (if v7 = 0 then some (((-1000100 : Int32) - (M8.1 0 11)), M8) else mv_bv (fX9_copyOf F M8 (83 : Int32) (0 : Int32)) (fun M9 => mv_let (mv_wI M9 0 1 (0 : Int32)) (fun M10 => mv_ob (1 : Int32) 2324 (some ((M10.1 1 (1 : Int32).toNatClampNeg), M10)))))))))) (fun j3 => mv_lp (bX9_world_2 j3) F (v1, M)))

def fX9_fault (F : Nat) (M : mv_M) : Option (Int32 × mv_M) :=
  some ((M.1 0 4), M)

def fX9_isMember (F : Nat) (M : mv_M) (a1 : Int32) : Option (Int32 × mv_M) :=
  mv_ob (1 : Int32) 2324 (mv_bi (fX9_in F M a1.toInt64 (0 : Int64) (((M.1 1 (1 : Int32).toNatClampNeg) - (1 : Int32)).toInt64)) (fun v2 M1 => mv_b1 v2 (some (v2, M1))))

def bX9_minds_11 (j7 : (mv_M) → Option (mv_M)) (f10 : (Int32 × mv_M) → Option (mv_M)) (s9 : Int32 × mv_M) : Option (mv_M) :=
  (if (1909 : Int32) ≤ s9.1 then j7 (s9.2) else mv_ob (((332 : Int32) + s9.1) + (83 : Int32)) 2324 (mv_ob ((332 : Int32) + s9.1) 2324 (mv_let (mv_wI s9.2 1 ((332 : Int32) + s9.1).toNatClampNeg (s9.2.1 1 (((332 : Int32) + s9.1) + (83 : Int32)).toNatClampNeg)) (fun M11 => mv_let (s9.1 + (1 : Int32)) (fun v12 => f10 (v12, M11))))))
def fX9_minds (F : Nat) (M : mv_M) : Option (mv_M) :=
  mv_let (fun s1 : mv_M => mv_bv (fX9_copyOf F s1 (0 : Int32) ((332 : Int32) + ((83 : Int32) * (s1.1 0 1)))) (fun M3 => mv_let (mv_wI M3 0 1 ((M3.1 0 1) + (1 : Int32))) (fun M4 => some M4))) (fun j2 => (if (M.1 0 1) = (24 : Int32) then mv_let (0 : Int32) (fun v5 => mv_let (fun s6 : mv_M => mv_let (mv_wI s6 0 1 ((s6.1 0 1) - (1 : Int32))) (fun M8 => j2 M8)) (fun j7 => mv_lp (bX9_minds_11 j7) F (v5, M))) else j2 M))

def fX9_hide (F : Nat) (M : mv_M) (a1 : Int32) (a2 : Int32) : Option (Int32 × mv_M) :=
  mv_bi (fX9_isMember F M a1) (fun v2 M1 => (if v2 = 0 then some ((-1000001 : Int32), M1) else mv_bi (fX9_in F M1 a2.toInt64 (0 : Int64) (1 : Int64)) (fun v4 M3 => (if v4 = 0 then some ((-1000001 : Int32), M3) else mv_ob (2 : Int32) 2324 ((if (((M3.1 1 (2 : Int32).toNatClampNeg) >>> (a1 &&& 31)) &&& (1 : Int32)) = a2 then some ((-1000002 : Int32), M3) else mv_bv (fX9_minds F M3) (fun M5 => mv_ob (2 : Int32) 2324 (mv_ob (2 : Int32) 2324 (mv_let (mv_wI M5 1 (2 : Int32).toNatClampNeg ((M5.1 1 (2 : Int32).toNatClampNeg) ^^^ ((1 : Int32) <<< (a1 &&& 31)))) (fun M6 => mv_ob (2 : Int32) 2324 (some ((M6.1 1 (2 : Int32).toNatClampNeg), M6))))))))))))

def fX9_cost (F : Nat) (M : mv_M) (a1 : Int32) (a2 : Int32) : Option (Int32 × mv_M) :=
  mv_bi (fX9_isMember F M a1) (fun v2 M1 => (if v2 = 0 then some ((-1000001 : Int32), M1) else mv_bi (fX9_in F M1 a2.toInt64 (1 : Int64) (9 : Int64)) (fun v4 M3 => (if v4 = 0 then some ((-1000001 : Int32), M3) else mv_bv (fX9_minds F M3) (fun M5 => mv_ob ((35 : Int32) + a1) 2324 (mv_let (M5.1 1 ((35 : Int32) + a1).toNatClampNeg) (fun v6 => mv_ob ((35 : Int32) + a1) 2324 (mv_let (mv_wI M5 1 ((35 : Int32) + a1).toNatClampNeg a2) (fun M7 => some (v6, M7))))))))))

def fX9_isType (F : Nat) (M : mv_M) (a1 : Int32) : Option (Int32 × mv_M) :=
  mv_ob (0 : Int32) 2324 (mv_bi (fX9_in F M a1.toInt64 (0 : Int64) (((M.1 1 (0 : Int32).toNatClampNeg) - (1 : Int32)).toInt64)) (fun v2 M1 => mv_b1 v2 (some (v2, M1))))

def fX9_above (F : Nat) (M : mv_M) (a1 : Int32) (a2 : Int32) : Option (Int32 × mv_M) :=
  mv_bi (fX9_isType F M a1) (fun v2 M1 => (if v2 = 0 then some ((-1000001 : Int32), M1) else mv_bi (fX9_in F M1 a2.toInt64 (0 : Int64) a1.toInt64) (fun v4 M3 => (if v4 = 0 then some ((-1000001 : Int32), M3) else mv_bv (fX9_minds F M3) (fun M5 => mv_ob ((3 : Int32) + a1) 2324 (mv_let (M5.1 1 ((3 : Int32) + a1).toNatClampNeg) (fun v6 => mv_ob ((3 : Int32) + a1) 2324 (mv_let (mv_wI M5 1 ((3 : Int32) + a1).toNatClampNeg a2) (fun M7 => some (v6, M7))))))))))

def fX9_undo (F : Nat) (M : mv_M) : Option (Int32 × mv_M) :=
  (if (M.1 0 1) = 0 then some ((-1000002 : Int32), M) else mv_let (mv_wI M 0 1 ((M.1 0 1) - (1 : Int32))) (fun M1 => mv_bv (fX9_copyOf F M1 ((332 : Int32) + ((83 : Int32) * (M1.1 0 1))) (0 : Int32)) (fun M2 => some ((M2.1 0 1), M2))))

def fX9_priceOf (F : Nat) (M : mv_M) (a1 : Int32) : Option (Int32 × mv_M) :=
  mv_ob ((35 : Int32) + a1) 2324 (mv_let (M.1 1 ((35 : Int32) + a1).toNatClampNeg) (fun v1 => mv_ob ((11 : Int32) + a1) 2324 (mv_let (M.1 1 ((11 : Int32) + a1).toNatClampNeg) (fun v2 => (if v2 = (2 : Int32) then some ((v1 + (2 : Int32)), M) else (if v2 = (3 : Int32) then some (((3 : Int32) * v1), M) else (if v2 = (5 : Int32) then mv_ob ((47 : Int32) + a1) 2324 (some ((v1 + (M.1 1 ((47 : Int32) + a1).toNatClampNeg)), M)) else some (v1, M))))))))

def fX9_member (F : Nat) (M : mv_M) (a1 : Int32) (a2 : Int32) : Option (Int32 × mv_M) :=
  mv_bi (fX9_isMember F M a1) (fun v2 M1 => (if v2 = 0 then some ((-1000001 : Int32), M1) else (if a2 = (0 : Int32) then mv_ob ((23 : Int32) + a1) 2324 (some ((M1.1 1 ((23 : Int32) + a1).toNatClampNeg), M1)) else (if a2 = (1 : Int32) then mv_ob ((35 : Int32) + a1) 2324 (some ((M1.1 1 ((35 : Int32) + a1).toNatClampNeg), M1)) else (if a2 = (2 : Int32) then mv_bi (fX9_priceOf F M1 a1) (fun v6 M5 => some (v6, M5)) else (if a2 = (3 : Int32) then mv_ob ((47 : Int32) + a1) 2324 (some ((M1.1 1 ((47 : Int32) + a1).toNatClampNeg), M1)) else (if a2 = (4 : Int32) then mv_ob ((47 : Int32) + a1) 2324 ((if (M1.1 1 ((47 : Int32) + a1).toNatClampNeg) ≤ (a2 - (4 : Int32)) then some ((-1000000 : Int32), M1) else mv_ob (((59 : Int32) + ((12 : Int32) * (a2 - (4 : Int32)))) + a1) 2324 (some ((M1.1 1 (((59 : Int32) + ((12 : Int32) * (a2 - (4 : Int32)))) + a1).toNatClampNeg), M1)))) else (if a2 = (5 : Int32) then mv_ob ((47 : Int32) + a1) 2324 ((if (M1.1 1 ((47 : Int32) + a1).toNatClampNeg) ≤ (a2 - (4 : Int32)) then some ((-1000000 : Int32), M1) else mv_ob (((59 : Int32) + ((12 : Int32) * (a2 - (4 : Int32)))) + a1) 2324 (some ((M1.1 1 (((59 : Int32) + ((12 : Int32) * (a2 - (4 : Int32)))) + a1).toNatClampNeg), M1)))) else (if a2 = (6 : Int32) then mv_ob (2 : Int32) 2324 (some ((((M1.1 1 (2 : Int32).toNatClampNeg) >>> (a1 &&& 31)) &&& (1 : Int32)), M1)) else some ((-1000001 : Int32), M1))))))))))

def bX9_isOf_2 (a2 : Int32) (j3 : (Int32 × mv_M) → Option (Int32 × mv_M)) (f5 : (Int32 × mv_M) → Option (Int32 × mv_M)) (s4 : Int32 × mv_M) : Option (Int32 × mv_M) :=
  (if s4.1 = a2 then j3 (s4.1, s4.2) else mv_ob ((3 : Int32) + s4.1) 2324 ((if (s4.2.1 1 ((3 : Int32) + s4.1).toNatClampNeg) = s4.1 then j3 (s4.1, s4.2) else mv_ob ((3 : Int32) + s4.1) 2324 (mv_let (s4.2.1 1 ((3 : Int32) + s4.1).toNatClampNeg) (fun v6 => f5 (v6, s4.2))))))
def fX9_isOf (F : Nat) (M : mv_M) (a1 : Int32) (a2 : Int32) : Option (Int32 × mv_M) :=
  mv_let a1 (fun v1 => mv_let (fun s2 : Int32 × mv_M => (if s2.1 = a2 then mv_b1 (1 : Int32) (some ((1 : Int32), s2.2)) else mv_b1 (0 : Int32) (some ((0 : Int32), s2.2)))) (fun j3 => mv_lp (bX9_isOf_2 a2 j3) F (v1, M)))

def bX9_typesOf_5 (a2 : Int32) (F : Nat) (a1 : Int32) (f4 : (Int32 × Int32 × mv_M) → Option (Int32 × mv_M)) (s3 : Int32 × Int32 × mv_M) : Option (Int32 × mv_M) :=
  mv_ob (0 : Int32) 2324 ((if (s3.2.2.1 1 (0 : Int32).toNatClampNeg) ≤ s3.2.1 then some (s3.1, s3.2.2) else (if a2 = 0 then mv_bi (fX9_isOf F s3.2.2 a1 s3.2.1) (fun v6 M5 => (if v6 = 0 then mv_let (s3.1 ||| (0 : Int32)) (fun v7 => mv_let (s3.2.1 + (1 : Int32)) (fun v8 => f4 (v7, v8, M5))) else mv_let (s3.1 ||| ((1 : Int32) <<< (s3.2.1 &&& 31))) (fun v9 => mv_let (s3.2.1 + (1 : Int32)) (fun v10 => f4 (v9, v10, M5))))) else mv_bi (fX9_isOf F s3.2.2 s3.2.1 a1) (fun v12 M11 => (if v12 = 0 then mv_let (s3.1 ||| (0 : Int32)) (fun v13 => mv_let (s3.2.1 + (1 : Int32)) (fun v14 => f4 (v13, v14, M11))) else mv_let (s3.1 ||| ((1 : Int32) <<< (s3.2.1 &&& 31))) (fun v15 => mv_let (s3.2.1 + (1 : Int32)) (fun v16 => f4 (v15, v16, M11))))))))
def fX9_typesOf (F : Nat) (M : mv_M) (a1 : Int32) (a2 : Int32) : Option (Int32 × mv_M) :=
  mv_let (0 : Int32) (fun v1 => mv_let (0 : Int32) (fun v2 => mv_lp (bX9_typesOf_5 a2 F a1) F (v1, v2, M)))

def bX9_givers_4 (F : Nat) (a1 : Int32) (f4 : (Int32 × Int32 × mv_M) → Option (Int32 × mv_M)) (s3 : Int32 × Int32 × mv_M) : Option (Int32 × mv_M) :=
  mv_ob (1 : Int32) 2324 ((if (s3.2.2.1 1 (1 : Int32).toNatClampNeg) ≤ s3.2.1 then some (s3.1, s3.2.2) else mv_ob ((23 : Int32) + s3.2.1) 2324 (mv_bi (fX9_isOf F s3.2.2 (s3.2.2.1 1 ((23 : Int32) + s3.2.1).toNatClampNeg) a1) (fun v6 M5 => (if v6 = 0 then mv_let (s3.1 ||| (0 : Int32)) (fun v7 => mv_let (s3.2.1 + (1 : Int32)) (fun v8 => f4 (v7, v8, M5))) else mv_let (s3.1 ||| ((1 : Int32) <<< (s3.2.1 &&& 31))) (fun v9 => mv_let (s3.2.1 + (1 : Int32)) (fun v10 => f4 (v9, v10, M5))))))))
def fX9_givers (F : Nat) (M : mv_M) (a1 : Int32) : Option (Int32 × mv_M) :=
  mv_let (0 : Int32) (fun v1 => mv_let (0 : Int32) (fun v2 => mv_lp (bX9_givers_4 F a1) F (v1, v2, M)))

def fX9_type (F : Nat) (M : mv_M) (a1 : Int32) (a2 : Int32) : Option (Int32 × mv_M) :=
  mv_bi (fX9_isType F M a1) (fun v2 M1 => (if v2 = 0 then some ((-1000001 : Int32), M1) else (if a2 = (0 : Int32) then mv_ob ((3 : Int32) + a1) 2324 (some ((M1.1 1 ((3 : Int32) + a1).toNatClampNeg), M1)) else (if a2 = (1 : Int32) then mv_bi (fX9_typesOf F M1 a1 (0 : Int32)) (fun v5 M4 => some (v5, M4)) else (if a2 = (2 : Int32) then mv_bi (fX9_typesOf F M1 a1 (1 : Int32)) (fun v8 M7 => some (v8, M7)) else (if a2 = (3 : Int32) then mv_bi (fX9_givers F M1 a1) (fun v11 M10 => some (v11, M10)) else some ((-1000001 : Int32), M1)))))))

def fX9_has (F : Nat) (M : mv_M) (a1 : Int32) (a2 : Int32) : Option (Int32 × mv_M) :=
  (if ((a1 >>> (a2 &&& 31)) &&& (1 : Int32)) = (1 : Int32) then mv_b1 (1 : Int32) (some ((1 : Int32), M)) else mv_b1 (0 : Int32) (some ((0 : Int32), M)))

def fX9_cut (F : Nat) (M : mv_M) (a1 : Int64) : Option (Int64 × mv_M) :=
  (if (lg_cmp a1 (1000000000 : Int64)) ≤ 0 then some (a1, M) else some ((1000000000 : Int64), M))

def bX9_headed_88 (v3 : Int32) (v4 : Int32) (v5 : Int32) (F : Nat) (f9 : (Int64 × Int32 × mv_M) → Option (Int64 × mv_M)) (s8 : Int64 × Int32 × mv_M) : Option (Int64 × mv_M) :=
  (if v3 ≤ s8.2.1 then some (s8.1, s8.2.2) else mv_ob (((25 : Int32) * v4) + s8.2.1) 200 (mv_ob ((((25 : Int32) * v5) + v3) - s8.2.1) 200 (mv_bl (fX9_cut F s8.2.2 ((s8.2.2.2 7 (((25 : Int32) * v4) + s8.2.1).toNatClampNeg) * (s8.2.2.2 7 ((((25 : Int32) * v5) + v3) - s8.2.1).toNatClampNeg))) (fun v11 M10 => mv_bl (fX9_cut F M10 (s8.1 + v11)) (fun v13 M12 => mv_let v13 (fun v14 => mv_let (s8.2.1 + (1 : Int32)) (fun v15 => f9 (v14, v15, M12))))))))
def fX9_headed (F : Nat) (M : mv_M) (a1 : Int32) (a2 : Int32) : Option (Int64 × mv_M) :=
  mv_bi (fX9_priceOf F M a1) (fun v2 M1 => mv_let (a2 - v2) (fun v3 => (if v3 < 0 then (if v3 = 0 then some ((1 : Int64), M1) else some ((0 : Int64), M1)) else mv_ob ((47 : Int32) + a1) 2324 ((if (M1.1 1 ((47 : Int32) + a1).toNatClampNeg) = 0 then (if v3 = 0 then some ((1 : Int64), M1) else some ((0 : Int64), M1)) else mv_ob ((59 : Int32) + a1) 2324 (mv_let (M1.1 1 ((59 : Int32) + a1).toNatClampNeg) (fun v4 => mv_ob ((47 : Int32) + a1) 2324 ((if (M1.1 1 ((47 : Int32) + a1).toNatClampNeg) = (1 : Int32) then mv_ob (((25 : Int32) * v4) + v3) 200 (some ((M1.2 7 (((25 : Int32) * v4) + v3).toNatClampNeg), M1)) else mv_ob ((71 : Int32) + a1) 2324 (mv_let (M1.1 1 ((71 : Int32) + a1).toNatClampNeg) (fun v5 => mv_let (0 : Int64) (fun v6 => mv_let (1 : Int32) (fun v7 => mv_lp (bX9_headed_88 v3 v4 v5 F) F (v6, v7, M1))))))))))))))

def bX9_layWays_65 (s8 : Int32 × mv_M) (f9 : (Int32 × mv_M) → Option (mv_M)) (v15 : Int64) (F : Nat) (s5 : Int32 × mv_M) (f18 : (Int32 × mv_M) → Option (mv_M)) (s17 : Int32 × mv_M) : Option (mv_M) :=
  mv_ob (0 : Int32) 2324 ((if (s17.2.1 1 (0 : Int32).toNatClampNeg) ≤ s17.1 then mv_let (s8.1 + (1 : Int32)) (fun v19 => f9 (v19, s17.2)) else (if (lg_cmp v15 (0 : Int64)) ≤ 0 then mv_let (s8.1 + (1 : Int32)) (fun v20 => f9 (v20, s17.2)) else mv_ob ((23 : Int32) + s8.1) 2324 (mv_bi (fX9_isOf F s17.2 (s17.2.1 1 ((23 : Int32) + s8.1).toNatClampNeg) s17.1) (fun v22 M21 => (if v22 = 0 then mv_ob (((25 : Int32) * s17.1) + s5.1) 200 (mv_ob (((25 : Int32) * s17.1) + s5.1) 200 (mv_let (mv_wL M21 7 (((25 : Int32) * s17.1) + s5.1).toNatClampNeg (M21.2 7 (((25 : Int32) * s17.1) + s5.1).toNatClampNeg)) (fun M23 => mv_let (s17.1 + (1 : Int32)) (fun v24 => f18 (v24, M23))))) else mv_ob (((25 : Int32) * s17.1) + s5.1) 200 (mv_bl (fX9_cut F M21 ((M21.2 7 (((25 : Int32) * s17.1) + s5.1).toNatClampNeg) + v15)) (fun v26 M25 => mv_ob (((25 : Int32) * s17.1) + s5.1) 200 (mv_let (mv_wL M25 7 (((25 : Int32) * s17.1) + s5.1).toNatClampNeg v26) (fun M27 => mv_let (s17.1 + (1 : Int32)) (fun v28 => f18 (v28, M27))))))))))))
def bX9_layWays_32 (s5 : Int32 × mv_M) (f6 : (Int32 × mv_M) → Option (mv_M)) (F : Nat) (a1 : Int32) (f9 : (Int32 × mv_M) → Option (mv_M)) (s8 : Int32 × mv_M) : Option (mv_M) :=
  mv_ob (1 : Int32) 2324 ((if (s8.2.1 1 (1 : Int32).toNatClampNeg) ≤ s8.1 then mv_let (s5.1 + (1 : Int32)) (fun v10 => f6 (v10, s8.2)) else mv_bi (fX9_has F s8.2 a1 s8.1) (fun v12 M11 => mv_let (fun s13 : Int64 × mv_M => mv_let s13.1 (fun v15 => mv_let (0 : Int32) (fun v16 => mv_lp (bX9_layWays_65 s8 f9 v15 F s5) F (v16, s13.2)))) (fun j14 => (if v12 = 0 then mv_bl (fX9_headed F M11 s8.1 s5.1) (fun v30 M29 => j14 (v30, M29)) else j14 ((0 : Int64), M11))))))
def bX9_layWays_24 (F : Nat) (a1 : Int32) (f6 : (Int32 × mv_M) → Option (mv_M)) (s5 : Int32 × mv_M) : Option (mv_M) :=
  (if (24 : Int32) < s5.1 then some s5.2 else mv_let (0 : Int32) (fun v7 => mv_lp (bX9_layWays_32 s5 f6 F a1) F (v7, s5.2)))
def bX9_layWays_2 (j3 : (mv_M) → Option (mv_M)) (f32 : (Int32 × mv_M) → Option (mv_M)) (s31 : Int32 × mv_M) : Option (mv_M) :=
  (if (200 : Int32) ≤ s31.1 then j3 (s31.2) else mv_ob s31.1 200 (mv_let (mv_wL s31.2 7 s31.1.toNatClampNeg (0 : Int64)) (fun M33 => mv_let (s31.1 + (1 : Int32)) (fun v34 => f32 (v34, M33)))))
def fX9_layWays (F : Nat) (M : mv_M) (a1 : Int32) : Option (mv_M) :=
  mv_let (0 : Int32) (fun v1 => mv_let (fun s2 : mv_M => mv_let (1 : Int32) (fun v4 => mv_lp (bX9_layWays_24 F a1) F (v4, s2))) (fun j3 => mv_lp (bX9_layWays_2 j3) F (v1, M)))

def fX9_toldOf (F : Nat) (M : mv_M) (a1 : Int64) : Option (Int32 × mv_M) :=
  (if (lg_cmp a1 (999999999 : Int64)) ≤ 0 then some (a1.toInt32, M) else some ((999999999 : Int32), M))

def fX9_many (F : Nat) (M : mv_M) (a1 : Int32) (a2 : Int32) : Option (Int32 × mv_M) :=
  mv_bi (fX9_isType F M a1) (fun v2 M1 => (if v2 = 0 then some ((-1000001 : Int32), M1) else mv_bi (fX9_in F M1 a2.toInt64 (1 : Int64) (24 : Int64)) (fun v4 M3 => (if v4 = 0 then some ((-1000001 : Int32), M3) else mv_ob (2 : Int32) 2324 (mv_bv (fX9_layWays F M3 (M3.1 1 (2 : Int32).toNatClampNeg)) (fun M5 => mv_ob (((25 : Int32) * a1) + a2) 200 (mv_bi (fX9_toldOf F M5 (M5.2 7 (((25 : Int32) * a1) + a2).toNatClampNeg)) (fun v7 M6 => some (v7, M6)))))))))

def bX9_cheapestOf_2 (a1 : Int32) (f3 : (Int32 × mv_M) → Option (Int32 × mv_M)) (s2 : Int32 × mv_M) : Option (Int32 × mv_M) :=
  (if (24 : Int32) < s2.1 then some ((-1000000 : Int32), s2.2) else mv_ob (((25 : Int32) * a1) + s2.1) 200 ((if (lg_cmp (s2.2.2 7 (((25 : Int32) * a1) + s2.1).toNatClampNeg) (0 : Int64)) ≤ 0 then mv_let (s2.1 + (1 : Int32)) (fun v4 => f3 (v4, s2.2)) else some (s2.1, s2.2))))
def fX9_cheapestOf (F : Nat) (M : mv_M) (a1 : Int32) : Option (Int32 × mv_M) :=
  mv_let (1 : Int32) (fun v1 => mv_lp (bX9_cheapestOf_2 a1) F (v1, M))

def fX9_cheapest (F : Nat) (M : mv_M) (a1 : Int32) : Option (Int32 × mv_M) :=
  mv_bi (fX9_isType F M a1) (fun v2 M1 => (if v2 = 0 then some ((-1000001 : Int32), M1) else mv_ob (2 : Int32) 2324 (mv_bv (fX9_layWays F M1 (M1.1 1 (2 : Int32).toNatClampNeg)) (fun M3 => mv_bi (fX9_cheapestOf F M3 a1) (fun v5 M4 => some (v5, M4))))))

def bX9_await0_33 (s4 : Int32 × mv_M) (j9 : (Int64 × mv_M) → Option (mv_M)) (a1 : Int32) (F : Nat) (f13 : (Int64 × Int32 × mv_M) → Option (mv_M)) (s12 : Int64 × Int32 × mv_M) : Option (mv_M) :=
  (if s4.1 < s12.2.1 then j9 (s12.1, s12.2.2) else mv_ob (((25 : Int32) * a1) + s12.2.1) 200 (mv_ob ((((25 : Int32) * ((s12.2.2.1 0 15) - (1 : Int32))) + s4.1) - s12.2.1) 1650 (mv_bl (fX9_cut F s12.2.2 ((s12.2.2.2 7 (((25 : Int32) * a1) + s12.2.1).toNatClampNeg) * (s12.2.2.2 9 ((((25 : Int32) * ((s12.2.2.1 0 15) - (1 : Int32))) + s4.1) - s12.2.1).toNatClampNeg))) (fun v15 M14 => mv_bl (fX9_cut F M14 (s12.1 + v15)) (fun v17 M16 => mv_let v17 (fun v18 => mv_let (s12.2.1 + (1 : Int32)) (fun v19 => f13 (v18, v19, M16))))))))
def bX9_await0_22 (a1 : Int32) (F : Nat) (f5 : (Int32 × mv_M) → Option (mv_M)) (s4 : Int32 × mv_M) : Option (mv_M) :=
  (if (24 : Int32) < s4.1 then some s4.2 else mv_let (0 : Int64) (fun v6 => mv_let (1 : Int32) (fun v7 => mv_let (fun s8 : Int64 × mv_M => mv_ob (((25 : Int32) * (s8.2.1 0 15)) + s4.1) 1650 (mv_let (mv_wL s8.2 9 (((25 : Int32) * (s8.2.1 0 15)) + s4.1).toNatClampNeg s8.1) (fun M10 => mv_let (s4.1 + (1 : Int32)) (fun v11 => f5 (v11, M10))))) (fun j9 => mv_lp (bX9_await0_33 s4 j9 a1 F) F (v6, v7, s4.2)))))
def fX9_await0 (F : Nat) (M : mv_M) (a1 : Int32) : Option (mv_M) :=
  mv_ob (M.1 0 15) 64 (mv_let (mv_wI M 8 (M.1 0 15).toNatClampNeg a1) (fun M1 => mv_let (mv_wI M1 0 15 ((M1.1 0 15) + (1 : Int32))) (fun M2 => mv_let (0 : Int32) (fun v3 => mv_lp (bX9_await0_22 a1 F) F (v3, M2)))))

def bX9_awaitsFirst_7 (F : Nat) (a1 : Int32) (f4 : (Int32 × mv_M) → Option (mv_M)) (s3 : Int32 × mv_M) : Option (mv_M) :=
  (if (24 : Int32) < s3.1 then mv_bv (fX9_await0 F s3.2 a1) (fun M5 => some M5) else (if s3.1 = 0 then mv_ob s3.1 1650 (mv_let (mv_wL s3.2 9 s3.1.toNatClampNeg (1 : Int64)) (fun M8 => mv_let (s3.1 + (1 : Int32)) (fun v9 => f4 (v9, M8)))) else mv_ob s3.1 1650 (mv_let (mv_wL s3.2 9 s3.1.toNatClampNeg (0 : Int64)) (fun M6 => mv_let (s3.1 + (1 : Int32)) (fun v7 => f4 (v7, M6))))))
def fX9_awaitsFirst (F : Nat) (M : mv_M) (a1 : Int32) : Option (mv_M) :=
  mv_let (mv_wI M 0 15 (0 : Int32)) (fun M1 => mv_let (0 : Int32) (fun v2 => mv_lp (bX9_awaitsFirst_7 F a1) F (v2, M1)))

def bX9_gives_22 (a1 : Int32) (F : Nat) (f4 : (Int32 × mv_M) → Option (mv_M)) (s3 : Int32 × mv_M) : Option (mv_M) :=
  (if s3.1 < 0 then some s3.2 else mv_ob (((59 : Int32) + ((12 : Int32) * s3.1)) + a1) 2324 (mv_bv (fX9_await0 F s3.2 (s3.2.1 1 (((59 : Int32) + ((12 : Int32) * s3.1)) + a1).toNatClampNeg)) (fun M5 => mv_let (s3.1 + (-1 : Int32)) (fun v6 => f4 (v6, M5)))))
def fX9_gives (F : Nat) (M : mv_M) (a1 : Int32) : Option (mv_M) :=
  mv_let (mv_wI M 0 15 ((M.1 0 15) - (1 : Int32))) (fun M1 => mv_ob ((47 : Int32) + a1) 2324 (mv_let ((M1.1 1 ((47 : Int32) + a1).toNatClampNeg) - (1 : Int32)) (fun v2 => mv_lp (bX9_gives_22 a1 F) F (v2, M1))))

def fX9_goesOn (F : Nat) (M : mv_M) (a1 : Int32) (a2 : Int32) : Option (Int64 × mv_M) :=
  mv_bi (fX9_priceOf F M a1) (fun v2 M1 => mv_let (a2 - v2) (fun v3 => mv_ob ((M1.1 0 15) - (1 : Int32)) 64 (mv_let (M1.1 8 ((M1.1 0 15) - (1 : Int32)).toNatClampNeg) (fun v4 => (if v3 < 0 then some ((0 : Int64), M1) else mv_ob (2 : Int32) 2324 (mv_bi (fX9_has F M1 (M1.1 1 (2 : Int32).toNatClampNeg) a1) (fun v6 M5 => (if v6 = 0 then mv_ob ((23 : Int32) + a1) 2324 (mv_bi (fX9_isOf F M5 (M5.1 1 ((23 : Int32) + a1).toNatClampNeg) v4) (fun v8 M7 => (if v8 = 0 then some ((0 : Int64), M7) else mv_bv (fX9_gives F M7 a1) (fun M9 => mv_ob (((25 : Int32) * (M9.1 0 15)) + v3) 1650 (mv_let (M9.2 9 (((25 : Int32) * (M9.1 0 15)) + v3).toNatClampNeg) (fun v10 => mv_ob ((47 : Int32) + a1) 2324 (mv_let (mv_wI M9 0 15 ((M9.1 0 15) - (M9.1 1 ((47 : Int32) + a1).toNatClampNeg))) (fun M11 => mv_bv (fX9_await0 F M11 v4) (fun M12 => some (v10, M12)))))))))) else some ((0 : Int64), M5)))))))))

def bX9_laysCode_100 (j16 : (Int64 × Int32 × mv_M) → Option (Int32 × mv_M)) (F : Nat) (s9 : Int64 × Int32 × mv_M) (f24 : (Int64 × Int32 × Int64 × mv_M) → Option (Int32 × mv_M)) (s23 : Int64 × Int32 × Int64 × mv_M) : Option (Int32 × mv_M) :=
  (if (lg_cmp s23.1 s23.2.2.1) < 0 then j16 (s23.1, s23.2.1, s23.2.2.2) else mv_let (s23.1 - s23.2.2.1) (fun v25 => mv_let (s23.2.1 + (1 : Int32)) (fun v26 => mv_bl (fX9_goesOn F s23.2.2.2 v26 s9.2.1) (fun v28 M27 => mv_let v28 (fun v29 => f24 (v25, v26, v29, M27))))))
def bX9_laysCode_80 (F : Nat) (f10 : (Int64 × Int32 × mv_M) → Option (Int32 × mv_M)) (s9 : Int64 × Int32 × mv_M) : Option (Int32 × mv_M) :=
  (if (s9.2.2.1 0 15) ≤ 0 then mv_b1 (1 : Int32) (some ((1 : Int32), s9.2.2)) else mv_let (0 : Int32) (fun v11 => mv_bl (fX9_goesOn F s9.2.2 v11 s9.2.1) (fun v13 M12 => mv_let v13 (fun v14 => mv_let (fun s15 : Int64 × Int32 × mv_M => mv_ob (s15.2.2.1 0 18) 64 (mv_let (mv_wI s15.2.2 10 (s15.2.2.1 0 18).toNatClampNeg s15.2.1) (fun M17 => mv_let (mv_wI M17 0 18 ((M17.1 0 18) + (1 : Int32))) (fun M18 => mv_bi (fX9_priceOf F M18 s15.2.1) (fun v20 M19 => mv_let (s9.2.1 - v20) (fun v21 => mv_bv (fX9_gives F M19 s15.2.1) (fun M22 => f10 (s15.1, v21, M22)))))))) (fun j16 => mv_lp (bX9_laysCode_100 j16 F s9) F (s9.1, v11, v14, M12))))))
def bX9_laysCode_6 (j4 : (Int64 × Int32 × mv_M) → Option (Int32 × mv_M)) (a1 : Int32) (f31 : (Int64 × Int32 × mv_M) → Option (Int32 × mv_M)) (s30 : Int64 × Int32 × mv_M) : Option (Int32 × mv_M) :=
  (if (24 : Int32) < s30.2.1 then j4 (s30.1, s30.2.1, s30.2.2) else mv_ob (((25 : Int32) * a1) + s30.2.1) 200 ((if (lg_cmp s30.1 (s30.2.2.2 7 (((25 : Int32) * a1) + s30.2.1).toNatClampNeg)) < 0 then j4 (s30.1, s30.2.1, s30.2.2) else mv_ob (((25 : Int32) * a1) + s30.2.1) 200 (mv_let (s30.1 - (s30.2.2.2 7 (((25 : Int32) * a1) + s30.2.1).toNatClampNeg)) (fun v32 => mv_let (s30.2.1 + (1 : Int32)) (fun v33 => f31 (v32, v33, s30.2.2)))))))
def fX9_laysCode (F : Nat) (M : mv_M) (a1 : Int32) (a2 : Int32) : Option (Int32 × mv_M) :=
  mv_let a2.toInt64 (fun v1 => mv_let (1 : Int32) (fun v2 => mv_let (fun s3 : Int64 × Int32 × mv_M => mv_let (mv_wI s3.2.2 0 18 (0 : Int32)) (fun M5 => mv_let (mv_wI M5 0 19 s3.2.1) (fun M6 => (if s3.2.1 ≤ (24 : Int32) then mv_bv (fX9_awaitsFirst F M6 a1) (fun M7 => mv_let s3.2.1 (fun v8 => mv_lp (bX9_laysCode_80 F) F (s3.1, v8, M7))) else mv_b1 (0 : Int32) (some ((0 : Int32), M6)))))) (fun j4 => mv_lp (bX9_laysCode_6 j4 a1) F (v1, v2, M))))

def fX9_listed (F : Nat) (M : mv_M) (a1 : Int32) (a2 : Int32) (a3 : Int32) : Option (Int32 × mv_M) :=
  mv_bi (fX9_isType F M a1) (fun v2 M1 => (if v2 = 0 then some ((-1000001 : Int32), M1) else mv_bi (fX9_in F M1 a2.toInt64 (0 : Int64) (999999998 : Int64)) (fun v4 M3 => (if v4 = 0 then some ((-1000001 : Int32), M3) else (if (-1 : Int32) ≤ a3 then mv_ob (2 : Int32) 2324 (mv_bv (fX9_layWays F M3 (M3.1 1 (2 : Int32).toNatClampNeg)) (fun M5 => mv_bi (fX9_laysCode F M5 a1 a2) (fun v7 M6 => (if v7 = 0 then some ((-1000000 : Int32), M6) else (if a3 = (-1 : Int32) then some ((M6.1 0 19), M6) else (if (M6.1 0 18) ≤ a3 then some ((-1000000 : Int32), M6) else mv_ob a3 64 (some ((M6.1 10 a3.toNatClampNeg), M6)))))))) else some ((-1000001 : Int32), M3))))))

def fX9_isWorld (F : Nat) (M : mv_M) : Option (Int32 × mv_M) :=
  mv_ob (1 : Int32) 2324 ((if (M.1 1 (1 : Int32).toNatClampNeg) ≤ 0 then mv_b1 (0 : Int32) (some ((0 : Int32), M)) else mv_b1 (1 : Int32) (some ((1 : Int32), M))))

def bX9_isWhole_146 (s7 : Int32 × Int32 × Int32 × mv_M) (f8 : (Int32 × Int32 × Int32 × mv_M) → Option (Int32 × mv_M)) (v14 : Int32) (v9 : Int32) (f24 : (Int32 × Int32 × mv_M) → Option (Int32 × mv_M)) (s23 : Int32 × Int32 × mv_M) : Option (Int32 × mv_M) :=
  (if s23.2.1 < 0 then mv_let (s7.2.2.1 + (1 : Int32)) (fun v25 => f8 (s23.1, v14, v25, s23.2.2)) else mv_ob (((59 : Int32) + ((12 : Int32) * s23.2.1)) + v9) 2324 (mv_ob s23.1 64 (mv_let (mv_wI s23.2.2 8 s23.1.toNatClampNeg (s23.2.2.1 1 (((59 : Int32) + ((12 : Int32) * s23.2.1)) + v9).toNatClampNeg)) (fun M26 => mv_let (s23.1 + (1 : Int32)) (fun v27 => mv_let (s23.2.1 + (-1 : Int32)) (fun v28 => f24 (v27, v28, M26)))))))
def bX9_isWhole_13 (a2 : Int32) (j6 : (Int32 × Int32 × mv_M) → Option (Int32 × mv_M)) (a1 : Int32) (F : Nat) (f8 : (Int32 × Int32 × Int32 × mv_M) → Option (Int32 × mv_M)) (s7 : Int32 × Int32 × Int32 × mv_M) : Option (Int32 × mv_M) :=
  (if a2 ≤ s7.2.2.1 then j6 (s7.1, s7.2.1, s7.2.2.2) else (if s7.2.1 = 0 then j6 (s7.1, s7.2.1, s7.2.2.2) else mv_ob (a1 + s7.2.2.1) 320 (mv_let (s7.2.2.2.1 5 (a1 + s7.2.2.1).toNatClampNeg) (fun v9 => mv_bi (fX9_isMember F s7.2.2.2 v9) (fun v11 M10 => mv_let (fun s12 : Int32 × mv_M => mv_let s12.1 (fun v14 => (if v14 = 0 then mv_let (s7.2.2.1 + (1 : Int32)) (fun v15 => f8 (s7.1, v14, v15, s12.2)) else mv_let (fun s16 : Int32 × mv_M => mv_let (s7.1 - s16.1) (fun v18 => mv_bi (fX9_priceOf F s16.2 v9) (fun v20 M19 => mv_let (mv_wI M19 0 19 ((s16.2.1 0 19) + v20)) (fun M21 => mv_ob ((47 : Int32) + v9) 2324 (mv_let ((M21.1 1 ((47 : Int32) + v9).toNatClampNeg) - (1 : Int32)) (fun v22 => mv_lp (bX9_isWhole_146 s7 f8 v14 v9) F (v18, v22, M21))))))) (fun j17 => (if s7.2.2.1 = 0 then j17 ((0 : Int32), s12.2) else j17 ((1 : Int32), s12.2)))))) (fun j13 => (if v11 = 0 then j13 ((0 : Int32), M10) else mv_ob (2 : Int32) 2324 (mv_bi (fX9_has F M10 (M10.1 1 (2 : Int32).toNatClampNeg) v9) (fun v30 M29 => (if v30 = 0 then (if s7.2.2.1 = 0 then j13 ((1 : Int32), M29) else (if s7.1 ≤ 0 then j13 ((0 : Int32), M29) else mv_ob ((23 : Int32) + v9) 2324 (mv_ob (s7.1 - (1 : Int32)) 64 (mv_bi (fX9_isOf F M29 (M29.1 1 ((23 : Int32) + v9).toNatClampNeg) (M29.1 8 (s7.1 - (1 : Int32)).toNatClampNeg)) (fun v32 M31 => (if v32 = 0 then j13 ((0 : Int32), M31) else j13 ((1 : Int32), M31))))))) else j13 ((0 : Int32), M29)))))))))))
def fX9_isWhole (F : Nat) (M : mv_M) (a1 : Int32) (a2 : Int32) : Option (Int32 × mv_M) :=
  mv_let (0 : Int32) (fun v1 => mv_let (1 : Int32) (fun v2 => mv_let (mv_wI M 0 19 (0 : Int32)) (fun M3 => mv_let (0 : Int32) (fun v4 => mv_let (fun s5 : Int32 × Int32 × mv_M => (if s5.2.1 = 0 then mv_b1 (0 : Int32) (some ((0 : Int32), s5.2.2)) else (if s5.1 = 0 then mv_b1 (1 : Int32) (some ((1 : Int32), s5.2.2)) else mv_b1 (0 : Int32) (some ((0 : Int32), s5.2.2))))) (fun j6 => mv_lp (bX9_isWhole_13 a2 j6 a1 F) F (v1, v2, v4, M3))))))

def fX9_word (F : Nat) (M : mv_M) (a1 : Int32) (a2 : Int32) (a3 : Int32) (a4 : Int32) : Option (Int32 × mv_M) :=
  mv_bi (fX9_isRow F M a1) (fun v2 M1 => (if v2 = 0 then some ((-1000001 : Int32), M1) else mv_bi (fX9_in F M1 a3.toInt64 (1 : Int64) (24 : Int64)) (fun v4 M3 => (if v4 = 0 then some ((-1000001 : Int32), M3) else mv_bi (fX9_in F M3 a4.toInt64 (0 : Int64) (1 : Int64)) (fun v6 M5 => (if v6 = 0 then some ((-1000001 : Int32), M5) else mv_bi (fX9_isWorld F M5) (fun v8 M7 => (if v8 = 0 then some ((-1000002 : Int32), M7) else mv_bi (fX9_against F M7 a1 a2 a3) (fun v10 M9 => mv_let v10 (fun v11 => (if v11 ≤ 0 then mv_let (mv_wI M9 0 5 (0 : Int32)) (fun M12 => mv_bi (fX9_isWhole F M12 (((40 : Int32) * a1) + a2) a3) (fun v14 M13 => (if v14 = 0 then some ((-1000000 : Int32), M13) else (if a4 = 0 then mv_ob (((40 : Int32) * a1) + a2) 320 (mv_ob ((23 : Int32) + (M13.1 5 (((40 : Int32) * a1) + a2).toNatClampNeg)) 2324 (some ((M13.1 1 ((23 : Int32) + (M13.1 5 (((40 : Int32) * a1) + a2).toNatClampNeg)).toNatClampNeg), M13))) else some ((M13.1 0 19), M13))))) else mv_bi (fX9_finds F M9 v11) (fun v16 M15 => some (v16, M15)))))))))))))

def bX9_placeOf_75 (v10 : Int32) (j13 : (Int64 × mv_M) → Option (Int64 × mv_M)) (F : Nat) (s8 : Int64 × Int32 × Int32 × mv_M) (f20 : (Int64 × Int32 × mv_M) → Option (Int64 × mv_M)) (s19 : Int64 × Int32 × mv_M) : Option (Int64 × mv_M) :=
  (if v10 ≤ s19.2.1 then j13 (s19.1, s19.2.2) else mv_bl (fX9_goesOn F s19.2.2 s19.2.1 s8.2.1) (fun v22 M21 => mv_bl (fX9_cut F M21 (s19.1 + v22)) (fun v24 M23 => mv_let v24 (fun v25 => mv_let (s19.2.1 + (1 : Int32)) (fun v26 => f20 (v25, v26, M23))))))
def bX9_placeOf_55 (a3 : Int32) (a2 : Int32) (F : Nat) (f9 : (Int64 × Int32 × Int32 × mv_M) → Option (Int64 × mv_M)) (s8 : Int64 × Int32 × Int32 × mv_M) : Option (Int64 × mv_M) :=
  (if a3 ≤ s8.2.2.1 then some (s8.1, s8.2.2.2) else mv_ob (a2 + s8.2.2.1) 320 (mv_let (s8.2.2.2.1 5 (a2 + s8.2.2.1).toNatClampNeg) (fun v10 => mv_let (0 : Int32) (fun v11 => mv_let (fun s12 : Int64 × mv_M => mv_bi (fX9_priceOf F s12.2 v10) (fun v15 M14 => mv_let (s8.2.1 - v15) (fun v16 => mv_bv (fX9_gives F M14 v10) (fun M17 => mv_let (s8.2.2.1 + (1 : Int32)) (fun v18 => f9 (s12.1, v16, v18, M17)))))) (fun j13 => mv_lp (bX9_placeOf_75 v10 j13 F s8) F (s8.1, v11, s8.2.2.2))))))
def bX9_placeOf_6 (j4 : (Int64 × mv_M) → Option (Int64 × mv_M)) (a1 : Int32) (F : Nat) (f28 : (Int64 × Int32 × mv_M) → Option (Int64 × mv_M)) (s27 : Int64 × Int32 × mv_M) : Option (Int64 × mv_M) :=
  (if (s27.2.2.1 0 19) ≤ s27.2.1 then j4 (s27.1, s27.2.2) else mv_ob (((25 : Int32) * a1) + s27.2.1) 200 (mv_bl (fX9_cut F s27.2.2 (s27.1 + (s27.2.2.2 7 (((25 : Int32) * a1) + s27.2.1).toNatClampNeg))) (fun v30 M29 => mv_let v30 (fun v31 => mv_let (s27.2.1 + (1 : Int32)) (fun v32 => f28 (v31, v32, M29))))))
def fX9_placeOf (F : Nat) (M : mv_M) (a1 : Int32) (a2 : Int32) (a3 : Int32) : Option (Int64 × mv_M) :=
  mv_let (0 : Int64) (fun v1 => mv_let (1 : Int32) (fun v2 => mv_let (fun s3 : Int64 × mv_M => mv_let (s3.2.1 0 19) (fun v5 => mv_bv (fX9_awaitsFirst F s3.2 a1) (fun M6 => mv_let (0 : Int32) (fun v7 => mv_lp (bX9_placeOf_55 a3 a2 F) F (s3.1, v5, v7, M6))))) (fun j4 => mv_lp (bX9_placeOf_6 j4 a1 F) F (v1, v2, M))))

def fX9_place (F : Nat) (M : mv_M) (a1 : Int32) (a2 : Int32) (a3 : Int32) : Option (Int32 × mv_M) :=
  mv_bi (fX9_isType F M a1) (fun v2 M1 => (if v2 = 0 then some ((-1000001 : Int32), M1) else mv_bi (fX9_isRow F M1 a2) (fun v4 M3 => (if v4 = 0 then some ((-1000001 : Int32), M3) else mv_bi (fX9_in F M3 a3.toInt64 (1 : Int64) (24 : Int64)) (fun v6 M5 => (if v6 = 0 then some ((-1000001 : Int32), M5) else mv_bi (fX9_against F M5 a2 (0 : Int32) a3) (fun v8 M7 => mv_let v8 (fun v9 => (if v9 ≤ 0 then mv_let (mv_wI M7 0 5 (0 : Int32)) (fun M10 => mv_let ((40 : Int32) * a2) (fun v11 => mv_bi (fX9_isWhole F M10 v11 a3) (fun v13 M12 => (if v13 = 0 then some ((-1000000 : Int32), M12) else (if (24 : Int32) < (M12.1 0 19) then some ((-1000000 : Int32), M12) else mv_ob v11 320 (mv_ob ((23 : Int32) + (M12.1 5 v11.toNatClampNeg)) 2324 (mv_bi (fX9_isOf F M12 (M12.1 1 ((23 : Int32) + (M12.1 5 v11.toNatClampNeg)).toNatClampNeg) a1) (fun v15 M14 => (if v15 = 0 then some ((-1000000 : Int32), M14) else mv_ob (2 : Int32) 2324 (mv_bv (fX9_layWays F M14 (M14.1 1 (2 : Int32).toNatClampNeg)) (fun M16 => mv_bl (fX9_placeOf F M16 a1 v11 a3) (fun v18 M17 => mv_let v18 (fun v19 => (if (lg_cmp v19 (999999999 : Int64)) < 0 then some (v19.toInt32, M17) else some ((-1000000 : Int32), M17))))))))))))))) else mv_bi (fX9_finds F M7 v9) (fun v21 M20 => some (v21, M20)))))))))))

def bX9_hadBy_44 (s11 : Int32 × Int32 × mv_M) (j20 : (Int32 × mv_M) → Option (Int32 × mv_M)) (F : Nat) (f28 : (Int32 × Int32 × mv_M) → Option (Int32 × mv_M)) (s27 : Int32 × Int32 × mv_M) : Option (Int32 × mv_M) :=
  mv_ob ((47 : Int32) + s11.2.1) 2324 ((if (s27.2.2.1 1 ((47 : Int32) + s11.2.1).toNatClampNeg) ≤ s27.2.1 then j20 (s27.1, s27.2.2) else (if s27.1 = 0 then mv_let (0 : Int32) (fun v29 => mv_let (s27.2.1 + (1 : Int32)) (fun v30 => f28 (v29, v30, s27.2.2))) else mv_ob (((59 : Int32) + ((12 : Int32) * s27.2.1)) + s11.2.1) 2324 (mv_bi (fX9_has F s27.2.2 s11.1 (s27.2.2.1 1 (((59 : Int32) + ((12 : Int32) * s27.2.1)) + s11.2.1).toNatClampNeg)) (fun v32 M31 => (if v32 = 0 then mv_let (0 : Int32) (fun v33 => mv_let (s27.2.1 + (1 : Int32)) (fun v34 => f28 (v33, v34, M31))) else mv_let (1 : Int32) (fun v35 => mv_let (s27.2.1 + (1 : Int32)) (fun v36 => f28 (v35, v36, M31)))))))))
def bX9_hadBy_14 (j8 : (Int32 × mv_M) → Option (Int32 × mv_M)) (F : Nat) (a1 : Int32) (f12 : (Int32 × Int32 × mv_M) → Option (Int32 × mv_M)) (s11 : Int32 × Int32 × mv_M) : Option (Int32 × mv_M) :=
  mv_ob (1 : Int32) 2324 ((if (s11.2.2.1 1 (1 : Int32).toNatClampNeg) ≤ s11.2.1 then j8 (s11.1, s11.2.2) else mv_bi (fX9_has F s11.2.2 a1 s11.2.1) (fun v14 M13 => mv_let (fun s15 : Int32 × mv_M => mv_let s15.1 (fun v17 => mv_let (0 : Int32) (fun v18 => mv_let (fun s19 : Int32 × mv_M => (if s19.1 = 0 then mv_let (s11.1 ||| (0 : Int32)) (fun v21 => mv_let (s11.2.1 + (1 : Int32)) (fun v22 => f12 (v21, v22, s19.2))) else mv_ob ((23 : Int32) + s11.2.1) 2324 (mv_bi (fX9_typesOf F s19.2 (s19.2.1 1 ((23 : Int32) + s11.2.1).toNatClampNeg) (0 : Int32)) (fun v24 M23 => mv_let (s11.1 ||| v24) (fun v25 => mv_let (s11.2.1 + (1 : Int32)) (fun v26 => f12 (v25, v26, M23))))))) (fun j20 => mv_lp (bX9_hadBy_44 s11 j20 F) F (v17, v18, s15.2))))) (fun j16 => (if v14 = 0 then j16 ((1 : Int32), M13) else j16 ((0 : Int32), M13))))))
def bX9_hadBy_4 (F : Nat) (a1 : Int32) (f4 : (Int32 × Int32 × mv_M) → Option (Int32 × mv_M)) (s3 : Int32 × Int32 × mv_M) : Option (Int32 × mv_M) :=
  (if s3.2.1 = 0 then some (s3.1, s3.2.2) else mv_let s3.1 (fun v5 => mv_let (0 : Int32) (fun v6 => mv_let (fun s7 : Int32 × mv_M => (if s7.1 = v5 then mv_let (0 : Int32) (fun v9 => f4 (s7.1, v9, s7.2)) else mv_let (1 : Int32) (fun v10 => f4 (s7.1, v10, s7.2)))) (fun j8 => mv_lp (bX9_hadBy_14 j8 F a1) F (s3.1, v6, s3.2.2)))))
def fX9_hadBy (F : Nat) (M : mv_M) (a1 : Int32) : Option (Int32 × mv_M) :=
  mv_let (0 : Int32) (fun v1 => mv_let (1 : Int32) (fun v2 => mv_lp (bX9_hadBy_4 F a1) F (v1, v2, M)))

def fX9_had (F : Nat) (M : mv_M) : Option (Int32 × mv_M) :=
  mv_bi (fX9_isWorld F M) (fun v2 M1 => (if v2 = 0 then some ((-1000002 : Int32), M1) else mv_ob (2 : Int32) 2324 (mv_bi (fX9_hadBy F M1 (M1.1 1 (2 : Int32).toNatClampNeg)) (fun v4 M3 => some (v4, M3)))))

def bX9_needed_15 (F : Nat) (a1 : Int32) (f6 : (Int32 × Int32 × mv_M) → Option (Int32 × mv_M)) (s5 : Int32 × Int32 × mv_M) : Option (Int32 × mv_M) :=
  mv_ob (1 : Int32) 2324 ((if (s5.2.2.1 1 (1 : Int32).toNatClampNeg) ≤ s5.2.1 then some (s5.1, s5.2.2) else mv_ob (2 : Int32) 2324 (mv_bi (fX9_hadBy F s5.2.2 (s5.2.2.1 1 (2 : Int32).toNatClampNeg)) (fun v8 M7 => mv_bi (fX9_has F M7 v8 a1) (fun v10 M9 => (if v10 = 0 then some (s5.1, M9) else mv_ob (2 : Int32) 2324 (mv_bi (fX9_hadBy F M9 ((M9.1 1 (2 : Int32).toNatClampNeg) ||| ((1 : Int32) <<< (s5.2.1 &&& 31)))) (fun v12 M11 => mv_bi (fX9_has F M11 v12 a1) (fun v14 M13 => (if v14 = 0 then mv_let (s5.1 ||| ((1 : Int32) <<< (s5.2.1 &&& 31))) (fun v15 => mv_let (s5.2.1 + (1 : Int32)) (fun v16 => f6 (v15, v16, M13))) else mv_let (s5.1 ||| (0 : Int32)) (fun v17 => mv_let (s5.2.1 + (1 : Int32)) (fun v18 => f6 (v17, v18, M13)))))))))))))
def fX9_needed (F : Nat) (M : mv_M) (a1 : Int32) : Option (Int32 × mv_M) :=
  mv_bi (fX9_isType F M a1) (fun v2 M1 => (if v2 = 0 then some ((-1000001 : Int32), M1) else mv_let (0 : Int32) (fun v3 => mv_let (0 : Int32) (fun v4 => mv_lp (bX9_needed_15 F a1) F (v3, v4, M1)))))

def fX9_without (F : Nat) (M : mv_M) (a1 : Int32) (a2 : Int32) : Option (Int32 × mv_M) :=
  mv_bi (fX9_isType F M a1) (fun v2 M1 => (if v2 = 0 then some ((-1000001 : Int32), M1) else mv_bi (fX9_isMember F M1 a2) (fun v4 M3 => (if v4 = 0 then some ((-1000001 : Int32), M3) else mv_ob (2 : Int32) 2324 (mv_bv (fX9_layWays F M3 ((M3.1 1 (2 : Int32).toNatClampNeg) ||| ((1 : Int32) <<< (a2 &&& 31)))) (fun M5 => mv_bi (fX9_cheapestOf F M5 a1) (fun v7 M6 => some (v7, M6))))))))

def bX9_share_96 (j15 : (Int32 × Int32 × mv_M) → Option (Int32 × mv_M)) (F : Nat) (a1 : Int32) (s9 : Int32 × mv_M) (a2 : Int32) (f19 : (Int32 × Int32 × Int32 × mv_M) → Option (Int32 × mv_M)) (s18 : Int32 × Int32 × Int32 × mv_M) : Option (Int32 × mv_M) :=
  mv_ob (1 : Int32) 2324 ((if (s18.2.2.2.1 1 (1 : Int32).toNatClampNeg) ≤ s18.2.2.1 then j15 (s18.1, s18.2.1, s18.2.2.2) else mv_ob (2 : Int32) 2324 (mv_bi (fX9_has F s18.2.2.2 (s18.2.2.2.1 1 (2 : Int32).toNatClampNeg) s18.2.2.1) (fun v21 M20 => mv_let (fun s22 : Int32 × mv_M => mv_let (s18.1 - s22.1) (fun v24 => (if a1 ≤ s18.2.2.1 then mv_let (s18.2.1 + (0 : Int32)) (fun v25 => mv_let (s18.2.2.1 + (1 : Int32)) (fun v26 => f19 (v24, v25, v26, s22.2))) else mv_ob (2 : Int32) 2324 (mv_bi (fX9_has F s22.2 (s22.2.1 1 (2 : Int32).toNatClampNeg) s18.2.2.1) (fun v28 M27 => (if v28 = 0 then mv_let (s18.2.1 + (1 : Int32)) (fun v31 => mv_let (s18.2.2.1 + (1 : Int32)) (fun v32 => f19 (v24, v31, v32, M27))) else mv_let (s18.2.1 + (0 : Int32)) (fun v29 => mv_let (s18.2.2.1 + (1 : Int32)) (fun v30 => f19 (v24, v29, v30, M27))))))))) (fun j23 => (if v21 = 0 then mv_bi (fX9_priceOf F M20 s18.2.2.1) (fun v34 M33 => mv_nz s9.1 (j23 (((a2 * v34) / s9.1), M33))) else j23 ((0 : Int32), M20)))))))
def bX9_share_43 (j10 : (Int32 × mv_M) → Option (Int32 × mv_M)) (F : Nat) (f36 : (Int32 × Int32 × mv_M) → Option (Int32 × mv_M)) (s35 : Int32 × Int32 × mv_M) : Option (Int32 × mv_M) :=
  mv_ob (1 : Int32) 2324 ((if (s35.2.2.1 1 (1 : Int32).toNatClampNeg) ≤ s35.2.1 then j10 (s35.1, s35.2.2) else mv_ob (2 : Int32) 2324 (mv_bi (fX9_has F s35.2.2 (s35.2.2.1 1 (2 : Int32).toNatClampNeg) s35.2.1) (fun v38 M37 => (if v38 = 0 then mv_bi (fX9_priceOf F M37 s35.2.1) (fun v40 M39 => mv_let (s35.1 + v40) (fun v41 => mv_let (s35.2.1 + (1 : Int32)) (fun v42 => f36 (v41, v42, M39)))) else mv_let (s35.1 + (0 : Int32)) (fun v43 => mv_let (s35.2.1 + (1 : Int32)) (fun v44 => f36 (v43, v44, M37))))))))
def fX9_share (F : Nat) (M : mv_M) (a1 : Int32) (a2 : Int32) : Option (Int32 × mv_M) :=
  mv_bi (fX9_isMember F M a1) (fun v2 M1 => (if v2 = 0 then some ((-1000001 : Int32), M1) else mv_bi (fX9_in F M1 a2.toInt64 (0 : Int64) (999 : Int64)) (fun v4 M3 => (if v4 = 0 then some ((-1000001 : Int32), M3) else mv_ob (2 : Int32) 2324 (mv_bi (fX9_has F M3 (M3.1 1 (2 : Int32).toNatClampNeg) a1) (fun v6 M5 => (if v6 = 0 then mv_let (0 : Int32) (fun v7 => mv_let (0 : Int32) (fun v8 => mv_let (fun s9 : Int32 × mv_M => mv_let a2 (fun v11 => mv_let (0 : Int32) (fun v12 => mv_let (0 : Int32) (fun v13 => mv_let (fun s14 : Int32 × Int32 × mv_M => mv_bi (fX9_priceOf F s14.2.2 a1) (fun v17 M16 => mv_nz s9.1 ((if s14.1 ≤ s14.2.1 then some ((((a2 * v17) / s9.1) + (0 : Int32)), M16) else some ((((a2 * v17) / s9.1) + (1 : Int32)), M16))))) (fun j15 => mv_lp (bX9_share_96 j15 F a1 s9 a2) F (v11, v12, v13, s9.2)))))) (fun j10 => mv_lp (bX9_share_43 j10 F) F (v7, v8, M5)))) else some ((0 : Int32), M5))))))))

def bX9_drawn_123 (a2 : Int32) (v16 : Int32) (F : Nat) (a1 : Int32) (a4 : Int32) (f21 : (Int64 × Int32 × Int32 × mv_M) → Option (Int32 × mv_M)) (s20 : Int64 × Int32 × Int32 × mv_M) : Option (Int32 × mv_M) :=
  (if a2 ≤ s20.2.2.1 then some (s20.2.1, s20.2.2.2) else mv_nzl (2147483647 : Int64) (mv_let ((s20.1 * (16807 : Int64)) - (s20.1 * (16807 : Int64)) / (2147483647 : Int64) * (2147483647 : Int64)) (fun v22 => mv_nzl v16.toInt64 (mv_bi (fX9_laysCode F s20.2.2.2 a1 ((v22 - v22 / v16.toInt64 * v16.toInt64).toInt32)) (fun v24 M23 => mv_let v24 (fun v25 => (if v25 = 0 then mv_let (s20.2.1 + (0 : Int32)) (fun v30 => mv_let (s20.2.2.1 + (1 : Int32)) (fun v31 => f21 (v22, v30, v31, M23))) else (if a4 = 0 then mv_let (s20.2.1 + (M23.1 0 19)) (fun v28 => mv_let (s20.2.2.1 + (1 : Int32)) (fun v29 => f21 (v22, v28, v29, M23))) else mv_let (s20.2.1 + (M23.1 0 18)) (fun v26 => mv_let (s20.2.2.1 + (1 : Int32)) (fun v27 => f21 (v22, v26, v27, M23)))))))))))
def bX9_drawn_62 (j13 : (Int64 × mv_M) → Option (Int32 × mv_M)) (a1 : Int32) (F : Nat) (f33 : (Int64 × Int32 × mv_M) → Option (Int32 × mv_M)) (s32 : Int64 × Int32 × mv_M) : Option (Int32 × mv_M) :=
  (if (24 : Int32) < s32.2.1 then j13 (s32.1, s32.2.2) else mv_ob (((25 : Int32) * a1) + s32.2.1) 200 (mv_bl (fX9_cut F s32.2.2 (s32.1 + (s32.2.2.2 7 (((25 : Int32) * a1) + s32.2.1).toNatClampNeg))) (fun v35 M34 => mv_let v35 (fun v36 => mv_let (s32.2.1 + (1 : Int32)) (fun v37 => f33 (v36, v37, M34))))))
def fX9_drawn (F : Nat) (M : mv_M) (a1 : Int32) (a2 : Int32) (a3 : Int32) (a4 : Int32) : Option (Int32 × mv_M) :=
  mv_bi (fX9_isType F M a1) (fun v2 M1 => (if v2 = 0 then some ((-1000001 : Int32), M1) else mv_bi (fX9_in F M1 a2.toInt64 (1 : Int64) (60 : Int64)) (fun v4 M3 => (if v4 = 0 then some ((-1000001 : Int32), M3) else mv_bi (fX9_in F M3 a3.toInt64 (1 : Int64) (999999 : Int64)) (fun v6 M5 => (if v6 = 0 then some ((-1000001 : Int32), M5) else mv_bi (fX9_in F M5 a4.toInt64 (0 : Int64) (1 : Int64)) (fun v8 M7 => (if v8 = 0 then some ((-1000001 : Int32), M7) else mv_ob (2 : Int32) 2324 (mv_bv (fX9_layWays F M7 (M7.1 1 (2 : Int32).toNatClampNeg)) (fun M9 => mv_let (0 : Int64) (fun v10 => mv_let (1 : Int32) (fun v11 => mv_let (fun s12 : Int64 × mv_M => (if (lg_cmp s12.1 (0 : Int64)) = 0 then some ((-1000002 : Int32), s12.2) else mv_bi (fX9_toldOf F s12.2 s12.1) (fun v15 M14 => mv_let v15 (fun v16 => mv_let a3.toInt64 (fun v17 => mv_let (0 : Int32) (fun v18 => mv_let (0 : Int32) (fun v19 => mv_lp (bX9_drawn_123 a2 v16 F a1 a4) F (v17, v18, v19, M14)))))))) (fun j13 => mv_lp (bX9_drawn_62 j13 a1 F) F (v10, v11, M9))))))))))))))

def fX9_image (F : Nat) (M : mv_M) (a1 : Int32) : Option (Int32 × mv_M) :=
  mv_bi (fX9_in F M a1.toInt64 (0 : Int64) (1 : Int64)) (fun v2 M1 => (if v2 = 0 then some ((-1000001 : Int32), M1) else mv_bi (fX9_isWorld F M1) (fun v4 M3 => (if v4 = 0 then some ((-1000002 : Int32), M3) else mv_bv (fX9_copyOf F M3 (0 : Int32) ((166 : Int32) + ((83 : Int32) * a1))) (fun M5 => mv_ob a1 2 (mv_let (mv_wI M5 11 a1.toNatClampNeg (1 : Int32)) (fun M6 => some ((1 : Int32), M6))))))))

def fX9_restore (F : Nat) (M : mv_M) (a1 : Int32) : Option (Int32 × mv_M) :=
  mv_bi (fX9_in F M a1.toInt64 (0 : Int64) (1 : Int64)) (fun v2 M1 => (if v2 = 0 then some ((-1000001 : Int32), M1) else mv_ob a1 2 ((if (M1.1 11 a1.toNatClampNeg) = 0 then some ((-1000002 : Int32), M1) else mv_bv (fX9_copyOf F M1 ((166 : Int32) + ((83 : Int32) * a1)) (0 : Int32)) (fun M3 => mv_let (mv_wI M3 0 1 (0 : Int32)) (fun M4 => some ((1 : Int32), M4)))))))

def fX9_kind (F : Nat) (M : mv_M) (a1 : Int32) : Option (Int32 × mv_M) :=
  mv_bi (fX9_isMember F M a1) (fun v2 M1 => (if v2 = 0 then some ((-1000001 : Int32), M1) else mv_ob ((11 : Int32) + a1) 2324 (some ((M1.1 1 ((11 : Int32) + a1).toNatClampNeg), M1))))

def fX9_isA (F : Nat) (M : mv_M) (a1 : Int32) (a2 : Int32) : Option (Int32 × mv_M) :=
  (if a2 = 0 then mv_b1 (1 : Int32) (some ((1 : Int32), M)) else (if a2 = a1 then mv_b1 (1 : Int32) (some ((1 : Int32), M)) else (if a2 = (1 : Int32) then (if a1 = (2 : Int32) then mv_b1 (1 : Int32) (some ((1 : Int32), M)) else (if a1 = (3 : Int32) then mv_b1 (1 : Int32) (some ((1 : Int32), M)) else (if a2 = (4 : Int32) then (if a1 = (5 : Int32) then mv_b1 (1 : Int32) (some ((1 : Int32), M)) else mv_b1 (0 : Int32) (some ((0 : Int32), M))) else mv_b1 (0 : Int32) (some ((0 : Int32), M))))) else (if a2 = (4 : Int32) then (if a1 = (5 : Int32) then mv_b1 (1 : Int32) (some ((1 : Int32), M)) else mv_b1 (0 : Int32) (some ((0 : Int32), M))) else mv_b1 (0 : Int32) (some ((0 : Int32), M))))))

def fX9_as (F : Nat) (M : mv_M) (a1 : Int32) (a2 : Int32) : Option (Int32 × mv_M) :=
  mv_bi (fX9_isMember F M a1) (fun v2 M1 => (if v2 = 0 then some ((-1000001 : Int32), M1) else mv_bi (fX9_in F M1 a2.toInt64 (0 : Int64) (5 : Int64)) (fun v4 M3 => (if v4 = 0 then some ((-1000001 : Int32), M3) else mv_ob ((11 : Int32) + a1) 2324 (mv_bi (fX9_isA F M3 (M3.1 1 ((11 : Int32) + a1).toNatClampNeg) a2) (fun v6 M5 => (if v6 = 0 then mv_bi (fX9_finds F M5 (3 : Int32)) (fun v9 M8 => some (v9, M8)) else mv_let (mv_wI M5 0 5 (0 : Int32)) (fun M7 => some (a1, M7)))))))))

def fX9_traces (F : Nat) (M : mv_M) (a1 : Int32) : Option (mv_M) :=
  (if (16 : Int32) ≤ (M.1 0 22) then some M else mv_ob (M.1 0 22) 16 (mv_let (mv_wI M 12 (M.1 0 22).toNatClampNeg a1) (fun M1 => mv_let (mv_wI M1 0 22 ((M1.1 0 22) + (1 : Int32))) (fun M2 => some M2))))

def fX9_mark20 (F : Nat) (M : mv_M) (a1 : Int32) : Option (Int32 × mv_M) :=
  mv_bv (fX9_traces F M (20 : Int32)) (fun M1 => some (a1, M1))

def fX9_mark21 (F : Nat) (M : mv_M) (a1 : Int32) : Option (Int32 × mv_M) :=
  mv_bv (fX9_traces F M (21 : Int32)) (fun M1 => mv_bi (fX9_mark20 F M1 a1) (fun v3 M2 => mv_ob ((23 : Int32) + a1) 2324 (some ((v3 + (M2.1 1 ((23 : Int32) + a1).toNatClampNeg)), M2))))

def fX9_markOf (F : Nat) (M : mv_M) (a1 : Int32) : Option (Int32 × mv_M) :=
  mv_ob ((11 : Int32) + a1) 2324 ((if (M.1 1 ((11 : Int32) + a1).toNatClampNeg) = (2 : Int32) then mv_bv (fX9_traces F M (24 : Int32)) (fun M1 => mv_bi (fX9_mark21 F M1 a1) (fun v3 M2 => some (((2 : Int32) * v3), M2))) else (if (M.1 1 ((11 : Int32) + a1).toNatClampNeg) = (3 : Int32) then mv_bv (fX9_traces F M (22 : Int32)) (fun M5 => mv_bi (fX9_mark21 F M5 a1) (fun v7 M6 => some ((v7 - (1000 : Int32)), M6))) else mv_bi (fX9_mark21 F M a1) (fun v10 M9 => some (v10, M9)))))

def fX9_size10 (F : Nat) (M : mv_M) (a1 : Int32) : Option (Int32 × mv_M) :=
  mv_bv (fX9_traces F M (10 : Int32)) (fun M1 => mv_ob ((35 : Int32) + a1) 2324 (some ((M1.1 1 ((35 : Int32) + a1).toNatClampNeg), M1)))

def fX9_size11 (F : Nat) (M : mv_M) (a1 : Int32) : Option (Int32 × mv_M) :=
  mv_bv (fX9_traces F M (11 : Int32)) (fun M1 => mv_bi (fX9_size10 F M1 a1) (fun v3 M2 => mv_let v3 (fun v4 => mv_bi (fX9_markOf F M2 a1) (fun v6 M5 => some ((v4 + v6), M5)))))

def fX9_size13 (F : Nat) (M : mv_M) (a1 : Int32) : Option (Int32 × mv_M) :=
  mv_bv (fX9_traces F M (13 : Int32)) (fun M1 => mv_bi (fX9_size10 F M1 a1) (fun v3 M2 => some ((v3 - (100 : Int32)), M2)))

def fX9_sizeOf (F : Nat) (M : mv_M) (a1 : Int32) : Option (Int32 × mv_M) :=
  mv_ob ((11 : Int32) + a1) 2324 ((if (M.1 1 ((11 : Int32) + a1).toNatClampNeg) = (2 : Int32) then mv_bv (fX9_traces F M (12 : Int32)) (fun M1 => mv_bi (fX9_size11 F M1 a1) (fun v3 M2 => some ((-v3), M2))) else (if (M.1 1 ((11 : Int32) + a1).toNatClampNeg) = (3 : Int32) then mv_bi (fX9_size11 F M a1) (fun v6 M5 => some (v6, M5)) else (if (M.1 1 ((11 : Int32) + a1).toNatClampNeg) = (4 : Int32) then mv_bi (fX9_size13 F M a1) (fun v9 M8 => some (v9, M8)) else (if (M.1 1 ((11 : Int32) + a1).toNatClampNeg) = (5 : Int32) then mv_bv (fX9_traces F M (14 : Int32)) (fun M11 => mv_bi (fX9_size13 F M11 a1) (fun v13 M12 => some (((2 : Int32) * v13), M12))) else mv_bi (fX9_size11 F M a1) (fun v16 M15 => some (v16, M15)))))))

def fX9_mark23 (F : Nat) (M : mv_M) (a1 : Int32) : Option (Int32 × mv_M) :=
  mv_bv (fX9_traces F M (23 : Int32)) (fun M1 => mv_bi (fX9_mark20 F M1 a1) (fun v3 M2 => mv_let v3 (fun v4 => mv_bi (fX9_sizeOf F M2 a1) (fun v6 M5 => some ((v4 - v6), M5)))))

def fX9_ask (F : Nat) (M : mv_M) (a1 : Int32) (a2 : Int32) : Option (Int32 × mv_M) :=
  mv_bi (fX9_isMember F M a1) (fun v2 M1 => (if v2 = 0 then some ((-1000001 : Int32), M1) else mv_bi (fX9_in F M1 a2.toInt64 (0 : Int64) (1 : Int64)) (fun v4 M3 => (if v4 = 0 then some ((-1000001 : Int32), M3) else mv_let (mv_wI M3 0 22 (0 : Int32)) (fun M5 => (if a2 = 0 then mv_bi (fX9_sizeOf F M5 a1) (fun v11 M10 => some (v11, M10)) else mv_ob ((11 : Int32) + a1) 2324 ((if (M5.1 1 ((11 : Int32) + a1).toNatClampNeg) < (4 : Int32) then mv_bi (fX9_markOf F M5 a1) (fun v7 M6 => some (v7, M6)) else mv_bi (fX9_mark23 F M5 a1) (fun v9 M8 => some (v9, M8))))))))))

def fX9_trace (F : Nat) (M : mv_M) (a1 : Int32) : Option (Int32 × mv_M) :=
  mv_bi (fX9_in F M a1.toInt64 (0 : Int64) (((M.1 0 22) - (1 : Int32)).toInt64)) (fun v2 M1 => (if v2 = 0 then some ((-1000000 : Int32), M1) else mv_ob a1 16 (some ((M1.1 12 a1.toNatClampNeg), M1))))

def bX9_rowsThere_4 (f4 : (Int32 × Int32 × mv_M) → Option (Int32 × mv_M)) (s3 : Int32 × Int32 × mv_M) : Option (Int32 × mv_M) :=
  (if (8 : Int32) ≤ s3.2.1 then some (s3.1, s3.2.2) else mv_ob s3.2.1 8 ((if (s3.2.2.1 3 s3.2.1.toNatClampNeg) < 0 then mv_let (s3.1 + (0 : Int32)) (fun v5 => mv_let (s3.2.1 + (1 : Int32)) (fun v6 => f4 (v5, v6, s3.2.2))) else mv_let (s3.1 + (1 : Int32)) (fun v7 => mv_let (s3.2.1 + (1 : Int32)) (fun v8 => f4 (v7, v8, s3.2.2))))))
def fX9_rowsThere (F : Nat) (M : mv_M) : Option (Int32 × mv_M) :=
  mv_let (0 : Int32) (fun v1 => mv_let (0 : Int32) (fun v2 => mv_lp (bX9_rowsThere_4) F (v1, v2, M)))

def fX9_count (F : Nat) (M : mv_M) (a1 : Int32) : Option (Int32 × mv_M) :=
  (if a1 = (0 : Int32) then mv_bi (fX9_rowsThere F M) (fun v2 M1 => some (v2, M1)) else (if a1 = (1 : Int32) then mv_ob (0 : Int32) 2324 (some ((M.1 1 (0 : Int32).toNatClampNeg), M)) else (if a1 = (2 : Int32) then mv_ob (1 : Int32) 2324 (some ((M.1 1 (1 : Int32).toNatClampNeg), M)) else (if a1 = (3 : Int32) then mv_ob (2 : Int32) 2324 (some ((M.1 1 (2 : Int32).toNatClampNeg), M)) else (if a1 = (4 : Int32) then some ((M.1 0 1), M) else (if a1 = (5 : Int32) then some ((M.1 0 3), M) else some ((-1000001 : Int32), M)))))))

def fX9_status (F : Nat) (M : mv_M) : Option (Int32 × mv_M) :=
  some ((M.1 0 5), M)
