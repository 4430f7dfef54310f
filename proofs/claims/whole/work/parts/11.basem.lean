/-! PURE 3: the reference's small words -/
theorem cmp_lt (x y : Int64) : lg_cmp x y < 0 ↔ x.toInt < y.toInt := by
  unfold lg_cmp
  by_cases h1 : x > y
  · rw [if_pos h1]
    have h2 : y.toInt < x.toInt := Int64.lt_iff_toInt_lt.mp h1
    exact ⟨fun h => absurd h (by decide), fun h => absurd h (by omega)⟩
  · rw [if_neg h1]
    have h2 : ¬ y.toInt < x.toInt := fun h => h1 (Int64.lt_iff_toInt_lt.mpr h)
    by_cases h3 : x = y
    · rw [if_pos h3]; subst h3
      exact ⟨fun h => absurd h (by decide), fun h => absurd h (by omega)⟩
    · rw [if_neg h3]
      have h4 : x.toInt ≠ y.toInt := fun h => h3 (Int64.toInt_inj.mp h)
      exact ⟨fun _ => by omega, fun _ => by decide⟩
theorem cmp_gt (x y : Int64) : 0 < lg_cmp x y ↔ y.toInt < x.toInt := by
  unfold lg_cmp
  by_cases h1 : x > y
  · rw [if_pos h1]
    have h2 : y.toInt < x.toInt := Int64.lt_iff_toInt_lt.mp h1
    exact ⟨fun _ => h2, fun _ => by decide⟩
  · rw [if_neg h1]
    have h2 : ¬ y.toInt < x.toInt := fun h => h1 (Int64.lt_iff_toInt_lt.mpr h)
    by_cases h3 : x = y
    · rw [if_pos h3]
      exact ⟨fun h => absurd h (by decide), fun h => absurd h h2⟩
    · rw [if_neg h3]
      exact ⟨fun h => absurd h (by decide), fun h => absurd h h2⟩
theorem cmp_ge (x y : Int64) : 0 ≤ lg_cmp x y ↔ y.toInt ≤ x.toInt := by
  have h := cmp_lt x y
  rw [Int32.le_iff_toInt_le]
  rw [Int32.lt_iff_toInt_lt] at h
  omega
theorem cmp_le (x y : Int64) : lg_cmp x y ≤ 0 ↔ x.toInt ≤ y.toInt := by
  have h := cmp_gt x y
  rw [Int32.le_iff_toInt_le]
  rw [Int32.lt_iff_toInt_lt] at h
  omega
theorem fX9_in_t {F : Nat} {M : mv_M} {x lo hi : Int64} (h1 : lo.toInt ≤ x.toInt) (h2 : x.toInt ≤ hi.toInt) : fX9_in F M x lo hi = some (1, M) := by
  unfold fX9_in
  rw [if_neg (fun h => by have := (cmp_lt _ _).mp h; omega), if_neg (fun h => by have := (cmp_gt _ _).mp h; omega), b1_1]
theorem fX9_in_f {F : Nat} {M : mv_M} {x lo hi : Int64} (h : x.toInt < lo.toInt ∨ hi.toInt < x.toInt) : fX9_in F M x lo hi = some (0, M) := by
  unfold fX9_in
  by_cases h1 : x.toInt < lo.toInt
  · rw [if_pos ((cmp_lt _ _).mpr h1), b1_0]
  · rw [if_neg (fun h => h1 ((cmp_lt _ _).mp h)), if_pos ((cmp_gt _ _).mpr (by omega)), b1_0]
theorem i64_toInt (a : Int32) : a.toInt64.toInt = a.toInt := Int32.toInt_toInt64 a
/-- 'in' of an int between 0 and n - 1 -/
theorem fX9_in0_in {F : Nat} {M : mv_M} {n j : Nat} {hi : Int64} (hj : j < n) (hn : n < 2 ^ 31) (hh : hi.toInt = (n : Int) - 1) : fX9_in F M (nI j).toInt64 0 hi = some (1, M) := by
  refine fX9_in_t ?_ ?_
  · rw [i64_toInt, nI_toInt (by omega)]; show (0 : Int) ≤ _; omega
  · rw [i64_toInt, nI_toInt (by omega), hh]; omega
theorem fX9_in0_out {F : Nat} {M : mv_M} {n : Nat} {a : Int32} {hi : Int64} (ha : a < 0 ∨ (¬ a < 0 ∧ nI n ≤ a)) (hn : n < 2 ^ 31) (hh : hi.toInt = (n : Int) - 1) : fX9_in F M a.toInt64 0 hi = some (0, M) := by
  refine fX9_in_f ?_
  rw [i64_toInt, hh]
  rcases ha with h | ⟨-, h⟩
  · left; have := Int32.lt_iff_toInt_lt.mp h; exact this
  · right
    have := Int32.le_iff_toInt_le.mp h
    rw [nI_toInt hn] at this
    omega
theorem sub1_toInt {n : Nat} (h : n < 2 ^ 30) : (nI n - 1).toInt64.toInt = (n : Int) - 1 := by
  rw [i64_toInt]
  exact pk_sub_toInt (a := n) (b := 1) h (by decide)
theorem cl_0 : (0 : Int32).toNatClampNeg = 0 := by decide +kernel
theorem cl_1 : (1 : Int32).toNatClampNeg = 1 := by decide +kernel
theorem cl_2 : (2 : Int32).toNatClampNeg = 2 := by decide +kernel
theorem ob_1 {α : Type} (G : Option α) : mv_ob (1 : Int32) 2324 G = G := if_neg (by decide +kernel)
theorem ob_0 {α : Type} (G : Option α) : mv_ob (0 : Int32) 2324 G = G := if_neg (by decide +kernel)
theorem ob_2 {α : Type} (G : Option α) : mv_ob (2 : Int32) 2324 G = G := if_neg (by decide +kernel)
theorem RM_at {M : mv_M} {w : Nat → Nat} (h : RM M 0 w) {j : Nat} (hj : j < 83) : M.1 1 j = nI (w j) := by
  have := h j hj
  rw [Nat.zero_add] at this
  exact this
theorem fX9_isMember_in {F : Nat} {M : mv_M} {w : Nat → Nat} (h : RM M 0 w) (hw : WF w) {j : Nat} (hj : j < w 1) : fX9_isMember F M (nI j) = some (1, M) := by
  have h12 := hw.2.1
  unfold fX9_isMember
  rw [ob_1, cl_1, RM_at h (by decide), fX9_in0_in hj (by omega) (sub1_toInt (by omega)), bi_some, b1_1]
theorem fX9_isMember_out {F : Nat} {M : mv_M} {w : Nat → Nat} (h : RM M 0 w) (hw : WF w) {a : Int32} (ha : a < 0 ∨ (¬ a < 0 ∧ nI (w 1) ≤ a)) : fX9_isMember F M a = some (0, M) := by
  have h12 := hw.2.1
  unfold fX9_isMember
  rw [ob_1, cl_1, RM_at h (by decide), fX9_in0_out ha (by omega) (sub1_toInt (by omega)), bi_some, b1_0]
theorem fX9_isType_in {F : Nat} {M : mv_M} {w : Nat → Nat} (h : RM M 0 w) (hw : WF w) {j : Nat} (hj : j < w 0) : fX9_isType F M (nI j) = some (1, M) := by
  have h12 := hw.1
  unfold fX9_isType
  rw [ob_0, cl_0, RM_at h (by decide), fX9_in0_in hj (by omega) (sub1_toInt (by omega)), bi_some, b1_1]
theorem fX9_isType_out {F : Nat} {M : mv_M} {w : Nat → Nat} (h : RM M 0 w) (hw : WF w) {a : Int32} (ha : a < 0 ∨ (¬ a < 0 ∧ nI (w 0) ≤ a)) : fX9_isType F M a = some (0, M) := by
  have h12 := hw.1
  unfold fX9_isType
  rw [ob_0, cl_0, RM_at h (by decide), fX9_in0_out ha (by omega) (sub1_toInt (by omega)), bi_some, b1_0]
theorem fX9_has_eq {F : Nat} {M : mv_M} {h k : Nat} (hh : h < 2 ^ 31) (hk : k < 32) : fX9_has F M (nI h) (nI k) = some (nI (bt h k), M) := by
  unfold fX9_has
  rw [bt_of hh hk]
  have := bt_lt h k
  rcases (show bt h k = 0 ∨ bt h k = 1 by omega) with e | e
  · rw [e, if_neg (by decide +kernel), b1_0]; rfl
  · rw [e, if_pos (by decide +kernel), b1_1]; rfl
theorem ob_add {α : Type} {a j : Nat} {ai : Int32} {G : Option α} (ha : ai = nI a) (h : a + j < 2324) : mv_ob (ai + nI j) 2324 G = G := by
  rw [ha, nI_add]
  exact ob_nI h (by decide)
theorem cl_add {a j : Nat} {ai : Int32} (ha : ai = nI a) (h : a + j < 2 ^ 31) : (ai + nI j).toNatClampNeg = a + j := by
  rw [ha, nI_add, nI_clamp h]
theorem fX9_priceOf_eq {F : Nat} {M : mv_M} {w : Nat → Nat} (h : RM M 0 w) (hw : WF w) {j : Nat} (hj : j < w 1) : fX9_priceOf F M (nI j) = some (nI (pr w j), M) := by
  have h12 := hw.2.1
  obtain ⟨⟨k1, k2⟩, -, ⟨c1, c2⟩, t1, -⟩ := hw.2.2.2.2.2 j hj
  unfold fX9_priceOf
  simp only [ob_add (ai := (35 : Int32)) (a := 35) (j := j) rfl (by omega), ob_add (ai := (11 : Int32)) (a := 11) (j := j) rfl (by omega), ob_add (ai := (47 : Int32)) (a := 47) (j := j) rfl (by omega), cl_add (ai := (35 : Int32)) (a := 35) (j := j) rfl (by omega), cl_add (ai := (11 : Int32)) (a := 11) (j := j) rfl (by omega), cl_add (ai := (47 : Int32)) (a := 47) (j := j) rfl (by omega), let_eq]
  rw [RM_at h (show 35 + j < 83 by omega), RM_at h (show 11 + j < 83 by omega), RM_at h (show 47 + j < 83 by omega)]
  unfold pr
  have q2 : (2 : Int32) = nI 2 := rfl
  have q3 : (3 : Int32) = nI 3 := rfl
  have q5 : (5 : Int32) = nI 5 := rfl
  rw [q2, q3, q5]
  simp only [nI_eq (show w (11 + j) < 2 ^ 31 by omega) (show 2 < 2 ^ 31 by decide), nI_eq (show w (11 + j) < 2 ^ 31 by omega) (show 3 < 2 ^ 31 by decide), nI_eq (show w (11 + j) < 2 ^ 31 by omega) (show 5 < 2 ^ 31 by decide), nI_add, pk_mul]
  by_cases a2 : w (11 + j) = 2
  · simp [a2]
  · by_cases a3 : w (11 + j) = 3
    · simp [a3, Nat.mul_comm]
    · by_cases a5 : w (11 + j) = 5
      · simp [a5]
      · simp [a2, a3, a5]
theorem bt_or (a b k : Nat) : bt (a ||| b) k = 1 ↔ bt a k = 1 ∨ bt b k = 1 := by
  rw [bt_test, bt_test, bt_test, Nat.testBit_or, Bool.or_eq_true]
theorem bt_pow (t u : Nat) : bt (2 ^ t) u = 1 ↔ u = t := by
  rw [bt_test, Nat.testBit_two_pow]
  simp [eq_comm]
theorem bt_ofb {w : Nat → Nat} {t : Nat} (h : w (3 + t) ≤ t) (u : Nat) : bt (ofb w t) u = 1 ↔ u = t ∨ (w (3 + t) ≠ t ∧ bt (ofb w (w (3 + t))) u = 1) := by
  rw [ofb_eq w t h, bt_or, bt_pow]
  by_cases e : w (3 + t) = t
  · rw [if_pos e]
    have h0 : ¬ bt 0 u = 1 := by simp [bt]
    simp [e, h0]
  · rw [if_neg e]
    simp [e]
theorem fX9_isOf_eq {F : Nat} {M : mv_M} {w : Nat → Nat} (h : RM M 0 w) (hw : WF w) {t u : Nat} (ht : t < w 0) (hu : u < 2 ^ 31) (hF : 8 < F) : fX9_isOf F M (nI t) (nI u) = some (nI (bt (ofb w t) u), M) := by
  have h8 := hw.1
  unfold fX9_isOf
  simp only [let_eq]
  refine lp_rule (fun i s => ∃ v : Nat, s = (nI v, M) ∧ v < w 0 ∧ v + i ≤ 8 ∧ bt (ofb w v) u = bt (ofb w t) u) 8 (fun G => G = some (nI (bt (ofb w t) u), M)) ?_ F 0 (nI t, M) ⟨t, rfl, ht, by omega, rfl⟩ (by omega) (by omega)
  rintro i s hi ⟨v, rfl, hv, hvi, hb⟩
  have hab := hw.2.2.2.2.1 v hv
  have hbv := bt_ofb hab u
  unfold bX9_isOf_2
  simp only [ob_add (ai := (3 : Int32)) (a := 3) (j := v) rfl (by omega), cl_add (ai := (3 : Int32)) (a := 3) (j := v) rfl (by omega), let_eq]
  rw [RM_at h (show 3 + v < 83 by omega)]
  by_cases e : v = u
  · left
    intro f
    subst e
    have hb1 : bt (ofb w v) v = 1 := hbv.mpr (Or.inl rfl)
    rw [if_pos rfl, if_pos rfl, b1_1, ← hb, hb1]
    rfl
  · have e' : ¬ nI v = nI u := fun q => e ((nI_eq (by omega) hu).mp q)
    by_cases e2 : w (3 + v) = v
    · left
      intro f
      have hb0 : bt (ofb w v) u = 0 := by
        have := bt_lt (ofb w v) u
        have hn : ¬ bt (ofb w v) u = 1 := fun q => by
          rcases hbv.mp q with q | q
          · exact e q.symm
          · exact q.1 e2
        omega
      rw [if_neg e', e2, if_pos rfl, if_neg e', b1_0, ← hb, hb0]
      rfl
    · right
      refine ⟨by omega, (nI (w (3 + v)), M), ⟨w (3 + v), rfl, by omega, by omega, ?_⟩, fun f => ?_⟩
      · have h1 := bt_lt (ofb w v) u
        have h2 := bt_lt (ofb w (w (3 + v))) u
        have : bt (ofb w v) u = 1 ↔ bt (ofb w (w (3 + v))) u = 1 := by
          rw [hbv]
          exact ⟨fun q => by rcases q with q | q; exact absurd q.symm e; exact q.2, fun q => Or.inr ⟨e2, q⟩⟩
        omega
      · rw [if_neg e', if_neg (fun q => e2 ((nI_eq (by omega) (by omega)).mp q))]
