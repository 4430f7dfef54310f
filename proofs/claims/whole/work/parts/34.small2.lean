/-! MORE SMALL WORDS; the first three rows are of kit/laws/COUNTS.to-paste -/
theorem fb_rng (x : Int32) : -2147483648 ≤ x.toInt ∧ x.toInt < 2147483648 := by
  have h1 := Int32.le_toInt x
  have h2 := Int32.toInt_lt x
  omega
theorem fb_bmod {z : Int} (h1 : -2147483648 ≤ z) (h2 : z < 2147483648) : z.bmod (2 ^ 32) = z := by
  rw [Int.bmod_eq_of_le (by omega) (by omega)]
theorem fb_subI {x y : Int32} (h1 : -2147483648 ≤ x.toInt - y.toInt) (h2 : x.toInt - y.toInt < 2147483648) : (x - y).toInt = x.toInt - y.toInt := by
  rw [Int32.toInt_sub, fb_bmod h1 h2]
theorem fb_bmodL {z : Int} (h1 : -9223372036854775808 ≤ z) (h2 : z < 9223372036854775808) : z.bmod (2 ^ 64) = z := by
  rw [Int.bmod_eq_of_le (by omega) (by omega)]
theorem fb_addL {x y : Int64} (h1 : -9223372036854775808 ≤ x.toInt + y.toInt) (h2 : x.toInt + y.toInt < 9223372036854775808) : (x + y).toInt = x.toInt + y.toInt := by
  rw [Int64.toInt_add, fb_bmodL h1 h2]
theorem neg_of_toInt {x : Int32} (h : x.toInt < 0) : x < 0 := by
  rw [Int32.lt_iff_toInt_lt]
  have : (0 : Int32).toInt = 0 := by decide
  omega
theorem pl_cases (i n : Int32) (len : Nat) : (i < 0 ∨ n < 0 ∨ (len : Int) < i.toInt + n.toInt) ∨ ∃ i' n' : Nat, i = nI i' ∧ n = nI n' ∧ i' + n' ≤ len := by
  by_cases h1 : i < 0
  · exact Or.inl (Or.inl h1)
  · by_cases h2 : n < 0
    · exact Or.inl (Or.inr (Or.inl h2))
    · obtain ⟨i', hi, rfl⟩ := nI_of h1
      obtain ⟨n', hn, rfl⟩ := nI_of h2
      by_cases h3 : i' + n' ≤ len
      · exact Or.inr ⟨i', n', rfl, rfl, h3⟩
      · refine Or.inl (Or.inr (Or.inr ?_))
        rw [nI_toInt hi, nI_toInt hn]; omega
section SMALL2
variable {F : Nat}
theorem hasPl_in {M : mv_M} {r len i n : Nat} (hr : r < 8) (hl : len ≤ 40) (e : M.1 40 r = nI len) (h : i + n ≤ len) : fX5_hasPlaces F M (nI r) (nI i) (nI n) = some (1, M) := by
  unfold fX5_hasPlaces
  rw [if_neg (nI_pos (by omega)), if_neg (nI_pos (by omega)), ob_nI hr (by decide), nI_clamp (by omega), e, pk_sub (by omega), if_neg (nI_nlt (by omega) (by omega)), b1_1]
theorem hasPl_out {M : mv_M} {r len : Nat} {i n : Int32} (hr : r < 8) (hl : len ≤ 40) (e : M.1 40 r = nI len) (h : i < 0 ∨ n < 0 ∨ (len : Int) < i.toInt + n.toInt) : fX5_hasPlaces F M (nI r) i n = some (0, M) := by
  unfold fX5_hasPlaces
  by_cases h1 : i < 0
  · rw [if_pos h1, b1_0]
  · rw [if_neg h1]
    by_cases h2 : n < 0
    · rw [if_pos h2, b1_0]
    · rw [if_neg h2, ob_nI hr (by decide), nI_clamp (by omega), e]
      have h3 : (len : Int) < i.toInt + n.toInt := by
        rcases h with h | h | h
        · exact absurd h h1
        · exact absurd h h2
        · exact h
      have hn := fb_rng n
      have h4 : (nI len - n).toInt = (len : Int) - n.toInt := by
        rw [fb_subI, nI_toInt (by omega)]
        · rw [nI_toInt (by omega)]; omega
        · rw [nI_toInt (by omega)]
          have h5 : ¬ n.toInt < 0 := fun q => h2 (neg_of_toInt q)
          omega
      rw [if_pos (Int32.lt_iff_toInt_lt.mpr (by rw [h4]; omega)), b1_0]
theorem agst_in {M : mv_M} {r len i n : Nat} (hr : r < 8) (hl : len ≤ 40) (e : M.1 3 r = nI len) (h : i + n ≤ len) : fX9_against F M (nI r) (nI i) (nI n) = some (0, M) := by
  unfold fX9_against
  rw [ob_nI hr (by decide), nI_clamp (by omega), e, if_pos (nI_pos' (by omega)), if_neg (nI_pos (by omega)), if_neg (nI_pos (by omega)), ob_nI hr (by decide), if_pos]
  rw [cmp_le, fb_addL, i64_toInt, i64_toInt, i64_toInt, nI_toInt (by omega), nI_toInt (by omega), nI_toInt (by omega)]
  · omega
  · rw [i64_toInt, i64_toInt, nI_toInt (by omega), nI_toInt (by omega)]; omega
  · rw [i64_toInt, i64_toInt, nI_toInt (by omega), nI_toInt (by omega)]; omega
theorem agst_out {M : mv_M} {r len : Nat} {i n : Int32} (hr : r < 8) (hl : len ≤ 40) (e : M.1 3 r = nI len) (h : i < 0 ∨ n < 0 ∨ (len : Int) < i.toInt + n.toInt) : fX9_against F M (nI r) i n = some (2, M) := by
  unfold fX9_against
  rw [ob_nI hr (by decide), nI_clamp (by omega), e, if_pos (nI_pos' (by omega))]
  by_cases h1 : i < 0
  · rw [if_pos h1]
  · rw [if_neg h1]
    by_cases h2 : n < 0
    · rw [if_pos h2]
    · rw [if_neg h2, ob_nI hr (by decide), if_neg]
      have h3 : (len : Int) < i.toInt + n.toInt := by
        rcases h with h | h | h
        · exact absurd h h1
        · exact absurd h h2
        · exact h
      have hi := fb_rng i
      have hn := fb_rng n
      rw [cmp_le, fb_addL, i64_toInt, i64_toInt, i64_toInt, nI_toInt (by omega)]
      · omega
      · rw [i64_toInt, i64_toInt]; omega
      · rw [i64_toInt, i64_toInt]; omega
theorem agst_no {M : mv_M} {r : Nat} {i n : Int32} (hr : r < 8) (e : M.1 3 r = -1) : fX9_against F M (nI r) i n = some (1, M) := by
  unfold fX9_against
  rw [ob_nI hr (by decide), nI_clamp (by omega), e, if_neg (by decide)]
theorem miss_y {M : mv_M} {r : Nat} (hr : r < 8) (e : M.1 39 r = -1) : fX5_isMissing F M (nI r) = some (1, M) := by
  unfold fX5_isMissing
  rw [ob_nI hr (by decide), nI_clamp (by omega), e, if_pos rfl, b1_1]
theorem miss_n {M : mv_M} {r ln : Nat} (hr : r < 8) (hln : ln ≤ 2) (e : M.1 39 r = nI ln) : fX5_isMissing F M (nI r) = some (0, M) := by
  have hln : ¬ nI ln = (-1 : Int32) := by
    rcases (show ln = 0 ∨ ln = 1 ∨ ln = 2 by omega) with rfl | rfl | rfl <;> decide
  unfold fX5_isMissing
  rw [ob_nI hr (by decide), nI_clamp (by omega), e, if_neg hln, b1_0]
/-- what a lane keeps of a number -/
def lnv (ln : Nat) (v : Int32) : Int32 := if ln = 0 then v.toInt8.toInt32 else if ln = 1 then v.toInt16.toInt32 else v
theorem put_eq {M : mv_M} {r ln i : Nat} {v : Int32} (hr : r < 8) (hln : ln ≤ 2) (hi : i < 40) (e : M.1 39 r = nI ln) : fX5_put F M (nI r) (nI i) v = some (lnv ln v, mv_wI M (31 + r) i (lnv ln v)) := by
  unfold fX5_put
  simp only [let_eq, ob_nI hr (show 8 < 2 ^ 31 by decide), ob_nI hi (show 40 < 2 ^ 31 by decide), nI_clamp (show r < 2 ^ 31 by omega), nI_clamp (show i < 2 ^ 31 by omega), e]
  unfold lnv
  rcases (show ln = 0 ∨ ln = 1 ∨ ln = 2 by omega) with rfl | rfl | rfl
  · rw [if_pos nI_0, if_pos rfl]
  · rw [if_neg (by decide), if_pos rfl]; rfl
  · rw [if_neg (by decide), if_neg (by decide)]; rfl
theorem ps_set (a1 a2 a3 : Int32) : ps_ok Sim (fun M => fX8_set F M a1 a2 a3) (fun M => fX9_set F M a1 a2 a3) := by
  rintro MX MM ⟨w, hc, ht⟩
  show ∃ (r : Int32) (MX' MM' : mv_M), fX8_set F MX a1 a2 a3 = some (r, MX') ∧ fX9_set F MM a1 a2 a3 = some (r, MM') ∧ Sim MX' MM'
  unfold fX8_set fX9_set
  rcases ix_cases a1 (show 8 < 2 ^ 31 by decide) with h | ⟨r, hr, rfl⟩
  · exact ⟨-1000001, MX, MM, by rw [isRow8_out h, bi_some, it0], by rw [isRow9_out h, bi_some, it0], w, hc, ht⟩
  rw [isRow8_in hr, bi_some, it1, isRow9_in hr, bi_some, it1]
  rcases hc.2.2.2.1 r hr with ⟨e1, e2⟩ | ⟨ln, n, h1, h2, e1, e2, e3, e4, e5⟩
  · refine ⟨(-1000010 : Int32) - 1, mv_wI MX 0 10 1, mv_wI MM 0 5 1, ?_, ?_, w, core_st 1 hc, tab_st 1 (by decide) ht⟩
    · rw [miss_y hr e1, bi_some, it1]; rfl
    · rw [agst_no hr e2, bi_some, let_eq, if_neg (by decide)]; rfl
  rw [miss_n hr h1 e1, bi_some, it0]
  rcases pl_cases a2 1 n with h | ⟨i, n1, rfl, hn1, hin⟩
  · refine ⟨(-1000010 : Int32) - 2, mv_wI MX 0 10 2, mv_wI MM 0 5 2, ?_, ?_, w, core_st 2 hc, tab_st 2 (by decide) ht⟩
    · rw [hasPl_out hr h2 e3 h, bi_some, it0]; rfl
    · rw [agst_out hr h2 e4 h, bi_some, let_eq, if_neg (by decide)]; rfl
  have hn1' : n1 = 1 := by
    by_cases hb : n1 < 2 ^ 31
    · exact ((nI_eq (by decide) hb).mp (show nI 1 = nI n1 from hn1)).symm
    · omega
  subst hn1'
  have ea : ((40 : Int32) * nI r) + nI i = nI (40 * r + i) := by rw [show (40 : Int32) = nI 40 from rfl, pk_mul, nI_add]
  refine ⟨lnv ln a3, mv_wI (mv_wI MX (31 + r) i (lnv ln a3)) 0 10 0, mv_wI (mv_wI MM 0 5 0) 5 (40 * r + i) (lnv ln a3), ?_, ?_, w, ?_, tab_st 0 (by decide) (tab_st _ (by omega) ht)⟩
  · rw [show (1 : Int32) = nI 1 from rfl, hasPl_in hr h2 e3 hin, bi_some, it1, put_eq hr h1 (by omega) e1]; rfl
  · rw [show (1 : Int32) = nI 1 from rfl, agst_in hr h2 e4 hin, bi_some, let_eq, if_pos (by decide), let_eq]
    simp only [let_eq, ob_nI hr (show 8 < 2 ^ 31 by decide), nI_clamp (show r < 2 ^ 31 by omega), ea, ob_nI (show 40 * r + i < 320 by omega) (by decide), nI_clamp (show 40 * r + i < 2 ^ 31 by omega), wI_eq]
    rw [wI_ne (by omega), e2]
    unfold lnv
    rcases (show ln = 0 ∨ ln = 1 ∨ ln = 2 by omega) with rfl | rfl | rfl
    · rw [if_pos nI_0, if_pos rfl]
    · rw [if_neg (by decide), if_pos rfl]; rfl
    · rw [if_neg (by decide), if_neg (by decide)]; rfl
  · refine core_rows hc (fun i' j _ h1 h2 => ?_) (fun i' j _ h1 h2 => ?_) (fun r' hr' => ?_) ?_
    · rw [wI_ne h2, wI_ne (by omega)]
    · rw [wI_ne (by omega), wI_ne h2]
    · by_cases e : r' = r
      · subst e
        right
        refine ⟨ln, n, h1, h2, ?_, ?_, ?_, ?_, fun j hj => ?_⟩
        · rw [wI_ne (by omega), wI_ne (by omega)]; exact e1
        · rw [wI_ne (by omega), wI_ne (by omega)]; exact e2
        · rw [wI_ne (by omega), wI_ne (by omega)]; exact e3
        · rw [wI_ne (by omega), wI_ne (by omega)]; exact e4
        · rw [wI_ne (by omega)]
          by_cases ej : j = i
          · subst ej; rw [wI_eq, wI_eq]
          · rw [wI_ne (by omega), wI_ne (by omega), wI_ne (by omega)]; exact e5 j hj
      · refine sRow_fr (fun i' j hi => ?_) (fun i' j hi => ?_) (hc.2.2.2.1 r' hr')
        · rw [wI_ne (by omega), wI_ne (by omega)]
        · rw [wI_ne (by omega), wI_ne (by omega)]
    · rw [wI_eq, wI_ne (by omega), wI_eq]
theorem ps_feed (a : Int32) : ps_ok Sim (fun M => fX8_feed F M a) (fun M => fX9_feed F M a) := by
  rintro MX MM ⟨w, hc, ht⟩
  show ∃ (r : Int32) (MX' MM' : mv_M), fX8_feed F MX a = some (r, MX') ∧ fX9_feed F MM a = some (r, MM') ∧ Sim MX' MM'
  unfold fX8_feed fX9_feed
  rcases rg_cases a 0 255 with h | h
  · exact ⟨-1000001, MX, MM, by rw [rg_out h], by rw [in_out (L := 0) (H := 255) (by decide) (by decide) h, bi_some, it0], w, hc, ht⟩
  rw [rg_in h, in_in (L := 0) (H := 255) (by decide) (by decide) h, bi_some, it1]
  obtain ⟨n, hn, e1, e2, e3⟩ := hc.2.2.2.2.1
  unfold fX4_isFull
  rw [e1, e2]
  by_cases hf : n = 140
  · subst hf
    exact ⟨-1000003, MX, MM, by rw [if_neg (by decide), b1_1, bi_some, it1], by rw [if_pos (by decide)], w, hc, ht⟩
  rw [if_pos (show nI n < (140 : Int32) from nI_lt (a := n) (b := 140) (by omega) (by decide)), b1_0, bi_some, it0, if_neg (show ¬ nI n = (140 : Int32) from fun q => hf ((nI_eq (a := n) (b := 140) (by omega) (by decide)).mp q))]
  refine ⟨nI (n + 1), mv_wI (mv_wI MX 42 n a) 41 1 (nI (n + 1)), mv_wI (mv_wI MM 2 n a) 0 3 (nI (n + 1)), ?_, ?_, w, ?_, tab_st _ (by decide) (tab_st _ (by decide) ht)⟩
  · unfold fX4_append
    rw [e1, ob_nI (show n < 140 by omega) (by decide), nI_clamp (by omega), let_eq, let_eq, wI_eq, wI_ne (by omega), e1, nI_1]
    rfl
  · rw [ob_nI (show n < 140 by omega) (by decide), nI_clamp (by omega), let_eq, let_eq, wI_eq, wI_ne (by omega), e2, nI_1]
  · refine core_tape hc (fun i j _ h => ?_) (fun i j _ h => ?_) ⟨n + 1, by omega, wI_eq, wI_eq, fun j hj => ?_⟩
    · rw [wI_ne (by omega), wI_ne (by omega)]
    · rw [wI_ne (by omega), wI_ne (by omega)]
    · rw [wI_ne (a := 41) (by omega), wI_ne (a := 0) (by omega)]
      by_cases ej : j = n
      · subst ej; rw [wI_eq, wI_eq]
      · rw [wI_ne (by omega), wI_ne (by omega)]; exact e3 j (by omega)
/-- how many rows there are -/
def pn (M : mv_M) (i : Nat) : Nat := sm (fun r => if M.1 39 r = -1 then 0 else 1) i
theorem present_eq {M : mv_M} (hF : 8 < F) (h : ∀ r, r < 8 → M.1 39 r = -1 ∨ ∃ ln, ln ≤ 2 ∧ M.1 39 r = nI ln) : fX5_present F M = some (nI (pn M 8), M) := by
  unfold fX5_present
  rw [let_eq, let_eq]
  have h0 : ((0 : Int32), (0 : Int32), M) = (fun i : Nat => (nI (pn M i), nI i, M)) 0 := by
    show _ = (nI 0, nI 0, M); rw [nI_0]
  rw [h0]
  refine lp_for (fun i : Nat => (nI (pn M i), nI i, M)) 8 (fun i hi f => ?_) (fun f => ?_) F 0 (by omega) (by omega)
  · show bX5_present_4 F f (nI (pn M i), nI i, M) = f (nI (pn M (i + 1)), nI (i + 1), M)
    have hp : pn M (i + 1) = pn M i + (if M.1 39 i = -1 then 0 else 1) := rfl
    unfold bX5_present_4
    rw [if_neg (show ¬ (8 : Int32) ≤ nI i from nI_ge hi (by decide))]
    rcases h i hi with e | ⟨ln, hl, e⟩
    · rw [miss_y hi e, bi_some, it1, let_eq, let_eq, nI_1, hp, if_pos e, show (0 : Int32) = nI 0 from nI_0.symm, nI_add]
    · have hne : ¬ nI ln = (-1 : Int32) := by
        rcases (show ln = 0 ∨ ln = 1 ∨ ln = 2 by omega) with rfl | rfl | rfl <;> decide
      rw [miss_n hi hl e, bi_some, it0, let_eq, let_eq, nI_1, nI_1, hp, e, if_neg hne]
  · show bX5_present_4 F f (nI (pn M 8), nI 8, M) = _
    unfold bX5_present_4
    rw [if_pos (show (8 : Int32) ≤ nI 8 from nI_le (Nat.le_refl _) (by decide))]
theorem there_eq {MX MM : mv_M} (hF : 8 < F) (h : sRows MX MM) : fX9_rowsThere F MM = some (nI (pn MX 8), MM) := by
  unfold fX9_rowsThere
  rw [let_eq, let_eq]
  have h0 : ((0 : Int32), (0 : Int32), MM) = (fun i : Nat => (nI (pn MX i), nI i, MM)) 0 := by
    show _ = (nI 0, nI 0, MM); rw [nI_0]
  rw [h0]
  refine lp_for (fun i : Nat => (nI (pn MX i), nI i, MM)) 8 (fun i hi f => ?_) (fun f => ?_) F 0 (by omega) (by omega)
  · show bX9_rowsThere_4 f (nI (pn MX i), nI i, MM) = f (nI (pn MX (i + 1)), nI (i + 1), MM)
    have hp : pn MX (i + 1) = pn MX i + (if MX.1 39 i = -1 then 0 else 1) := rfl
    unfold bX9_rowsThere_4
    rw [if_neg (show ¬ (8 : Int32) ≤ nI i from nI_ge hi (by decide)), ob_nI hi (by decide), nI_clamp (by omega)]
    rcases h i hi with ⟨e, e'⟩ | ⟨ln, n, hl, hn, e, -, -, e', -⟩
    · rw [e', if_pos (by decide), let_eq, let_eq, nI_1, hp, if_pos e, show (0 : Int32) = nI 0 from nI_0.symm, nI_add]
    · have hne : ¬ nI ln = (-1 : Int32) := by
        rcases (show ln = 0 ∨ ln = 1 ∨ ln = 2 by omega) with rfl | rfl | rfl <;> decide
      rw [e', if_neg (nI_pos (by omega)), let_eq, let_eq, nI_1, nI_1, hp, e, if_neg hne]
  · show bX9_rowsThere_4 f (nI (pn MX 8), nI 8, MM) = _
    unfold bX9_rowsThere_4
    rw [if_pos (show (8 : Int32) ≤ nI 8 from nI_le (Nat.le_refl _) (by decide))]
theorem ps_count (hF : 8 < F) (a : Int32) : ps_ok Sim (fun M => fX8_count F M a) (fun M => fX9_count F M a) := by
  rintro MX MM ⟨w, hc, ht⟩
  show ∃ (r : Int32) (MX' MM' : mv_M), fX8_count F MX a = some (r, MX') ∧ fX9_count F MM a = some (r, MM') ∧ Sim MX' MM'
  obtain ⟨hw, hX, hM, hr, ⟨n5, -, t1, t2, -⟩, -, -, -, -, -, us, n4, -, -, u1, u2, -⟩ := id hc
  unfold fX8_count fX9_count
  by_cases h0 : a = 0
  · refine ⟨nI (pn MX 8), MX, MM, ?_, ?_, w, hc, ht⟩
    · rw [if_pos h0, present_eq hF (fun r hr' => by
        rcases hr r hr' with ⟨e, -⟩ | ⟨ln, n, hl, hn, e, -⟩
        · exact Or.inl e
        · exact Or.inr ⟨ln, hl, e⟩)]; rfl
    · rw [if_pos h0, there_eq hF hr]; rfl
  rw [if_neg h0, if_neg h0]
  by_cases h1 : a = 1
  · refine ⟨nI (w 0), MX, MM, ?_, ?_, w, hc, ht⟩
    · rw [if_pos h1, hX.1]
    · rw [if_pos h1, ob_0, cl_0, RM_at hM (by decide)]
  rw [if_neg h1, if_neg h1]
  by_cases h2 : a = 2
  · refine ⟨nI (w 1), MX, MM, ?_, ?_, w, hc, ht⟩
    · rw [if_pos h2, hX.2.1]
    · rw [if_pos h2, ob_1, cl_1, RM_at hM (by decide)]
  rw [if_neg h2, if_neg h2]
  by_cases h3 : a = 3
  · refine ⟨nI (w 2), MX, MM, ?_, ?_, w, hc, ht⟩
    · rw [if_pos h3, hX.2.2.1]
    · rw [if_pos h3, ob_2, cl_2, RM_at hM (by decide)]
  rw [if_neg h3, if_neg h3]
  by_cases h4 : a = 4
  · exact ⟨nI n4, MX, MM, by rw [if_pos h4, u1], by rw [if_pos h4, u2], w, hc, ht⟩
  rw [if_neg h4, if_neg h4]
  by_cases h5 : a = 5
  · exact ⟨nI n5, MX, MM, by rw [if_pos h5, t1], by rw [if_pos h5, t2], w, hc, ht⟩
  rw [if_neg h5, if_neg h5]
  exact ⟨-1000001, MX, MM, rfl, rfl, w, hc, ht⟩
/-- of a kind -/
def kd (c d : Nat) : Int32 := if d = 0 ∨ d = c ∨ (d = 1 ∧ (c = 2 ∨ c = 3)) ∨ (d = 4 ∧ c = 5) then 1 else 0
theorem isKind_eq {M : mv_M} {j c d : Nat} (hj : j < 12) (e : M.1 4 j = nI c) (h1 : 1 ≤ c) (h2 : c ≤ 5) (hd : d ≤ 5) : fX7_isKind F M (nI j) (nI d) = some (kd c d, M) := by
  unfold fX7_isKind
  rw [ob_nI hj (by decide), nI_clamp (by omega), let_eq, e]
  rcases (show c = 1 ∨ c = 2 ∨ c = 3 ∨ c = 4 ∨ c = 5 by omega) with rfl | rfl | rfl | rfl | rfl <;>
  rcases (show d = 0 ∨ d = 1 ∨ d = 2 ∨ d = 3 ∨ d = 4 ∨ d = 5 by omega) with rfl | rfl | rfl | rfl | rfl | rfl <;> rfl
theorem isA_eq {M : mv_M} {c d : Nat} (h1 : 1 ≤ c) (h2 : c ≤ 5) (hd : d ≤ 5) : fX9_isA F M (nI c) (nI d) = some (kd c d, M) := by
  unfold fX9_isA
  rcases (show c = 1 ∨ c = 2 ∨ c = 3 ∨ c = 4 ∨ c = 5 by omega) with rfl | rfl | rfl | rfl | rfl <;>
  rcases (show d = 0 ∨ d = 1 ∨ d = 2 ∨ d = 3 ∨ d = 4 ∨ d = 5 by omega) with rfl | rfl | rfl | rfl | rfl | rfl <;> rfl
theorem kd_01 (c d : Nat) : kd c d = 0 ∨ kd c d = 1 := by unfold kd; split <;> simp
theorem ps_as (a1 a2 : Int32) : ps_ok Sim (fun M => fX8_as F M a1 a2) (fun M => fX9_as F M a1 a2) := by
  rintro MX MM ⟨w, hc, ht⟩
  show ∃ (r : Int32) (MX' MM' : mv_M), fX8_as F MX a1 a2 = some (r, MX') ∧ fX9_as F MM a1 a2 = some (r, MM') ∧ Sim MX' MM'
  obtain ⟨hw, hX, hM, -⟩ := id hc
  have h12 := hw.2.1
  unfold fX8_as fX9_as
  rcases ix_cases a1 (show w 1 < 2 ^ 31 by omega) with h | ⟨j, hj, rfl⟩
  · exact ⟨-1000001, MX, MM, by rw [fX7_hasMember_out hX h, bi_some, it0], by rw [fX9_isMember_out hM hw h, bi_some, it0], w, hc, ht⟩
  rw [fX7_hasMember_in hX hw hj, bi_some, it1, fX9_isMember_in hM hw hj, bi_some, it1]
  rcases rg_cases a2 0 5 with h | h
  · exact ⟨-1000001, MX, MM, by rw [rg_out h], by rw [in_out (L := 0) (H := 5) (by decide) (by decide) h, bi_some, it0], w, hc, ht⟩
  rw [rg_in h, in_in (L := 0) (H := 5) (by decide) (by decide) h, bi_some, it1]
  obtain ⟨d, -, hd, rfl⟩ := rg_nat (lo := 0) (hi := 5) rfl rfl (by decide) (by decide) h
  obtain ⟨⟨k1, k2⟩, -⟩ := hw.2.2.2.2.2 j hj
  rw [isKind_eq (show j < 12 by omega) (hX.2.2.2.2 j hj).1 k1 k2 hd, bi_some, ob_add (ai := (11 : Int32)) (a := 11) rfl (by omega), cl_add (ai := (11 : Int32)) (a := 11) rfl (by omega), RM_at hM (by omega), isA_eq k1 k2 hd, bi_some]
  rcases kd_01 (w (11 + j)) d with e | e
  · rw [e, it0, it0]
    exact ⟨(-1000010 : Int32) - 3, mv_wI MX 0 10 3, mv_wI MM 0 5 3, rfl, rfl, w, core_st 3 hc, tab_st 3 (by decide) ht⟩
  · rw [e, it1, it1]
    exact ⟨nI j, mv_wI MX 0 10 0, mv_wI MM 0 5 0, rfl, rfl, w, core_st 0 hc, tab_st 0 (by decide) ht⟩
theorem ps_member (a1 a2 : Int32) : ps_ok Sim (fun M => fX8_member F M a1 a2) (fun M => fX9_member F M a1 a2) := by
  rintro MX MM ⟨w, hc, ht⟩
  show ∃ (r : Int32) (MX' MM' : mv_M), fX8_member F MX a1 a2 = some (r, MX') ∧ fX9_member F MM a1 a2 = some (r, MM') ∧ Sim MX' MM'
  obtain ⟨hw, hX, hM, -⟩ := id hc
  have h12 := hw.2.1
  unfold fX8_member fX9_member
  rcases ix_cases a1 (show w 1 < 2 ^ 31 by omega) with h | ⟨j, hj, rfl⟩
  · exact ⟨-1000001, MX, MM, by rw [fX7_hasMember_out hX h, bi_some, it0], by rw [fX9_isMember_out hM hw h, bi_some, it0], w, hc, ht⟩
  rw [fX7_hasMember_in hX hw hj, bi_some, it1, fX9_isMember_in hM hw hj, bi_some, it1]
  have cl : (nI j).toNatClampNeg = j := nI_clamp (by omega)
  have obj : ∀ {α : Type} (G : Option α), mv_ob (nI j) 12 G = G := fun G => ob_nI (by omega) (by decide)
  obtain ⟨x4, x5, x6, x7, x8, x9⟩ := hX.2.2.2.2 j hj
  obtain ⟨-, -, -, htk, -, -, -⟩ := hw.2.2.2.2.2 j hj
  have x5 : MX.1 5 j = nI (w (23 + j)) := x5
  have x6 : MX.1 6 j = nI (w (35 + j)) := x6
  have x7 : MX.1 7 j = nI (w (47 + j)) := x7
  by_cases h0 : a2 = 0
  · exact ⟨nI (w (23 + j)), MX, MM, by rw [if_pos h0, obj, cl, x5], by rw [if_pos h0, ob_add (ai := (23 : Int32)) (a := 23) rfl (by omega), cl_add (ai := (23 : Int32)) (a := 23) rfl (by omega), RM_at hM (by omega)], w, hc, ht⟩
  rw [if_neg h0, if_neg h0]
  by_cases h1 : a2 = 1
  · exact ⟨nI (w (35 + j)), MX, MM, by rw [if_pos h1, obj, cl, x6], by rw [if_pos h1, ob_add (ai := (35 : Int32)) (a := 35) rfl (by omega), cl_add (ai := (35 : Int32)) (a := 35) rfl (by omega), RM_at hM (by omega)], w, hc, ht⟩
  rw [if_neg h1, if_neg h1]
  by_cases h2 : a2 = 2
  · exact ⟨nI (pr w j), MX, MM, by rw [if_pos h2, fX7_priceOf_eq hX hw hj, bi_some], by rw [if_pos h2, fX9_priceOf_eq hM hw hj, bi_some], w, hc, ht⟩
  rw [if_neg h2, if_neg h2]
  by_cases h3 : a2 = 3
  · exact ⟨nI (w (47 + j)), MX, MM, by rw [if_pos h3, obj, cl, x7], by rw [if_pos h3, ob_add (ai := (47 : Int32)) (a := 47) rfl (by omega), cl_add (ai := (47 : Int32)) (a := 47) rfl (by omega), RM_at hM (by omega)], w, hc, ht⟩
  rw [if_neg h3, if_neg h3]
  by_cases h4 : a2 = 4
  · subst h4
    rw [if_pos rfl, if_pos rfl, obj, cl, x7, ob_add (ai := (47 : Int32)) (a := 47) rfl (by omega), cl_add (ai := (47 : Int32)) (a := 47) rfl (by omega), RM_at hM (by omega), show ((4 : Int32) - 4) = 0 by decide]
    by_cases e : w (47 + j) = 0
    · rw [e]
      exact ⟨-1000000, MX, MM, by rw [if_pos (by decide)], by rw [if_pos (by decide)], w, hc, ht⟩
    · have x8 : MX.1 8 j = nI (w (59 + j)) := x8 (by omega)
      rw [if_neg (nI_nle (by omega) (by omega)), if_neg (nI_nle (by omega) (by omega)), obj, x8, show ((59 : Int32) + (12 : Int32) * 0) = nI 59 by decide, nI_add, ob_nI (show 59 + j < 2324 by omega) (by decide), nI_clamp (by omega), RM_at hM (by omega)]
      exact ⟨_, MX, MM, rfl, rfl, w, hc, ht⟩
  rw [if_neg h4, if_neg h4]
  by_cases h5 : a2 = 5
  · subst h5
    rw [if_pos rfl, if_pos rfl, obj, cl, x7, ob_add (ai := (47 : Int32)) (a := 47) rfl (by omega), cl_add (ai := (47 : Int32)) (a := 47) rfl (by omega), RM_at hM (by omega), show ((5 : Int32) - 4) = nI 1 by decide, show (1 : Int32) = nI 1 from rfl]
    by_cases e : w (47 + j) ≤ 1
    · exact ⟨-1000000, MX, MM, by rw [if_pos (nI_le e (by decide))], by rw [if_pos (nI_le e (by decide))], w, hc, ht⟩
    · have x9 : MX.1 9 j = nI (w (71 + j)) := x9 (by omega)
      rw [if_neg (nI_ge (by omega) (by omega)), if_neg (nI_ge (by omega) (by omega)), obj, x9, show ((59 : Int32) + (12 : Int32) * nI 1) = nI 71 by decide, nI_add, ob_nI (show 71 + j < 2324 by omega) (by decide), nI_clamp (by omega), RM_at hM (by omega)]
      exact ⟨_, MX, MM, rfl, rfl, w, hc, ht⟩
  rw [if_neg h5, if_neg h5]
  by_cases h6 : a2 = 6
  · have hlt : w 2 < 2 ^ 31 := Nat.lt_of_lt_of_le hw.2.2.1 (Nat.pow_le_pow_right (by omega) (by omega))
    rw [if_pos h6, if_pos h6, fX7_isHidden_eq hX hw hj, bi_some, ob_2, cl_2, RM_at hM (by decide), bt_of hlt (by omega)]
    refine ⟨nI (bt (w 2) j), MX, MM, ?_, rfl, w, hc, ht⟩
    have := bt_lt (w 2) j
    rcases (show bt (w 2) j = 0 ∨ bt (w 2) j = 1 by omega) with e | e
    · rw [e, if_pos nI_0]; rfl
    · rw [e, if_neg (by decide)]; rfl
  rw [if_neg h6, if_neg h6]
  exact ⟨-1000001, MX, MM, rfl, rfl, w, hc, ht⟩
end SMALL2
