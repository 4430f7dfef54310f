/-! SMALL WORDS OF BOTH SIDES -/
theorem it0 {α : Type} (a b : α) : (if (0 : Int32) = 0 then a else b) = a := if_pos rfl
theorem it1 {α : Type} (a b : α) : (if (1 : Int32) = 0 then a else b) = b := if_neg (by decide)
theorem lp_rule2 {σ α : Type} {B : (σ → Option α) → σ → Option α} (I : Nat → σ → Prop) (N : Nat) (Q : Option α → Prop) (h : ∀ i s (f : σ → Option α), i ≤ N → I i s → Q (B f s) ∨ (i < N ∧ ∃ s', I (i + 1) s' ∧ B f s = f s')) : ∀ (n i : Nat) (s : σ), I i s → i ≤ N → N < i + n → Q (mv_lp B n s) := by
  intro n
  induction n with
  | zero => intro i s _ h1 h2; exact absurd h2 (by omega)
  | succ n ih =>
    intro i s hI h1 h2
    show Q (B (mv_lp B n) s)
    rcases h i s (mv_lp B n) h1 hI with hq | ⟨hlt, s', hI', he⟩
    · exact hq
    · rw [he]
      exact ih (i + 1) s' hI' (by omega) (by omega)
theorem rg_cases (x L H : Int32) : (x < L ∨ H < x) ∨ (¬ x < L ∧ x ≤ H) := by
  by_cases h1 : x < L
  · exact Or.inl (Or.inl h1)
  · by_cases h2 : H < x
    · exact Or.inl (Or.inr h2)
    · exact Or.inr ⟨h1, Int32.not_lt.mp h2⟩
theorem rg_out {α : Type} {x L H : Int32} {B G : α} (h : x < L ∨ H < x) : (if x < L then B else (if x ≤ H then G else B)) = B := by
  by_cases h1 : x < L
  · rw [if_pos h1]
  · rw [if_neg h1, if_neg (fun q => by rcases h with h | h; exact h1 h; exact Int32.not_lt.mpr q h)]
theorem rg_in {α : Type} {x L H : Int32} {B G : α} (h : ¬ x < L ∧ x ≤ H) : (if x < L then B else (if x ≤ H then G else B)) = G := by
  rw [if_neg h.1, if_pos h.2]
theorem in_out {F : Nat} {M : mv_M} {x L H : Int32} {lo hi : Int64} (hl : lo.toInt = L.toInt) (hh : hi.toInt = H.toInt) (h : x < L ∨ H < x) : fX9_in F M x.toInt64 lo hi = some (0, M) := by
  refine fX9_in_f ?_
  rw [i64_toInt, hl, hh]
  rcases h with h | h
  · exact Or.inl (Int32.lt_iff_toInt_lt.mp h)
  · exact Or.inr (Int32.lt_iff_toInt_lt.mp h)
theorem in_in {F : Nat} {M : mv_M} {x L H : Int32} {lo hi : Int64} (hl : lo.toInt = L.toInt) (hh : hi.toInt = H.toInt) (h : ¬ x < L ∧ x ≤ H) : fX9_in F M x.toInt64 lo hi = some (1, M) := by
  refine fX9_in_t ?_ ?_
  · rw [i64_toInt, hl]
    exact Int.not_lt.mp (fun q => h.1 (Int32.lt_iff_toInt_lt.mpr q))
  · rw [i64_toInt, hh]
    exact Int32.le_iff_toInt_le.mp h.2
/-- a number of a range -/
theorem rg_nat {x L H : Int32} {lo hi : Nat} (hl : L = nI lo) (hh : H = nI hi) (hlo : lo < 2 ^ 31) (hhi : hi < 2 ^ 31) (h : ¬ x < L ∧ x ≤ H) : ∃ j : Nat, lo ≤ j ∧ j ≤ hi ∧ x = nI j := by
  have h0 : ¬ x < 0 := fun q => h.1 (by
    rw [hl]
    rw [Int32.lt_iff_toInt_lt] at q ⊢
    rw [nI_toInt hlo]
    have : (0 : Int32).toInt = 0 := by decide
    omega)
  obtain ⟨j, hj, rfl⟩ := nI_of h0
  refine ⟨j, ?_, ?_, rfl⟩
  · exact Nat.le_of_not_lt (fun q => h.1 (by rw [hl]; exact nI_lt q hlo))
  · have := h.2
    rw [hh] at this
    exact (nI_leI hj hhi).mp this
theorem isRow8_in {F : Nat} {M : mv_M} {j : Nat} (hj : j < 8) : fX5_isRow F M (nI j) = some (1, M) := by
  unfold fX5_isRow
  rw [if_neg (nI_pos (by omega)), show (8 : Int32) = nI 8 from rfl, if_neg (nI_ge hj (by decide)), b1_1]
theorem isRow8_out {F : Nat} {M : mv_M} {a : Int32} (ha : a < 0 ∨ (¬ a < 0 ∧ nI 8 ≤ a)) : fX5_isRow F M a = some (0, M) := by
  unfold fX5_isRow
  rcases ha with ha | ⟨ha, hb⟩
  · rw [if_pos ha, b1_0]
  · rw [if_neg ha, show (8 : Int32) = nI 8 from rfl, if_pos hb, b1_0]
theorem isRow9_in {F : Nat} {M : mv_M} {j : Nat} (hj : j < 8) : fX9_isRow F M (nI j) = some (1, M) := by
  unfold fX9_isRow
  rw [fX9_in0_in hj (by decide) (by decide), bi_some, b1_1]
theorem isRow9_out {F : Nat} {M : mv_M} {a : Int32} (ha : a < 0 ∨ (¬ a < 0 ∧ nI 8 ≤ a)) : fX9_isRow F M a = some (0, M) := by
  unfold fX9_isRow
  rw [fX9_in0_out ha (by decide) (by decide), bi_some, b1_0]
theorem isLane_in {F : Nat} {M : mv_M} {a : Int32} (h : ¬ a < 0 ∧ a ≤ (2 : Int32)) : fX5_isLane F M a = some (1, M) := by
  unfold fX5_isLane
  rw [if_neg h.1, if_neg (Int32.not_lt.mpr h.2), b1_1]
theorem isLane_out {F : Nat} {M : mv_M} {a : Int32} (h : a < 0 ∨ (2 : Int32) < a) : fX5_isLane F M a = some (0, M) := by
  unfold fX5_isLane
  by_cases h1 : a < 0
  · rw [if_pos h1, b1_0]
  · rcases h with h | h
    · exact absurd h h1
    · rw [if_neg h1, if_pos h, b1_0]
/-- memory that is as it was but for one number -/
theorem wI_ne {M : mv_M} {a k : Nat} {v : Int32} {i j : Nat} (h : ¬ (i = a ∧ j = k)) : (mv_wI M a k v).1 i j = M.1 i j := by rw [wI_get, if_neg h]
theorem wI_eq {M : mv_M} {a k : Nat} {v : Int32} : (mv_wI M a k v).1 a k = v := by rw [wI_get, if_pos ⟨rfl, rfl⟩]
theorem wA_ne {M : mv_M} {a : Nat} {f : Nat → Int32} {i j : Nat} (h : i ≠ a) : (mv_wA M a f).1 i j = M.1 i j := by rw [wA_get, if_neg h]
theorem wA_eq {M : mv_M} {a : Nat} {f : Nat → Int32} {j : Nat} : (mv_wA M a f).1 a j = f j := by rw [wA_get, if_pos rfl]
theorem wL_ne {M : mv_M} {a k : Nat} {v : Int64} {i j : Nat} (h : ¬ (i = a ∧ j = k)) : (mv_wL M a k v).2 i j = M.2 i j := by rw [wL_get, if_neg h]
theorem wL_eq {M : mv_M} {a k : Nat} {v : Int64} : (mv_wL M a k v).2 a k = v := by rw [wL_get, if_pos ⟨rfl, rfl⟩]
section SMALL
variable {F : Nat}
theorem ps_fault : ps_ok Sim (fun M => fX8_fault F M) (fun M => fX9_fault F M) := by
  rintro MX MM ⟨w, hc, ht⟩
  refine ⟨MX.1 0 9, MX, MM, rfl, ?_, w, hc, ht⟩
  show some (MM.1 0 4, MM) = _
  rw [hc.2.2.2.2.2.2.1]
theorem ps_status : ps_ok Sim (fun M => fX8_status F M) (fun M => fX9_status F M) := by
  rintro MX MM ⟨w, hc, ht⟩
  refine ⟨MX.1 0 10, MX, MM, rfl, ?_, w, hc, ht⟩
  show some (MM.1 0 5, MM) = _
  rw [hc.2.2.2.2.2.2.2.1]
theorem ps_kind (a : Int32) : ps_ok Sim (fun M => fX8_kind F M a) (fun M => fX9_kind F M a) := by
  rintro MX MM ⟨w, hc, ht⟩
  obtain ⟨hw, hX, hM, -⟩ := id hc
  have h12 := hw.2.1
  rcases ix_cases a (show w 1 < 2 ^ 31 by omega) with h | ⟨j, hj, rfl⟩
  · refine ⟨-1000001, MX, MM, ?_, ?_, w, hc, ht⟩
    · show fX8_kind F MX a = _
      unfold fX8_kind
      rw [fX7_hasMember_out hX h, bi_some, it0]
    · show fX9_kind F MM a = _
      unfold fX9_kind
      rw [fX9_isMember_out hM hw h, bi_some, it0]
  · refine ⟨nI (w (11 + j)), MX, MM, ?_, ?_, w, hc, ht⟩
    · show fX8_kind F MX _ = _
      unfold fX8_kind
      rw [fX7_hasMember_in hX hw hj, bi_some, it1, ob_nI (show j < 12 by omega) (by decide), nI_clamp (by omega)]
      have e : MX.1 4 j = nI (w (11 + j)) := (hX.2.2.2.2 j hj).1
      rw [e]
    · show fX9_kind F MM _ = _
      unfold fX9_kind
      rw [fX9_isMember_in hM hw hj, bi_some, it1, ob_add (ai := (11 : Int32)) (a := 11) rfl (by omega), cl_add (ai := (11 : Int32)) (a := 11) rfl (by omega), RM_at hM (by omega)]
theorem ps_trace (a : Int32) : ps_ok Sim (fun M => fX8_trace F M a) (fun M => fX9_trace F M a) := by
  rintro MX MM ⟨w, hc, ht⟩
  obtain ⟨n, hn, e1, e2, e3⟩ := hc.2.2.2.2.2.1
  rcases ix_cases a (show n < 2 ^ 31 by omega) with h | ⟨j, hj, rfl⟩
  · refine ⟨-1000000, MX, MM, ?_, ?_, w, hc, ht⟩
    · show fX8_trace F MX a = _
      unfold fX8_trace
      rcases h with h | ⟨h, h'⟩
      · rw [if_pos h]
      · rw [if_neg h, e1, if_pos h']
    · show fX9_trace F MM a = _
      unfold fX9_trace
      rw [e2, fX9_in0_out h (by omega) (sub1_toInt (by omega)), bi_some, it0]
  · refine ⟨MX.1 113 j, MX, MM, ?_, ?_, w, hc, ht⟩
    · show fX8_trace F MX _ = _
      unfold fX8_trace
      rw [if_neg (nI_pos (by omega)), e1, if_neg (nI_ge hj (by omega)), ob_nI (show j < 16 by omega) (by decide), nI_clamp (by omega)]
    · show fX9_trace F MM _ = _
      unfold fX9_trace
      rw [e2, fX9_in0_in hj (by omega) (sub1_toInt (by omega)), bi_some, it1, ob_nI (show j < 16 by omega) (by decide), nI_clamp (by omega), e3 j hj]
/-- a finding, or none, is told -/
theorem core_st {w : Nat → Nat} {MX MM : mv_M} (v : Int32) (hc : core w MX MM) : core w (mv_wI MX 0 10 v) (mv_wI MM 0 5 v) :=
  core_stat hc (fun i j _ h => wI_ne h) (fun i j _ h => wI_ne h) (by rw [wI_eq, wI_eq])
theorem tab_st {w : Nat → Nat} {MX : mv_M} {i j : Nat} (v : Int32) (h : i ≠ 58) (ht : tab w MX) : tab w (mv_wI MX i j v) := tab_same (M := MX) rfl (wI_ne (by omega)) ht
theorem ps_drop (a : Int32) : ps_ok Sim (fun M => fX8_drop F M a) (fun M => fX9_drop F M a) := by
  rintro MX MM ⟨w, hc, ht⟩
  rcases ix_cases a (show 8 < 2 ^ 31 by decide) with h | ⟨r, hr, rfl⟩
  · refine ⟨-1000001, MX, MM, ?_, ?_, w, hc, ht⟩
    · show fX8_drop F MX a = _
      unfold fX8_drop
      rw [isRow8_out h, bi_some, it0]
    · show fX9_drop F MM a = _
      unfold fX9_drop
      rw [isRow9_out h, bi_some, it0]
  · have hrow := hc.2.2.2.1 r hr
    have hcl : (nI r).toNatClampNeg = r := nI_clamp (by omega)
    rcases id hrow with ⟨e1, e2⟩ | ⟨ln, n, h1, h2, e1, e2, e3, e4, e5⟩
    · refine ⟨(-1000010 : Int32) - 1, mv_wI MX 0 10 1, mv_wI MM 0 5 1, ?_, ?_, w, core_st 1 hc, tab_st 1 (by decide) ht⟩
      · show fX8_drop F MX _ = some (((-1000010 : Int32) - 1), mv_wI MX 0 10 1)
        unfold fX8_drop
        rw [isRow8_in hr, bi_some, it1]
        unfold fX5_isMissing
        rw [ob_nI hr (by decide), hcl, e1, if_pos rfl, b1_1, bi_some, it1]
        rfl
      · show fX9_drop F MM _ = _
        unfold fX9_drop
        rw [isRow9_in hr, bi_some, it1, ob_nI hr (by decide), hcl, e2, if_neg (by decide)]
        rfl
    · have hln : ¬ nI ln = (-1 : Int32) := by
        rcases (show ln = 0 ∨ ln = 1 ∨ ln = 2 by omega) with rfl | rfl | rfl <;> decide
      refine ⟨nI n, mv_wI (mv_wI MX 39 r (-1)) 0 10 0, mv_wI (mv_wI MM 0 5 0) 3 r (-1), ?_, ?_, w, ?_, tab_st 0 (by decide) (tab_st _ (by decide) ht)⟩
      · show fX8_drop F MX _ = _
        unfold fX8_drop
        rw [isRow8_in hr, bi_some, it1]
        unfold fX5_isMissing
        rw [ob_nI hr (by decide), hcl, e1, if_neg hln, b1_0, bi_some, it0]
        unfold fX5_lose
        rw [ob_nI hr (by decide), hcl, let_eq, ob_nI hr (by decide), bi_some, wI_ne (by omega), e3]
        rfl
      · show fX9_drop F MM _ = _
        unfold fX9_drop
        rw [isRow9_in hr, bi_some, it1, ob_nI hr (by decide), hcl, e4, if_pos (nI_pos' (by omega)), let_eq, ob_nI hr (by decide), let_eq, ob_nI hr (by decide), let_eq, wI_ne (by omega), e4]
      · refine core_rows hc (fun i j _ h1 h2 => ?_) (fun i j _ h1 h2 => ?_) (fun r' hr' => ?_) ?_
        · rw [wI_ne h2, wI_ne (by omega)]
        · rw [wI_ne (by omega), wI_ne h2]
        · by_cases e : r' = r
          · subst e
            left
            exact ⟨by rw [wI_ne (by omega), wI_eq], wI_eq⟩
          · refine sRow_fr (fun i j hi => ?_) (fun i j hi => ?_) (hc.2.2.2.1 r' hr')
            · rw [wI_ne (by omega), wI_ne (by omega)]
            · rw [wI_ne (by omega), wI_ne (by omega)]
        · rw [wI_eq, wI_ne (by omega), wI_eq]
theorem lit_nI (k : Nat) (x : Int32) (h : x = nI k) : x = nI k := h
/-- Arrays.fill of a row of 40, the reference's way -/
theorem row9_loop {M : mv_M} {r : Nat} {a3 : Int32} (hr : r < 8) (hF : 40 < F) : ∃ M' : mv_M, mv_lp (bX9_row_60 a3 (nI r)) F (0, M) = some (a3, M') ∧ M'.2 = M.2 ∧ (∀ i j, ¬ (i = 5 ∧ 40 * r ≤ j ∧ j < 40 * r + 40) → M'.1 i j = M.1 i j) ∧ ∀ j, j < 40 → M'.1 5 (40 * r + j) = 0 := by
  refine lp_rule2 (fun i s => ∃ M' : mv_M, s = (nI i, M') ∧ M'.2 = M.2 ∧ (∀ i j, ¬ (i = 5 ∧ 40 * r ≤ j ∧ j < 40 * r + 40) → M'.1 i j = M.1 i j) ∧ ∀ j, j < i → M'.1 5 (40 * r + j) = 0) 40 (fun G => ∃ M' : mv_M, G = some (a3, M') ∧ M'.2 = M.2 ∧ (∀ i j, ¬ (i = 5 ∧ 40 * r ≤ j ∧ j < 40 * r + 40) → M'.1 i j = M.1 i j) ∧ ∀ j, j < 40 → M'.1 5 (40 * r + j) = 0) ?_ F 0 (0, M) ⟨M, by rw [nI_0], rfl, fun _ _ _ => rfl, fun j hj => absurd hj (by omega)⟩ (by omega) (by omega)
  rintro i s f hi ⟨M', rfl, h2, h3, h4⟩
  unfold bX9_row_60
  by_cases e : i = 40
  · left
    subst e
    rw [if_pos (show (40 : Int32) ≤ nI 40 from nI_le (Nat.le_refl _) (by decide))]
    exact ⟨M', rfl, h2, h3, h4⟩
  · right
    have e1 : ((40 : Int32) * nI r) + nI i = nI (40 * r + i) := by
      rw [show (40 : Int32) = nI 40 from rfl, pk_mul, nI_add]
    refine ⟨by omega, (nI (i + 1), mv_wI M' 5 (40 * r + i) 0), ⟨_, rfl, h2, fun i' j' h => ?_, fun j hj => ?_⟩, ?_⟩
    · rw [wI_ne (by omega)]; exact h3 i' j' h
    · by_cases ej : j = i
      · rw [ej, wI_eq]
      · rw [wI_ne (by omega)]; exact h4 j (by omega)
    · rw [if_neg (show ¬ (40 : Int32) ≤ nI i from nI_ge (b := 40) (by omega) (by decide)), e1, ob_nI (show 40 * r + i < 320 by omega) (by decide), nI_clamp (by omega), let_eq, let_eq, nI_1]
theorem ps_row (hF : 40 < F) (a1 a2 a3 : Int32) : ps_ok Sim (fun M => fX8_row F M a1 a2 a3) (fun M => fX9_row F M a1 a2 a3) := by
  rintro MX MM ⟨w, hc, ht⟩
  rcases ix_cases a1 (show 8 < 2 ^ 31 by decide) with h | ⟨r, hr, rfl⟩
  · refine ⟨-1000001, MX, MM, ?_, ?_, w, hc, ht⟩
    · show fX8_row F MX _ _ _ = _
      unfold fX8_row
      rw [isRow8_out h, bi_some, it0]
    · show fX9_row F MM _ _ _ = _
      unfold fX9_row
      rw [isRow9_out h, bi_some, it0]
  have hcl : (nI r).toNatClampNeg = r := nI_clamp (by omega)
  rcases rg_cases a2 0 2 with h2 | h2
  · refine ⟨-1000001, MX, MM, ?_, ?_, w, hc, ht⟩
    · show fX8_row F MX _ _ _ = _
      unfold fX8_row
      rw [isRow8_in hr, bi_some, it1, isLane_out h2, bi_some, it0]
    · show fX9_row F MM _ _ _ = _
      unfold fX9_row
      rw [isRow9_in hr, bi_some, it1, in_out (L := 0) (H := 2) (by decide) (by decide) h2, bi_some, it0]
  by_cases h3 : a3 ≤ (40 : Int32)
  case neg =>
    refine ⟨-1000001, MX, MM, ?_, ?_, w, hc, ht⟩
    · show fX8_row F MX _ _ _ = _
      unfold fX8_row
      rw [isRow8_in hr, bi_some, it1, isLane_in h2, bi_some, it1, if_neg h3]
    · show fX9_row F MM _ _ _ = _
      unfold fX9_row
      rw [isRow9_in hr, bi_some, it1, in_in (L := 0) (H := 2) (by decide) (by decide) h2, bi_some, it1, if_neg h3]
  by_cases h4 : 0 ≤ a3
  case neg =>
    refine ⟨(-1000010 : Int32) - 4, mv_wI MX 0 10 4, mv_wI MM 0 5 4, ?_, ?_, w, core_st 4 hc, tab_st 4 (by decide) ht⟩
    · show fX8_row F MX _ _ _ = some (((-1000010 : Int32) - 4), mv_wI MX 0 10 4)
      unfold fX8_row
      rw [isRow8_in hr, bi_some, it1, isLane_in h2, bi_some, it1, if_pos h3, if_neg h4]
      rfl
    · show fX9_row F MM _ _ _ = _
      unfold fX9_row
      rw [isRow9_in hr, bi_some, it1, in_in (L := 0) (H := 2) (by decide) (by decide) h2, bi_some, it1, if_pos h3, if_neg h4]
      rfl
  obtain ⟨ln, -, hln, rfl⟩ := rg_nat (lo := 0) (hi := 2) rfl rfl (by decide) (by decide) h2
  obtain ⟨n, -, hn, rfl⟩ := rg_nat (L := 0) (H := 40) (lo := 0) (hi := 40) rfl rfl (by decide) (by decide) ⟨Int32.not_lt.mpr h4, h3⟩
  obtain ⟨MM', g1, g2, g3, g4⟩ := row9_loop (F := F) (M := mv_wI (mv_wI (mv_wI MM 0 5 0) 3 r (nI n)) 4 r (nI ln)) (r := r) (a3 := nI n) hr hF
  refine ⟨nI n, mv_wI (mv_wA (mv_wI (mv_wI MX 39 r (nI ln)) 40 r (nI n)) (31 + r) (fun j => if j < 40 then 0 else (mv_wI (mv_wI MX 39 r (nI ln)) 40 r (nI n)).1 (31 + r) j)) 0 10 0, MM', ?_, ?_, w, ?_, ?_⟩
  · show fX8_row F MX _ _ _ = _
    unfold fX8_row
    rw [isRow8_in hr, bi_some, it1, isLane_in h2, bi_some, it1, if_pos h3, if_pos h4]
    unfold fX5_make
    rw [ob_nI hr (by decide), let_eq, ob_nI hr (by decide), let_eq, ob_nI hr (by decide), hcl, fill_eq F _ _ 40 _ hF (by decide)]
    rfl
  · show fX9_row F MM _ _ _ = _
    unfold fX9_row
    rw [isRow9_in hr, bi_some, it1, in_in (L := 0) (H := 2) (by decide) (by decide) h2, bi_some, it1, if_pos h3, if_pos h4, let_eq, ob_nI hr (by decide), hcl, let_eq, ob_nI hr (by decide), let_eq, let_eq, g1]
  · refine core_rows hc (fun i j _ h1 h2 => ?_) (fun i j _ h1 h2 => ?_) (fun r' hr' => ?_) ?_
    · rw [wI_ne h2, wA_ne (by omega), wI_ne (by omega), wI_ne (by omega)]
    · rw [g3 _ _ (by omega), wI_ne (by omega), wI_ne (by omega), wI_ne h2]
    · by_cases e : r' = r
      · subst e
        right
        refine ⟨ln, n, hln, hn, ?_, ?_, ?_, ?_, fun j hj => ?_⟩
        · rw [wI_ne (by omega), wA_ne (by omega), wI_ne (by omega), wI_eq]
        · rw [g3 _ _ (by omega), wI_eq]
        · rw [wI_ne (by omega), wA_ne (by omega), wI_eq]
        · rw [g3 _ _ (by omega), wI_ne (by omega), wI_eq]
        · rw [wI_ne (by omega), wA_eq, if_pos hj, g4 j hj]
      · refine sRow_fr (fun i j hi => ?_) (fun i j hi => ?_) (hc.2.2.2.1 r' hr')
        · rw [wI_ne (by omega), wA_ne (by omega), wI_ne (by omega), wI_ne (by omega)]
        · rw [g3 _ _ (by omega), wI_ne (by omega), wI_ne (by omega), wI_ne (by omega)]
    · rw [wI_eq, g3 _ _ (by omega), wI_ne (by omega), wI_ne (by omega), wI_eq]
  · exact tab_same (M := MX) rfl (by rw [wI_ne (by omega), wA_ne (by omega), wI_ne (by omega), wI_ne (by omega)]) ht
end SMALL
