/-! THE CLASS COUNTS -/
section TAB8
variable {F : Nat}
theorem big_C : (1000000000 : Int64) = lN 1000000000 := by decide
theorem minC {x : Nat} (h : x < 2 ^ 63) : (if (1000000000 : Int64) < lN x then (1000000000 : Int64) else lN x) = lN (mC x) := by
  unfold mC
  rw [big_C]
  by_cases e : 1000000000 < x
  · rw [if_pos ((pk_lLT (by decide) h).mpr e), if_pos e]
  · rw [if_neg (fun q => e ((pk_lLT (by decide) h).mp q)), if_neg e]
theorem geC {x : Nat} (h : x < 2 ^ 63) : 0 ≤ lg_cmp (lN x) (1000000000 : Int64) ↔ 1000000000 ≤ x := by
  rw [cmp_ge, big_C, pk_lT h, pk_lT (by decide)]
  omega
theorem mul18 {a b : Nat} (ha : a ≤ 1000000000) (hb : b ≤ 1000000000) : a * b ≤ 1000000000000000000 := Nat.mul_le_mul ha hb
theorem ways_eq {M : mv_M} {i1 i2 p : Nat} {f g : Nat → Nat} (hp : p ≤ 24) (h1 : ∀ q, q ≤ p → M.2 i1 q = lN (f q)) (h2 : ∀ q, q ≤ p → M.2 i2 q = lN (g q)) (hf : ∀ q, f q ≤ 1000000000) (hg : ∀ q, g q ≤ 1000000000) (hF : 30 < F) : fX2_ways F M i1 i2 (nI p) = some (lN (mC (cv f g p)), M) := by
  unfold fX2_ways
  rw [let_eq, let_eq]
  refine lp_rule2 (fun i s => s = (lN (sm (fun q => f q * g (p - q)) i), nI i, M) ∧ (i = 0 ∨ sm (fun q => f q * g (p - q)) (i - 1) < 1000000000)) (p + 1) (fun G => G = some (lN (mC (cv f g p)), M)) ?_ F 0 (0, 0, M) ⟨rfl, Or.inl rfl⟩ (by omega) (by omega)
  rintro i s f4 hi ⟨rfl, hb⟩
  have hS : sm (fun q => f q * g (p - q)) i < 2 ^ 62 := by
    rcases hb with e | e
    · subst e; show 0 < 2 ^ 62; decide
    · by_cases e0 : i = 0
      · subst e0; show 0 < 2 ^ 62; decide
      · obtain ⟨j, rfl⟩ : ∃ j, i = j + 1 := ⟨i - 1, by omega⟩
        have hh : sm (fun q => f q * g (p - q)) (j + 1) = sm (fun q => f q * g (p - q)) j + f j * g (p - j) := rfl
        rw [Nat.add_sub_cancel] at e
        have := mul18 (hf j) (hg (p - j))
        omega
  unfold bX2_ways_5
  simp only [let_eq]
  by_cases e : i = p + 1
  · left
    subst e
    rw [if_pos (nI_lt (by omega) (by omega)), minC (by omega)]
    rfl
  · rw [if_neg (nI_nlt (by omega) (by omega))]
    by_cases e2 : 1000000000 ≤ sm (fun q => f q * g (p - q)) i
    · left
      rw [if_pos ((geC (by omega)).mpr e2), minC (by omega)]
      have h3 : sm (fun q => f q * g (p - q)) i ≤ cv f g p := sm_mono (by omega)
      have : mC (sm (fun q => f q * g (p - q)) i) = mC (cv f g p) := by
        unfold mC
        split <;> split <;> omega
      rw [this]
    · right
      refine ⟨by omega, _, ⟨rfl, Or.inr ?_⟩, ?_⟩
      · rw [Nat.add_sub_cancel]; omega
      · rw [if_neg (fun q => e2 ((geC (by omega)).mp q)), ob_nI (show i < 25 by omega) (by decide), pk_sub (by omega), ob_nI (show p - i < 25 by omega) (by decide), nI_clamp (by omega), nI_clamp (by omega), h1 i (by omega), h2 (p - i) (by omega), lN_mul, lN_add, nI_1]
        rfl
/-- the table of the types below a price -/
def tyT (M : mv_M) (w : Nat → Nat) (T : Nat → Nat → Nat) (n : Nat) : Prop := ∀ t, t < w 0 → ∀ q, q < n → M.2 (73 + t) q = lN (T t q)
theorem manyWith_eq {M : mv_M} {w : Nat → Nat} {T : Nat → Nat → Nat} {k p : Nat} (h : RX M 1 2 w) (hw : WF w) (hk : k < w 1) (hp : p ≤ 24) (hT : tyT M w T p) (hle : ∀ t q, T t q ≤ 1000000000) (hF : 30 < F) : fX2_manyWith F M (nI k) (nI p) = some (lN (hdW T w k p), M) := by
  have h12 := hw.2.1
  have h8 := hw.1
  obtain ⟨hp1, hp27⟩ := pr_pos hw hk
  obtain ⟨-, -, -, htk, -, -, hf, hs⟩ := hw.2.2.2.2.2 k hk
  obtain ⟨-, -, -, x7, x8, x9⟩ := h.2.2.2.2 k hk
  have x7 : M.1 7 k = nI (w (47 + k)) := x7
  have x8 : 0 < w (47 + k) → M.1 8 k = nI (w (59 + k)) := x8
  have x9 : 1 < w (47 + k) → M.1 9 k = nI (w (71 + k)) := x9
  have ob : ∀ {α : Type} (G : Option α), mv_ob (nI k) 12 G = G := fun G => ob_nI (by omega) (by decide)
  have cl : (nI k).toNatClampNeg = k := nI_clamp (by omega)
  unfold fX2_manyWith
  rw [fX7_priceOf_eq h hw hk, bi_some, let_eq]
  unfold hdW
  by_cases e : p < pr w k
  · rw [if_neg (Int32.not_le.mpr (pk_sneg (by omega) e)), if_pos e]; rfl
  · rw [pk_sub (by omega), if_pos (nI_pos' (by omega)), if_neg e]
    simp only [ob, cl, x7]
    by_cases e0 : w (47 + k) = 0
    · rw [if_pos (by rw [e0]; rfl), if_pos e0]
      by_cases ep : p = pr w k
      · rw [if_pos (by rw [ep, Nat.sub_self]; rfl), if_pos ep]; rfl
      · rw [if_neg (nI_ne0 (by omega) (by omega)), if_neg ep]; rfl
    · have ha := hf (by omega)
      rw [if_neg (nI_ne0 (by omega) (by omega)), if_neg e0, x8 (by omega), ob_nI (show w (59 + k) < 8 by omega) (by decide), nI_clamp (show w (59 + k) < 2 ^ 31 by omega)]
      by_cases e1 : w (47 + k) = 1
      · rw [if_pos (by rw [e1]; rfl), if_pos e1, ob_nI (show p - pr w k < 25 by omega) (by decide), nI_clamp (by omega), hT _ ha _ (by omega)]
      · have hb := hs (by omega)
        have hne : ¬ nI (w (47 + k)) = (1 : Int32) := fun q => e1 ((nI_eq (b := 1) (by omega) (by decide)).mp q)
        rw [if_neg hne, if_neg e1, x9 (by omega), ob_nI (show w (71 + k) < 8 by omega) (by decide), ob_nI (show w (59 + k) < 8 by omega) (by decide), nI_clamp (show w (71 + k) < 2 ^ 31 by omega), ways_eq (f := T (w (59 + k))) (g := T (w (71 + k))) (by omega) (fun q hq => hT _ ha q (by omega)) (fun q hq => hT _ hb q (by omega)) (fun q => hle _ q) (fun q => hle _ q) hF]
        rfl
theorem addTo_eq {M : mv_M} {w : Nat → Nat} {c : Nat → Nat} {b p x : Nat} (h0 : M.1 1 0 = nI (w 0)) (h8 : w 0 ≤ 8) (hb : b < 2 ^ 31) (hp : p ≤ 24) (hc : ∀ t, t < w 0 → M.2 (73 + t) p = lN (c t)) (hcle : ∀ t, c t ≤ 1000000000) (hx : x ≤ 1000000000) (hF : 30 < F) : ∃ M' : mv_M, fX2_addTo F M (nI b) (nI p) (lN x) = some M' ∧ M'.1 = M.1 ∧ (∀ i j, ¬ (73 ≤ i ∧ i ≤ 80 ∧ j = p) → M'.2 i j = M.2 i j) ∧ ∀ t, t < w 0 → M'.2 (73 + t) p = lN (if bt b t = 1 then mC (c t + x) else c t) := by
  unfold fX2_addTo
  rw [let_eq]
  refine lp_rule2 (fun n s => ∃ M' : mv_M, s = (nI n, M') ∧ M'.1 = M.1 ∧ (∀ i j, ¬ (73 ≤ i ∧ i ≤ 80 ∧ j = p) → M'.2 i j = M.2 i j) ∧ (∀ t, t < n → M'.2 (73 + t) p = lN (if bt b t = 1 then mC (c t + x) else c t)) ∧ ∀ t, n ≤ t → t < w 0 → M'.2 (73 + t) p = lN (c t)) (w 0) (fun G => ∃ M' : mv_M, G = some M' ∧ M'.1 = M.1 ∧ (∀ i j, ¬ (73 ≤ i ∧ i ≤ 80 ∧ j = p) → M'.2 i j = M.2 i j) ∧ ∀ t, t < w 0 → M'.2 (73 + t) p = lN (if bt b t = 1 then mC (c t + x) else c t)) ?_ F 0 (0, M) ⟨M, by rw [nI_0], rfl, fun _ _ _ => rfl, fun t ht => absurd ht (by omega), fun t _ ht => hc t ht⟩ (by omega) (by omega)
  rintro n s f hn ⟨M', rfl, g2, g3, g4, g5⟩
  unfold bX2_addTo_3
  simp only [let_eq]
  rw [g2, h0]
  by_cases e : n = w 0
  · left
    rw [if_pos (nI_le (by omega) (by omega))]
    exact ⟨M', rfl, g2, g3, fun t ht => g4 t (by omega)⟩
  · right
    have hn' : n < w 0 := by omega
    rw [if_neg (nI_ge hn' (by omega)), bt_of hb (by omega)]
    rcases bt_01 b n with e1 | e1
    · refine ⟨hn', (nI (n + 1), M'), ⟨M', rfl, g2, g3, fun t ht => ?_, fun t h1 h2 => g5 t (by omega) h2⟩, ?_⟩
      · by_cases et : t = n
        · subst et; rw [e1, if_neg (by omega)]; exact g5 t (by omega) hn'
        · exact g4 t (by omega)
      · rw [e1, if_pos nI_0, nI_1]
    · have h1 := hcle n
      refine ⟨hn', (nI (n + 1), mv_wL M' (73 + n) p (lN (mC (c n + x)))), ⟨_, rfl, g2, fun i j hi => ?_, fun t ht => ?_, fun t h1 h2 => ?_⟩, ?_⟩
      · rw [wL_ne (by omega)]; exact g3 i j hi
      · by_cases et : t = n
        · subst et; rw [wL_eq, e1, if_pos rfl]
        · rw [wL_ne (by omega)]; exact g4 t (by omega)
      · rw [wL_ne (by omega)]; exact g5 t (by omega) h2
      · have ob : ∀ {α : Type} (G : Option α), mv_ob (nI n) 8 G = G := fun G => ob_nI (by omega) (by decide)
        have ob' : ∀ {α : Type} (G : Option α), mv_ob (nI p) 25 G = G := fun G => ob_nI (by omega) (by decide)
        rw [e1, if_neg (by decide), ob, ob, ob', ob', nI_clamp (by omega), nI_clamp (by omega), g5 n (by omega) hn', lN_add, minC (by omega), nI_1]
theorem countPrice_eq {M : mv_M} {w : Nat → Nat} {p : Nat} (h : RX M 1 2 w) (hw : WF w) (hp1 : 1 ≤ p) (hp : p ≤ 24) (hT : tyT M w (ct w (w 2)) p) (hF : 30 < F) : ∃ M' : mv_M, fX2_countPrice F M (nI p) = some M' ∧ M'.1 = M.1 ∧ (∀ i j, ¬ (((73 ≤ i ∧ i ≤ 80) ∨ (60 ≤ i ∧ i ≤ 71)) ∧ j = p) → M'.2 i j = M.2 i j) ∧ (∀ t, t < w 0 → M'.2 (73 + t) p = lN (ct w (w 2) t p)) ∧ ∀ k, k < w 1 → M'.2 (60 + k) p = lN (hb w k p) := by
  have h8 := hw.1
  have h12 := hw.2.1
  unfold fX2_countPrice
  rw [let_eq, let_eq]
  have obp : ∀ {α : Type} (G : Option α), mv_ob (nI p) 25 G = G := fun G => ob_nI (by omega) (by decide)
  have clp : (nI p).toNatClampNeg = p := nI_clamp (by omega)
  refine lp_rule2 (fun n s => ∃ M' : mv_M, s = (nI n, M') ∧ M'.1 = M.1 ∧ (∀ i j, ¬ (((73 ≤ i ∧ i ≤ 80) ∨ (60 ≤ i ∧ i ≤ 71)) ∧ j = p) → M'.2 i j = M.2 i j) ∧ ∀ t, t < n → M'.2 (73 + t) p = lN 0) (w 0) (fun G => ∃ M' : mv_M, G = some M' ∧ M'.1 = M.1 ∧ (∀ i j, ¬ (((73 ≤ i ∧ i ≤ 80) ∨ (60 ≤ i ∧ i ≤ 71)) ∧ j = p) → M'.2 i j = M.2 i j) ∧ (∀ t, t < w 0 → M'.2 (73 + t) p = lN (ct w (w 2) t p)) ∧ ∀ k, k < w 1 → M'.2 (60 + k) p = lN (hb w k p)) ?_ F 0 (0, M) ⟨M, by rw [nI_0], rfl, fun _ _ _ => rfl, fun t ht => absurd ht (by omega)⟩ (by omega) (by omega)
  rintro n s f hn ⟨M1, rfl, g2, g3, g4⟩
  unfold bX2_countPrice_2
  simp only [let_eq]
  rw [g2, h.1]
  by_cases e : n = w 0
  case neg =>
    right
    have hn' : n < w 0 := by omega
    refine ⟨hn', (nI (n + 1), mv_wL M1 (73 + n) p 0), ⟨_, rfl, g2, fun i j hi => ?_, fun t ht => ?_⟩, ?_⟩
    · rw [wL_ne (by omega)]; exact g3 i j hi
    · by_cases et : t = n
      · subst et; rw [wL_eq]; rfl
      · rw [wL_ne (by omega)]; exact g4 t (by omega)
    · rw [if_neg (nI_ge hn' (by omega)), ob_nI (show n < 8 by omega) (by decide), obp, nI_clamp (by omega), clp, nI_1]
  left
  subst e
  rw [if_pos (nI_le (Nat.le_refl _) (by omega))]
  refine lp_rule2 (fun m s => ∃ M' : mv_M, s = (nI m, M') ∧ M'.1 = M.1 ∧ (∀ i j, ¬ (((73 ≤ i ∧ i ≤ 80) ∨ (60 ≤ i ∧ i ≤ 71)) ∧ j = p) → M'.2 i j = M.2 i j) ∧ (∀ t, t < w 0 → M'.2 (73 + t) p = lN (mC (sm (fun k => gdW (ct w (w 2)) w (w 2) t k p) m))) ∧ ∀ k, k < m → M'.2 (60 + k) p = lN (hb w k p)) (w 1) (fun G => ∃ M' : mv_M, G = some M' ∧ M'.1 = M.1 ∧ (∀ i j, ¬ (((73 ≤ i ∧ i ≤ 80) ∨ (60 ≤ i ∧ i ≤ 71)) ∧ j = p) → M'.2 i j = M.2 i j) ∧ (∀ t, t < w 0 → M'.2 (73 + t) p = lN (ct w (w 2) t p)) ∧ ∀ k, k < w 1 → M'.2 (60 + k) p = lN (hb w k p)) ?_ F 0 (0, M1) ⟨M1, by rw [nI_0], g2, g3, fun t ht => g4 t ht, fun k hk => absurd hk (by omega)⟩ (by omega) (by omega)
  rintro m s f hm ⟨M2, rfl, k2, k3, k4, k5⟩
  unfold bX2_countPrice_30
  simp only [let_eq]
  rw [k2, h.2.1]
  by_cases em : m = w 1
  · left
    subst em
    rw [if_pos (nI_le (Nat.le_refl _) (by omega))]
    exact ⟨M2, rfl, k2, k3, fun t ht => by rw [k4 t ht, ct_eq hw _ _ _ hp1], k5⟩
  · right
    have hm' : m < w 1 := by omega
    have hX2 : RX M2 1 2 w := RX_fr (M := M) (fun i j _ => by rw [k2]) h
    obtain ⟨-, hgv, -⟩ := hw.2.2.2.2.2 m hm'
    have x5 : M2.1 5 m = nI (w (23 + m)) := (hX2.2.2.2.2 m hm').2.1
    have x3 : M2.1 3 (w (23 + m)) = nI (ofb w (w (23 + m))) := (hX2.2.2.2.1 _ hgv).2
    have obm : ∀ {α : Type} (G : Option α), mv_ob (nI m) 12 G = G := fun G => ob_nI (by omega) (by decide)
    have clm : (nI m).toNatClampNeg = m := nI_clamp (by omega)
    rw [if_neg (nI_ge hm' (by omega)), fX7_isHidden_eq hX2 hw hm', bi_some]
    simp only [obm, clm, obp, clp]
    have hT2 : tyT M2 w (ct w (w 2)) p := fun t ht q hq => by rw [k3 _ _ (by omega)]; exact hT t ht q hq
    have hmw := manyWith_eq (F := F) hX2 hw hm' hp hT2 (fun t q => ct_le _ _ t q) hF
    have hbv : (if nI (bt (w 2) m) = 0 then mv_bl (fX2_manyWith F M2 (nI m) (nI p)) (fun v18 M17 => (fun s9 : Int64 × mv_M => (if (lg_cmp s9.1 (0 : Int64)) ≤ 0 then f (nI m + 1, mv_wL s9.2 (60 + m) p s9.1) else mv_ob ((mv_wL s9.2 (60 + m) p s9.1).1 5 m) 8 (mv_bv (fX2_addTo F (mv_wL s9.2 (60 + m) p s9.1) ((mv_wL s9.2 (60 + m) p s9.1).1 3 ((mv_wL s9.2 (60 + m) p s9.1).1 5 m).toNatClampNeg) (nI p) s9.1) (fun M15 => f (nI m + 1, M15))))) (v18, M17)) else (fun s9 : Int64 × mv_M => (if (lg_cmp s9.1 (0 : Int64)) ≤ 0 then f (nI m + 1, mv_wL s9.2 (60 + m) p s9.1) else mv_ob ((mv_wL s9.2 (60 + m) p s9.1).1 5 m) 8 (mv_bv (fX2_addTo F (mv_wL s9.2 (60 + m) p s9.1) ((mv_wL s9.2 (60 + m) p s9.1).1 3 ((mv_wL s9.2 (60 + m) p s9.1).1 5 m).toNatClampNeg) (nI p) s9.1) (fun M15 => f (nI m + 1, M15))))) ((0 : Int64), M2)) = (fun s9 : Int64 × mv_M => (if (lg_cmp s9.1 (0 : Int64)) ≤ 0 then f (nI m + 1, mv_wL s9.2 (60 + m) p s9.1) else mv_ob ((mv_wL s9.2 (60 + m) p s9.1).1 5 m) 8 (mv_bv (fX2_addTo F (mv_wL s9.2 (60 + m) p s9.1) ((mv_wL s9.2 (60 + m) p s9.1).1 3 ((mv_wL s9.2 (60 + m) p s9.1).1 5 m).toNatClampNeg) (nI p) s9.1) (fun M15 => f (nI m + 1, M15))))) (lN (hb w m p), M2) := by
      unfold hb
      rcases bt_01 (w 2) m with e | e
      · rw [e, if_pos nI_0, hmw, bl_some, if_neg (by omega)]
      · rw [e, if_neg (by decide), if_pos rfl]; rfl
    have hble : hb w m p ≤ 1000000000 := by
      unfold hb; split
      · omega
      · exact hd_le _ _ _ _
    refine ⟨hm', ?_⟩
    obtain ⟨M3, a1, a2, a3, a4⟩ := addTo_eq (F := F) (M := mv_wL M2 (60 + m) p (lN (hb w m p))) (w := w) (c := fun t => mC (sm (fun k => gdW (ct w (w 2)) w (w 2) t k p) m)) (b := ofb w (w (23 + m))) (p := p) (x := hb w m p) (by rw [wL_1, k2]; exact h.1) h8 (Nat.lt_of_lt_of_le (ofb_lt hw.2.2.2.2.1 _ hgv) (Nat.pow_le_pow_right (by omega) (by omega))) hp (fun t ht => by rw [wL_ne (by omega)]; exact k4 t ht) (fun t => mC_le _) hble hF
    have hsum : ∀ t, sm (fun k => gdW (ct w (w 2)) w (w 2) t k p) (m + 1) = sm (fun k => gdW (ct w (w 2)) w (w 2) t k p) m + (if bt (ofb w (w (23 + m))) t = 1 then hb w m p else 0) := fun t => by
      refine congrArg (sm (fun k => gdW (ct w (w 2)) w (w 2) t k p) m + ·) ?_
      show gdW (ct w (w 2)) w (w 2) t m p = _
      unfold gdW hb
      rcases bt_01 (w 2) m with e | e
      · rw [if_neg (show ¬ bt (w 2) m = 1 by omega), if_neg (show ¬ bt (w 2) m = 1 by omega)]
      · rw [if_pos e, if_pos e]; split <;> rfl
    by_cases hz : hb w m p = 0
    · refine ⟨(nI (m + 1), mv_wL M2 (60 + m) p (lN (hb w m p))), ⟨_, rfl, k2, fun i j hi => ?_, fun t ht => ?_, fun k hk => ?_⟩, ?_⟩
      · rw [wL_ne (by omega)]; exact k3 i j hi
      · rw [wL_ne (by omega), k4 t ht, hsum, hz]
        split <;> rfl
      · by_cases ek : k = m
        · subst ek; rw [wL_eq]
        · rw [wL_ne (by omega)]; exact k5 k (by omega)
      · refine Eq.trans hbv ?_
        show (if (lg_cmp (lN (hb w m p)) (0 : Int64)) ≤ 0 then _ else _) = _
        rw [if_pos, nI_1]
        rw [hz]; decide
    · refine ⟨(nI (m + 1), M3), ⟨_, rfl, by rw [a2, wL_1]; exact k2, fun i j hi => ?_, fun t ht => ?_, fun k hk => ?_⟩, ?_⟩
      · rw [a3 _ _ (by omega), wL_ne (by omega)]; exact k3 i j hi
      · rw [a4 t ht, hsum]
        split
        · rw [mC_add]
        · rfl
      · rw [a3 _ _ (by omega)]
        by_cases ek : k = m
        · subst ek; rw [wL_eq]
        · rw [wL_ne (by omega)]; exact k5 k (by omega)
      · refine Eq.trans hbv ?_
        show (if (lg_cmp (lN (hb w m p)) (0 : Int64)) ≤ 0 then _ else _) = _
        rw [if_neg]
        · rw [wL_1, x5, nI_clamp (by omega), x3, ob_nI (show w (23 + m) < 8 by omega) (by decide), a1, bv_some, nI_1]
        · rw [cmp_le, pk_lT (by omega)]
          show ¬ ((hb w m p : Nat) : Int) ≤ 0
          omega
/-- counted -/
def cnt8 (w : Nat → Nat) (M M' : mv_M) : Prop := M'.1 58 1 = 1 ∧ tabs M' w ∧ zer M' ∧ (∀ i j, ¬ (i = 58 ∧ j = 1) → M'.1 i j = M.1 i j) ∧ ∀ i j, ¬ (60 ≤ i ∧ i ≤ 80) → M'.2 i j = M.2 i j
theorem countAll_eq {M : mv_M} {w : Nat → Nat} (h : RX M 1 2 w) (hw : WF w) (ht : tab w M) (hF : 30 < F) : ∃ M' : mv_M, fX2_countAll F M = some M' ∧ cnt8 w M M' := by
  have h8 := hw.1
  have h12 := hw.2.1
  obtain ⟨hz, hs⟩ := ht
  unfold fX2_countAll
  rcases hs with hs | ⟨hs, hs2⟩
  case inr =>
    rw [hs, it1]
    exact ⟨M, rfl, hs, hs2, hz, fun _ _ _ => rfl, fun _ _ _ => rfl⟩
  rw [hs, it0, let_eq]
  refine lp_rule2 (fun n s => ∃ M' : mv_M, s = (nI (n + 1), M') ∧ M'.1 = M.1 ∧ (∀ i j, ¬ (60 ≤ i ∧ i ≤ 80 ∧ 1 ≤ j) → M'.2 i j = M.2 i j) ∧ ∀ p, p ≤ n → (∀ t, t < w 0 → M'.2 (73 + t) p = lN (ct w (w 2) t p)) ∧ ∀ k, k < w 1 → M'.2 (60 + k) p = lN (hb w k p)) 24 (fun G => ∃ M' : mv_M, G = some M' ∧ cnt8 w M M') ?_ F 0 (1, M) ⟨M, rfl, rfl, fun _ _ _ => rfl, fun p hp => ?_⟩ (by omega) (by omega)
  · rintro n s f hn ⟨M1, rfl, g2, g3, g4⟩
    unfold bX2_countAll_10
    dsimp only
    by_cases e : n = 24
    · left
      subst e
      rw [if_pos (by decide), let_eq]
      refine ⟨_, rfl, wI_eq, fun p hp => g4 p hp, ⟨fun t ht => ?_, fun k hk => ?_, fun p hp => ?_⟩, fun i j hi => by rw [wI_ne hi, g2], fun i j hi => ?_⟩
      · rw [wI_2, g3 _ _ (by omega)]; exact hz.1 t ht
      · rw [wI_2, g3 _ _ (by omega)]; exact hz.2.1 k hk
      · rw [wI_2, g3 _ _ (by omega)]; exact hz.2.2 p hp
      · rw [wI_2, g3 _ _ (by omega)]
    · right
      have hX1 : RX M1 1 2 w := RX_fr (M := M) (fun i j _ => by rw [g2]) h
      obtain ⟨M2, k1, k2, k3, k4, k5⟩ := countPrice_eq (F := F) hX1 hw (p := n + 1) (by omega) (by omega) (fun t ht q hq => (g4 q (by omega)).1 t ht) hF
      refine ⟨by omega, (nI (n + 1 + 1), M2), ⟨M2, rfl, k2.trans g2, fun i j hi => ?_, fun p hp => ?_⟩, ?_⟩
      · rw [k3 _ _ (by omega), g3 _ _ hi]
      · by_cases ep : p = n + 1
        · subst ep; exact ⟨k4, k5⟩
        · refine ⟨fun t ht => ?_, fun k hk => ?_⟩
          · rw [k3 _ _ (by omega)]; exact (g4 p (by omega)).1 t ht
          · rw [k3 _ _ (by omega)]; exact (g4 p (by omega)).2 k hk
      · show (if (24 : Int32) < nI (n + 1) then _ else mv_bv (fX2_countPrice F M1 (nI (n + 1))) _) = _
        rw [if_neg (show ¬ (24 : Int32) < nI (n + 1) from nI_nlt (a := 24) (by omega) (by decide)), k1, bv_some, let_eq, nI_1]
  · have hp0 : p = 0 := by omega
    subst hp0
    refine ⟨fun t ht => ?_, fun k hk => ?_⟩
    · rw [hz.1 t (by omega), ct_0]; rfl
    · rw [hz.2.1 k (by omega)]
      have : hb w k 0 = 0 := by
        unfold hb
        rw [hd_0 hw _ hk]
        split <;> rfl
      rw [this]; rfl
end TAB8
