/-! THE REFERENCE COUNTS -/
section TAB9
variable {F : Nat}
theorem cut_eq {M : mv_M} {x : Nat} (h : x < 2 ^ 63) : fX9_cut F M (lN x) = some (lN (mC x), M) := by
  unfold fX9_cut mC
  by_cases e : 1000000000 < x
  · rw [if_neg, if_pos e, big_C]
    rw [cmp_le, big_C, pk_lT h, pk_lT (by decide)]; omega
  · rw [if_pos, if_neg e]
    rw [cmp_le, big_C, pk_lT h, pk_lT (by decide)]; omega
theorem RM_1 {M M' : mv_M} {p : Nat} {w : Nat → Nat} (h : M'.1 = M.1) (hr : RM M p w) : RM M' p w := fun j hj => by rw [h]; exact hr j hj
/-- the reference's table below a price -/
def tyR (M : mv_M) (w : Nat → Nat) (T : Nat → Nat → Nat) (n : Nat) : Prop := ∀ t, t < w 0 → ∀ q, q < n → M.2 7 (25 * t + q) = lN (T t q)
theorem headed_eq {M : mv_M} {w : Nat → Nat} {T : Nat → Nat → Nat} {k p : Nat} (h : RM M 0 w) (hw : WF w) (hk : k < w 1) (hp : p ≤ 24) (hT : tyR M w T p) (hle : ∀ t q, T t q ≤ 1000000000) (hT0 : ∀ t, T t 0 = 0) (hF : 30 < F) : fX9_headed F M (nI k) (nI p) = some (lN (hdW T w k p), M) := by
  have h12 := hw.2.1
  have h8 := hw.1
  obtain ⟨hp1, hp27⟩ := pr_pos hw hk
  obtain ⟨-, -, -, htk, -, -, hf, hs⟩ := hw.2.2.2.2.2 k hk
  unfold fX9_headed
  rw [fX9_priceOf_eq h hw hk, bi_some, let_eq]
  unfold hdW
  by_cases e : p < pr w k
  · have hneg := pk_sneg (a := p) (b := pr w k) (by omega) e
    rw [if_pos hneg, if_pos e, if_neg]
    · rfl
    · intro q; rw [q] at hneg; exact absurd hneg (by decide)
  rw [pk_sub (by omega), if_neg (nI_pos (by omega)), if_neg e, ob_add (ai := (47 : Int32)) (a := 47) rfl (by omega), cl_add (ai := (47 : Int32)) (a := 47) rfl (by omega), RM_at h (by omega)]
  by_cases e0 : w (47 + k) = 0
  · rw [if_pos (by rw [e0]; rfl), if_pos e0]
    by_cases ep : p = pr w k
    · rw [if_pos (by rw [ep, Nat.sub_self]; rfl), if_pos ep]; rfl
    · rw [if_neg (nI_ne0 (by omega) (by omega)), if_neg ep]; rfl
  have ha := hf (by omega)
  rw [if_neg (nI_ne0 (by omega) (by omega)), if_neg e0, ob_add (ai := (59 : Int32)) (a := 59) rfl (by omega), cl_add (ai := (59 : Int32)) (a := 59) rfl (by omega), RM_at h (by omega), let_eq, ob_add (ai := (47 : Int32)) (a := 47) rfl (by omega)]
  have e25 : ∀ a q : Nat, ((25 : Int32) * nI a) + nI q = nI (25 * a + q) := fun a q => by rw [show (25 : Int32) = nI 25 from rfl, pk_mul, nI_add]
  by_cases e1 : w (47 + k) = 1
  · rw [if_pos (by rw [e1]; rfl), if_pos e1, e25, ob_nI (show 25 * w (59 + k) + (p - pr w k) < 200 by omega) (by decide), nI_clamp (by omega), hT _ ha _ (by omega)]
  have hb := hs (by omega)
  have hne : ¬ nI (w (47 + k)) = (1 : Int32) := fun q => e1 ((nI_eq (b := 1) (by omega) (by decide)).mp q)
  rw [if_neg hne, if_neg e1, ob_add (ai := (71 : Int32)) (a := 71) rfl (by omega), cl_add (ai := (71 : Int32)) (a := 71) rfl (by omega), RM_at h (by omega), let_eq, let_eq, let_eq]
  generalize hl : p - pr w k = l
  have hl24 : l < p := by omega
  refine lp_rule2 (fun i s => s = (lN (mC (sm (fun q => T (w (59 + k)) q * T (w (71 + k)) (l - q)) (i + 1))), nI (i + 1), M)) (l - 1) (fun G => G = some (lN (mC (cv (T (w (59 + k))) (T (w (71 + k))) l)), M)) ?_ F 0 (0, 1, M) ?_ (by omega) (by omega)
  · rintro i s f hi rfl
    unfold bX9_headed_88
    dsimp only
    by_cases ei : l ≤ i + 1
    · left
      rw [if_pos (nI_le ei (by omega))]
      have : sm (fun q => T (w (59 + k)) q * T (w (71 + k)) (l - q)) (i + 1) = cv (T (w (59 + k))) (T (w (71 + k))) l := by
        unfold cv
        by_cases e0 : l = 0
        · subst e0; rw [show i = 0 by omega]
        · rw [show i + 1 = l by omega]
          show _ = sm _ l + T (w (59 + k)) l * T (w (71 + k)) (l - l)
          rw [Nat.sub_self, hT0, Nat.mul_zero, Nat.add_zero]
      rw [this]
    · right
      refine ⟨by omega, _, rfl, ?_⟩
      have e3 : (((25 : Int32) * nI (w (71 + k))) + nI l) - nI (i + 1) = nI (25 * w (71 + k) + (l - (i + 1))) := by
        rw [e25, pk_sub (by omega)]; exact congrArg nI (by omega)
      have hm := mul18 (hle (w (59 + k)) (i + 1)) (hle (w (71 + k)) (l - (i + 1)))
      have hc1 := mC_le (sm (fun q => T (w (59 + k)) q * T (w (71 + k)) (l - q)) (i + 1))
      have hc2 := mC_le (T (w (59 + k)) (i + 1) * T (w (71 + k)) (l - (i + 1)))
      rw [if_neg (nI_ge (by omega) (by omega)), e25, ob_nI (show 25 * w (59 + k) + (i + 1) < 200 by omega) (by decide), e3, ob_nI (show 25 * w (71 + k) + (l - (i + 1)) < 200 by omega) (by decide), nI_clamp (by omega), nI_clamp (by omega), hT _ ha _ (by omega), hT _ hb _ (by omega), lN_mul, cut_eq (by omega), bl_some, lN_add, cut_eq (by omega), bl_some, let_eq, let_eq, nI_1, mC_addr, mC_add]
      rfl
  · have : sm (fun q => T (w (59 + k)) q * T (w (71 + k)) (l - q)) (0 + 1) = 0 := by
      show 0 + T (w (59 + k)) 0 * _ = 0
      rw [hT0, Nat.zero_mul]
    rw [this]; rfl
theorem layT {M : mv_M} {w : Nat → Nat} {c : Nat → Nat} {k p x : Nat} {M8 M5 : mv_M} (f9 : Int32 × mv_M → Option mv_M) (h : RM M 0 w) (hw : WF w) (hk : k < w 1) (hp : p ≤ 24) (hc : ∀ t, t < w 0 → M.2 7 (25 * t + p) = lN (c t)) (hcle : ∀ t, c t ≤ 1000000000) (hx : x ≤ 1000000000) (hF : 30 < F) : ∃ M' : mv_M, mv_lp (bX9_layWays_65 (nI k, M8) f9 (lN x) F (nI p, M5)) F (0, M) = f9 (nI (k + 1), M') ∧ M'.1 = M.1 ∧ (∀ i j, ¬ (i = 7 ∧ ∃ t, t < w 0 ∧ j = 25 * t + p) → M'.2 i j = M.2 i j) ∧ ∀ t, t < w 0 → M'.2 7 (25 * t + p) = lN (if bt (ofb w (w (23 + k))) t = 1 then mC (c t + x) else c t) := by
  have h12 := hw.2.1
  have h8 := hw.1
  obtain ⟨-, hgv, -⟩ := hw.2.2.2.2.2 k hk
  have e25 : ∀ a q : Nat, ((25 : Int32) * nI a) + nI q = nI (25 * a + q) := fun a q => by rw [show (25 : Int32) = nI 25 from rfl, pk_mul, nI_add]
  refine lp_rule2 (fun n s => ∃ M' : mv_M, s = (nI n, M') ∧ M'.1 = M.1 ∧ (∀ i j, ¬ (i = 7 ∧ ∃ t, t < w 0 ∧ j = 25 * t + p) → M'.2 i j = M.2 i j) ∧ (∀ t, t < n → M'.2 7 (25 * t + p) = lN (if bt (ofb w (w (23 + k))) t = 1 then mC (c t + x) else c t)) ∧ ∀ t, n ≤ t → t < w 0 → M'.2 7 (25 * t + p) = lN (c t)) (w 0) (fun G => ∃ M' : mv_M, G = f9 (nI (k + 1), M') ∧ M'.1 = M.1 ∧ (∀ i j, ¬ (i = 7 ∧ ∃ t, t < w 0 ∧ j = 25 * t + p) → M'.2 i j = M.2 i j) ∧ ∀ t, t < w 0 → M'.2 7 (25 * t + p) = lN (if bt (ofb w (w (23 + k))) t = 1 then mC (c t + x) else c t)) ?_ F 0 (0, M) ⟨M, by rw [nI_0], rfl, fun _ _ _ => rfl, fun t ht => absurd ht (by omega), fun t _ ht => hc t ht⟩ (by omega) (by omega)
  rintro n s f hn ⟨M', rfl, g2, g3, g4, g5⟩
  have hM' : RM M' 0 w := RM_1 g2 h
  unfold bX9_layWays_65
  dsimp only
  rw [ob_0, cl_0, RM_at hM' (by decide)]
  by_cases e : n = w 0
  · left
    rw [if_pos (nI_le (by omega) (by omega)), let_eq, nI_1]
    exact ⟨M', rfl, g2, g3, fun t ht => g4 t (by omega)⟩
  have hn' : n < w 0 := by omega
  rw [if_neg (nI_ge hn' (by omega))]
  by_cases ex : x = 0
  · left
    subst ex
    rw [if_pos (by decide), let_eq, nI_1]
    refine ⟨M', rfl, g2, g3, fun t ht => ?_⟩
    by_cases et : t < n
    · exact g4 t et
    · rw [g5 t (by omega) ht, Nat.add_zero, mC_self (hcle t)]
      split <;> rfl
  right
  have hneg : ¬ lg_cmp (lN x) (0 : Int64) ≤ 0 := by
    rw [cmp_le, pk_lT (by omega)]
    show ¬ ((x : Nat) : Int) ≤ 0
    omega
  have ob : ∀ {α : Type} (G : Option α), mv_ob (nI (25 * n + p)) 200 G = G := fun G => ob_nI (by omega) (by decide)
  rw [if_neg hneg, ob_add (ai := (23 : Int32)) (a := 23) rfl (by omega), cl_add (ai := (23 : Int32)) (a := 23) rfl (by omega), RM_at hM' (by omega), fX9_isOf_eq hM' hw hgv (by omega) (by omega), bi_some, e25, ob, ob, nI_clamp (show 25 * n + p < 2 ^ 31 by omega)]
  have hcn := hcle n
  rcases bt_01 (ofb w (w (23 + k))) n with eb | eb
  · refine ⟨hn', (nI (n + 1), mv_wL M' 7 (25 * n + p) (M'.2 7 (25 * n + p))), ⟨_, rfl, g2, fun i j hi => ?_, fun t ht => ?_, fun t h1 h2 => ?_⟩, ?_⟩
    · rw [wL_ne (fun q => hi ⟨q.1, n, hn', q.2⟩)]; exact g3 i j hi
    · by_cases et : t = n
      · subst et; rw [wL_eq, g5 t (by omega) hn', eb, if_neg (by omega)]
      · rw [wL_ne (by omega)]; exact g4 t (by omega)
    · rw [wL_ne (by omega)]; exact g5 t (by omega) h2
    · rw [eb, nI_0, it0, let_eq, let_eq, nI_1]
  · refine ⟨hn', (nI (n + 1), mv_wL M' 7 (25 * n + p) (lN (mC (c n + x)))), ⟨_, rfl, g2, fun i j hi => ?_, fun t ht => ?_, fun t h1 h2 => ?_⟩, ?_⟩
    · rw [wL_ne (fun q => hi ⟨q.1, n, hn', q.2⟩)]; exact g3 i j hi
    · by_cases et : t = n
      · subst et; rw [wL_eq, eb, if_pos rfl]
      · rw [wL_ne (by omega)]; exact g4 t (by omega)
    · rw [wL_ne (by omega)]; exact g5 t (by omega) h2
    · rw [eb, show nI 1 = (1 : Int32) from rfl, it1, g5 n (by omega) hn', lN_add, cut_eq (by omega), bl_some, ob, let_eq, let_eq, nI_1]
      exact ob _
theorem layK {M : mv_M} {w : Nat → Nat} {h p : Nat} {M5 : mv_M} (f6 : Int32 × mv_M → Option mv_M) (hM : RM M 0 w) (hw : WF w) (hh : h < 2 ^ 31) (hp1 : 1 ≤ p) (hp : p ≤ 24) (hT : tyR M w (ct w h) p) (hz : ∀ t, t < w 0 → M.2 7 (25 * t + p) = lN 0) (hF : 30 < F) : ∃ M' : mv_M, mv_lp (bX9_layWays_32 (nI p, M5) f6 F (nI h)) F (0, M) = f6 (nI (p + 1), M') ∧ M'.1 = M.1 ∧ (∀ i j, ¬ (i = 7 ∧ ∃ t, t < w 0 ∧ j = 25 * t + p) → M'.2 i j = M.2 i j) ∧ ∀ t, t < w 0 → M'.2 7 (25 * t + p) = lN (ct w h t p) := by
  have h12 := hw.2.1
  have h8 := hw.1
  refine lp_rule2 (fun m s => ∃ M' : mv_M, s = (nI m, M') ∧ M'.1 = M.1 ∧ (∀ i j, ¬ (i = 7 ∧ ∃ t, t < w 0 ∧ j = 25 * t + p) → M'.2 i j = M.2 i j) ∧ ∀ t, t < w 0 → M'.2 7 (25 * t + p) = lN (mC (sm (fun k => gdW (ct w h) w h t k p) m))) (w 1) (fun G => ∃ M' : mv_M, G = f6 (nI (p + 1), M') ∧ M'.1 = M.1 ∧ (∀ i j, ¬ (i = 7 ∧ ∃ t, t < w 0 ∧ j = 25 * t + p) → M'.2 i j = M.2 i j) ∧ ∀ t, t < w 0 → M'.2 7 (25 * t + p) = lN (ct w h t p)) ?_ F 0 (0, M) ⟨M, by rw [nI_0], rfl, fun _ _ _ => rfl, hz⟩ (by omega) (by omega)
  rintro m s f hm ⟨M2, rfl, k2, k3, k4⟩
  have hM2 : RM M2 0 w := RM_1 k2 hM
  unfold bX9_layWays_32
  dsimp only
  rw [ob_1, cl_1, RM_at hM2 (by decide)]
  by_cases em : m = w 1
  · left
    subst em
    rw [if_pos (nI_le (Nat.le_refl _) (by omega)), let_eq, nI_1]
    exact ⟨M2, rfl, k2, k3, fun t ht => by rw [k4 t ht, ct_eq hw _ _ _ hp1]⟩
  right
  have hm' : m < w 1 := by omega
  have hT2 : tyR M2 w (ct w h) p := fun t ht q hq => by
    rw [k3 _ _ (fun z => by obtain ⟨-, t', h1, h2⟩ := z; omega)]; exact hT t ht q hq
  have hx : (if bt h m = 1 then 0 else hdW (ct w h) w m p) ≤ 1000000000 := by
    split
    · omega
    · exact hd_le _ _ _ _
  obtain ⟨M3, a1, a2, a3, a4⟩ := layT (F := F) (M := M2) (c := fun t => mC (sm (fun k => gdW (ct w h) w h t k p) m)) (x := if bt h m = 1 then 0 else hdW (ct w h) w m p) (M8 := M2) (M5 := M5) f hM2 hw hm' hp k4 (fun t => mC_le _) hx hF
  refine ⟨hm', (nI (m + 1), M3), ⟨M3, rfl, a2.trans k2, fun i j hi => ?_, fun t ht => ?_⟩, ?_⟩
  · rw [a3 _ _ hi, k3 _ _ hi]
  · rw [a4 t ht]
    have hsum : sm (fun k => gdW (ct w h) w h t k p) (m + 1) = sm (fun k => gdW (ct w h) w h t k p) m + (if bt (ofb w (w (23 + m))) t = 1 then (if bt h m = 1 then 0 else hdW (ct w h) w m p) else 0) := by
      refine congrArg (sm (fun k => gdW (ct w h) w h t k p) m + ·) ?_
      show gdW (ct w h) w h t m p = _
      unfold gdW
      by_cases e : bt h m = 1
      · rw [if_pos e, if_pos e]; split <;> rfl
      · rw [if_neg e, if_neg e]
    rw [hsum]
    split
    · rw [mC_add]
    · rfl
  · rw [if_neg (nI_ge hm' (by omega)), fX9_has_eq hh (by omega), bi_some, let_eq]
    rcases bt_01 h m with e | e
    · rw [e, nI_0, it0, headed_eq hM2 hw hm' hp hT2 (fun t q => ct_le _ _ t q) (fun t => ct_0 _ _ t) hF, bl_some]
      rw [e, if_neg (by omega)] at a1
      exact a1
    · rw [e, show nI 1 = (1 : Int32) from rfl, it1]
      rw [e, if_pos rfl] at a1
      exact a1
theorem layWays_eq {M : mv_M} {w : Nat → Nat} {h : Nat} (hM : RM M 0 w) (hw : WF w) (hh : h < 2 ^ 31) (hF : 300 < F) : ∃ M' : mv_M, fX9_layWays F M (nI h) = some M' ∧ M'.1 = M.1 ∧ (∀ i j, i ≠ 7 → M'.2 i j = M.2 i j) ∧ ∀ t, t < w 0 → ∀ p, p ≤ 24 → M'.2 7 (25 * t + p) = lN (ct w h t p) := by
  have h8 := hw.1
  unfold fX9_layWays
  rw [let_eq, let_eq]
  refine lp_rule2 (fun n s => ∃ M' : mv_M, s = (nI n, M') ∧ M'.1 = M.1 ∧ (∀ i j, i ≠ 7 → M'.2 i j = M.2 i j) ∧ ∀ q, q < n → M'.2 7 q = lN 0) 200 (fun G => ∃ M' : mv_M, G = some M' ∧ M'.1 = M.1 ∧ (∀ i j, i ≠ 7 → M'.2 i j = M.2 i j) ∧ ∀ t, t < w 0 → ∀ p, p ≤ 24 → M'.2 7 (25 * t + p) = lN (ct w h t p)) ?_ F 0 (0, M) ⟨M, by rw [nI_0], rfl, fun _ _ _ => rfl, fun t ht => absurd ht (by omega)⟩ (by omega) (by omega)
  rintro n s f hn ⟨M1, rfl, g2, g3, g4⟩
  unfold bX9_layWays_2
  dsimp only
  by_cases e : n = 200
  case neg =>
    right
    refine ⟨by omega, (nI (n + 1), mv_wL M1 7 n 0), ⟨_, rfl, g2, fun i j hi => ?_, fun q hq => ?_⟩, ?_⟩
    · rw [wL_ne (by omega)]; exact g3 i j hi
    · by_cases eq : q = n
      · subst eq; rw [wL_eq]; rfl
      · rw [wL_ne (by omega)]; exact g4 q (by omega)
    · rw [if_neg (show ¬ (200 : Int32) ≤ nI n from nI_ge (b := 200) (by omega) (by decide)), ob_nI (show n < 200 by omega) (by decide), nI_clamp (by omega), let_eq, let_eq, nI_1]
  left
  subst e
  rw [if_pos (show (200 : Int32) ≤ nI 200 from nI_le (Nat.le_refl _) (by decide)), let_eq]
  refine lp_rule2 (fun n s => ∃ M' : mv_M, s = (nI (n + 1), M') ∧ M'.1 = M.1 ∧ (∀ i j, i ≠ 7 → M'.2 i j = M.2 i j) ∧ (∀ t, t < w 0 → ∀ p, p ≤ n → M'.2 7 (25 * t + p) = lN (ct w h t p)) ∧ ∀ t, t < w 0 → ∀ p, n < p → p ≤ 24 → M'.2 7 (25 * t + p) = lN 0) 24 (fun G => ∃ M' : mv_M, G = some M' ∧ M'.1 = M.1 ∧ (∀ i j, i ≠ 7 → M'.2 i j = M.2 i j) ∧ ∀ t, t < w 0 → ∀ p, p ≤ 24 → M'.2 7 (25 * t + p) = lN (ct w h t p)) ?_ F 0 (1, M1) ⟨M1, rfl, g2, g3, fun t ht p hp => ?_, fun t ht p _ hp => g4 _ (by omega)⟩ (by omega) (by omega)
  · rintro n s f hn ⟨M2, rfl, k2, k3, k4, k5⟩
    unfold bX9_layWays_24
    dsimp only
    by_cases e : n = 24
    · left
      subst e
      rw [if_pos (by decide)]
      exact ⟨M2, rfl, k2, k3, k4⟩
    · right
      obtain ⟨M3, a1, a2, a3, a4⟩ := layK (F := F) (M := M2) (h := h) (p := n + 1) (M5 := M2) f (RM_1 k2 hM) hw hh (by omega) (by omega) (fun t ht q hq => k4 t ht q (by omega)) (fun t ht => k5 t ht (n + 1) (by omega) (by omega)) (by omega)
      refine ⟨by omega, (nI (n + 1 + 1), M3), ⟨M3, rfl, a2.trans k2, fun i j hi => ?_, fun t ht p hp => ?_, fun t ht p h1 h2 => ?_⟩, ?_⟩
      · rw [a3 _ _ (fun z => hi z.1), k3 _ _ hi]
      · by_cases ep : p = n + 1
        · subst ep; exact a4 t ht
        · rw [a3 _ _ (fun z => by obtain ⟨-, t', h1, h2⟩ := z; omega)]; exact k4 t ht p (by omega)
      · rw [a3 _ _ (fun z => by obtain ⟨-, t', h1, h2⟩ := z; omega)]; exact k5 t ht p (by omega) h2
      · rw [if_neg (show ¬ (24 : Int32) < nI (n + 1) from nI_nlt (a := 24) (by omega) (by decide)), let_eq]
        exact a1
  · have hp0 : p = 0 := by omega
    subst hp0
    rw [ct_0]; exact g4 _ (by omega)
/-- the reference's scratch is no part of what is common -/
theorem kpM.of1 {M M' : mv_M} (h : M'.1 = M.1) : kpM M M' := fun i j _ => by rw [h]
theorem kpX.of1 {M M' : mv_M} (h : ∀ i j, ¬ (i = 58 ∧ j = 1) → M'.1 i j = M.1 i j) : kpX M M' := fun i j hl => h i j (by unfold LvX at hl; omega)
theorem tab.of {w : Nat → Nat} {M M' : mv_M} (h : cnt8 w M M') : tab w M' := ⟨h.2.2.1, Or.inr ⟨h.1, h.2.1⟩⟩
theorem big_T : (999999999 : Int64) = lN 999999999 := by decide
theorem minT {x : Nat} (h : x < 2 ^ 63) : (if (999999999 : Int64) < lN x then (999999999 : Int64) else lN x).toInt32 = nI (if 999999999 < x then 999999999 else x) := by
  rw [big_T]
  by_cases e : 999999999 < x
  · rw [if_pos ((pk_lLT (by decide) h).mpr e), if_pos e, lN_i]
  · rw [if_neg (fun q => e ((pk_lLT (by decide) h).mp q)), if_neg e, lN_i]
theorem toldOf_eq {M : mv_M} {x : Nat} (h : x < 2 ^ 63) : fX9_toldOf F M (lN x) = some (nI (if 999999999 < x then 999999999 else x), M) := by
  unfold fX9_toldOf
  by_cases e : 999999999 < x
  · rw [if_neg, if_pos e]
    · rfl
    · rw [cmp_le, big_T, pk_lT h, pk_lT (by decide)]; omega
  · rw [if_pos, if_neg e, lN_i]
    rw [cmp_le, big_T, pk_lT h, pk_lT (by decide)]; omega
theorem hid_lt {w : Nat → Nat} (hw : WF w) : w 2 < 2 ^ 31 := Nat.lt_of_lt_of_le hw.2.2.1 (Nat.pow_le_pow_right (by omega) (by have := hw.2.1; omega))
theorem ps_many (hF : 300 < F) (a1 a2 : Int32) : ps_ok Sim (fun M => fX8_many F M a1 a2) (fun M => fX9_many F M a1 a2) := by
  rintro MX MM ⟨w, hc, ht⟩
  show ∃ (r : Int32) (MX' MM' : mv_M), fX8_many F MX a1 a2 = some (r, MX') ∧ fX9_many F MM a1 a2 = some (r, MM') ∧ Sim MX' MM'
  obtain ⟨hw, hX, hM, -⟩ := id hc
  have h8 := hw.1
  unfold fX8_many fX9_many
  rcases ix_cases a1 (show w 0 < 2 ^ 31 by omega) with h | ⟨t, ht', rfl⟩
  · exact ⟨-1000001, MX, MM, by rw [fX7_hasType_out hX h, bi_some, it0], by rw [fX9_isType_out hM hw h, bi_some, it0], w, hc, ht⟩
  rw [fX7_hasType_in hX hw ht', bi_some, it1, fX9_isType_in hM hw ht', bi_some, it1]
  rcases rg_cases a2 1 24 with h | h
  · exact ⟨-1000001, MX, MM, by rw [rg_out h], by rw [in_out (L := 1) (H := 24) (by decide) (by decide) h, bi_some, it0], w, hc, ht⟩
  rw [rg_in h, in_in (L := 1) (H := 24) (by decide) (by decide) h, bi_some, it1]
  obtain ⟨p, hp1, hp24, rfl⟩ := rg_nat (lo := 1) (hi := 24) rfl rfl (by decide) (by decide) h
  obtain ⟨MX1, g1, g2⟩ := countAll_eq (F := F) hX hw ht (by omega)
  obtain ⟨MM1, k1, k2, k3, k4⟩ := layWays_eq (F := F) (h := w 2) hM hw (hid_lt hw) hF
  have hle := ct_le w (w 2) t p
  refine ⟨nI (if 999999999 < ct w (w 2) t p then 999999999 else ct w (w 2) t p), MX1, MM1, ?_, ?_, w, core_fr hc (kpX.of1 g2.2.2.2.1) (kpM.of1 k2), tab.of g2⟩
  · unfold fX2_manyOfPrice
    rw [g1, bv_some, ob_nI (show t < 8 by omega) (by decide), ob_nI (show p < 25 by omega) (by decide), nI_clamp (by omega), nI_clamp (by omega), (g2.2.1 p hp24).1 t ht', minT (by omega), bi_some]
  · have e25 : ((25 : Int32) * nI t) + nI p = nI (25 * t + p) := by rw [show (25 : Int32) = nI 25 from rfl, pk_mul, nI_add]
    rw [ob_2, cl_2, RM_at hM (by decide), k1, bv_some, e25, ob_nI (show 25 * t + p < 200 by omega) (by decide), nI_clamp (by omega), k4 t ht' p hp24, toldOf_eq (by omega), bi_some]
end TAB9
