/-! PLACE -/
def stP (w : Nat → Nat) (c : Nat → Nat) (t : Nat) : Nat → List Nat
  | 0 => [t]
  | e + 1 => tk w (c e) ++ (stP w c t e).tail
theorem stP_stk (w c : Nat → Nat) (t : Nat) : ∀ e, stP w c t (e + 1) = stk w c (e + 1) := by
  intro e
  induction e with
  | zero => rfl
  | succ e ih =>
    show tk w (c (e + 1)) ++ (stP w c t (e + 1)).tail = tk w (c (e + 1)) ++ (stk w c (e + 1)).tail
    rw [ih]
def lf (w c : Nat → Nat) (p e : Nat) : Nat := p - sm (fun e => pr w (c e)) e
/-- what comes ahead by the member at e -/
def pq (w c : Nat → Nat) (t p e m : Nat) : Nat := sm (fun k => wy w (w 2) k ((stP w c t e).headD 0) (stP w c t e).tail (lf w c p e)) m
def pa (w c : Nat → Nat) (t p e : Nat) : Nat := sm (ct w (w 2) t) p + sm (fun e => pq w c t p e (c e)) e
/-- a code that is walked -/
def PF (w c : Nat → Nat) (t p n : Nat) : Prop := ∀ e, e < n → c e < w 1 ∧ ∃ u s, stP w c t e = u :: s ∧ u < w 0 ∧ s.length ≤ 24 ∧ (tk w (c e) ++ s).length ≤ 24 ∧ pr w (c e) ≤ lf w c p e
theorem lf_succ (w c : Nat → Nat) (p e : Nat) : lf w c p (e + 1) = lf w c p e - pr w (c e) := by
  show p - (sm (fun e => pr w (c e)) e + pr w (c e)) = p - sm (fun e => pr w (c e)) e - pr w (c e)
  omega
theorem pa_succ (w c : Nat → Nat) (t p e : Nat) : pa w c t p (e + 1) = pa w c t p e + pq w c t p e (c e) := by
  show sm (ct w (w 2) t) p + (sm (fun e => pq w c t p e (c e)) e + pq w c t p e (c e)) = sm (ct w (w 2) t) p + sm (fun e => pq w c t p e (c e)) e + pq w c t p e (c e)
  omega
theorem stk_back {w c : Nat → Nat} {n : Nat} (hn : stk w c n = []) : ∀ d, d ≤ n → (stk w c (n - d)).length ≤ d := by
  intro d
  induction d with
  | zero => intro _; rw [Nat.sub_zero, hn]; exact Nat.le_refl _
  | succ d ih =>
    intro hd
    have h1 := ih (by omega)
    have e : n - d = (n - (d + 1)) + 1 := by omega
    rw [e] at h1
    have h1 : (tk w (c (n - (d + 1))) ++ (stk w c (n - (d + 1))).tail).length ≤ d := h1
    rw [List.length_append, tail_len] at h1
    omega
theorem PF_of {w : Nat → Nat} (hw : WF w) {cd : Nat → Int32} {t n : Nat} (ht : t < w 0) (hn1 : 1 ≤ n) (hn : n ≤ 24) (hwh : Wh w cd n) : PF w (cN cd) t (sm (fun e => pr w (cN cd e)) n) n := by
  intro e he
  obtain ⟨o1, o2, o3, o4⟩ := hwh.1 e he
  have hlt : ∀ i, i < e → cN cd i < w 1 := fun i hi => (hwh.1 i (by omega)).1
  have hpr : pr w (cN cd e) ≤ lf w (cN cd) (sm (fun e => pr w (cN cd e)) n) e := by
    unfold lf
    have h1 : sm (fun e => pr w (cN cd e)) (e + 1) ≤ sm (fun e => pr w (cN cd e)) n := sm_mono (by omega)
    have h2 : sm (fun e => pr w (cN cd e)) (e + 1) = sm (fun e => pr w (cN cd e)) e + pr w (cN cd e) := rfl
    omega
  have hb := stk_back hwh.2 (n - (e + 1)) (by omega)
  rw [show n - (n - (e + 1)) = e + 1 by omega] at hb
  have hb : (tk w (cN cd e) ++ (stk w (cN cd) e).tail).length ≤ n - (e + 1) := hb
  refine ⟨o1, ?_⟩
  cases e with
  | zero => exact ⟨t, [], rfl, ht, Nat.zero_le _, by have hb : (tk w (cN cd 0) ++ []).length ≤ n - 1 := hb; omega, hpr⟩
  | succ e =>
    rcases o4 with q | ⟨u, s, q, -⟩
    · omega
    · have hs := stk_back hwh.2 (n - (e + 1)) (by omega)
      rw [show n - (n - (e + 1)) = e + 1 by omega, q] at hs
      have hs : s.length + 1 ≤ n - (e + 1) := hs
      rw [q] at hb
      have hb : (tk w (cN cd (e + 1)) ++ s).length ≤ n - (e + 1 + 1) := hb
      exact ⟨u, s, by rw [stP_stk]; exact q, stk_T hw (e + 1) hlt u (by rw [q]; exact List.mem_cons_self), by omega, by omega, hpr⟩
theorem pa_le {w c : Nat → Nat} {t p n : Nat} (hp : p ≤ 24) (hn : n ≤ 24) (hc : ∀ e, e < n → c e ≤ 12) (e : Nat) (he : e ≤ n) : pa w c t p e ≤ 1000000000000 := by
  unfold pa
  have h1 : sm (ct w (w 2) t) p ≤ p * 1000000000 := sm_bd (fun i _ => ct_le _ _ _ _)
  have h2 : sm (fun e => pq w c t p e (c e)) e ≤ e * 12000000000 := sm_bd (fun i hi => by
    have h3 : pq w c t p i (c i) ≤ c i * 1000000000 := sm_bd (fun k _ => wy_le _ _ _ _ _ _)
    have h4 := hc i (by omega)
    have h5 : c i * 1000000000 ≤ 12 * 1000000000 := Nat.mul_le_mul_right _ h4
    omega)
  have h3 : p * 1000000000 ≤ 24 * 1000000000 := Nat.mul_le_mul_right _ hp
  have h4 : e * 12000000000 ≤ 24 * 12000000000 := Nat.mul_le_mul_right _ (by omega)
  omega
section PLACE
variable {F : Nat} {w : Nat → Nat}
theorem place8 {M : mv_M} {c : Nat → Nat} {t p n : Nat} (hX : RX M 1 2 w) (hw : WF w) (htab : tab w M) (ht : t < w 0) (hp1 : 1 ≤ p) (hp : p ≤ 24) (hn : n ≤ 24) (hc : ∀ e, e < n → M.1 110 e = nI (c e)) (hPF : PF w c t p n) (hF : 30 < F) : ∃ M' : mv_M, fX2_placeOf F M (nI t) 110 (nI n) (nI p) = some (if pa w c t p n < 999999999 then nI (pa w c t p n) else -1000000, M') ∧ kpX M M' ∧ tab w M' := by
  have h8 := hw.1
  have h12 := hw.2.1
  obtain ⟨M1, a1, a2⟩ := manyBelow_eq (F := F) (p := p) hX hw htab ht hp1 (by omega) hF
  obtain ⟨c1, c2, c3, c4, c5⟩ := id a2
  have hX1 : RX M1 1 2 w := RX_fr (M := M) (fun i j hi => c4 i j (by omega)) hX
  have h60 : (mv_wI M1 58 6 0).1 58 6 = nI ([] : List Nat).length := wI_eq
  obtain ⟨M2, b1, b2, b3, b4, b5, b6⟩ := want_eq (F := F) (M := mv_wI M1 58 6 0) (s := []) (t := t) (by decide) h60 trivial
  have f01 : fr8 M1 (mv_wI M1 58 6 0) := ⟨fun i j h1 _ _ => wI_ne h1, fun _ _ _ _ => rfl⟩
  have f02 := f01.tr b3
  unfold fX2_placeOf
  rw [a1, bl_some, let_eq, let_eq, let_eq, b1, bv_some, let_eq, let_eq]
  have hcle : ∀ e, e < n → c e ≤ 12 := fun e he => by have := (hPF e he).1; omega
  have hfin : ∀ M' : mv_M, fr8 M1 M' → kpX M M' ∧ tab w M' := fun M' hf => ⟨(kpX.of1 c4).tr (kpX.of8 hf), tab.of8 hw hf (tab.of a2)⟩
  refine lp_rule2 (fun e st => ∃ M' : mv_M, st = (lN (pa w c t p e), nI (lf w c p e), nI e, M') ∧ fr8 M1 M' ∧ inv8 M' w (stP w c t e) (lf w c p e)) n (fun G => ∃ M' : mv_M, G = some (if pa w c t p n < 999999999 then nI (pa w c t p n) else -1000000, M') ∧ kpX M M' ∧ tab w M') ?_ F 0 _ ⟨M2, ?_, f02, RX_f8 f02 hX1, tabs_fr ⟨h8, h12⟩ f02.2 c2, b4, b5, fun q hq => ?_⟩ (by omega) (by omega)
  · rintro e st f he ⟨M', rfl, g1, gX, gT, g6, grep, grst⟩
    unfold bX2_placeOf_26
    dsimp only
    by_cases ee : e = n
    · left
      subst ee
      rw [if_pos (nI_le (Nat.le_refl _) (by omega))]
      have hpa := pa_le (w := w) (c := c) (t := t) hp hn hcle e (Nat.le_refl _)
      obtain ⟨q1, q2⟩ := hfin M' g1
      by_cases cc : pa w c t p e < 999999999
      · rw [if_neg, if_pos cc, lN_i]
        · exact ⟨M', rfl, q1, q2⟩
        · rw [cmp_ge, big_T, pk_lT (by omega), pk_lT (by omega)]; omega
      · rw [if_pos, if_neg cc]
        · exact ⟨M', rfl, q1, q2⟩
        · rw [cmp_ge, big_T, pk_lT (by omega), pk_lT (by omega)]; omega
    right
    have he' : e < n := by omega
    obtain ⟨o1, u, s, hst, hu, hs24, hl24, hpr⟩ := hPF e he'
    have hlf : lf w c p e ≤ 24 := by unfold lf; omega
    rw [hst] at g6 grep grst
    have g6 : M'.1 58 6 = nI (s.length + 1) := g6
    have hpop : nI (s.length + 1) - 1 = nI s.length := nI_pred s.length
    have hce : ∀ M'' : mv_M, fr8 M1 M'' → M''.1 110 e = nI (c e) := fun M'' hf => by rw [hf.1 _ _ (by omega) (by omega) (by omega), c4 _ _ (by omega)]; exact hc e he'
    have f1 : fr8 M' (mv_wI M' 58 6 (nI s.length)) := ⟨fun i j h1 _ _ => wI_ne h1, fun _ _ _ _ => rfl⟩
    have r1 : rst (mv_wI M' 58 6 (nI s.length)) w (lf w c p e) s := rst_fr (M := M') (Nat.le_refl _) (fun i j _ _ => rfl) grst
    have w107 : (mv_wI M' 58 6 (nI s.length)).1 107 s.length = nI u := by rw [wI_ne (by omega)]; exact grep.1
    have x1 : RX (mv_wI M' 58 6 (nI s.length)) 1 2 w := RX_f8 f1 gX
    have t1 : tabs (mv_wI M' 58 6 (nI s.length)) w := tabs_fr ⟨h8, h12⟩ f1.2 gT
    have s6 : (mv_wI M' 58 6 (nI s.length)).1 58 6 = nI s.length := wI_eq
    have rep1 : rep ((mv_wI M' 58 6 (nI s.length)).1 107) s := rep_congr (f := M'.1 107) (fun q _ => wI_ne (by omega)) grep.2
    rw [if_neg (nI_ge he' (by omega)), g6, if_neg (nI_nle (by omega) (by omega)), hpop, let_eq, let_eq, let_eq]
    generalize mv_wI M' 58 6 (nI s.length) = M3 at f1 r1 w107 x1 t1 s6 rep1
    have g13 := g1.tr f1
    obtain ⟨M4, k1, k2, k3, k4, k5⟩ := wantTaken_eq (F := F) (M := M3) (s := s) (m := c e) (l := lf w c p e - pr w (c e)) x1 hw t1 o1 (by omega) hl24 s6 rep1 (rst_fr (M := M3) (by omega) (fun i j _ _ => rfl) r1) hF
    refine ⟨he', (lN (pa w c t p (e + 1)), nI (lf w c p (e + 1)), nI (e + 1), M4), ⟨M4, rfl, g13.tr k2, ?_⟩, ?_⟩
    · rw [lf_succ]
      show inv8 M4 w (tk w (c e) ++ (stP w c t e).tail) _
      rw [hst]; exact k3
    refine lp_rule2 (fun m st => st = (lN (pa w c t p e + pq w c t p e m), nI m, M3)) (c e) (fun G => G = f (lN (pa w c t p (e + 1)), nI (lf w c p (e + 1)), nI (e + 1), M4)) ?_ F 0 _ (by rw [nI_0]; rfl) (by omega) (by omega)
    rintro m st f2 hm rfl
    unfold bX2_placeOf_52
    dsimp only
    rw [ob_nI (show e < 24 by omega) (by decide), nI_clamp (show e < 2 ^ 31 by omega), hce M3 g13]
    by_cases em : m = c e
    · left
      rw [em, if_pos (nI_le (Nat.le_refl _) (by omega)), ob_nI (show e < 24 by omega) (by decide), fX7_priceOf_eq x1 hw o1, bi_some, let_eq, ob_nI (show e < 24 by omega) (by decide), hce M3 g13, pk_sub hpr, k1, bv_some, let_eq, nI_1, lf_succ, pa_succ]
    · right
      refine ⟨by omega, _, rfl, ?_⟩
      rw [if_neg (nI_ge (by omega) (by omega)), s6, ob_nI (show s.length < 25 by omega) (by decide), nI_clamp (show s.length < 2 ^ 31 by omega), w107, waysWith_eq (F := F) x1 hw t1 (show m < w 1 by omega) hu hlf hs24 s6 r1 hF, bl_some, let_eq, let_eq, nI_1, lN_add]
      have hpq : pq w c t p e (m + 1) = pq w c t p e m + wy w (w 2) m u s (lf w c p e) := by
        show pq w c t p e m + wy w (w 2) m ((stP w c t e).headD 0) (stP w c t e).tail (lf w c p e) = _
        rw [hst]; rfl
      rw [hpq, Nat.add_assoc]
  · rw [nI_0]; rfl
  · rw [b2, wI_2, c3.2.2 q hq]; rfl
theorem place9 {M : mv_M} {c : Nat → Nat} {t p n o : Nat} (hw : WF w) (hM : RM M 0 w) (hT : tbR M w) (ht : t < w 0) (hp1 : 1 ≤ p) (hp : p ≤ 24) (hn : n ≤ 24) (ho : o + n ≤ 320) (h19 : M.1 0 19 = nI p) (hc : ∀ e, e < n → M.1 5 (o + e) = nI (c e)) (hPF : PF w c t p n) (hF : 30 < F) : ∃ M' : mv_M, fX9_placeOf F M (nI t) (nI o) (nI n) = some (lN (mC (pa w c t p n)), M') ∧ fra M M' := by
  have h8 := hw.1
  have h12 := hw.2.1
  unfold fX9_placeOf
  rw [let_eq, let_eq, let_eq]
  refine lp_rule2 (fun i st => st = (lN (mC (sm (ct w (w 2) t) (i + 1))), nI (i + 1), M)) (p - 1) (fun G => ∃ M' : mv_M, G = some (lN (mC (pa w c t p n)), M') ∧ fra M M') ?_ F 0 (0, 1, M) ?_ (by omega) (by omega)
  · rintro i st f hi rfl
    unfold bX9_placeOf_6
    dsimp only
    rw [h19]
    by_cases e : i + 1 = p
    case neg =>
      right
      refine ⟨by omega, _, rfl, ?_⟩
      have hc1 := mC_le (sm (ct w (w 2) t) (i + 1))
      have hc2 := ct_le w (w 2) t (i + 1)
      rw [if_neg (nI_ge (by omega) (by omega)), e25, ob_nI (show 25 * t + (i + 1) < 200 by omega) (by decide), nI_clamp (by omega), hT t ht _ (by omega), lN_add, cut_eq (by omega), bl_some, let_eq, let_eq, nI_1, mC_add]
      rfl
    left
    rw [e, if_pos (nI_le (Nat.le_refl _) (by omega)), let_eq]
    obtain ⟨M1, a1, a2, a3⟩ := awaitsFirst_eq (F := F) (t := t) hw hM hT ht hF
    rw [a1, bv_some, let_eq]
    refine lp_rule2 (fun e st => ∃ M' : mv_M, st = (lN (mC (pa w c t p e)), nI (lf w c p e), nI e, M') ∧ fra M M' ∧ inv9 M' w (stP w c t e)) n (fun G => ∃ M' : mv_M, G = some (lN (mC (pa w c t p n)), M') ∧ fra M M') ?_ F 0 _ ⟨M1, by rw [nI_0]; rfl, a2, a3⟩ (by omega) (by omega)
    rintro e st f3 he ⟨M', rfl, g1, gI⟩
    unfold bX9_placeOf_55
    dsimp only
    by_cases ee : e = n
    · left
      subst ee
      rw [if_pos (nI_le (Nat.le_refl _) (by omega))]
      exact ⟨M', rfl, g1⟩
    right
    have he' : e < n := by omega
    obtain ⟨o1, u, s, hst, hu, hs24, hl24, hpr⟩ := hPF e he'
    have hlf : lf w c p e ≤ 24 := by unfold lf; omega
    rw [hst] at gI
    have hce : M'.1 5 (o + e) = nI (c e) := by rw [g1.1 _ _ (by omega) (by omega)]; exact hc e he'
    rw [if_neg (nI_ge he' (by omega)), nI_add, ob_nI (show o + e < 320 by omega) (by decide), nI_clamp (by omega), hce, let_eq, let_eq, let_eq]
    refine ⟨he', ?_⟩
    refine lp_rule2 (fun m st => ∃ M2 : mv_M, st = (lN (mC (pa w c t p e + pq w c t p e m)), nI m, M2) ∧ fra M M2 ∧ inv9 M2 w (u :: s)) (c e) (fun G => ∃ s', (∃ M' : mv_M, s' = (lN (mC (pa w c t p (e + 1))), nI (lf w c p (e + 1)), nI (e + 1), M') ∧ fra M M' ∧ inv9 M' w (stP w c t (e + 1))) ∧ G = f3 s') ?_ F 0 _ ⟨M', by rw [nI_0]; rfl, g1, gI⟩ (by omega) (by omega)
    rintro m st f2 hm ⟨M2, rfl, k1, k2⟩
    unfold bX9_placeOf_75
    dsimp only
    by_cases em : m = c e
    · left
      subst em
      obtain ⟨M3, q1, q2, q3⟩ := gives_eq (F := F) hw k2 o1 (by omega) hF
      refine ⟨(lN (mC (pa w c t p (e + 1))), nI (lf w c p (e + 1)), nI (e + 1), M3), ⟨M3, rfl, k1.tr q2, ?_⟩, ?_⟩
      · show inv9 M3 w (tk w (c e) ++ (stP w c t e).tail)
        rw [hst]; exact q3
      · rw [if_pos (nI_le (Nat.le_refl _) (by omega)), fX9_priceOf_eq k2.1 hw o1, bi_some, let_eq, pk_sub hpr, q1, bv_some, let_eq, nI_1, lf_succ, pa_succ]
    · right
      obtain ⟨M3, q1, q2, q3⟩ := goesOn_eq (F := F) (k := m) hw k2 (by omega) hu (by omega) hlf hF
      have hwl := wy_le w (w 2) m u s (lf w c p e)
      have hml := mC_le (pa w c t p e + pq w c t p e m)
      have hpq : pq w c t p e (m + 1) = pq w c t p e m + wy w (w 2) m u s (lf w c p e) := by
        show pq w c t p e m + wy w (w 2) m ((stP w c t e).headD 0) (stP w c t e).tail (lf w c p e) = _
        rw [hst]; rfl
      refine ⟨by omega, (lN (mC (pa w c t p e + pq w c t p e (m + 1))), nI (m + 1), M3), ⟨M3, rfl, k1.tr q2, q3⟩, ?_⟩
      rw [if_neg (nI_ge (by omega) (by omega)), q1, bl_some, lN_add, cut_eq (by omega), bl_some, let_eq, let_eq, nI_1, mC_add, hpq, Nat.add_assoc]
  · have : sm (ct w (w 2) t) (0 + 1) = 0 := by show 0 + ct w (w 2) t 0 = 0; rw [ct_0]
    rw [this]; rfl
theorem ps_place (hF : 300 < F) (a1 a2 a3 : Int32) : ps_ok Sim (fun M => fX8_place F M a1 a2 a3) (fun M => fX9_place F M a1 a2 a3) := by
  rintro MX MM ⟨w, hc, ht⟩
  show ∃ (r : Int32) (MX' MM' : mv_M), fX8_place F MX a1 a2 a3 = some (r, MX') ∧ fX9_place F MM a1 a2 a3 = some (r, MM') ∧ Sim MX' MM'
  obtain ⟨hw, hX, hM, -⟩ := id hc
  have h8 := hw.1
  have h12 := hw.2.1
  unfold fX8_place fX9_place
  rcases ix_cases a1 (show w 0 < 2 ^ 31 by omega) with h | ⟨t, ht', rfl⟩
  · exact ⟨-1000001, MX, MM, by rw [fX7_hasType_out hX h, bi_some, it0], by rw [fX9_isType_out hM hw h, bi_some, it0], w, hc, ht⟩
  rw [fX7_hasType_in hX hw ht', bi_some, it1, fX9_isType_in hM hw ht', bi_some, it1]
  rcases ix_cases a2 (show 8 < 2 ^ 31 by decide) with h | ⟨r, hr, rfl⟩
  · exact ⟨-1000001, MX, MM, by rw [isRow8_out h, bi_some, it0], by rw [isRow9_out h, bi_some, it0], w, hc, ht⟩
  rw [isRow8_in hr, bi_some, it1, isRow9_in hr, bi_some, it1]
  rcases rg_cases a3 1 24 with h | h3
  · exact ⟨-1000001, MX, MM, by rw [len_out h, bi_some, it0], by rw [in_out (L := 1) (H := 24) (by decide) (by decide) h, bi_some, it0], w, hc, ht⟩
  rw [len_in h3, bi_some, it1, in_in (L := 1) (H := 24) (by decide) (by decide) h3, bi_some, it1]
  obtain ⟨n, hn1, hn24, rfl⟩ := rg_nat (lo := 1) (hi := 24) rfl rfl (by decide) (by decide) h3
  rcases hc.2.2.2.1 r hr with ⟨e1, e2⟩ | ⟨ln, len, l1, l2, e1, e2, e3, e4, e5⟩
  · refine ⟨(-1000010 : Int32) - 1, mv_wI MX 0 10 1, mv_wI MM 0 5 1, ?_, ?_, w, core_st 1 hc, tab_st 1 (by decide) ht⟩
    · unfold fX6_take
      rw [miss_y hr e1, bi_some, it1]; rfl
    · rw [agst_no hr e2, bi_some, let_eq, if_neg (by decide)]; rfl
  rcases pl_cases 0 (nI n) len with h | ⟨i, n', hi0, hnn, hin⟩
  · refine ⟨(-1000010 : Int32) - 2, mv_wI MX 0 10 2, mv_wI MM 0 5 2, ?_, ?_, w, core_st 2 hc, tab_st 2 (by decide) ht⟩
    · unfold fX6_take
      rw [miss_n hr l1 e1, bi_some, it0, hasPl_out hr l2 e3 h, bi_some, it0]; rfl
    · rw [agst_out hr l2 e4 h, bi_some, let_eq, if_neg (by decide)]; rfl
  have hnn' : n = n' := (nI_eq (by omega) (by omega)).mp hnn
  subst hnn'
  have hi0' : 0 = i := (nI_eq (by decide) (by omega)).mp (show nI 0 = nI i by rw [nI_0]; exact hi0)
  subst hi0'
  have htk := take8_in (F := F) (M := MX) (i := 0) hr l1 l2 e1 e3 hin hn24
  have hag := agst_in (F := F) (M := MM) (i := 0) hr l2 e4 hin
  rw [nI_0] at htk hag
  rw [htk, bi_some, let_eq, it0, hag, bi_some, let_eq, if_pos (by decide), let_eq, let_eq]
  have ea : ((40 : Int32) * nI r) = nI (40 * r) := by rw [show (40 : Int32) = nI 40 from rfl, pk_mul]
  rw [ea]
  generalize hMX1 : mv_wI (mv_wA MX 110 (va_cpy (MX.1 (31 + r)) (MX.1 110) 0 0 n)) 109 3 (nI n) = MX1
  have hk1 : ∀ a b, a ≠ 110 → a ≠ 109 → MX1.1 a b = MX.1 a b := fun a b h1 h2 => by rw [← hMX1, wI_ne (by omega), wA_ne h1]
  have hk2 : MX1.2 = MX.2 := by rw [← hMX1]; rfl
  have hX1 : RX MX1 1 2 w := RX_fr (M := MX) (fun a b hi => hk1 a b (by omega) (by omega)) hX
  have hM1 : RM (mv_wI MM 0 5 0) 0 w := RM_fr (M := MM) (fun j _ _ => wI_ne (by omega)) hM
  have hn3 : MX1.1 109 3 = nI n := by rw [← hMX1, wI_eq]
  have hcdX : ∀ e, e < n → MX1.1 110 e = (fun e => MM.1 5 (40 * r + e)) e := fun e he => by
    rw [← hMX1, take8_cd he, e5 _ (by omega)]
    exact congrArg _ (by omega)
  obtain ⟨v, MX2, p1, p2, p3, p4⟩ := isWhole8 (F := F) (M := MX1) (cd := fun e => MM.1 5 (40 * r + e)) (n := n) hX1 hw hn24 hn3 hcdX (by omega)
  obtain ⟨v', MM2, q1, q2, q3, q4⟩ := isWhole9 (F := F) (M := mv_wI MM 0 5 0) (cd := fun e => MM.1 5 (40 * r + e)) (o := 40 * r) (n := n) hM1 hw hn24 (by omega) (fun e he => wI_ne (by omega)) (by omega)
  rw [p1, bi_some, q1, bi_some]
  have hkX2 : kpX MX MX2 := fun a b hl => by rw [p3 _ _ (by unfold LvX at hl; omega), hk1 _ _ (by unfold LvX at hl; omega) (by unfold LvX at hl; omega)]
  have htab2 : tab w MX2 := tab_same (M := MX) (by rw [p2, hk2]) (by rw [p3 _ _ (by decide), hk1 _ _ (by decide) (by decide)]) ht
  have hfin : ∀ MX3 MM3 : mv_M, kpX MX MX3 → tab w MX3 → kpM MM2 MM3 → Sim (mv_wI MX3 0 10 0) MM3 := fun MX3 MM3 z1 z2 z3 => by
    refine ⟨w, core_stat hc (fun a b hl hne => ?_) (fun a b hl hne => ?_) ?_, tab_st 0 (by decide) z2⟩
    · rw [wI_ne hne, z1 a b hl]
    · rw [z3 a b hl, q3 _ _ (by unfold LvM at hl; omega) (by unfold LvM at hl; omega), wI_ne hne]
    · rw [wI_eq, z3 _ _ (by unfold LvM; omega), q3 _ _ (by decide) (by omega), wI_eq]
  have hun : ∀ (M : mv_M) (x : Int32), fX8_unfound F M x = some (x, mv_wI M 0 10 0) := fun M x => rfl
  rcases p4 with ⟨rfl, wh⟩ | ⟨rfl, nwh⟩
  case inr =>
    rcases q4 with ⟨rfl, wh, -⟩ | ⟨rfl, -⟩
    · exact absurd wh nwh
    · exact ⟨-1000000, mv_wI MX2 0 10 0, MM2, by rw [it0, hun, bi_some], by rw [it0], hfin MX2 MM2 hkX2 htab2 (kpM.rf _)⟩
  rcases q4 with ⟨rfl, -, hpr⟩ | ⟨rfl, nwh⟩
  case inr => exact absurd wh nwh
  have hX2 : RX MX2 1 2 w := RX_fr (M := MX1) (fun a b hi => p3 a b (by omega)) hX1
  have hM2 : RM MM2 0 w := RM_fr (M := mv_wI MM 0 5 0) (fun j _ _ => q3 _ _ (by omega) (by omega)) hM1
  have hcX2 : ∀ e, e < n → MX2.1 110 e = nI (cN (fun e => MM.1 5 (40 * r + e)) e) := fun e he => by
    rw [p3 _ _ (by decide), hcdX e he]; exact (wh.1 e he).2.1
  have hcM2 : ∀ e, e < n → MM2.1 5 (40 * r + e) = nI (cN (fun e => MM.1 5 (40 * r + e)) e) := fun e he => by
    rw [q3 _ _ (by decide) (by omega), wI_ne (by omega)]; exact (wh.1 e he).2.1
  have hpt := priceT8 (F := F) (M := MX2) (cd := fun e => MM.1 5 (40 * r + e)) (n := n) hX2 hw hn24 (by rw [p3 _ _ (by decide)]; exact hn3) (fun e he => by rw [p3 _ _ (by decide)]; exact hcdX e he) wh.1 (by omega)
  have hPF := PF_of hw ht' hn1 hn24 wh
  have hlt0 := (wh.1 0 (by omega)).1
  have hpp1 : 1 ≤ sm (fun e => pr w (cN (fun e => MM.1 5 (40 * r + e)) e)) n := by
    have h1 := (pr_pos hw hlt0).1
    have h2 := sm_ge (F := fun e => pr w (cN (fun e => MM.1 5 (40 * r + e)) e)) (n := n) (i := 0) (by omega)
    have h2 : pr w (cN (fun e => MM.1 5 (40 * r + e)) 0) ≤ _ := h2
    omega
  have hpb : sm (fun e => pr w (cN (fun e => MM.1 5 (40 * r + e)) e)) n ≤ n * 27 := sm_bd (fun e he => (pr_pos hw (wh.1 e he).1).2)
  generalize hcf : cN (fun e => MM.1 5 (40 * r + e)) = cf at hcX2 hcM2 hpt hPF hlt0 hpp1 hpr hpb
  generalize hpp : sm (fun e => pr w (cf e)) n = pp at hpt hPF hpp1 hpr hpb
  obtain ⟨-, hgv, -⟩ := hw.2.2.2.2.2 _ hlt0
  have hc0X := hcX2 0 (by omega)
  have hc0M : MM2.1 5 (40 * r) = nI (cf 0) := hcM2 0 (by omega)
  have x5 : MX2.1 5 (cf 0) = nI (w (23 + cf 0)) := (hX2.2.2.2.2 _ hlt0).2.1
  have hgvn : fX6_given F MX2 = some (nI (w (23 + cf 0)), MX2) := by
    unfold fX6_given
    rw [show mv_ob (0 : Int32) 24 _ = _ from if_neg (by decide), cl_0, hc0X, ob_nI (show cf 0 < 12 by omega) (by decide), nI_clamp (by omega), x5]
  rw [it1, it1, hgvn, bi_some, fX7_isOf_eq hX2 hw hgv (by omega), bi_some, hpr]
  have hnle : n * 27 ≤ 24 * 27 := Nat.mul_le_mul_right _ hn24
  have h24 : ∀ {α : Type} (A B : α), (if (24 : Int32) < nI pp then A else B) = (if 24 < pp then A else B) := fun A B => by
    by_cases cc : 24 < pp
    · rw [if_pos (show (24 : Int32) < nI pp from nI_lt (a := 24) cc (by omega)), if_pos cc]
    · rw [if_neg (show ¬ (24 : Int32) < nI pp from nI_nlt (a := 24) (by omega) (by decide)), if_neg cc]
  rw [h24, ob_nI (show 40 * r < 320 by omega) (by decide), nI_clamp (by omega), hc0M, ob_add (ai := (23 : Int32)) (a := 23) rfl (by omega), cl_add (ai := (23 : Int32)) (a := 23) rfl (by omega), RM_at hM2 (by omega), fX9_isOf_eq hM2 hw hgv (by omega) (by omega), bi_some]
  rcases bt_01 (ofb w (w (23 + cf 0))) t with y | y
  · refine ⟨-1000000, mv_wI MX2 0 10 0, MM2, ?_, ?_, hfin MX2 MM2 hkX2 htab2 (kpM.rf _)⟩
    · rw [y, nI_0, it0, hun, bi_some]
    · rw [y, nI_0, it0]
      split <;> rfl
  rw [y, show nI 1 = (1 : Int32) from rfl, it1, it1, hpt, bi_some, let_eq]
  by_cases cc : 24 < pp
  · refine ⟨-1000000, mv_wI MX2 0 10 0, MM2, ?_, ?_, hfin MX2 MM2 hkX2 htab2 (kpM.rf _)⟩
    · rw [if_neg (show ¬ nI pp ≤ (24 : Int32) from nI_ge (a := 24) cc (by omega)), hun, bi_some]
    · rw [if_pos cc]
  rw [if_neg cc, if_pos (show nI pp ≤ (24 : Int32) from nI_le (b := 24) (by omega) (by decide)), ob_2, cl_2, RM_at hM2 (by decide)]
  obtain ⟨MM3, k1, k2, k3, k4⟩ := layWays_eq (F := F) (h := w 2) hM2 hw (hid_lt hw) hF
  obtain ⟨MX3, s1, s2, s3⟩ := place8 (F := F) (M := MX2) (c := cf) (t := t) (p := pp) (n := n) hX2 hw htab2 ht' hpp1 (by omega) hn24 hcX2 hPF (by omega)
  obtain ⟨MM4, r1, r2⟩ := place9 (F := F) (M := MM3) (c := cf) (t := t) (p := pp) (n := n) (o := 40 * r) hw (RM_1 k2 hM2) k4 ht' hpp1 (by omega) hn24 (by omega) (by rw [k2]; exact hpr) (fun e he => by rw [k2]; exact hcM2 e he) hPF (by omega)
  have hpa := pa_le (w := w) (c := cf) (t := t) (p := pp) (n := n) (by omega) hn24 (fun e he => by have := (hPF e he).1; omega) n (Nat.le_refl _)
  have hml := mC_le (pa w cf t pp n)
  have hkM4 : kpM MM2 MM4 := (kpM.of1 k2).tr r2.fr9.kp
  rw [s1, bi_some, hun, bi_some, k1, bv_some, r1, bl_some, let_eq]
  refine ⟨_, _, MM4, rfl, ?_, hfin MX3 MM4 (hkX2.tr s2) s3 hkM4⟩
  by_cases cd : pa w cf t pp n < 999999999
  · rw [if_pos cd, if_pos, lN_i, mC_self (by omega)]
    rw [cmp_lt, big_T, pk_lT (by omega), pk_lT (by decide), mC_self (by omega)]; omega
  · rw [if_neg cd, if_neg]
    rw [cmp_lt, big_T, pk_lT (by omega), pk_lT (by decide)]
    have : 999999999 ≤ mC (pa w cf t pp n) := by unfold mC; split <;> omega
    omega
end PLACE
