/-! THE EXPRESSION AT A PLACE: the reference -/
section RANK9
variable {F : Nat} {w : Nat → Nat}
def tbR (M : mv_M) (w : Nat → Nat) : Prop := ∀ t, t < w 0 → ∀ p, p ≤ 24 → M.2 7 (25 * t + p) = lN (ct w (w 2) t p)
def frs (M : mv_M) (w : Nat → Nat) : List Nat → Prop
  | [] => ∀ p, p ≤ 24 → M.2 9 p = lN (fl w (w 2) [] p)
  | t :: s => (∀ p, p ≤ 24 → M.2 9 (25 * (s.length + 1) + p) = lN (fl w (w 2) (t :: s) p)) ∧ frs M w s
theorem frs_at {M : mv_M} {s : List Nat} (h : frs M w s) : ∀ p, p ≤ 24 → M.2 9 (25 * s.length + p) = lN (fl w (w 2) s p) := by
  cases s with
  | nil =>
    intro p hp
    have := h p hp
    show M.2 9 (25 * 0 + p) = _
    rw [show 25 * 0 + p = p by omega]; exact this
  | cons t s => exact h.1
theorem frs_fr {M M' : mv_M} : ∀ {s : List Nat}, (∀ j, j < 25 * (s.length + 1) → M'.2 9 j = M.2 9 j) → frs M w s → frs M' w s := by
  intro s
  induction s with
  | nil =>
    intro h hr p hp
    rw [h p (by show p < 25 * (0 + 1); omega)]; exact hr p hp
  | cons t s ih =>
    intro h hr
    refine ⟨fun p hp => ?_, ih (fun j hj => h j (by show j < 25 * (s.length + 1 + 1); omega)) hr.2⟩
    rw [h _ (by show _ < 25 * (s.length + 1 + 1); omega)]
    exact hr.1 p hp
theorem frs_app {M : mv_M} {s : List Nat} : ∀ {a : List Nat}, frs M w (a ++ s) → frs M w s := by
  intro a
  induction a with
  | nil => exact fun h => h
  | cons t a ih => exact fun h => ih h.2
theorem rep_app {f : Nat → Int32} {s : List Nat} : ∀ {a : List Nat}, rep f (a ++ s) → rep f s := by
  intro a
  induction a with
  | nil => exact fun h => h
  | cons t a ih => exact fun h => ih h.2
def inv9 (M : mv_M) (w : Nat → Nat) (st : List Nat) : Prop := RM M 0 w ∧ tbR M w ∧ M.1 0 15 = nI st.length ∧ rep (M.1 8) st ∧ frs M w st
def fra (M M' : mv_M) : Prop := (∀ i j, ¬ (i = 0 ∧ j = 15) → i ≠ 8 → M'.1 i j = M.1 i j) ∧ ∀ i j, i ≠ 9 → M'.2 i j = M.2 i j
theorem fra.rf (M : mv_M) : fra M M := ⟨fun _ _ _ _ => rfl, fun _ _ _ => rfl⟩
theorem fra.tr {M M' M'' : mv_M} (h : fra M M') (h' : fra M' M'') : fra M M'' := ⟨fun i j h1 h2 => (h'.1 i j h1 h2).trans (h.1 i j h1 h2), fun i j h1 => (h'.2 i j h1).trans (h.2 i j h1)⟩
theorem RM_fa {M M' : mv_M} (h : fra M M') (hM : RM M 0 w) : RM M' 0 w := RM_fr (M := M) (fun j _ _ => h.1 _ _ (by omega) (by omega)) hM
theorem tbR_fa {M M' : mv_M} (h : ∀ i j, i ≠ 9 → M'.2 i j = M.2 i j) (hT : tbR M w) : tbR M' w := fun t ht p hp => by rw [h _ _ (by omega)]; exact hT t ht p hp
theorem e25 (a q : Nat) : ((25 : Int32) * nI a) + nI q = nI (25 * a + q) := by rw [show (25 : Int32) = nI 25 from rfl, pk_mul, nI_add]
theorem await_eq {M : mv_M} {s : List Nat} {u : Nat} (hw : WF w) (hM : RM M 0 w) (hT : tbR M w) (hu : u < w 0) (hs : s.length ≤ 62) (h15 : M.1 0 15 = nI s.length) (hrep : rep (M.1 8) s) (hfr : frs M w s) (hF : 30 < F) : ∃ M' : mv_M, fX9_await0 F M (nI u) = some M' ∧ fra M M' ∧ inv9 M' w (u :: s) := by
  have h8 := hw.1
  unfold fX9_await0
  rw [h15, ob_nI (show s.length < 64 by omega) (by decide), nI_clamp (by omega), let_eq, let_eq, let_eq, wI_ne (by omega), h15, nI_1]
  have hi0 : fra M (mv_wI (mv_wI M 8 s.length (nI u)) 0 15 (nI (s.length + 1))) := ⟨fun i j h1 h2 => by rw [wI_ne h1, wI_ne (by omega)], fun _ _ _ => rfl⟩
  have hwt : (mv_wI (mv_wI M 8 s.length (nI u)) 0 15 (nI (s.length + 1))).1 0 15 = nI (s.length + 1) := wI_eq
  have hrp : rep ((mv_wI (mv_wI M 8 s.length (nI u)) 0 15 (nI (s.length + 1))).1 8) (u :: s) := rep_push (s := s) hrep (by rw [wI_ne (by omega), wI_eq]) (fun q hq => by rw [wI_ne (by omega), wI_ne (by omega)])
  have h2 : (mv_wI (mv_wI M 8 s.length (nI u)) 0 15 (nI (s.length + 1))).2 = M.2 := rfl
  generalize mv_wI (mv_wI M 8 s.length (nI u)) 0 15 (nI (s.length + 1)) = M1 at hi0 hwt hrp h2
  refine lp_rule2 (fun n st => ∃ M' : mv_M, st = (nI n, M') ∧ M'.1 = M1.1 ∧ (∀ i j, ¬ (i = 9 ∧ 25 * (s.length + 1) ≤ j) → M'.2 i j = M.2 i j) ∧ ∀ p, p < n → M'.2 9 (25 * (s.length + 1) + p) = lN (fl w (w 2) (u :: s) p)) 25 (fun G => ∃ M' : mv_M, G = some M' ∧ fra M M' ∧ inv9 M' w (u :: s)) ?_ F 0 (0, M1) ⟨M1, by rw [nI_0], rfl, fun i j _ => by rw [h2], fun p hp => absurd hp (by omega)⟩ (by omega) (by omega)
  rintro n st f hn ⟨M', rfl, g1, g2, g3⟩
  unfold bX9_await0_22
  dsimp only
  by_cases e : n = 25
  · left
    subst e
    rw [if_pos (by decide)]
    have hfa : fra M M' := ⟨fun i j h1 h2 => by rw [g1]; exact hi0.1 i j h1 h2, fun i j h1 => g2 i j (by omega)⟩
    refine ⟨M', rfl, hfa, RM_fa hfa hM, tbR_fa hfa.2 hT, by rw [g1]; exact hwt, by rw [g1]; exact hrp, fun p hp => g3 p (by omega), frs_fr (M := M) (fun j hj => g2 _ _ (by omega)) hfr⟩
  right
  have hn24 : n ≤ 24 := by omega
  have h15' : M'.1 0 15 = nI (s.length + 1) := by rw [g1]; exact hwt
  refine ⟨by omega, (nI (n + 1), mv_wL M' 9 (25 * (s.length + 1) + n) (lN (fl w (w 2) (u :: s) n))), ⟨_, rfl, g1, fun i j hi => ?_, fun p hp => ?_⟩, ?_⟩
  · rw [wL_ne (by omega)]; exact g2 i j hi
  · by_cases ep : p = n
    · rw [ep, wL_eq]
    · rw [wL_ne (by omega)]; exact g3 p (by omega)
  rw [if_neg (show ¬ (24 : Int32) < nI n from nI_nlt (a := 24) hn24 (by decide)), let_eq, let_eq, let_eq]
  refine lp_rule2 (fun i st => st = (lN (mC (sm (fun q => ct w (w 2) u q * fl w (w 2) s (n - q)) (i + 1))), nI (i + 1), M')) n (fun G => G = f (nI (n + 1), mv_wL M' 9 (25 * (s.length + 1) + n) (lN (fl w (w 2) (u :: s) n)))) ?_ F 0 (0, 1, M') ?_ (by omega) (by omega)
  · rintro i st f13 hi rfl
    unfold bX9_await0_33
    dsimp only
    by_cases ei : i = n
    · left
      subst ei
      rw [if_pos (nI_lt (by omega) (by omega)), h15', e25, ob_nI (show 25 * (s.length + 1) + i < 1650 by omega) (by decide), nI_clamp (by omega), let_eq, let_eq, nI_1]
      rfl
    · right
      refine ⟨by omega, _, rfl, ?_⟩
      have e1 : ((25 : Int32) * (nI (s.length + 1) - 1)) + nI n - nI (i + 1) = nI (25 * s.length + (n - (i + 1))) := by
        rw [nI_pred, e25, pk_sub (by omega)]; exact congrArg nI (by omega)
      have hm := mul18 (ct_le w (w 2) u (i + 1)) (fl_le w (w 2) s (n - (i + 1)))
      have hc1 := mC_le (sm (fun q => ct w (w 2) u q * fl w (w 2) s (n - q)) (i + 1))
      have hc2 := mC_le (ct w (w 2) u (i + 1) * fl w (w 2) s (n - (i + 1)))
      rw [if_neg (nI_nlt (by omega) (by omega)), e25, ob_nI (show 25 * u + (i + 1) < 200 by omega) (by decide), h15', e1, ob_nI (show 25 * s.length + (n - (i + 1)) < 1650 by omega) (by decide), nI_clamp (by omega), nI_clamp (by omega), g2 _ _ (by omega), g2 _ _ (by omega), hT u hu _ (by omega), frs_at hfr _ (by omega), lN_mul, cut_eq (by omega), bl_some, lN_add, cut_eq (by omega), bl_some, let_eq, let_eq, nI_1, mC_addr, mC_add]
      rfl
  · have : sm (fun q => ct w (w 2) u q * fl w (w 2) s (n - q)) (0 + 1) = 0 := by
      show 0 + ct w (w 2) u 0 * _ = 0
      rw [ct_0, Nat.zero_mul]
    rw [this]; rfl
theorem awaitsFirst_eq {M : mv_M} {t : Nat} (hw : WF w) (hM : RM M 0 w) (hT : tbR M w) (ht : t < w 0) (hF : 30 < F) : ∃ M' : mv_M, fX9_awaitsFirst F M (nI t) = some M' ∧ fra M M' ∧ inv9 M' w [t] := by
  unfold fX9_awaitsFirst
  rw [let_eq, let_eq]
  refine lp_rule2 (fun n st => ∃ M' : mv_M, st = (nI n, M') ∧ M'.1 = (mv_wI M 0 15 0).1 ∧ (∀ i j, i ≠ 9 → M'.2 i j = M.2 i j) ∧ ∀ p, p < n → M'.2 9 p = lN (fl w (w 2) [] p)) 25 (fun G => ∃ M' : mv_M, G = some M' ∧ fra M M' ∧ inv9 M' w [t]) ?_ F 0 (0, mv_wI M 0 15 0) ⟨_, by rw [nI_0], rfl, fun _ _ _ => rfl, fun p hp => absurd hp (by omega)⟩ (by omega) (by omega)
  rintro n st f hn ⟨M', rfl, g1, g2, g3⟩
  unfold bX9_awaitsFirst_7
  dsimp only
  have hfa : fra M M' := ⟨fun i j h1 _ => by rw [g1, wI_ne h1], g2⟩
  by_cases e : n = 25
  · left
    subst e
    obtain ⟨M2, a1, a2, a3⟩ := await_eq (F := F) (M := M') (s := []) (u := t) hw (RM_fa hfa hM) (tbR_fa g2 hT) ht (by decide) (by rw [g1, wI_eq]; rfl) trivial (fun p hp => g3 p (by omega)) hF
    rw [if_pos (by decide), a1, bv_some]
    exact ⟨M2, rfl, hfa.tr a2, a3⟩
  right
  rw [if_neg (show ¬ (24 : Int32) < nI n from nI_nlt (a := 24) (by omega) (by decide)), ob_nI (show n < 1650 by omega) (by decide), ob_nI (show n < 1650 by omega) (by decide), nI_clamp (by omega)]
  refine ⟨by omega, (nI (n + 1), mv_wL M' 9 n (lN (if n = 0 then 1 else 0))), ⟨_, rfl, g1, fun i j hi => by rw [wL_ne (by omega)]; exact g2 i j hi, fun p hp => ?_⟩, ?_⟩
  · by_cases ep : p = n
    · rw [ep, wL_eq]; rfl
    · rw [wL_ne (by omega)]; exact g3 p (by omega)
  · by_cases e0 : n = 0
    · rw [if_pos (by rw [e0]; rfl), let_eq, let_eq, nI_1, if_pos e0]; rfl
    · rw [if_neg (nI_ne0 (by omega) (by omega)), let_eq, let_eq, nI_1, if_neg e0]; rfl
theorem gives_end {M : mv_M} {a : Int32} (f : Int32 × mv_M → Option mv_M) : bX9_gives_22 a F f (-1, M) = some M := by
  unfold bX9_gives_22
  dsimp only
  rw [if_pos (by decide)]
theorem gives_0 {M M' : mv_M} {k : Nat} (f : Int32 × mv_M → Option mv_M) (hM : RM M 0 w) (hk : k < 12) (h : fX9_await0 F M (nI (w (59 + k))) = some M') : bX9_gives_22 (nI k) F f (0, M) = f (-1, M') := by
  have i59 : ((59 : Int32) + ((12 : Int32) * 0)) + nI k = nI (59 + k) := by rw [show (59 : Int32) + (12 : Int32) * 0 = nI 59 by decide, nI_add]
  unfold bX9_gives_22
  dsimp only
  rw [if_neg (by decide), i59, ob_nI (show 59 + k < 2324 by omega) (by decide), nI_clamp (by omega), RM_at hM (by omega), h, bv_some, let_eq, show (0 : Int32) + (-1) = -1 by decide]
theorem gives_1 {M M' : mv_M} {k : Nat} (f : Int32 × mv_M → Option mv_M) (hM : RM M 0 w) (hk : k < 12) (h : fX9_await0 F M (nI (w (71 + k))) = some M') : bX9_gives_22 (nI k) F f (1, M) = f (0, M') := by
  have i71 : ((59 : Int32) + ((12 : Int32) * 1)) + nI k = nI (71 + k) := by rw [show (59 : Int32) + (12 : Int32) * 1 = nI 71 by decide, nI_add]
  unfold bX9_gives_22
  dsimp only
  rw [if_neg (by decide), i71, ob_nI (show 71 + k < 2324 by omega) (by decide), nI_clamp (by omega), RM_at hM (by omega), h, bv_some, let_eq, show (1 : Int32) + (-1) = 0 by decide]
theorem gives_eq {M : mv_M} {t k : Nat} {s : List Nat} (hw : WF w) (hI : inv9 M w (t :: s)) (hk : k < w 1) (hs : s.length ≤ 40) (hF : 30 < F) : ∃ M' : mv_M, fX9_gives F M (nI k) = some M' ∧ fra M M' ∧ inv9 M' w (tk w k ++ s) := by
  have h12 := hw.2.1
  have h8 := hw.1
  obtain ⟨hM, hT, h15, hrep, hfr⟩ := hI
  obtain ⟨-, -, -, htk, -, -, hf, hsx⟩ := hw.2.2.2.2.2 k hk
  have h15 : M.1 0 15 = nI (s.length + 1) := h15
  have f1 : fra M (mv_wI M 0 15 (nI s.length)) := ⟨fun i j h1 _ => wI_ne h1, fun _ _ _ => rfl⟩
  have hM1 := RM_fa f1 hM
  have hrep1 : rep ((mv_wI M 0 15 (nI s.length)).1 8) s := rep_congr (f := M.1 8) (fun q _ => wI_ne (by omega)) hrep.2
  have hfr1 : frs (mv_wI M 0 15 (nI s.length)) w s := frs_fr (M := M) (fun j _ => rfl) hfr.2
  have hT1 : tbR (mv_wI M 0 15 (nI s.length)) w := tbR_fa f1.2 hT
  unfold fX9_gives
  rw [h15, nI_pred, let_eq, ob_add (ai := (47 : Int32)) (a := 47) rfl (by omega), cl_add (ai := (47 : Int32)) (a := 47) rfl (by omega), RM_at hM1 (by omega), let_eq]
  obtain ⟨F', hF'⟩ : ∃ F', F = F' + 1 + 1 + 1 := ⟨F - 3, by omega⟩
  have hlp : ∀ (B : (Int32 × mv_M → Option mv_M) → Int32 × mv_M → Option mv_M) (z : Int32 × mv_M), mv_lp B F z = mv_lp B (F' + 1 + 1 + 1) z := fun B z => by rw [hF']
  rw [hlp]
  rcases (show w (47 + k) = 0 ∨ w (47 + k) = 1 ∨ w (47 + k) = 2 by omega) with q | q | q
  · have et : tk w k = [] := by unfold tk; rw [if_pos q]
    rw [q, et, show nI 0 - 1 = (-1 : Int32) by decide, lp_succ, gives_end]
    exact ⟨_, rfl, f1, hM1, hT1, wI_eq, hrep1, hfr1⟩
  · have et : tk w k = [w (59 + k)] := by unfold tk; rw [if_neg (by omega), if_pos q]
    obtain ⟨M2, a1, a2, a3⟩ := await_eq (F := F) (u := w (59 + k)) hw hM1 hT1 (hf (by omega)) (by omega) wI_eq hrep1 hfr1 hF
    rw [q, et, show nI 1 - 1 = (0 : Int32) by decide, lp_succ, gives_0 _ hM1 (by omega) a1, lp_succ, gives_end]
    exact ⟨M2, rfl, f1.tr a2, a3⟩
  · have et : tk w k = [w (59 + k), w (71 + k)] := by unfold tk; rw [if_neg (by omega), if_neg (by omega)]
    obtain ⟨M2, a1, a2, a3⟩ := await_eq (F := F) (u := w (71 + k)) hw hM1 hT1 (hsx (by omega)) (by omega) wI_eq hrep1 hfr1 hF
    obtain ⟨b1, b2, b3, b4, b5⟩ := a3
    obtain ⟨M3, c1, c2, c3⟩ := await_eq (F := F) (u := w (59 + k)) hw b1 b2 (hf (by omega)) (by show s.length + 1 ≤ 62; omega) b3 b4 b5 hF
    rw [q, et, show nI 2 - 1 = (1 : Int32) by decide, lp_succ, gives_1 _ hM1 (by omega) a1, lp_succ, gives_0 _ b1 (by omega) c1, lp_succ, gives_end]
    exact ⟨M3, rfl, f1.tr (a2.tr c2), c3⟩
theorem goesOn_eq {M : mv_M} {t k l : Nat} {s : List Nat} (hw : WF w) (hI : inv9 M w (t :: s)) (hk : k < w 1) (ht : t < w 0) (hs : s.length ≤ 40) (hl : l ≤ 24) (hF : 30 < F) : ∃ M' : mv_M, fX9_goesOn F M (nI k) (nI l) = some (lN (wy w (w 2) k t s l), M') ∧ fra M M' ∧ inv9 M' w (t :: s) := by
  have h12 := hw.2.1
  have h8 := hw.1
  obtain ⟨hM, hT, h15, hrep, hfr⟩ := id hI
  obtain ⟨hp1, hp27⟩ := pr_pos hw hk
  obtain ⟨-, hgv, -, htk, -⟩ := hw.2.2.2.2.2 k hk
  have h15 : M.1 0 15 = nI (s.length + 1) := h15
  have hrt : M.1 8 s.length = nI t := hrep.1
  unfold fX9_goesOn wy
  rw [fX9_priceOf_eq hM hw hk, bi_some, let_eq, h15, nI_pred, ob_nI (show s.length < 64 by omega) (by decide), nI_clamp (by omega), hrt, let_eq]
  by_cases e : l < pr w k
  · rw [if_pos (pk_sneg (by omega) e), if_pos e]
    refine ⟨M, ?_, fra.rf M, hI⟩
    have : (if bt (w 2) k = 1 then 0 else if bt (ofb w (w (23 + k))) t = 1 then 0 else 0) = 0 := by simp
    rw [this]; rfl
  rw [pk_sub (by omega), if_neg (nI_pos (by omega)), ob_2, cl_2, RM_at hM (by decide), fX9_has_eq (hid_lt hw) (by omega), bi_some, if_neg e]
  rcases bt_01 (w 2) k with q | q
  case inr => rw [q, show nI 1 = (1 : Int32) from rfl, it1, if_pos rfl]; exact ⟨M, rfl, fra.rf M, hI⟩
  rw [q, nI_0, it0, if_neg (by decide), ob_add (ai := (23 : Int32)) (a := 23) rfl (by omega), cl_add (ai := (23 : Int32)) (a := 23) rfl (by omega), RM_at hM (by omega), fX9_isOf_eq hM hw hgv (by omega) (by omega), bi_some]
  rcases bt_01 (ofb w (w (23 + k))) t with y | y
  · rw [y, nI_0, it0, if_neg (by decide)]; exact ⟨M, rfl, fra.rf M, hI⟩
  rw [y, show nI 1 = (1 : Int32) from rfl, it1, if_pos rfl]
  obtain ⟨M1, a1, a2, b1, b2, b3, b4, b5⟩ := gives_eq (F := F) hw hI hk hs hF
  have hln : (tk w k ++ s).length = w (47 + k) + s.length := by rw [List.length_append, tk_len hw hk]
  have f2 : fra M1 (mv_wI M1 0 15 (nI s.length)) := ⟨fun i j h1 _ => wI_ne h1, fun _ _ _ => rfl⟩
  obtain ⟨M2, c1, c2, c3⟩ := await_eq (F := F) (M := mv_wI M1 0 15 (nI s.length)) (s := s) (u := t) hw (RM_fa f2 b1) (tbR_fa f2.2 b2) ht (by omega) wI_eq (rep_congr (f := M1.1 8) (fun q _ => wI_ne (by omega)) (rep_app b4)) (frs_fr (M := M1) (fun j _ => rfl) (frs_app b5)) hF
  rw [a1, bv_some, b3, e25, ob_nI (show 25 * (tk w k ++ s).length + (l - pr w k) < 1650 by omega) (by decide), nI_clamp (by omega), frs_at b5 _ (by omega), let_eq, ob_add (ai := (47 : Int32)) (a := 47) rfl (by omega), cl_add (ai := (47 : Int32)) (a := 47) rfl (by omega), RM_at b1 (by omega), hln, pk_sub (by omega), Nat.add_sub_cancel_left, let_eq, c1, bv_some]
  exact ⟨M2, rfl, a2.tr (f2.tr c2), c3⟩
/-- what the reference keeps while it lays a code -/
def fr9 (M M' : mv_M) : Prop := (∀ i j, ¬ (i = 0 ∧ (j = 15 ∨ j = 18 ∨ j = 19)) → i ≠ 8 → i ≠ 10 → M'.1 i j = M.1 i j) ∧ ∀ i j, i ≠ 9 → M'.2 i j = M.2 i j
theorem fr9.rf (M : mv_M) : fr9 M M := ⟨fun _ _ _ _ _ => rfl, fun _ _ _ => rfl⟩
theorem fr9.tr {M M' M'' : mv_M} (h : fr9 M M') (h' : fr9 M' M'') : fr9 M M'' := ⟨fun i j h1 h2 h3 => (h'.1 i j h1 h2 h3).trans (h.1 i j h1 h2 h3), fun i j h1 => (h'.2 i j h1).trans (h.2 i j h1)⟩
theorem fra.fr9 {M M' : mv_M} (h : fra M M') : fr9 M M' := ⟨fun i j h1 h2 _ => h.1 i j (by omega) h2, h.2⟩
theorem fr9.kp {M M' : mv_M} (h : fr9 M M') : kpM M M' := fun i j hl => h.1 i j (by unfold LvM at hl; omega) (by unfold LvM at hl; omega) (by unfold LvM at hl; omega)
theorem RM_f9 {M M' : mv_M} (h : fr9 M M') (hM : RM M 0 w) : RM M' 0 w := RM_fr (M := M) (fun j _ _ => h.1 _ _ (by omega) (by omega) (by omega)) hM
theorem lay_inner {M M9 : mv_M} {t l x : Nat} {s : List Nat} {z : Int64} (j16 : Int64 × Int32 × mv_M → Option (Int32 × mv_M)) (hw : WF w) (hI : inv9 M w (t :: s)) (hv : val w (w 2) (t :: s, l, x)) (hs : s.length ≤ 40) (hF : 30 < F) : ∃ M' : mv_M, mv_lp (bX9_laysCode_100 j16 F (z, nI l, M9)) F (lN x, 0, lN (wy w (w 2) 0 t s l), M) = j16 (lN (x - sm (fun k => wy w (w 2) k t s l) (um w (w 2) (t :: s, l, x))), nI (um w (w 2) (t :: s, l, x)), M') ∧ fra M M' ∧ inv9 M' w (t :: s) := by
  have h12 := hw.2.1
  obtain ⟨k1, k2, k3, k4, k5⟩ := val_step hw hv
  obtain ⟨v1, v2, v3⟩ := hv
  have v2 : l ≤ 24 := v2
  have ht : t < w 0 := v3 t List.mem_cons_self
  have hxb : x < 1000000000 := Nat.lt_of_lt_of_le v1 (fl_le _ _ _ _)
  generalize um w (w 2) (t :: s, l, x) = k at k1 k2 k3 k4 k5
  refine lp_rule2 (fun m st => m ≤ k ∧ ∃ M' : mv_M, st = (lN (x - sm (fun k => wy w (w 2) k t s l) m), nI m, lN (wy w (w 2) m t s l), M') ∧ fra M M' ∧ inv9 M' w (t :: s)) k (fun G => ∃ M' : mv_M, G = j16 (lN (x - sm (fun k => wy w (w 2) k t s l) k), nI k, M') ∧ fra M M' ∧ inv9 M' w (t :: s)) ?_ F 0 _ ⟨by omega, M, by rw [nI_0]; rfl, fra.rf M, hI⟩ (by omega) (by omega)
  rintro m st f hm ⟨hmk, M', rfl, g1, g2⟩
  unfold bX9_laysCode_100
  dsimp only
  have hwl := wy_le w (w 2) m t s l
  have hmono : sm (fun k => wy w (w 2) k t s l) m ≤ sm (fun k => wy w (w 2) k t s l) k := sm_mono hmk
  by_cases e : m = k
  · left
    subst e
    rw [if_pos]
    · exact ⟨M', rfl, g1, g2⟩
    · rw [cmp_lt, pk_lT (by omega), pk_lT (by omega)]; omega
  · right
    have hs1 : sm (fun k => wy w (w 2) k t s l) (m + 1) ≤ sm (fun k => wy w (w 2) k t s l) k := sm_mono (by omega)
    have hs2 : sm (fun k => wy w (w 2) k t s l) (m + 1) = sm (fun k => wy w (w 2) k t s l) m + wy w (w 2) m t s l := rfl
    obtain ⟨M2, a1, a2, a3⟩ := goesOn_eq (F := F) (k := m + 1) (l := l) hw g2 (by omega) ht hs v2 hF
    refine ⟨by omega, _, ⟨by omega, M2, rfl, g1.tr a2, a3⟩, ?_⟩
    rw [if_neg, let_eq, let_eq, nI_1, a1, bl_some, let_eq, lN_sub (by omega), hs2]
    · rw [show x - sm (fun k => wy w (w 2) k t s l) m - wy w (w 2) m t s l = x - (sm (fun k => wy w (w 2) k t s l) m + wy w (w 2) m t s l) by omega]
    · rw [cmp_lt, pk_lT (by omega), pk_lT (by omega)]; omega
/-- the code is laid -/
def laid (M : mv_M) (w : Nat → Nat) (t p x : Nat) : Prop := M.1 0 19 = nI p ∧ ∃ N, N ≤ 24 ∧ done w (w 2) ([t], p, x) N ∧ M.1 0 18 = nI N ∧ ∀ i, i < N → M.1 10 i = nI (um w (w 2) (un w (w 2) ([t], p, x) i))
theorem lay_outer {M : mv_M} {t p x : Nat} (hw : WF w) (hI : inv9 M w [t]) (h18 : M.1 0 18 = 0) (h19 : M.1 0 19 = nI p) (ht : t < w 0) (hp : p ≤ 24) (hxp : x < ct w (w 2) t p) (hF : 30 < F) : ∃ M' : mv_M, mv_lp (bX9_laysCode_80 F) F (lN x, nI p, M) = some (1, M') ∧ fr9 M M' ∧ laid M' w t p x := by
  have h8 := hw.1
  have h12 := hw.2.1
  have hv : val w (w 2) ([t], p, x) := ⟨by show x < fl w (w 2) [t] p; rw [fl_one]; exact hxp, hp, fun u hu => by rw [List.mem_singleton] at hu; rw [hu]; exact ht⟩
  refine lp_rule2 (fun i st => ∃ M' : mv_M, st = (lN (un w (w 2) ([t], p, x) i).2.2, nI (un w (w 2) ([t], p, x) i).2.1, M') ∧ fr9 M M' ∧ inv9 M' w (un w (w 2) ([t], p, x) i).1 ∧ M'.1 0 18 = nI i ∧ M'.1 0 19 = nI p ∧ (∀ j, j < i → (un w (w 2) ([t], p, x) j).1 ≠ []) ∧ ∀ j, j < i → M'.1 10 j = nI (um w (w 2) (un w (w 2) ([t], p, x) j))) 24 (fun G => ∃ M' : mv_M, G = some (1, M') ∧ fr9 M M' ∧ laid M' w t p x) ?_ F 0 _ ⟨M, rfl, fr9.rf M, hI, by rw [h18, nI_0], h19, fun j hj => absurd hj (by omega), fun j hj => absurd hj (by omega)⟩ (by omega) (by omega)
  rintro i st f hi ⟨M', rfl, g1, gI, g18, g19, gne, gcode⟩
  obtain ⟨uv, ul⟩ := un_val hw hv i gne
  have he : un w (w 2) ([t], p, x) (i + 1) = us1 w (w 2) (un w (w 2) ([t], p, x) i) := rfl
  unfold bX9_laysCode_80
  dsimp only
  rcases hq : un w (w 2) ([t], p, x) i with ⟨stq, l, y⟩
  rw [hq] at uv ul gI he
  have ul : l + i ≤ p := ul
  obtain ⟨gM, gT, g15, grep, gfr⟩ := id gI
  cases stq with
  | nil =>
    left
    have g15 : M'.1 0 15 = nI 0 := g15
    rw [g15, if_pos (by decide), b1_1]
    exact ⟨M', rfl, g1, g19, i, by omega, ⟨by rw [hq], gne⟩, g18, gcode⟩
  | cons u s =>
    right
    have hlen : s.length + 1 ≤ l := fl_len (u :: s) l (Nat.lt_of_le_of_lt (Nat.zero_le _) uv.1)
    have hl24 : l ≤ 24 := uv.2.1
    have hu : u < w 0 := uv.2.2 u List.mem_cons_self
    obtain ⟨k1, k2, k3, k4, k5⟩ := val_step hw uv
    have g15 : M'.1 0 15 = nI (s.length + 1) := g15
    obtain ⟨M2, a1, a2, a3⟩ := goesOn_eq (F := F) (k := 0) (l := l) hw gI (by omega) hu (by omega) hl24 hF
    have hin := fun j16 => lay_inner (F := F) (M := M2) (M9 := M') (t := u) (l := l) (x := y) (s := s) (z := lN y) j16 hw a3 uv (by omega) hF
    generalize hk : um w (w 2) (u :: s, l, y) = k at k1 k2 k3 k4 k5 hin
    have hst : us1 w (w 2) (u :: s, l, y) = (tk w k ++ s, l - pr w k, y - sm (fun k => wy w (w 2) k u s l) k) := by rw [us1_cons, hk]
    have hpk := (pr_pos hw k1).1
    rw [g15, if_neg (nI_nle (by omega) (by omega)), let_eq, show (0 : Int32) = nI 0 from nI_0.symm, a1, bl_some, let_eq, let_eq]
    rw [show nI 0 = (0 : Int32) from nI_0]
    obtain ⟨M3, b1, b2, b3⟩ := hin (fun s15 : Int64 × Int32 × mv_M => mv_ob (s15.2.2.1 0 18) 64 (mv_let (mv_wI s15.2.2 10 (s15.2.2.1 0 18).toNatClampNeg s15.2.1) (fun M17 => mv_let (mv_wI M17 0 18 ((M17.1 0 18) + (1 : Int32))) (fun M18 => mv_bi (fX9_priceOf F M18 s15.2.1) (fun v20 M19 => mv_let (nI l - v20) (fun v21 => mv_bv (fX9_gives F M19 s15.2.1) (fun M22 => f (s15.1, v21, M22))))))))
    have c18 : M3.1 0 18 = nI i := by rw [(a2.tr b2).1 _ _ (by omega) (by omega)]; exact g18
    have f4 : fr9 M3 (mv_wI (mv_wI M3 10 i (nI k)) 0 18 (nI (i + 1))) := ⟨fun a b h1 h2 h3 => by rw [wI_ne (by omega), wI_ne (by omega)], fun _ _ _ => rfl⟩
    have I4 : inv9 (mv_wI (mv_wI M3 10 i (nI k)) 0 18 (nI (i + 1))) w (u :: s) := by
      obtain ⟨d1, d2, d3, d4, d5⟩ := b3
      refine ⟨RM_f9 f4 d1, tbR_fa f4.2 d2, by rw [wI_ne (by omega), wI_ne (by omega)]; exact d3, rep_congr (f := M3.1 8) (fun q _ => by rw [wI_ne (by omega), wI_ne (by omega)]) d4, frs_fr (M := M3) (fun j _ => rfl) d5⟩
    obtain ⟨M5, e1, e2, e3⟩ := gives_eq (F := F) hw I4 k1 (by omega) hF
    refine ⟨by omega, (lN (un w (w 2) ([t], p, x) (i + 1)).2.2, nI (un w (w 2) ([t], p, x) (i + 1)).2.1, M5), ⟨M5, rfl, g1.tr ((a2.tr b2).fr9.tr (f4.tr e2.fr9)), ?_, ?_, ?_, fun j hj => ?_, fun j hj => ?_⟩, ?_⟩
    · rw [he, hst]; exact e3
    · rw [e2.1 _ _ (by omega) (by omega), wI_eq]
    · rw [e2.1 _ _ (by omega) (by omega), wI_ne (by omega), wI_ne (by omega), (a2.tr b2).1 _ _ (by omega) (by omega)]; exact g19
    · by_cases ej : j = i
      · rw [ej, hq]; simp
      · exact gne j (by omega)
    · rw [e2.1 _ _ (by omega) (by omega), wI_ne (by omega)]
      by_cases ej : j = i
      · rw [ej, wI_eq, hq, hk]
      · rw [wI_ne (by omega), (a2.tr b2).1 _ _ (by omega) (by omega)]; exact gcode j (by omega)
    · refine Eq.trans b1 ?_
      dsimp only
      rw [c18, ob_nI (show i < 64 by omega) (by decide), nI_clamp (by omega), let_eq, let_eq, wI_ne (a := 10) (by omega), c18, nI_1, fX9_priceOf_eq I4.1 hw k1, bi_some, let_eq, pk_sub k4, e1, bv_some, he, hst]
theorem laysCode_eq {M : mv_M} {t x : Nat} (hw : WF w) (hM : RM M 0 w) (hT : tbR M w) (ht : t < w 0) (hx : x < 1000000000) (hF : 30 < F) : ∃ (v : Int32) (M' : mv_M), fX9_laysCode F M (nI t) (nI x) = some (v, M') ∧ fr9 M M' ∧ ((x < sm (ct w (w 2) t) 25 ∧ v = 1 ∧ laid M' w t (kf (ct w (w 2) t) 25 x) (x - sm (ct w (w 2) t) (kf (ct w (w 2) t) 25 x))) ∨ (¬ x < sm (ct w (w 2) t) 25 ∧ v = 0)) := by
  have h8 := hw.1
  unfold fX9_laysCode
  rw [let_eq, let_eq, let_eq, nI_l (by omega)]
  refine lp_rule2 (fun n s => s = (lN (x - sm (ct w (w 2) t) (n + 1)), nI (n + 1), M) ∧ sm (ct w (w 2) t) (n + 1) ≤ x) 24 (fun G => ∃ (v : Int32) (M' : mv_M), G = some (v, M') ∧ fr9 M M' ∧ ((x < sm (ct w (w 2) t) 25 ∧ v = 1 ∧ laid M' w t (kf (ct w (w 2) t) 25 x) (x - sm (ct w (w 2) t) (kf (ct w (w 2) t) 25 x))) ∨ (¬ x < sm (ct w (w 2) t) 25 ∧ v = 0))) ?_ F 0 (lN x, 1, M) ⟨?_, ?_⟩ (by omega) (by omega)
  · rintro n s f hn ⟨rfl, k3⟩
    have f1 : ∀ v : Int32, fr9 M (mv_wI (mv_wI M 0 18 0) 0 19 v) := fun v => ⟨fun i j h1 _ _ => by rw [wI_ne (by omega), wI_ne (by omega)], fun _ _ _ => rfl⟩
    unfold bX9_laysCode_6
    dsimp only
    by_cases e : n = 24
    · left
      subst e
      rw [if_pos (by decide), let_eq, let_eq, if_neg (by decide), b1_0]
      exact ⟨0, _, rfl, f1 _, Or.inr ⟨Nat.not_lt.mpr k3, rfl⟩⟩
    have hc := ct_le w (w 2) t (n + 1)
    have hs2 : sm (ct w (w 2) t) (n + 1 + 1) = sm (ct w (w 2) t) (n + 1) + ct w (w 2) t (n + 1) := rfl
    have ob : ∀ {α : Type} (G : Option α), mv_ob (nI (25 * t + (n + 1))) 200 G = G := fun G => ob_nI (by omega) (by decide)
    rw [if_neg (show ¬ (24 : Int32) < nI (n + 1) from nI_nlt (a := 24) (by omega) (by decide)), e25, ob, ob, nI_clamp (by omega), hT t ht _ (by omega)]
    by_cases c : ct w (w 2) t (n + 1) ≤ x - sm (ct w (w 2) t) (n + 1)
    · right
      refine ⟨by omega, _, ⟨rfl, by omega⟩, ?_⟩
      rw [if_neg, let_eq, let_eq, lN_sub c, nI_1, hs2]
      · rw [show x - sm (ct w (w 2) t) (n + 1) - ct w (w 2) t (n + 1) = x - (sm (ct w (w 2) t) (n + 1) + ct w (w 2) t (n + 1)) by omega]
      · rw [cmp_lt, pk_lT (by omega), pk_lT (by omega)]; omega
    · left
      have hlt : x < sm (ct w (w 2) t) (n + 1 + 1) := by omega
      have hm : sm (ct w (w 2) t) (n + 1 + 1) ≤ sm (ct w (w 2) t) 25 := sm_mono (by omega)
      have hkf : kf (ct w (w 2) t) 25 x = n + 1 := by
        obtain ⟨z1, z2, z3⟩ := kf_spec (g := ct w (w 2) t) (n := 25) (x := x) (by omega)
        rcases Nat.lt_trichotomy (kf (ct w (w 2) t) 25 x) (n + 1) with q | q | q
        · have : sm (ct w (w 2) t) (kf (ct w (w 2) t) 25 x + 1) ≤ sm (ct w (w 2) t) (n + 1) := sm_mono (by omega)
          have z4 : sm (ct w (w 2) t) (kf (ct w (w 2) t) 25 x + 1) = sm (ct w (w 2) t) (kf (ct w (w 2) t) 25 x) + ct w (w 2) t (kf (ct w (w 2) t) 25 x) := rfl
          omega
        · exact q
        · have : sm (ct w (w 2) t) (n + 1 + 1) ≤ sm (ct w (w 2) t) (kf (ct w (w 2) t) 25 x) := sm_mono (by omega)
          omega
      obtain ⟨M2, a1, a2, a3⟩ := awaitsFirst_eq (F := F) (t := t) hw (RM_f9 (f1 (nI (n + 1))) hM) (tbR_fa (f1 (nI (n + 1))).2 hT) ht hF
      obtain ⟨M3, b1, b2, b3⟩ := lay_outer (F := F) (M := M2) (p := n + 1) (x := x - sm (ct w (w 2) t) (n + 1)) hw a3 (by rw [a2.1 _ _ (by omega) (by omega), wI_ne (by omega), wI_eq]) (by rw [a2.1 _ _ (by omega) (by omega), wI_eq]) ht (by omega) (by omega) hF
      rw [if_pos, let_eq, let_eq, if_pos (show nI (n + 1) ≤ (24 : Int32) from nI_le (b := 24) (by omega) (by decide)), a1, bv_some, let_eq, b1]
      · exact ⟨1, M3, rfl, (f1 _).tr (a2.fr9.tr b2), Or.inl ⟨by omega, rfl, by rw [hkf]; exact b3⟩⟩
      · rw [cmp_lt, pk_lT (by omega), pk_lT (by omega)]; omega
  · have : sm (ct w (w 2) t) (0 + 1) = 0 := by show 0 + ct w (w 2) t 0 = 0; rw [ct_0]
    rw [this, Nat.sub_zero]; rfl
  · show 0 + ct w (w 2) t 0 ≤ x
    rw [ct_0]; omega
end RANK9
