/-! SHARES -/
section SHARE
variable {F : Nat}
def psm (w : Nat → Nat) (n : Nat) : Nat := sm (fun k => if bt (w 2) k = 1 then 0 else pr w k) n
def ovr (w : Nat → Nat) (n all : Int32) : Nat → Int32
  | 0 => n
  | m + 1 => if bt (w 2) m = 1 then ovr w n all m else ovr w n all m - (n * nI (pr w m)) / all
def ahd (w : Nat → Nat) (k : Nat) : Nat → Int32
  | 0 => 0
  | m + 1 => if bt (w 2) m = 1 then ahd w k m else if k ≤ m then ahd w k m + 0 else ahd w k m + 1
theorem i_add0 (x : Int32) : x + (0 : Int32) = x := by
  apply Int32.toBitVec_inj.mp
  rw [Int32.toBitVec_add]
  show x.toBitVec + 0#32 = _
  simp
theorem i_sub0 (x : Int32) : x - (0 : Int32) = x := by
  apply Int32.toBitVec_inj.mp
  rw [Int32.toBitVec_sub]
  show x.toBitVec - 0#32 = _
  simp
theorem psm_le {w : Nat → Nat} (hw : WF w) (n : Nat) (hn : n ≤ w 1) : psm w n ≤ 27 * n := by
  unfold psm
  induction n with
  | zero => exact Nat.le_refl _
  | succ n ih =>
    have := ih (by omega)
    have h2 := (pr_pos hw (show n < w 1 by omega)).2
    show sm _ n + (if bt (w 2) n = 1 then 0 else pr w n) ≤ _
    split <;> omega
theorem prices8 {M : mv_M} {w : Nat → Nat} (h : RX M 1 2 w) (hw : WF w) (hF : 30 < F) : fX7_pricesShown F M = some (nI (psm w (w 1)), M) := by
  have h12 := hw.2.1
  unfold fX7_pricesShown
  rw [let_eq, let_eq]
  have h0 : ((0 : Int32), (0 : Int32), M) = (fun i : Nat => (nI (psm w i), nI i, M)) 0 := by
    show _ = (nI 0, nI 0, M); rw [nI_0]
  rw [h0]
  refine lp_for (fun i : Nat => (nI (psm w i), nI i, M)) (w 1) (fun i hi f => ?_) (fun f => ?_) F 0 (by omega) (by omega)
  · show bX7_pricesShown_4 F f (nI (psm w i), nI i, M) = f (nI (psm w i + (if bt (w 2) i = 1 then 0 else pr w i)), nI (i + 1), M)
    unfold bX7_pricesShown_4
    dsimp only
    rw [h.2.1, if_neg (nI_ge hi (by omega)), fX7_isHidden_eq h hw hi, bi_some]
    rcases bt_01 (w 2) i with e | e
    · rw [e, nI_0, it0, fX7_priceOf_eq h hw hi, bi_some, let_eq, let_eq, nI_add, nI_1, if_neg (by omega)]
    · rw [e, show nI 1 = (1 : Int32) from rfl, it1, let_eq, nI_1, if_pos rfl]; rfl
  · show bX7_pricesShown_4 F f (nI (psm w (w 1)), nI (w 1), M) = _
    unfold bX7_pricesShown_4
    dsimp only
    rw [h.2.1, if_pos (nI_le (Nat.le_refl _) (by omega))]
theorem prices9 {M : mv_M} {w : Nat → Nat} (j10 : Int32 × mv_M → Option (Int32 × mv_M)) (h : RM M 0 w) (hw : WF w) (hF : 30 < F) : mv_lp (bX9_share_43 j10 F) F (0, 0, M) = j10 (nI (psm w (w 1)), M) := by
  have h12 := hw.2.1
  have h0 : ((0 : Int32), (0 : Int32), M) = (fun i : Nat => (nI (psm w i), nI i, M)) 0 := by
    show _ = (nI 0, nI 0, M); rw [nI_0]
  rw [h0]
  refine lp_for (fun i : Nat => (nI (psm w i), nI i, M)) (w 1) (fun i hi f => ?_) (fun f => ?_) F 0 (by omega) (by omega)
  · show bX9_share_43 j10 F f (nI (psm w i), nI i, M) = f (nI (psm w i + (if bt (w 2) i = 1 then 0 else pr w i)), nI (i + 1), M)
    unfold bX9_share_43
    dsimp only
    rw [ob_1, cl_1, RM_at h (by decide), if_neg (nI_ge hi (by omega)), ob_2, cl_2, RM_at h (by decide), fX9_has_eq (hid_lt hw) (by omega), bi_some]
    rcases bt_01 (w 2) i with e | e
    · rw [e, nI_0, it0, fX9_priceOf_eq h hw hi, bi_some, let_eq, let_eq, nI_add, nI_1, if_neg (by omega)]
    · rw [e, show nI 1 = (1 : Int32) from rfl, it1, let_eq, let_eq, nI_1, if_pos rfl, i_add0]; rfl
  · show bX9_share_43 j10 F f (nI (psm w (w 1)), nI (w 1), M) = _
    unfold bX9_share_43
    dsimp only
    rw [ob_1, cl_1, RM_at h (by decide), if_pos (nI_le (Nat.le_refl _) (by omega))]
theorem nz_nI {α : Type} {n : Nat} {G : Option α} (h0 : 0 < n) (h : n < 2 ^ 31) : mv_nz (nI n) G = G := if_neg (nI_ne0 h0 h)
theorem ps_share (hF : 300 < F) (a1 a2 : Int32) : ps_ok Sim (fun M => fX8_share F M a1 a2) (fun M => fX9_share F M a1 a2) := by
  rintro MX MM ⟨w, hc, ht⟩
  show ∃ (r : Int32) (MX' MM' : mv_M), fX8_share F MX a1 a2 = some (r, MX') ∧ fX9_share F MM a1 a2 = some (r, MM') ∧ Sim MX' MM'
  obtain ⟨hw, hX, hM, -⟩ := id hc
  have h12 := hw.2.1
  unfold fX8_share fX9_share
  rcases ix_cases a1 (show w 1 < 2 ^ 31 by omega) with h | ⟨k, hk, rfl⟩
  · exact ⟨-1000001, MX, MM, by rw [fX7_hasMember_out hX h, bi_some, it0], by rw [fX9_isMember_out hM hw h, bi_some, it0], w, hc, ht⟩
  rw [fX7_hasMember_in hX hw hk, bi_some, it1, fX9_isMember_in hM hw hk, bi_some, it1]
  rcases rg_cases a2 0 999 with h | h
  · exact ⟨-1000001, MX, MM, by rw [rg_out h], by rw [in_out (L := 0) (H := 999) (by decide) (by decide) h, bi_some, it0], w, hc, ht⟩
  rw [rg_in h, in_in (L := 0) (H := 999) (by decide) (by decide) h, bi_some, it1, fX7_isHidden_eq hX hw hk, bi_some, ob_2, cl_2, RM_at hM (by decide), fX9_has_eq (hid_lt hw) (by omega), bi_some]
  rcases bt_01 (w 2) k with e | e
  case inr =>
    exact ⟨0, MX, MM, by rw [e, show nI 1 = (1 : Int32) from rfl, it1], by rw [e, show nI 1 = (1 : Int32) from rfl, it1], w, hc, ht⟩
  rw [e, nI_0, it0, it0]
  have hpos : 0 < psm w (w 1) := by
    have := (pr_pos hw hk).1
    have h2 := sm_ge (F := fun k => if bt (w 2) k = 1 then 0 else pr w k) hk
    have h3 : (if bt (w 2) k = 1 then 0 else pr w k) = pr w k := if_neg (by omega)
    have h4 : pr w k ≤ psm w (w 1) := by
      have h2' : (if bt (w 2) k = 1 then 0 else pr w k) ≤ psm w (w 1) := h2
      rw [h3] at h2'
      exact h2'
    omega
  have hle := psm_le hw (w 1) (Nat.le_refl _)
  generalize hall : nI (psm w (w 1)) = all
  have hnz : ∀ {α : Type} (G : Option α), mv_nz all G = G := fun G => by rw [← hall]; exact nz_nI hpos (by omega)
  refine ⟨(if ovr w a2 all (w 1) ≤ ahd w k (w 1) then ((a2 * nI (pr w k)) / all) + (0 : Int32) else ((a2 * nI (pr w k)) / all) + (1 : Int32)), MX, MM, ?_, ?_, w, hc, ht⟩
  · unfold fX7_shareOf
    rw [prices8 hX hw (by omega), bi_some, let_eq, if_pos (show (1 : Int32) ≤ nI (psm w (w 1)) from nI_le (a := 1) (by omega) (by omega)), let_eq, let_eq, let_eq, let_eq, hall]
    have h0 : (a2, (0 : Int32), (0 : Int32), MX) = (fun i : Nat => (ovr w a2 all i, ahd w k i, nI i, MX)) 0 := by
      show _ = (a2, (0 : Int32), nI 0, MX); rw [nI_0]
    rw [h0]
    rw [lp_for (r := some ((if ovr w a2 all (w 1) ≤ ahd w k (w 1) then ((a2 * nI (pr w k)) / all) + (0 : Int32) else ((a2 * nI (pr w k)) / all) + (1 : Int32)), MX)) (fun i : Nat => (ovr w a2 all i, ahd w k i, nI i, MX)) (w 1) (fun i hi f => ?_) (fun f => ?_) F 0 (by omega) (by omega)]
    · rfl
    · show bX7_shareOf_21 _ F all a2 (nI k) f (ovr w a2 all i, ahd w k i, nI i, MX) = f ((if bt (w 2) i = 1 then ovr w a2 all i else ovr w a2 all i - (a2 * nI (pr w i)) / all), (if bt (w 2) i = 1 then ahd w k i else if k ≤ i then ahd w k i + 0 else ahd w k i + 1), nI (i + 1), MX)
      unfold bX7_shareOf_21
      dsimp only
      rw [hX.2.1, if_neg (nI_ge hi (by omega)), fX7_isHidden_eq hX hw hi, bi_some]
      rcases bt_01 (w 2) i with q | q
      · rw [q, nI_0, it0, fX7_priceOf_eq hX hw hi, bi_some, hnz, let_eq, if_neg (show ¬ (0 : Nat) = 1 by decide), if_neg (show ¬ (0 : Nat) = 1 by decide)]
        by_cases c : k ≤ i
        · rw [if_pos (nI_le c (by omega)), let_eq, let_eq, nI_1, if_pos c]
        · rw [if_neg (nI_ge (by omega) (by omega)), let_eq, let_eq, nI_1, if_neg c]
      · rw [q, show nI 1 = (1 : Int32) from rfl, it1, let_eq, nI_1, if_pos rfl, if_pos rfl]
    · show bX7_shareOf_21 _ F all a2 (nI k) f (ovr w a2 all (w 1), ahd w k (w 1), nI (w 1), MX) = _
      unfold bX7_shareOf_21
      dsimp only
      rw [hX.2.1, if_pos (nI_le (Nat.le_refl _) (by omega)), fX7_priceOf_eq hX hw hk, bi_some, hnz]
      split <;> rfl
  · rw [let_eq, let_eq, let_eq, prices9 _ hM hw (by omega)]
    dsimp only
    rw [let_eq, let_eq, let_eq, let_eq, hall]
    have h0 : (a2, (0 : Int32), (0 : Int32), MM) = (fun i : Nat => (ovr w a2 all i, ahd w k i, nI i, MM)) 0 := by
      show _ = (a2, (0 : Int32), nI 0, MM); rw [nI_0]
    rw [h0]
    refine lp_for (fun i : Nat => (ovr w a2 all i, ahd w k i, nI i, MM)) (w 1) (fun i hi f => ?_) (fun f => ?_) F 0 (by omega) (by omega)
    · show bX9_share_96 _ F (nI k) (all, MM) a2 f (ovr w a2 all i, ahd w k i, nI i, MM) = f ((if bt (w 2) i = 1 then ovr w a2 all i else ovr w a2 all i - (a2 * nI (pr w i)) / all), (if bt (w 2) i = 1 then ahd w k i else if k ≤ i then ahd w k i + 0 else ahd w k i + 1), nI (i + 1), MM)
      unfold bX9_share_96
      dsimp only
      rw [ob_1, cl_1, RM_at hM (by decide), if_neg (nI_ge hi (by omega)), ob_2, cl_2, RM_at hM (by decide), fX9_has_eq (hid_lt hw) (by omega), bi_some, let_eq]
      rcases bt_01 (w 2) i with q | q
      · rw [q, nI_0, it0, fX9_priceOf_eq hM hw hi, bi_some, hnz]
        dsimp only
        rw [let_eq, if_neg (show ¬ (0 : Nat) = 1 by decide), if_neg (show ¬ (0 : Nat) = 1 by decide)]
        by_cases c : k ≤ i
        · rw [if_pos (nI_le c (by omega)), let_eq, let_eq, nI_1, if_pos c]
        · rw [if_neg (nI_ge (by omega) (by omega)), ob_2, RM_at hM (by decide), fX9_has_eq (hid_lt hw) (by omega), bi_some, q, nI_0, it0, let_eq, let_eq, nI_1, if_neg c]
      · rw [q, show nI 1 = (1 : Int32) from rfl, it1]
        dsimp only
        rw [let_eq, i_sub0, if_pos rfl, if_pos rfl]
        by_cases c : k ≤ i
        · rw [if_pos (nI_le c (by omega)), let_eq, let_eq, nI_1, i_add0]
        · rw [if_neg (nI_ge (by omega) (by omega)), ob_2, RM_at hM (by decide), fX9_has_eq (hid_lt hw) (by omega), bi_some, q, show nI 1 = (1 : Int32) from rfl, it1, let_eq, let_eq, nI_1, i_add0]
    · show bX9_share_96 _ F (nI k) (all, MM) a2 f (ovr w a2 all (w 1), ahd w k (w 1), nI (w 1), MM) = _
      unfold bX9_share_96
      dsimp only
      rw [ob_1, cl_1, RM_at hM (by decide), if_pos (nI_le (Nat.le_refl _) (by omega)), fX9_priceOf_eq hM hw hk, bi_some, hnz]
      split <;> rfl
end SHARE
