/-! THE TAPE IS READ: signs and numbers -/
def byt (n : Nat) (c : Nat → Int32) (i : Nat) : Int32 := if i < n then c i else -1
def PS (n : Nat) (c : Nat → Int32) (f4 : Int32) (a : Nat) (MX MM : mv_M) : Prop :=
  MX.1 41 1 = nI n ∧ MM.1 0 3 = nI n ∧ (∀ j, j < n → MX.1 42 j = c j ∧ MM.1 2 j = c j) ∧ MX.1 41 3 = nI a ∧ MM.1 0 10 = nI a ∧ a ≤ n ∧ n ≤ 140 ∧ MM.1 0 4 = f4
def FL (MX MM : mv_M) : Prop := MX.1 41 4 = MM.1 0 4 ∧ MX.1 41 3 = MM.1 0 11
def ft8 (M M' : mv_M) : Prop := M'.2 = M.2 ∧ ∀ i j, ¬ (i = 41 ∧ (j = 3 ∨ j = 4)) → M'.1 i j = M.1 i j
def ft9 (M M' : mv_M) : Prop := M'.2 = M.2 ∧ ∀ i j, ¬ (i = 0 ∧ (j = 4 ∨ j = 10 ∨ j = 11 ∨ j = 12)) → M'.1 i j = M.1 i j
theorem ft8.rf (M : mv_M) : ft8 M M := ⟨rfl, fun _ _ _ => rfl⟩
theorem ft9.rf (M : mv_M) : ft9 M M := ⟨rfl, fun _ _ _ => rfl⟩
theorem ft8.tr {M M' M'' : mv_M} (h : ft8 M M') (h' : ft8 M' M'') : ft8 M M'' := ⟨h'.1.trans h.1, fun i j h1 => (h'.2 i j h1).trans (h.2 i j h1)⟩
theorem ft9.tr {M M' M'' : mv_M} (h : ft9 M M') (h' : ft9 M' M'') : ft9 M M'' := ⟨h'.1.trans h.1, fun i j h1 => (h'.2 i j h1).trans (h.2 i j h1)⟩
section READ
variable {F n a : Nat} {c : Nat → Int32} {f4 : Int32} {MX MM : mv_M}
theorem PS_fr {MX' MM' : mv_M} (hX : ∀ i j, i = 41 ∧ (j = 1 ∨ j = 3) ∨ i = 42 → MX'.1 i j = MX.1 i j) (hM : ∀ i j, i = 0 ∧ (j = 3 ∨ j = 4 ∨ j = 10) ∨ i = 2 → MM'.1 i j = MM.1 i j) (h : PS n c f4 a MX MM) : PS n c f4 a MX' MM' := by
  obtain ⟨h1, h2, h3, h4, h5, h6, h7, h8⟩ := h
  refine ⟨by rw [hX _ _ (by omega)]; exact h1, by rw [hM _ _ (by omega)]; exact h2, fun j hj => ?_, by rw [hX _ _ (by omega)]; exact h4, by rw [hM _ _ (by omega)]; exact h5, h6, h7, by rw [hM _ _ (by omega)]; exact h8⟩
  rw [hX _ _ (by omega), hM _ _ (by omega)]; exact h3 j hj
theorem byteAt_eq (h : PS n c f4 a MX MM) {i : Nat} (hi : i < 1000) : fX4_byteAt F MX (nI i) = some (byt n c i, MX) := by
  obtain ⟨h1, h2, h3, h4, h5, h6, h7, h8⟩ := h
  unfold fX4_byteAt byt
  rw [h1]
  by_cases e : i < n
  · rw [if_neg (nI_ge e (by omega)), ob_nI (show i < 140 by omega) (by decide), nI_clamp (by omega), (h3 i e).1, if_pos e]
  · rw [if_pos (nI_le (by omega) (by omega)), if_neg e]
theorem here8_eq (h : PS n c f4 a MX MM) : fX4_here F MX = some (byt n c a, MX) := by
  have h6 := h.2.2.2.2.2.1
  have h7 := h.2.2.2.2.2.2.1
  unfold fX4_here
  rw [h.2.2.2.1, byteAt_eq h (by omega), bi_some]
theorem here9_eq {b : Nat} (h1 : MM.1 0 3 = nI n) (h2 : MM.1 0 10 = nI b) (h3 : ∀ j, j < n → MM.1 2 j = c j) (hn : n ≤ 140) (hb : b < 1000) : fX9_here F MM = some (byt n c b, MM) := by
  unfold fX9_here byt
  rw [h1, h2]
  by_cases e : b < n
  · rw [if_neg (nI_ge e (by omega)), ob_nI (show b < 140 by omega) (by decide), nI_clamp (by omega), h3 b e, if_pos e]
  · rw [if_pos (nI_le (by omega) (by omega)), if_neg e]
theorem here9_of (h : PS n c f4 a MX MM) : fX9_here F MM = some (byt n c a, MM) :=
  here9_eq h.2.1 h.2.2.2.2.1 (fun j hj => (h.2.2.1 j hj).2) h.2.2.2.2.2.2.1 (by have := h.2.2.2.2.2.1; have := h.2.2.2.2.2.2.1; omega)
theorem byt_lt {s : Int32} (hs : s ≠ -1) (h : byt n c a = s) : a < n := by
  unfold byt at h
  by_cases e : a < n
  · exact e
  · rw [if_neg e] at h; exact absurd h.symm hs
/-- one step on -/
theorem PS_on (h : PS n c f4 a MX MM) (ha : a < n) : PS n c f4 (a + 1) (mv_wI MX 41 3 (nI (a + 1))) (mv_wI MM 0 10 (nI (a + 1))) := by
  obtain ⟨h1, h2, h3, h4, h5, h6, h7, h8⟩ := h
  refine ⟨by rw [wI_ne (by omega)]; exact h1, by rw [wI_ne (by omega)]; exact h2, fun j hj => ?_, wI_eq, wI_eq, by omega, h7, by rw [wI_ne (by omega)]; exact h8⟩
  rw [wI_ne (by omega), wI_ne (by omega)]; exact h3 j hj
theorem ft8_w (v : Int32) : ft8 MX (mv_wI MX 41 3 v) := ⟨rfl, fun i j h => wI_ne (by omega)⟩
theorem ft8_w4 (v : Int32) : ft8 MX (mv_wI MX 41 4 v) := ⟨rfl, fun i j h => wI_ne (by omega)⟩
theorem ft9_w (v : Int32) : ft9 MM (mv_wI MM 0 10 v) := ⟨rfl, fun i j h => wI_ne (by omega)⟩
theorem ft9_f (v x : Int32) : ft9 MM (mv_wI (mv_wI MM 0 4 v) 0 11 x) := ⟨rfl, fun i j h => by rw [wI_ne (by omega), wI_ne (by omega)]⟩
/-- both refuse -/
theorem FL_of {v : Int32} {x : Int32} (h : MX.1 41 3 = x) : FL (mv_wI MX 41 4 v) (mv_wI (mv_wI MM 0 4 v) 0 11 x) := by
  refine ⟨?_, ?_⟩
  · rw [wI_eq, wI_ne (by omega), wI_eq]
  · rw [wI_ne (by omega), wI_eq]; exact h
theorem take_eq (s : Int32) (hs : s ≠ -1) (h : PS n c f4 a MX MM) : ∃ (v : Int32) (MX' MM' : mv_M), fX4_take F MX s = some (v, MX') ∧ fX9_takes F MM s = some (v, MM') ∧ ft8 MX MX' ∧ ft9 MM MM' ∧ ((v = 1 ∧ PS n c f4 (a + 1) MX' MM') ∨ (v = 0 ∧ FL MX' MM')) := by
  unfold fX4_take fX9_takes
  rw [here8_eq h, bi_some, here9_of h, bi_some, h.2.2.2.1, h.2.2.2.2.1]
  by_cases e : byt n c a = s
  · have ha := byt_lt hs e
    rw [if_pos e, if_pos e, let_eq, let_eq, nI_1, b1_1, b1_1]
    exact ⟨1, _, _, rfl, rfl, ft8_w _, ft9_w _, Or.inl ⟨rfl, PS_on h ha⟩⟩
  · rw [if_neg e, if_neg e]
    refine ⟨0, mv_wI MX 41 4 1, mv_wI (mv_wI MM 0 4 1) 0 11 (nI a), ?_, ?_, ft8_w4 _, ft9_f _ _, Or.inr ⟨rfl, FL_of h.2.2.2.1⟩⟩
    · unfold fX4_refuse
      rw [let_eq, b1_0, bi_some, b1_0]
    · unfold fX9_fails
      rw [let_eq, let_eq, b1_0, bi_some, b1_0]
/-! numbers -/
def fgr (n : Nat) (c : Nat → Int32) (i : Nat) : Prop := ¬ byt n c i < 48 ∧ byt n c i ≤ 57
def dg (n : Nat) (c : Nat → Int32) (i : Nat) : Nat := (byt n c i).toNatClampNeg - 48
theorem dg_eq {i : Nat} (h : fgr n c i) : byt n c i = nI (48 + dg n c i) ∧ dg n c i ≤ 9 := by
  obtain ⟨j, h1, h2, h3⟩ := rg_nat (lo := 48) (hi := 57) rfl rfl (by decide) (by decide) h
  unfold dg
  rw [h3, nI_clamp (by omega)]
  exact ⟨congrArg nI (by omega), by omega⟩
theorem fgr_end {i : Nat} (h : n ≤ i) : ¬ fgr n c i := by
  unfold fgr byt
  rw [if_neg (by omega)]
  decide
/-- how long the run of figures is -/
theorem run_ex (n : Nat) (c : Nat → Int32) (a : Nat) (ha : a ≤ n) : ∃ K, (∀ i, i < K → fgr n c (a + i)) ∧ ¬ fgr n c (a + K) ∧ a + K ≤ n := by
  obtain ⟨K, h1, h2⟩ := pk_least (fun i => ¬ fgr n c (a + i)) ⟨n - a, fgr_end (by omega)⟩
  refine ⟨K, fun i hi => Classical.byContradiction (fun q => h2 i hi q), h1, ?_⟩
  exact Nat.le_of_not_lt (fun q => h2 (n - a) (by omega) (fgr_end (by omega)))
def nm (n : Nat) (c : Nat → Int32) (a : Nat) : Nat → Nat
  | 0 => 0
  | i + 1 => nm n c a i * 10 + dg n c (a + i)
theorem isFig_y {b : Int32} (h : ¬ b < 48 ∧ b ≤ 57) : fX4_isFigure F MX b = some (1, MX) := by
  unfold fX4_isFigure
  rw [if_neg h.1, if_neg (Int32.not_lt.mpr h.2), b1_1]
theorem isFig_n {b : Int32} (h : ¬ (¬ b < 48 ∧ b ≤ 57)) : fX4_isFigure F MX b = some (0, MX) := by
  unfold fX4_isFigure
  by_cases h1 : b < 48
  · rw [if_pos h1, b1_0]
  · rw [if_neg h1, if_pos (Int32.not_le.mp (fun q => h ⟨h1, q⟩)), b1_0]
theorem fig9 {b : Int32} : fX9_in F MM b.toInt64 48 57 = some (if ¬ b < 48 ∧ b ≤ 57 then 1 else 0, MM) := by
  by_cases h : ¬ b < 48 ∧ b ≤ 57
  · rw [in_in (L := 48) (H := 57) (by decide) (by decide) h, if_pos h]
  · rw [in_out (L := 48) (H := 57) (by decide) (by decide) (by
      rcases rg_cases b 48 57 with q | q
      · exact q
      · exact absurd q h), if_neg h]
theorem dig_add {x d : Nat} : nI x * (10 : Int32) + nI (48 + d) - (48 : Int32) = nI (x * 10 + d) := by
  rw [show (10 : Int32) = nI 10 from rfl, show (48 : Int32) = nI 48 from rfl, pk_mul, nI_add, pk_sub (by omega)]
  exact congrArg nI (by omega)
theorem num8_loop (h : PS n c f4 a MX MM) {K : Nat} (hK1 : ∀ i, i < K → fgr n c (a + i)) (hK2 : ¬ fgr n c (a + K)) (j4 : Int32 × Int32 × mv_M → Option (Int32 × mv_M)) (hF : 30 < F) : mv_lp (bX4_takeNumber_5 j4 F) F (0, 0, MX) = j4 (nI (if K ≤ 3 then K else 3), nI (nm n c a (if K ≤ 3 then K else 3)), MX) := by
  have h6 := h.2.2.2.2.2.1
  have h7 := h.2.2.2.2.2.2.1
  refine lp_rule2 (fun i s => s = (nI i, nI (nm n c a i), MX) ∧ i ≤ K) 3 (fun G => G = j4 (nI (if K ≤ 3 then K else 3), nI (nm n c a (if K ≤ 3 then K else 3)), MX)) ?_ F 0 (0, 0, MX) ⟨by show _ = (nI 0, nI 0, MX); rw [nI_0], by omega⟩ (by omega) (by omega)
  rintro i s f hi ⟨rfl, hiK⟩
  unfold bX4_takeNumber_5
  dsimp only
  by_cases e : i = 3
  · left
    rw [e, if_pos (by decide)]
    by_cases c3 : K ≤ 3
    · rw [if_pos c3, show K = 3 by omega]
    · rw [if_neg c3]
  rw [if_neg (show ¬ (2 : Int32) < nI i from nI_nlt (a := 2) (by omega) (by decide)), h.2.2.2.1, nI_add, byteAt_eq h (by omega), bi_some]
  by_cases e2 : i = K
  · left
    subst e2
    rw [isFig_n hK2, bi_some, it0, if_pos (by omega)]
  · right
    have hf := hK1 i (by omega)
    refine ⟨by omega, _, ⟨rfl, by omega⟩, ?_⟩
    rw [isFig_y hf, bi_some, it1, h.2.2.2.1, nI_add, byteAt_eq h (by omega), bi_some, (dg_eq hf).1, dig_add, let_eq, let_eq, nI_1]
    rfl
theorem num9_loop (h1 : MM.1 0 3 = nI n) (h3 : ∀ j, j < n → MM.1 2 j = c j) (h2 : MM.1 0 10 = nI a) (h12 : MM.1 0 12 = 0) (hn : n ≤ 140) {K : Nat} (hK1 : ∀ i, i < K → fgr n c (a + i)) (hK2 : ¬ fgr n c (a + K)) (hK3 : a + K ≤ n) (j4 : mv_M → Option (Int32 × mv_M)) (hF : 300 < F) : ∃ M' : mv_M, mv_lp (bX9_takesNumber_10 F j4 (nI a)) F MM = j4 M' ∧ M'.2 = MM.2 ∧ (∀ i j, ¬ (i = 0 ∧ (j = 10 ∨ j = 12)) → M'.1 i j = MM.1 i j) ∧ M'.1 0 10 = nI (a + K) ∧ M'.1 0 12 = nI (nm n c a (if K ≤ 2 then K else 2)) := by
  refine lp_rule2 (fun i (M' : mv_M) => i ≤ K ∧ M'.2 = MM.2 ∧ (∀ i j, ¬ (i = 0 ∧ (j = 10 ∨ j = 12)) → M'.1 i j = MM.1 i j) ∧ M'.1 0 10 = nI (a + i) ∧ M'.1 0 12 = nI (nm n c a (if i ≤ 2 then i else 2))) K (fun G => ∃ M' : mv_M, G = j4 M' ∧ M'.2 = MM.2 ∧ (∀ i j, ¬ (i = 0 ∧ (j = 10 ∨ j = 12)) → M'.1 i j = MM.1 i j) ∧ M'.1 0 10 = nI (a + K) ∧ M'.1 0 12 = nI (nm n c a (if K ≤ 2 then K else 2))) ?_ F 0 MM ⟨by omega, rfl, fun _ _ _ => rfl, h2, by rw [h12]; exact nI_0.symm⟩ (by omega) (by omega)
  rintro i M' f hi ⟨hiK, g2, g3, g4, g5⟩
  have hh : fX9_here F M' = some (byt n c (a + i), M') := here9_eq (by rw [g3 _ _ (by omega)]; exact h1) g4 (fun j hj => by rw [g3 _ _ (by omega)]; exact h3 j hj) hn (by omega)
  unfold bX9_takesNumber_10
  rw [hh, bi_some, fig9, bi_some]
  by_cases e : i = K
  · left
    subst e
    have hb0 : (if ¬ byt n c (a + i) < 48 ∧ byt n c (a + i) ≤ 57 then (1 : Int32) else 0) = 0 := if_neg hK2
    rw [hb0, it0]
    exact ⟨M', rfl, g2, g3, g4, g5⟩
  right
  have hf := hK1 i (by omega)
  have hb1 : (if ¬ byt n c (a + i) < 48 ∧ byt n c (a + i) ≤ 57 then (1 : Int32) else 0) = 1 := if_pos hf
  rw [hb1, it1, let_eq, g4, g5, pk_sub (by omega), Nat.add_sub_cancel_left]
  refine ⟨by omega, ?_⟩
  have hgo : ∀ x : Nat, x = nm n c a (if i + 1 ≤ 2 then i + 1 else 2) → ∃ M2 : mv_M, (i + 1 ≤ K ∧ M2.2 = MM.2 ∧ (∀ i j, ¬ (i = 0 ∧ (j = 10 ∨ j = 12)) → M2.1 i j = MM.1 i j) ∧ M2.1 0 10 = nI (a + (i + 1)) ∧ M2.1 0 12 = nI (nm n c a (if i + 1 ≤ 2 then i + 1 else 2))) ∧ (mv_let (mv_wI M' 0 12 (nI x)) (fun M21 => mv_let (mv_wI M21 0 10 ((M21.1 0 10) + (1 : Int32))) (fun M22 => f M22))) = f M2 := fun x hx => by
    refine ⟨mv_wI (mv_wI M' 0 12 (nI x)) 0 10 (nI (a + (i + 1))), ⟨by omega, g2, fun p q hpq => by rw [wI_ne (by omega), wI_ne (by omega)]; exact g3 p q hpq, wI_eq, by rw [wI_ne (by omega), wI_eq, hx]⟩, ?_⟩
    rw [let_eq, let_eq, wI_ne (by omega), g4, nI_1]
    rfl
  by_cases e2 : 2 ≤ i
  · rw [if_pos (show (2 : Int32) ≤ nI i from nI_le (a := 2) e2 (by omega))]
    refine hgo _ ?_
    have ea : (if i ≤ 2 then i else 2) = 2 := by split <;> omega
    have eb : (if i + 1 ≤ 2 then i + 1 else 2) = 2 := by split <;> omega
    rw [ea, eb]
  · rw [if_neg (show ¬ (2 : Int32) ≤ nI i from nI_ge (b := 2) (by omega) (by decide)), hh, bi_some, (dg_eq hf).1]
    have ea : (if i ≤ 2 then i else 2) = i := if_pos (by omega)
    have eb : (if i + 1 ≤ 2 then i + 1 else 2) = i + 1 := if_pos (by omega)
    rw [ea, Int32.mul_comm, dig_add]
    exact hgo _ (by rw [eb]; rfl)
theorem nm_small {K : Nat} (hK : ∀ i, i < K → fgr n c (a + i)) (h : K ≤ 2) : nm n c a K ≤ 99 := by
  rcases (show K = 0 ∨ K = 1 ∨ K = 2 by omega) with rfl | rfl | rfl
  · show 0 ≤ 99; omega
  · have := (dg_eq (hK 0 (by omega))).2
    show 0 * 10 + dg n c (a + 0) ≤ 99
    omega
  · have := (dg_eq (hK 0 (by omega))).2
    have := (dg_eq (hK 1 (by omega))).2
    show (0 * 10 + dg n c (a + 0)) * 10 + dg n c (a + 1) ≤ 99
    omega
theorem num_eq (lo hi : Nat) (hlo : lo < 1000) (hhi : hi < 1000) (h : PS n c f4 a MX MM) (hF : 300 < F) : ∃ MX' MM' : mv_M, ft8 MX MX' ∧ ft9 MM MM' ∧ ((∃ x a' : Nat, lo ≤ x ∧ x ≤ hi ∧ fX4_takeNumber F MX (nI lo) (nI hi) = some (nI x, MX') ∧ fX9_takesNumber F MM (nI lo) (nI hi) = some (1, MM') ∧ MM'.1 0 12 = nI x ∧ PS n c f4 a' MX' MM') ∨ (fX4_takeNumber F MX (nI lo) (nI hi) = some (-1, MX') ∧ fX9_takesNumber F MM (nI lo) (nI hi) = some (0, MM') ∧ FL MX' MM')) := by
  obtain ⟨h1, h2, h3, h4, h5, h6, h7, h8⟩ := id h
  obtain ⟨K, hK1, hK2, hK3⟩ := run_ex n c a h6
  unfold fX4_takeNumber fX9_takesNumber
  simp only [let_eq]
  rw [num8_loop h hK1 hK2 _ (by omega), h5]
  obtain ⟨M2, q1, q2, q3, q4, q5⟩ := num9_loop (F := F) (MM := mv_wI MM 0 12 0) (n := n) (c := c) (a := a) (K := K) (by rw [wI_ne (by omega)]; exact h2) (fun j hj => by rw [wI_ne (by omega)]; exact (h3 j hj).2) (by rw [wI_ne (by omega)]; exact h5) wI_eq h7 hK1 hK2 hK3 (fun s3 : mv_M => mv_bi (fX9_in F s3 (((s3.1 0 10) - nI a).toInt64) (1 : Int64) (2 : Int64)) (fun v6 M5 => (if v6 = 0 then mv_bi (fX9_fails F M5 (1 : Int32) (nI a)) (fun v12 M11 => mv_b1 v12 (some (v12, M11))) else mv_bi (fX9_in F M5 ((M5.1 0 12).toInt64) (nI lo).toInt64 (nI hi).toInt64) (fun v8 M7 => (if v8 = 0 then mv_bi (fX9_fails F M7 (2 : Int32) (nI a)) (fun v10 M9 => mv_b1 v10 (some (v10, M9))) else mv_b1 (1 : Int32) (some ((1 : Int32), M7))))))) hF
  rw [q1]
  dsimp only
  rw [q4, pk_sub (by omega), Nat.add_sub_cancel_left]
  have f9 : ft9 MM M2 := ⟨q2, fun i j hij => by rw [q3 _ _ (by omega), wI_ne (by omega)]⟩
  by_cases cK : 1 ≤ K ∧ K ≤ 2
  · have eK3 : (if K ≤ 3 then K else 3) = K := if_pos (by omega)
    have eK2 : (if K ≤ 2 then K else 2) = K := if_pos (by omega)
    rw [eK2] at q5
    have hsm := nm_small hK1 cK.2
    rw [eK3, if_neg (nI_ne0 (by omega) (by omega)), if_pos (show nI K ≤ (2 : Int32) from nI_le (b := 2) (by omega) (by decide)), in_in (L := 1) (H := 2) (by decide) (by decide) ⟨show ¬ nI K < (1 : Int32) from nI_nlt (b := 1) (by omega) (by omega), show nI K ≤ (2 : Int32) from nI_le (b := 2) (by omega) (by decide)⟩, bi_some, it1, q5]
    generalize nm n c a K = x at q5 hsm
    by_cases cx : lo ≤ x ∧ x ≤ hi
    · refine ⟨mv_wI MX 41 3 (nI (a + K)), M2, ft8_w _, f9, Or.inl ⟨x, a + K, cx.1, cx.2, ?_, ?_, q5, ?_⟩⟩
      · rw [if_neg (nI_nlt cx.1 (by omega)), if_pos (nI_le cx.2 (by omega)), h4, nI_add]
      · rw [in_in (L := nI lo) (H := nI hi) (i64_toInt _) (i64_toInt _) ⟨nI_nlt cx.1 (by omega), nI_le cx.2 (by omega)⟩, bi_some, it1, b1_1]
      · refine ⟨by rw [wI_ne (by omega)]; exact h1, by rw [q3 _ _ (by omega), wI_ne (by omega)]; exact h2, fun j hj => ?_, wI_eq, q4, hK3, h7, by rw [q3 _ _ (by omega), wI_ne (by omega)]; exact h8⟩
        rw [wI_ne (by omega), q3 _ _ (by omega), wI_ne (by omega)]; exact h3 j hj
    · refine ⟨mv_wI MX 41 4 2, mv_wI (mv_wI M2 0 4 2) 0 11 (nI a), ft8_w4 _, f9.tr (ft9_f _ _), Or.inr ⟨?_, ?_, FL_of h4⟩⟩
      · unfold fX4_refuse
        simp only [let_eq, b1_0, bi_some]
        by_cases c1 : x < lo
        · rw [if_pos (nI_lt c1 (by omega))]
        · rw [if_neg (nI_nlt (by omega) (by omega)), if_neg (nI_ge (by omega) (by omega))]
      · have hout : nI x < nI lo ∨ nI hi < nI x := by
          by_cases c1 : x < lo
          · exact Or.inl (nI_lt c1 (by omega))
          · exact Or.inr (nI_lt (by omega) (by omega))
        rw [in_out (L := nI lo) (H := nI hi) (i64_toInt _) (i64_toInt _) hout, bi_some, it0]
        unfold fX9_fails
        rw [let_eq, let_eq, b1_0, bi_some, b1_0]
  · refine ⟨mv_wI MX 41 4 1, mv_wI (mv_wI M2 0 4 1) 0 11 (nI a), ft8_w4 _, f9.tr (ft9_f _ _), Or.inr ⟨?_, ?_, FL_of h4⟩⟩
    · unfold fX4_refuse
      simp only [let_eq, b1_0, bi_some]
      by_cases c0 : K = 0
      · subst c0
        rw [if_pos (by rfl)]
      · have eK3 : (if K ≤ 3 then K else 3) = 3 := by split <;> omega
        rw [eK3, if_neg (by decide), if_neg (by decide)]
    · have hout : nI K < (1 : Int32) ∨ (2 : Int32) < nI K := by
        by_cases c1 : K < 1
        · exact Or.inl (nI_lt (b := 1) c1 (by decide))
        · exact Or.inr (nI_lt (a := 2) (by omega) (by omega))
      rw [in_out (L := 1) (H := 2) (by decide) (by decide) hout, bi_some, it0]
      unfold fX9_fails
      rw [let_eq, let_eq, b1_0, bi_some, b1_0]
end READ
