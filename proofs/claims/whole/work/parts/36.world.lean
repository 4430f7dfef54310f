/-! WORLDS: copied, changed, kept -/
section WORLDS
variable {F : Nat}
theorem cl_8 : (8 : Int32).toNatClampNeg = 8 := by decide +kernel
theorem cl_12 : (12 : Int32).toNatClampNeg = 12 := by decide +kernel
theorem cp_8 {α : Type} (G : Option α) : mv_cp (0 : Int32) (0 : Int32) (8 : Int32) 8 8 G = G := if_neg (by decide +kernel)
theorem cp_12 {α : Type} (G : Option α) : mv_cp (0 : Int32) (0 : Int32) (12 : Int32) 12 12 G = G := if_neg (by decide +kernel)
theorem cpy_8 {f g : Nat → Int32} {t : Nat} (h : t < 8) : va_cpy f g 0 0 8 t = f t := by rw [pk_cpy_in (by omega) (by omega)]; exact congrArg f (by omega)
theorem cpy_12 {f g : Nat → Int32} {t : Nat} (h : t < 12) : va_cpy f g 0 0 12 t = f t := by rw [pk_cpy_in (by omega) (by omega)]; exact congrArg f (by omega)
theorem X7_become_o43 {M : mv_M} {w : Nat → Nat} (h : RX M 43 44 w) (hw : w 0 ≤ 8 ∧ w 1 ≤ 12) : ∃ M', fX7_become_o43 F M = some M' ∧ RX M' 1 2 w ∧ M'.2 = M.2 ∧ ∀ i j, (i ≠ 1 ∧ i ≠ 2 ∧ i ≠ 3 ∧ i ≠ 4 ∧ i ≠ 5 ∧ i ≠ 6 ∧ i ≠ 7 ∧ i ≠ 8 ∧ i ≠ 9) → M'.1 i j = M.1 i j := by
  unfold fX7_become_o43
  simp only [let_eq, cp_8, cp_12, cl_0, cl_8, cl_12]
  obtain ⟨h0, h1, h2, h3, h4⟩ := h
  refine ⟨_, rfl, ⟨?_, ?_, ?_, fun t ht => ⟨?_, ?_⟩, fun k hk => ⟨?_, ?_, ?_, ?_, fun q => ?_, fun q => ?_⟩⟩, rfl, fun i j hi => ?_⟩
  · simp only [wA_get, wI_get]; simp; exact h0
  · simp only [wA_get, wI_get]; simp; exact h1
  · simp only [wA_get, wI_get]; simp; exact h2
  · have := (h3 t ht).1
    simp only [wA_get, wI_get]; simp [cpy_8 (show t < 8 by omega)]; exact this
  · have := (h3 t ht).2
    simp only [wA_get, wI_get]; simp [cpy_8 (show t < 8 by omega)]; exact this
  · have := (h4 k hk).1
    simp only [wA_get, wI_get]; simp [cpy_12 (show k < 12 by omega)]; exact this
  · have := (h4 k hk).2.1
    simp only [wA_get, wI_get]; simp [cpy_12 (show k < 12 by omega)]; exact this
  · have := (h4 k hk).2.2.1
    simp only [wA_get, wI_get]; simp [cpy_12 (show k < 12 by omega)]; exact this
  · have := (h4 k hk).2.2.2.1
    simp only [wA_get, wI_get]; simp [cpy_12 (show k < 12 by omega)]; exact this
  · have := (h4 k hk).2.2.2.2.1 q
    simp only [wA_get, wI_get]; simp [cpy_12 (show k < 12 by omega)]; exact this
  · have := (h4 k hk).2.2.2.2.2 q
    simp only [wA_get, wI_get]; simp [cpy_12 (show k < 12 by omega)]; exact this
  · obtain ⟨a0, a1, a2, a3, a4, a5, a6, a7, a8⟩ := hi
    simp only [wA_get, wI_get]; simp [a0, a1, a2, a3, a4, a5, a6, a7, a8]
theorem X7_become_11_o1 {M : mv_M} {w : Nat → Nat} (h : RX M 1 2 w) (hw : w 0 ≤ 8 ∧ w 1 ≤ 12) : ∃ M', fX7_become_11_o1 F M = some M' ∧ RX M' 11 13 w ∧ M'.2 = M.2 ∧ ∀ i j, (i ≠ 11 ∧ i ≠ 13 ∧ i ≠ 14 ∧ i ≠ 15 ∧ i ≠ 16 ∧ i ≠ 17 ∧ i ≠ 18 ∧ i ≠ 19 ∧ i ≠ 20) → M'.1 i j = M.1 i j := by
  unfold fX7_become_11_o1
  simp only [let_eq, cp_8, cp_12, cl_0, cl_8, cl_12]
  obtain ⟨h0, h1, h2, h3, h4⟩ := h
  refine ⟨_, rfl, ⟨?_, ?_, ?_, fun t ht => ⟨?_, ?_⟩, fun k hk => ⟨?_, ?_, ?_, ?_, fun q => ?_, fun q => ?_⟩⟩, rfl, fun i j hi => ?_⟩
  · simp only [wA_get, wI_get]; simp; exact h0
  · simp only [wA_get, wI_get]; simp; exact h1
  · simp only [wA_get, wI_get]; simp; exact h2
  · have := (h3 t ht).1
    simp only [wA_get, wI_get]; simp [cpy_8 (show t < 8 by omega)]; exact this
  · have := (h3 t ht).2
    simp only [wA_get, wI_get]; simp [cpy_8 (show t < 8 by omega)]; exact this
  · have := (h4 k hk).1
    simp only [wA_get, wI_get]; simp [cpy_12 (show k < 12 by omega)]; exact this
  · have := (h4 k hk).2.1
    simp only [wA_get, wI_get]; simp [cpy_12 (show k < 12 by omega)]; exact this
  · have := (h4 k hk).2.2.1
    simp only [wA_get, wI_get]; simp [cpy_12 (show k < 12 by omega)]; exact this
  · have := (h4 k hk).2.2.2.1
    simp only [wA_get, wI_get]; simp [cpy_12 (show k < 12 by omega)]; exact this
  · have := (h4 k hk).2.2.2.2.1 q
    simp only [wA_get, wI_get]; simp [cpy_12 (show k < 12 by omega)]; exact this
  · have := (h4 k hk).2.2.2.2.2 q
    simp only [wA_get, wI_get]; simp [cpy_12 (show k < 12 by omega)]; exact this
  · obtain ⟨a0, a1, a2, a3, a4, a5, a6, a7, a8⟩ := hi
    simp only [wA_get, wI_get]; simp [a0, a1, a2, a3, a4, a5, a6, a7, a8]
theorem X7_become_12_o1 {M : mv_M} {w : Nat → Nat} (h : RX M 1 2 w) (hw : w 0 ≤ 8 ∧ w 1 ≤ 12) : ∃ M', fX7_become_12_o1 F M = some M' ∧ RX M' 12 21 w ∧ M'.2 = M.2 ∧ ∀ i j, (i ≠ 12 ∧ i ≠ 21 ∧ i ≠ 22 ∧ i ≠ 23 ∧ i ≠ 24 ∧ i ≠ 25 ∧ i ≠ 26 ∧ i ≠ 27 ∧ i ≠ 28) → M'.1 i j = M.1 i j := by
  unfold fX7_become_12_o1
  simp only [let_eq, cp_8, cp_12, cl_0, cl_8, cl_12]
  obtain ⟨h0, h1, h2, h3, h4⟩ := h
  refine ⟨_, rfl, ⟨?_, ?_, ?_, fun t ht => ⟨?_, ?_⟩, fun k hk => ⟨?_, ?_, ?_, ?_, fun q => ?_, fun q => ?_⟩⟩, rfl, fun i j hi => ?_⟩
  · simp only [wA_get, wI_get]; simp; exact h0
  · simp only [wA_get, wI_get]; simp; exact h1
  · simp only [wA_get, wI_get]; simp; exact h2
  · have := (h3 t ht).1
    simp only [wA_get, wI_get]; simp [cpy_8 (show t < 8 by omega)]; exact this
  · have := (h3 t ht).2
    simp only [wA_get, wI_get]; simp [cpy_8 (show t < 8 by omega)]; exact this
  · have := (h4 k hk).1
    simp only [wA_get, wI_get]; simp [cpy_12 (show k < 12 by omega)]; exact this
  · have := (h4 k hk).2.1
    simp only [wA_get, wI_get]; simp [cpy_12 (show k < 12 by omega)]; exact this
  · have := (h4 k hk).2.2.1
    simp only [wA_get, wI_get]; simp [cpy_12 (show k < 12 by omega)]; exact this
  · have := (h4 k hk).2.2.2.1
    simp only [wA_get, wI_get]; simp [cpy_12 (show k < 12 by omega)]; exact this
  · have := (h4 k hk).2.2.2.2.1 q
    simp only [wA_get, wI_get]; simp [cpy_12 (show k < 12 by omega)]; exact this
  · have := (h4 k hk).2.2.2.2.2 q
    simp only [wA_get, wI_get]; simp [cpy_12 (show k < 12 by omega)]; exact this
  · obtain ⟨a0, a1, a2, a3, a4, a5, a6, a7, a8⟩ := hi
    simp only [wA_get, wI_get]; simp [a0, a1, a2, a3, a4, a5, a6, a7, a8]
theorem X7_become_o11 {M : mv_M} {w : Nat → Nat} (h : RX M 11 13 w) (hw : w 0 ≤ 8 ∧ w 1 ≤ 12) : ∃ M', fX7_become_o11 F M = some M' ∧ RX M' 1 2 w ∧ M'.2 = M.2 ∧ ∀ i j, (i ≠ 1 ∧ i ≠ 2 ∧ i ≠ 3 ∧ i ≠ 4 ∧ i ≠ 5 ∧ i ≠ 6 ∧ i ≠ 7 ∧ i ≠ 8 ∧ i ≠ 9) → M'.1 i j = M.1 i j := by
  unfold fX7_become_o11
  simp only [let_eq, cp_8, cp_12, cl_0, cl_8, cl_12]
  obtain ⟨h0, h1, h2, h3, h4⟩ := h
  refine ⟨_, rfl, ⟨?_, ?_, ?_, fun t ht => ⟨?_, ?_⟩, fun k hk => ⟨?_, ?_, ?_, ?_, fun q => ?_, fun q => ?_⟩⟩, rfl, fun i j hi => ?_⟩
  · simp only [wA_get, wI_get]; simp; exact h0
  · simp only [wA_get, wI_get]; simp; exact h1
  · simp only [wA_get, wI_get]; simp; exact h2
  · have := (h3 t ht).1
    simp only [wA_get, wI_get]; simp [cpy_8 (show t < 8 by omega)]; exact this
  · have := (h3 t ht).2
    simp only [wA_get, wI_get]; simp [cpy_8 (show t < 8 by omega)]; exact this
  · have := (h4 k hk).1
    simp only [wA_get, wI_get]; simp [cpy_12 (show k < 12 by omega)]; exact this
  · have := (h4 k hk).2.1
    simp only [wA_get, wI_get]; simp [cpy_12 (show k < 12 by omega)]; exact this
  · have := (h4 k hk).2.2.1
    simp only [wA_get, wI_get]; simp [cpy_12 (show k < 12 by omega)]; exact this
  · have := (h4 k hk).2.2.2.1
    simp only [wA_get, wI_get]; simp [cpy_12 (show k < 12 by omega)]; exact this
  · have := (h4 k hk).2.2.2.2.1 q
    simp only [wA_get, wI_get]; simp [cpy_12 (show k < 12 by omega)]; exact this
  · have := (h4 k hk).2.2.2.2.2 q
    simp only [wA_get, wI_get]; simp [cpy_12 (show k < 12 by omega)]; exact this
  · obtain ⟨a0, a1, a2, a3, a4, a5, a6, a7, a8⟩ := hi
    simp only [wA_get, wI_get]; simp [a0, a1, a2, a3, a4, a5, a6, a7, a8]
theorem X7_become_o12 {M : mv_M} {w : Nat → Nat} (h : RX M 12 21 w) (hw : w 0 ≤ 8 ∧ w 1 ≤ 12) : ∃ M', fX7_become_o12 F M = some M' ∧ RX M' 1 2 w ∧ M'.2 = M.2 ∧ ∀ i j, (i ≠ 1 ∧ i ≠ 2 ∧ i ≠ 3 ∧ i ≠ 4 ∧ i ≠ 5 ∧ i ≠ 6 ∧ i ≠ 7 ∧ i ≠ 8 ∧ i ≠ 9) → M'.1 i j = M.1 i j := by
  unfold fX7_become_o12
  simp only [let_eq, cp_8, cp_12, cl_0, cl_8, cl_12]
  obtain ⟨h0, h1, h2, h3, h4⟩ := h
  refine ⟨_, rfl, ⟨?_, ?_, ?_, fun t ht => ⟨?_, ?_⟩, fun k hk => ⟨?_, ?_, ?_, ?_, fun q => ?_, fun q => ?_⟩⟩, rfl, fun i j hi => ?_⟩
  · simp only [wA_get, wI_get]; simp; exact h0
  · simp only [wA_get, wI_get]; simp; exact h1
  · simp only [wA_get, wI_get]; simp; exact h2
  · have := (h3 t ht).1
    simp only [wA_get, wI_get]; simp [cpy_8 (show t < 8 by omega)]; exact this
  · have := (h3 t ht).2
    simp only [wA_get, wI_get]; simp [cpy_8 (show t < 8 by omega)]; exact this
  · have := (h4 k hk).1
    simp only [wA_get, wI_get]; simp [cpy_12 (show k < 12 by omega)]; exact this
  · have := (h4 k hk).2.1
    simp only [wA_get, wI_get]; simp [cpy_12 (show k < 12 by omega)]; exact this
  · have := (h4 k hk).2.2.1
    simp only [wA_get, wI_get]; simp [cpy_12 (show k < 12 by omega)]; exact this
  · have := (h4 k hk).2.2.2.1
    simp only [wA_get, wI_get]; simp [cpy_12 (show k < 12 by omega)]; exact this
  · have := (h4 k hk).2.2.2.2.1 q
    simp only [wA_get, wI_get]; simp [cpy_12 (show k < 12 by omega)]; exact this
  · have := (h4 k hk).2.2.2.2.2 q
    simp only [wA_get, wI_get]; simp [cpy_12 (show k < 12 by omega)]; exact this
  · obtain ⟨a0, a1, a2, a3, a4, a5, a6, a7, a8⟩ := hi
    simp only [wA_get, wI_get]; simp [a0, a1, a2, a3, a4, a5, a6, a7, a8]
theorem seeAbove {M : mv_M} {w : Nat → Nat} (h0 : M.1 1 0 = nI (w 0)) (h8 : w 0 ≤ 8) (hab : ∀ t, t < w 0 → w (3 + t) ≤ t) (h : ∀ t, t < w 0 → M.1 2 t = nI (w (3 + t))) (hF : 8 < F) : ∃ M', fX7_seeAbove F M = some M' ∧ M'.2 = M.2 ∧ (∀ i j, i ≠ 3 → M'.1 i j = M.1 i j) ∧ ∀ t, t < w 0 → M'.1 3 t = nI (ofb w t) := by
  unfold fX7_seeAbove
  rw [let_eq]
  refine lp_rule2 (fun n s => ∃ M' : mv_M, s = (nI n, M') ∧ M'.2 = M.2 ∧ (∀ i j, i ≠ 3 → M'.1 i j = M.1 i j) ∧ ∀ t, t < n → M'.1 3 t = nI (ofb w t)) (w 0) (fun G => ∃ M' : mv_M, G = some M' ∧ M'.2 = M.2 ∧ (∀ i j, i ≠ 3 → M'.1 i j = M.1 i j) ∧ ∀ t, t < w 0 → M'.1 3 t = nI (ofb w t)) ?_ F 0 (0, M) ⟨M, by rw [nI_0], rfl, fun _ _ _ => rfl, fun t ht => absurd ht (by omega)⟩ (by omega) (by omega)
  rintro n s f hn ⟨M', rfl, g2, g3, g4⟩
  unfold bX7_seeAbove_2
  simp only [let_eq]
  rw [g3 _ _ (by decide), h0]
  by_cases e : n = w 0
  · left
    rw [if_pos (nI_le (by omega) (by omega))]
    refine ⟨M', rfl, g2, g3, fun t ht => g4 t (by omega)⟩
  · right
    have hn' : n < w 0 := by omega
    have hub := hab n hn'
    have hof := ofb_eq w n hub
    have hlt : ∀ t, t < w 0 → ofb w t < 2 ^ 30 := fun t ht => Nat.lt_of_lt_of_le (ofb_lt hab t ht) (Nat.pow_le_pow_right (by omega) (by omega))
    have h2 : (2 : Nat) ^ n < 2 ^ 31 := Nat.pow_lt_pow_right (by omega) (by omega)
    refine ⟨hn', (nI (n + 1), mv_wI M' 3 n (nI (ofb w n))), ⟨_, rfl, g2, fun i j hi => ?_, fun t ht => ?_⟩, ?_⟩
    · rw [wI_ne (by omega)]; exact g3 i j hi
    · by_cases et : t = n
      · rw [et, wI_eq]
      · rw [wI_ne (by omega)]; exact g4 t (by omega)
    · rw [if_neg (nI_ge hn' (by omega)), ob_nI (show n < 8 by omega) (by decide), nI_clamp (by omega), g3 _ _ (by decide), h n hn']
      by_cases eu : w (3 + n) = n
      · rw [if_pos (by rw [eu]), ob_nI (show n < 8 by omega) (by decide), bt_shl (by omega), hof, if_pos eu, Nat.or_zero, nI_1]
      · rw [if_neg (fun q => eu ((nI_eq (by omega) (by omega)).mp q)), ob_nI (show w (3 + n) < 8 by omega) (by decide), ob_nI (show n < 8 by omega) (by decide), bt_shl (by omega), nI_clamp (show w (3 + n) < 2 ^ 31 by omega), g4 _ (by omega), or_nI h2 (by have := hlt (w (3 + n)) (by omega); omega), hof, if_neg eu, nI_1]
theorem seeAbove_43 {M : mv_M} {w : Nat → Nat} (h0 : M.1 43 0 = nI (w 0)) (h8 : w 0 ≤ 8) (hab : ∀ t, t < w 0 → w (3 + t) ≤ t) (h : ∀ t, t < w 0 → M.1 44 t = nI (w (3 + t))) (hF : 8 < F) : ∃ M', fX7_seeAbove_43 F M = some M' ∧ M'.2 = M.2 ∧ (∀ i j, i ≠ 45 → M'.1 i j = M.1 i j) ∧ ∀ t, t < w 0 → M'.1 45 t = nI (ofb w t) := by
  unfold fX7_seeAbove_43
  rw [let_eq]
  refine lp_rule2 (fun n s => ∃ M' : mv_M, s = (nI n, M') ∧ M'.2 = M.2 ∧ (∀ i j, i ≠ 45 → M'.1 i j = M.1 i j) ∧ ∀ t, t < n → M'.1 45 t = nI (ofb w t)) (w 0) (fun G => ∃ M' : mv_M, G = some M' ∧ M'.2 = M.2 ∧ (∀ i j, i ≠ 45 → M'.1 i j = M.1 i j) ∧ ∀ t, t < w 0 → M'.1 45 t = nI (ofb w t)) ?_ F 0 (0, M) ⟨M, by rw [nI_0], rfl, fun _ _ _ => rfl, fun t ht => absurd ht (by omega)⟩ (by omega) (by omega)
  rintro n s f hn ⟨M', rfl, g2, g3, g4⟩
  unfold bX7_seeAbove_43_2
  simp only [let_eq]
  rw [g3 _ _ (by decide), h0]
  by_cases e : n = w 0
  · left
    rw [if_pos (nI_le (by omega) (by omega))]
    refine ⟨M', rfl, g2, g3, fun t ht => g4 t (by omega)⟩
  · right
    have hn' : n < w 0 := by omega
    have hub := hab n hn'
    have hof := ofb_eq w n hub
    have hlt : ∀ t, t < w 0 → ofb w t < 2 ^ 30 := fun t ht => Nat.lt_of_lt_of_le (ofb_lt hab t ht) (Nat.pow_le_pow_right (by omega) (by omega))
    have h2 : (2 : Nat) ^ n < 2 ^ 31 := Nat.pow_lt_pow_right (by omega) (by omega)
    refine ⟨hn', (nI (n + 1), mv_wI M' 45 n (nI (ofb w n))), ⟨_, rfl, g2, fun i j hi => ?_, fun t ht => ?_⟩, ?_⟩
    · rw [wI_ne (by omega)]; exact g3 i j hi
    · by_cases et : t = n
      · rw [et, wI_eq]
      · rw [wI_ne (by omega)]; exact g4 t (by omega)
    · rw [if_neg (nI_ge hn' (by omega)), ob_nI (show n < 8 by omega) (by decide), nI_clamp (by omega), g3 _ _ (by decide), h n hn']
      by_cases eu : w (3 + n) = n
      · rw [if_pos (by rw [eu]), ob_nI (show n < 8 by omega) (by decide), bt_shl (by omega), hof, if_pos eu, Nat.or_zero, nI_1]
      · rw [if_neg (fun q => eu ((nI_eq (by omega) (by omega)).mp q)), ob_nI (show w (3 + n) < 8 by omega) (by decide), ob_nI (show n < 8 by omega) (by decide), bt_shl (by omega), nI_clamp (show w (3 + n) < 2 ^ 31 by omega), g4 _ (by omega), or_nI h2 (by have := hlt (w (3 + n)) (by omega); omega), hof, if_neg eu, nI_1]

theorem copyOf_eq {M : mv_M} {a b : Nat} (ha : a + 83 ≤ 2324) (hb : b + 83 ≤ 2324) (hd : a + 83 ≤ b ∨ b + 83 ≤ a) (hF : 83 < F) : ∃ M', fX9_copyOf F M (nI a) (nI b) = some M' ∧ M'.2 = M.2 ∧ (∀ i j, ¬ (i = 1 ∧ b ≤ j ∧ j < b + 83) → M'.1 i j = M.1 i j) ∧ ∀ j, j < 83 → M'.1 1 (b + j) = M.1 1 (a + j) := by
  unfold fX9_copyOf
  rw [let_eq]
  refine lp_rule2 (fun n s => ∃ M' : mv_M, s = (nI n, M') ∧ M'.2 = M.2 ∧ (∀ i j, ¬ (i = 1 ∧ b ≤ j ∧ j < b + 83) → M'.1 i j = M.1 i j) ∧ ∀ j, j < n → M'.1 1 (b + j) = M.1 1 (a + j)) 83 (fun G => ∃ M' : mv_M, G = some M' ∧ M'.2 = M.2 ∧ (∀ i j, ¬ (i = 1 ∧ b ≤ j ∧ j < b + 83) → M'.1 i j = M.1 i j) ∧ ∀ j, j < 83 → M'.1 1 (b + j) = M.1 1 (a + j)) ?_ F 0 (0, M) ⟨M, by rw [nI_0], rfl, fun _ _ _ => rfl, fun t ht => absurd ht (by omega)⟩ (by omega) (by omega)
  rintro n s f hn ⟨M', rfl, g2, g3, g4⟩
  unfold bX9_copyOf_2
  simp only [let_eq]
  by_cases e : n = 83
  · left
    subst e
    rw [if_pos (show (83 : Int32) ≤ nI 83 from nI_le (Nat.le_refl _) (by decide))]
    exact ⟨M', rfl, g2, g3, g4⟩
  · right
    refine ⟨by omega, (nI (n + 1), mv_wI M' 1 (b + n) (M'.1 1 (a + n))), ⟨_, rfl, g2, fun i j hi => ?_, fun j hj => ?_⟩, ?_⟩
    · rw [wI_ne (by omega)]; exact g3 i j hi
    · by_cases ej : j = n
      · rw [ej, wI_eq, g3 _ _ (by omega)]
      · rw [wI_ne (by omega)]; exact g4 j (by omega)
    · rw [if_neg (show ¬ (83 : Int32) ≤ nI n from nI_ge (b := 83) (by omega) (by decide)), nI_add, nI_add, ob_nI (show a + n < 2324 by omega) (by decide), ob_nI (show b + n < 2324 by omega) (by decide), nI_clamp (by omega), nI_clamp (by omega), nI_1]
theorem RM_copy {M M' : mv_M} {a b : Nat} {w : Nat → Nat} (h : RM M a w) (h' : ∀ j, j < 83 → M'.1 1 (b + j) = M.1 1 (a + j)) : RM M' b w := fun j hj => by rw [h' j hj]; exact h j hj
theorem RM_uw {M : mv_M} {w : Nat → Nat} {j x : Nat} (h : RM M 0 w) : RM (mv_wI M 1 j (nI x)) 0 (uw w j x) := fun i hi => by
  unfold uw
  by_cases e : i = j
  · subst e; rw [if_pos rfl, Nat.zero_add, wI_eq]
  · rw [if_neg e, wI_ne (by omega)]; exact h i hi
/-- which the oldest is that is kept -/
def off (n : Nat) : Nat := if n = 24 then 1 else 0
theorem off_le {n : Nat} (h : n ≤ 24) : n - off n ≤ 23 ∧ off n ≤ n ∧ off n ≤ 1 := by unfold off; split <;> omega
theorem minds_eq {M : mv_M} {n : Nat} (hn : n ≤ 24) (e1 : M.1 0 1 = nI n) (hF : 2000 < F) : ∃ M', fX9_minds F M = some M' ∧ M'.2 = M.2 ∧ (∀ i j, ¬ (i = 0 ∧ j = 1) → ¬ (i = 1 ∧ 332 ≤ j) → M'.1 i j = M.1 i j) ∧ M'.1 0 1 = nI (n - off n + 1) ∧ (∀ i j, i < n - off n → j < 83 → M'.1 1 (332 + 83 * i + j) = M.1 1 (332 + 83 * (i + off n) + j)) ∧ ∀ j, j < 83 → M'.1 1 (332 + 83 * (n - off n) + j) = M.1 1 j := by
  have key : ∀ (M1 : mv_M) (m : Nat), m ≤ 23 → M1.1 0 1 = nI m → ∃ M', mv_bv (fX9_copyOf F M1 (0 : Int32) ((332 : Int32) + ((83 : Int32) * (M1.1 0 1)))) (fun M3 => mv_let (mv_wI M3 0 1 ((M3.1 0 1) + (1 : Int32))) (fun M4 => some M4)) = some M' ∧ M'.2 = M1.2 ∧ (∀ i j, ¬ (i = 0 ∧ j = 1) → ¬ (i = 1 ∧ 332 + 83 * m ≤ j ∧ j < 332 + 83 * m + 83) → M'.1 i j = M1.1 i j) ∧ M'.1 0 1 = nI (m + 1) ∧ ∀ j, j < 83 → M'.1 1 (332 + 83 * m + j) = M1.1 1 j := by
    intro M1 m hm em
    have ea : (332 : Int32) + ((83 : Int32) * (M1.1 0 1)) = nI (332 + 83 * m) := by rw [em, show (332 : Int32) = nI 332 from rfl, show (83 : Int32) = nI 83 from rfl, pk_mul, nI_add]
    obtain ⟨M2, g1, g2, g3, g4⟩ := copyOf_eq (F := F) (M := M1) (a := 0) (b := 332 + 83 * m) (by omega) (by omega) (by omega) (by omega)
    rw [nI_0] at g1
    rw [ea, g1, bv_some, let_eq]
    refine ⟨_, rfl, g2, fun i j h1 h2 => ?_, ?_, fun j hj => ?_⟩
    · rw [wI_ne h1, g3 _ _ h2]
    · rw [wI_eq, g3 _ _ (by omega), em, nI_1]
    · rw [wI_ne (by omega), g4 j hj, Nat.zero_add]
  unfold fX9_minds
  simp only [mv_let] at key ⊢
  rw [e1]
  by_cases h24 : n = 24
  · subst h24
    have eo : off 24 = 1 := rfl
    rw [eo]
    rw [if_pos (by decide)]
    refine lp_rule2 (fun k s => ∃ M' : mv_M, s = (nI k, M') ∧ M'.2 = M.2 ∧ (∀ i j, ¬ (i = 1 ∧ 332 ≤ j) → M'.1 i j = M.1 i j) ∧ (∀ j, j < k → M'.1 1 (332 + j) = M.1 1 (332 + j + 83)) ∧ ∀ j, k ≤ j → M'.1 1 (332 + j) = M.1 1 (332 + j)) 1909 (fun G => ∃ M' : mv_M, G = some M' ∧ M'.2 = M.2 ∧ (∀ i j, ¬ (i = 0 ∧ j = 1) → ¬ (i = 1 ∧ 332 ≤ j) → M'.1 i j = M.1 i j) ∧ M'.1 0 1 = nI (24 - 1 + 1) ∧ (∀ i j, i < 24 - 1 → j < 83 → M'.1 1 (332 + 83 * i + j) = M.1 1 (332 + 83 * (i + 1) + j)) ∧ ∀ j, j < 83 → M'.1 1 (332 + 83 * (24 - 1) + j) = M.1 1 j) ?_ F 0 (0, M) ⟨M, by rw [nI_0], rfl, fun _ _ _ => rfl, fun t ht => absurd ht (by omega), fun _ _ => rfl⟩ (by omega) (by omega)
    rintro k s f hk ⟨M', rfl, g2, g3, g4, g5⟩
    unfold bX9_minds_11
    by_cases e : k = 1909
    · left
      subst e
      rw [if_pos (show (1909 : Int32) ≤ nI 1909 from nI_le (Nat.le_refl _) (by decide))]
      obtain ⟨M2, p1, p2, p3, p4, p5⟩ := key (mv_wI M' 0 1 ((M'.1 0 1) - (1 : Int32))) 23 (by decide) (by rw [wI_eq, g3 _ _ (by decide), e1]; decide)
      refine ⟨M2, p1, p2.trans g2, fun i j h1 h2 => ?_, p4, fun i j h1 h2 => ?_, fun j hj => ?_⟩
      · rw [p3 _ _ h1 (by omega), wI_ne h1, g3 _ _ h2]
      · rw [p3 _ _ (by omega) (by omega), wI_ne (by omega)]
        have := g4 (83 * i + j) (by omega)
        rw [show 332 + 83 * i + j = 332 + (83 * i + j) by omega, this]
        exact congrArg _ (by omega)
      · have := p5 j hj
        rw [show 332 + 83 * (24 - 1) + j = 332 + 83 * 23 + j by omega, this, wI_ne (by omega), g3 _ _ (by omega)]
    · right
      refine ⟨by omega, (nI (k + 1), mv_wI M' 1 (332 + k) (M'.1 1 (332 + k + 83))), ⟨_, rfl, g2, fun i j hi => ?_, fun j hj => ?_, fun j hj => ?_⟩, ?_⟩
      · rw [wI_ne (by omega)]; exact g3 i j hi
      · by_cases ej : j = k
        · rw [ej, wI_eq, show 332 + k + 83 = 332 + (k + 83) by omega, g5 _ (by omega)]
        · rw [wI_ne (by omega)]; exact g4 j (by omega)
      · rw [wI_ne (by omega)]; exact g5 j (by omega)
      · have ea : (332 : Int32) + nI k = nI (332 + k) := by rw [show (332 : Int32) = nI 332 from rfl, nI_add]
        have eb : (332 : Int32) + nI k + 83 = nI (332 + k + 83) := by rw [ea, show (83 : Int32) = nI 83 from rfl, nI_add]
        simp only [mv_let]
        rw [if_neg (show ¬ (1909 : Int32) ≤ nI k from nI_ge (b := 1909) (by omega) (by decide)), eb, ea, ob_nI (show 332 + k + 83 < 2324 by omega) (by decide), ob_nI (show 332 + k < 2324 by omega) (by decide), nI_clamp (by omega), nI_clamp (by omega), nI_1]
  · have eo : off n = 0 := if_neg h24
    rw [if_neg (show ¬ nI n = (24 : Int32) from fun q => h24 ((nI_eq (b := 24) (by omega) (by decide)).mp q)), eo, Nat.sub_zero]
    obtain ⟨M2, p1, p2, p3, p4, p5⟩ := key M n (by omega) e1
    rw [e1] at p1
    refine ⟨M2, p1, p2, fun i j h1 h2 => p3 i j h1 (by omega), p4, fun i j h1 h2 => ?_, p5⟩
    rw [p3 _ _ (by omega) (by omega), Nat.add_zero]
theorem cp_23 {α : Type} (G : Option α) : mv_cp (1 : Int32) (0 : Int32) (23 : Int32) 24 24 G = G := if_neg (by decide +kernel)
theorem cl_23 : (23 : Int32).toNatClampNeg = 23 := by decide +kernel
theorem forget_eq {M : mv_M} : ∃ M', fX0_forgetOldest F M = some M' ∧ M'.2 = M.2 ∧ (∀ i j, ¬ (i = 52 ∧ j = 3) → ¬ (53 ≤ i ∧ i ≤ 55) → M'.1 i j = M.1 i j) ∧ M'.1 52 3 = nI 23 ∧ ∀ c i, 53 ≤ c → c ≤ 55 → i < 23 → M'.1 c i = M.1 c (i + 1) := by
  unfold fX0_forgetOldest
  simp only [let_eq, wI_get, wA_get]
  simp only [true_and, if_true, and_self, reduceIte, Nat.reduceEqDiff, cp_23, cl_23, cl_0, cl_1]
  refine ⟨_, rfl, rfl, fun i j h1 h2 => ?_, ?_, fun c i h1 h2 h3 => ?_⟩
  · rw [wA_ne (by omega), wA_ne (by omega), wA_ne (by omega), wI_ne h1]
  · rw [wA_ne (by omega), wA_ne (by omega), wA_ne (by omega), wI_eq]; rfl
  · have hc : ∀ (f g : Nat → Int32), va_cpy f g 1 0 23 i = f (i + 1) := fun f g => by rw [pk_cpy_in (by omega) (by omega)]; exact congrArg f (by omega)
    rcases (show c = 53 ∨ c = 54 ∨ c = 55 by omega) with rfl | rfl | rfl
    · rw [wA_ne (by omega), wA_ne (by omega), wA_eq, hc, wI_ne (by omega)]
    · rw [wA_ne (by omega), wA_eq, hc, wA_ne (by omega), wI_ne (by omega)]
    · rw [wA_eq, hc, wA_ne (by omega), wA_ne (by omega), wI_ne (by omega)]
theorem keep_eq {M : mv_M} {n : Nat} {a b c : Int32} (hn : n ≤ 24) (e1 : M.1 52 3 = nI n) : ∃ M', fX0_keep F M a b c = some M' ∧ M'.2 = M.2 ∧ (∀ i j, ¬ (i = 52 ∧ j = 3) → ¬ (53 ≤ i ∧ i ≤ 55) → M'.1 i j = M.1 i j) ∧ M'.1 52 3 = nI (n - off n + 1) ∧ (∀ c' i, 53 ≤ c' → c' ≤ 55 → i < n - off n → M'.1 c' i = M.1 c' (i + off n)) ∧ M'.1 53 (n - off n) = a ∧ M'.1 54 (n - off n) = b ∧ M'.1 55 (n - off n) = c := by
  have key : ∀ (M1 : mv_M) (m : Nat), m ≤ 23 → M1.1 52 3 = nI m → ∃ M', mv_ob (M1.1 52 3) 24 (mv_let (mv_wI M1 53 (M1.1 52 3).toNatClampNeg a) (fun M3 => mv_ob (M3.1 52 3) 24 (mv_let (mv_wI M3 54 (M3.1 52 3).toNatClampNeg b) (fun M4 => mv_ob (M4.1 52 3) 24 (mv_let (mv_wI M4 55 (M4.1 52 3).toNatClampNeg c) (fun M5 => mv_let (mv_wI M5 52 3 ((M5.1 52 3) + (1 : Int32))) (fun M6 => some M6))))))) = some M' ∧ M'.2 = M1.2 ∧ (∀ i j, ¬ (i = 52 ∧ j = 3) → ¬ (53 ≤ i ∧ i ≤ 55 ∧ j = m) → M'.1 i j = M1.1 i j) ∧ M'.1 52 3 = nI (m + 1) ∧ M'.1 53 m = a ∧ M'.1 54 m = b ∧ M'.1 55 m = c := by
    intro M1 m hm em
    have r1 : (mv_wI M1 53 m a).1 52 3 = nI m := by rw [wI_ne (by omega)]; exact em
    have r2 : (mv_wI (mv_wI M1 53 m a) 54 m b).1 52 3 = nI m := by rw [wI_ne (by omega)]; exact r1
    have r3 : (mv_wI (mv_wI (mv_wI M1 53 m a) 54 m b) 55 m c).1 52 3 = nI m := by rw [wI_ne (by omega)]; exact r2
    have cm : (nI m).toNatClampNeg = m := nI_clamp (by omega)
    have om : ∀ {α : Type} (G : Option α), mv_ob (nI m) 24 G = G := fun G => ob_nI (by omega) (by decide)
    simp only [let_eq, em, om, cm, r1, r2, r3, nI_1]
    refine ⟨_, rfl, rfl, fun i j h1 h2 => ?_, wI_eq, ?_, ?_, ?_⟩
    · rw [wI_ne h1, wI_ne (by omega), wI_ne (by omega), wI_ne (by omega)]
    · rw [wI_ne (by omega), wI_ne (by omega), wI_ne (by omega), wI_eq]
    · rw [wI_ne (by omega), wI_ne (by omega), wI_eq]
    · rw [wI_ne (by omega), wI_eq]
  unfold fX0_keep
  simp only [mv_let] at key ⊢
  by_cases h24 : n = 24
  · subst h24
    have eo : off 24 = 1 := rfl
    rw [e1, if_pos (by decide), eo]
    obtain ⟨M1, g1, g2, g3, g4, g5⟩ := forget_eq (F := F) (M := M)
    obtain ⟨M2, p1, p2, p3, p4, p5, p6, p7⟩ := key M1 23 (by decide) g4
    rw [g1, bv_some]
    refine ⟨M2, p1, p2.trans g2, fun i j h1 h2 => ?_, p4, fun c' i h1 h2 h3 => ?_, p5, p6, p7⟩
    · rw [p3 _ _ h1 (by omega), g3 _ _ h1 h2]
    · rw [p3 _ _ (by omega) (by omega), g5 _ _ h1 h2 (by omega)]
  · have eo : off n = 0 := if_neg h24
    rw [if_neg (by rw [e1]; exact fun q => h24 ((nI_eq (b := 24) (by omega) (by decide)).mp q)), eo, Nat.sub_zero]
    obtain ⟨M2, p1, p2, p3, p4, p5, p6, p7⟩ := key M n (by omega) e1
    refine ⟨M2, p1, p2, fun i j h1 h2 => p3 i j h1 (by omega), p4, fun c' i h1 h2 h3 => ?_, p5, p6, p7⟩
    rw [p3 _ _ (by omega) (by omega), Nat.add_zero]
/-! the three acts, and what they do to a world -/
theorem ofT_congr {w w' : Nat → Nat} (h : ∀ t, w' (3 + t) = w (3 + t)) (n : Nat) : ∀ t, ofT w' n t = ofT w n t := by
  induction n with
  | zero => intro t; rfl
  | succ n ih =>
    intro t
    show (if t = n then 2 ^ n ||| (if w' (3 + n) = n then 0 else ofT w' n (w' (3 + n))) else ofT w' n t) = (if t = n then 2 ^ n ||| (if w (3 + n) = n then 0 else ofT w n (w (3 + n))) else ofT w n t)
    rw [h, ih, ih]
theorem ofb_congr {w w' : Nat → Nat} (h : ∀ t, w' (3 + t) = w (3 + t)) (t : Nat) : ofb w' t = ofb w t := ofT_congr h (t + 1) t
theorem WF_hide {w : Nat → Nat} (hw : WF w) {k : Nat} (hk : k < w 1) : WF (uw w 2 (w 2 ^^^ 2 ^ k)) := by
  obtain ⟨h1, h2, h3, h4, h5, h6⟩ := hw
  refine ⟨h1, h2, ?_, h4, fun t ht => ?_, fun m hm => ?_⟩
  · show w 2 ^^^ 2 ^ k < 2 ^ w 1
    exact Nat.xor_lt_two_pow h3 (Nat.pow_lt_pow_right (by omega) hk)
  · have : uw w 2 (w 2 ^^^ 2 ^ k) (3 + t) = w (3 + t) := if_neg (by omega)
    rw [this]; exact h5 t ht
  · have e : ∀ j, 3 ≤ j → uw w 2 (w 2 ^^^ 2 ^ k) j = w j := fun j hj => if_neg (by omega)
    have e0 : uw w 2 (w 2 ^^^ 2 ^ k) 0 = w 0 := rfl
    rw [e (11 + m) (by omega), e (23 + m) (by omega), e (35 + m) (by omega), e (47 + m) (by omega), e (59 + m) (by omega), e (71 + m) (by omega), e0]
    exact h6 m hm
theorem WF_cost {w : Nat → Nat} (hw : WF w) {k v : Nat} (hk : k < w 1) (h1' : 1 ≤ v) (h9 : v ≤ 9) : WF (uw w (35 + k) v) := by
  obtain ⟨h1, h2, h3, h4, h5, h6⟩ := hw
  have e : ∀ j, j ≠ 35 + k → uw w (35 + k) v j = w j := fun j hj => if_neg hj
  refine ⟨by rw [e _ (by omega)]; exact h1, by rw [e _ (by omega)]; exact h2, by rw [e _ (by omega), e _ (by omega)]; exact h3, by rw [e _ (by omega), e _ (by omega)]; exact h4, fun t ht => ?_, fun m hm => ?_⟩
  · rw [e _ (by omega)] at ht
    rw [e _ (by omega)]; exact h5 t ht
  · rw [e _ (by omega)] at hm
    obtain ⟨g1, g2, g3, g4⟩ := h6 m hm
    rw [e (11 + m) (by omega), e (23 + m) (by omega), e 0 (by omega), e (47 + m) (by omega), e (59 + m) (by omega), e (71 + m) (by omega)]
    refine ⟨g1, g2, ?_, g4⟩
    unfold uw
    split
    · exact ⟨h1', h9⟩
    · exact g3
theorem WF_above {w : Nat → Nat} (hw : WF w) {t v : Nat} (ht : t < w 0) (hv : v ≤ t) : WF (uw w (3 + t) v) := by
  obtain ⟨h1, h2, h3, h4, h5, h6⟩ := hw
  have e : ∀ j, j ≠ 3 + t → uw w (3 + t) v j = w j := fun j hj => if_neg hj
  refine ⟨by rw [e _ (by omega)]; exact h1, by rw [e _ (by omega)]; exact h2, by rw [e _ (by omega), e _ (by omega)]; exact h3, by rw [e _ (by omega), e _ (by omega)]; exact h4, fun u hu => ?_, fun m hm => ?_⟩
  · rw [e _ (by omega)] at hu
    unfold uw
    split
    · omega
    · exact h5 u hu
  · rw [e _ (by omega)] at hm
    rw [e (11 + m) (by omega), e (23 + m) (by omega), e (35 + m) (by omega), e 0 (by omega), e (47 + m) (by omega), e (59 + m) (by omega), e (71 + m) (by omega)]
    exact h6 m hm
theorem bt_xor (h k i : Nat) : bt (h ^^^ 2 ^ k) i = 1 ↔ ((bt h i = 1) ↔ ¬ i = k) := by
  rw [bt_test, bt_test, Nat.testBit_xor, Nat.testBit_two_pow]
  by_cases e : k = i
  · subst e; simp
  · have e' : ¬ i = k := fun q => e q.symm
    simp [e, e']
theorem hid_or {h k : Nat} (hh : h < 2 ^ 12) (hk : k < 12) (hb : bt h k = 0) : nI h ||| ((1 : Int32) <<< (nI k &&& 31)) = nI (h ^^^ 2 ^ k) := by
  have h2 : (2 : Nat) ^ k < 2 ^ 31 := Nat.pow_lt_pow_right (by omega) (by omega)
  rw [bt_shl (by omega), or_nI (by omega) h2]
  refine congrArg nI (bt_ext (fun i => ?_))
  rw [bt_or, bt_pow, bt_xor]
  by_cases e : i = k
  · subst e; simp [hb]
  · simp [e]
theorem hid_and {h k : Nat} (hh : h < 2 ^ 12) (hk : k < 12) (hb : bt h k = 1) : nI h &&& (((1 : Int32) <<< (nI k &&& 31)) ^^^ (-1 : Int32)) = nI (h ^^^ 2 ^ k) := by
  rw [bt_shl (by omega)]
  apply Int32.toBitVec_inj.mp
  rw [Int32.toBitVec_and, Int32.toBitVec_xor]
  show BitVec.ofNat 32 h &&& (BitVec.ofNat 32 (2 ^ k) ^^^ BitVec.allOnes 32) = BitVec.ofNat 32 (h ^^^ 2 ^ k)
  apply BitVec.eq_of_getLsbD_eq
  intro i hi
  rw [BitVec.getLsbD_and, BitVec.getLsbD_xor, BitVec.getLsbD_ofNat, BitVec.getLsbD_ofNat, BitVec.getLsbD_ofNat, BitVec.getLsbD_allOnes, Nat.testBit_xor, Nat.testBit_two_pow]
  rw [bt_test] at hb
  by_cases e : k = i
  · subst e; simp [hb, hi]
  · simp [e, hi]
theorem RX_hide {M : mv_M} {w : Nat → Nat} (h : RX M 1 2 w) (x : Nat) : RX (mv_wI M 1 2 (nI x)) 1 2 (uw w 2 x) := by
  obtain ⟨h0, h1, h2, h3, h4⟩ := h
  have e : ∀ j, j ≠ 2 → uw w 2 x j = w j := fun j hj => if_neg hj
  refine ⟨by rw [wI_ne (by omega), e _ (by omega)]; exact h0, by rw [wI_ne (by omega), e _ (by omega)]; exact h1, by rw [wI_eq]; rfl, fun t ht => ?_, fun k hk => ?_⟩
  · rw [e _ (by omega)] at ht
    rw [wI_ne (by omega), wI_ne (by omega), e _ (by omega), ofb_congr (w := w) (fun t => e _ (by omega))]
    exact h3 t ht
  · rw [e _ (by omega)] at hk
    rw [wI_ne (by omega), wI_ne (by omega), wI_ne (by omega), wI_ne (by omega), wI_ne (by omega), wI_ne (by omega), e (11 + k) (by omega), e (23 + k) (by omega), e (35 + k) (by omega), e (47 + k) (by omega), e (59 + k) (by omega), e (71 + k) (by omega)]
    exact h4 k hk
theorem RX_cost {M : mv_M} {w : Nat → Nat} (h : RX M 1 2 w) (hw : WF w) {k : Nat} (hk : k < w 1) (x : Nat) : RX (mv_wI M 6 k (nI x)) 1 2 (uw w (35 + k) x) := by
  obtain ⟨h0, h1, h2, h3, h4⟩ := h
  have h12 := hw.2.1
  have e : ∀ j, j ≠ 35 + k → uw w (35 + k) x j = w j := fun j hj => if_neg hj
  have h80 := hw.1
  refine ⟨by rw [wI_ne (by omega), e _ (by omega)]; exact h0, by rw [wI_ne (by omega), e _ (by omega)]; exact h1, by rw [wI_ne (by omega), e _ (by omega)]; exact h2, fun t ht => ?_, fun m hm => ?_⟩
  · rw [e _ (by omega)] at ht
    have ho : ofb (uw w (35 + k) x) t = ofb w t := by
      have : ∀ n t, n ≤ 9 → ofT (uw w (35 + k) x) n t = ofT w n t := by
        intro n
        induction n with
        | zero => intro t _; rfl
        | succ n ih =>
          intro t hn
          show (if t = n then 2 ^ n ||| (if uw w (35 + k) x (3 + n) = n then 0 else ofT (uw w (35 + k) x) n (uw w (35 + k) x (3 + n))) else ofT (uw w (35 + k) x) n t) = (if t = n then 2 ^ n ||| (if w (3 + n) = n then 0 else ofT w n (w (3 + n))) else ofT w n t)
          rw [e (3 + n) (by omega), ih _ (by omega), ih _ (by omega)]
      exact this (t + 1) t (by omega)
    rw [wI_ne (by omega), wI_ne (by omega), e _ (by omega), ho]
    exact h3 t ht
  · rw [e _ (by omega)] at hm
    obtain ⟨g1, g2, g3, g4, g5, g6⟩ := h4 m hm
    rw [wI_ne (show ¬ (2 + 2 = 6 ∧ m = k) by omega), wI_ne (show ¬ (2 + 3 = 6 ∧ m = k) by omega), wI_ne (show ¬ (2 + 5 = 6 ∧ m = k) by omega), wI_ne (show ¬ (2 + 6 = 6 ∧ m = k) by omega), wI_ne (show ¬ (2 + 7 = 6 ∧ m = k) by omega), e (11 + m) (by omega), e (23 + m) (by omega), e (47 + m) (by omega), e (59 + m) (by omega), e (71 + m) (by omega)]
    refine ⟨g1, g2, ?_, g4, g5, g6⟩
    by_cases em : m = k
    · subst em
      show (mv_wI M 6 m (nI x)).1 6 m = _
      rw [wI_eq]; unfold uw; rw [if_pos rfl]
    · rw [wI_ne (by omega), e _ (by omega)]; exact g3
/-- what changes a world keeps all else -/
def chg (M M' : mv_M) : Prop := M'.2 = M.2 ∧ M'.1 58 1 = 0 ∧ ∀ i j, ¬ (1 ≤ i ∧ i ≤ 9) → ¬ (i = 58 ∧ j = 1) → M'.1 i j = M.1 i j
theorem change_hide {M : mv_M} {w : Nat → Nat} (h : RX M 1 2 w) (hw : WF w) {k : Nat} (hk : k < w 1) : ∃ M', fX8_change F M 0 (nI k) (nI (1 - bt (w 2) k)) = some M' ∧ RX M' 1 2 (uw w 2 (w 2 ^^^ 2 ^ k)) ∧ chg M M' := by
  have h12 := hw.2.1
  have hlt : w 2 < 2 ^ 12 := Nat.lt_of_lt_of_le hw.2.2.1 (Nat.pow_le_pow_right (by omega) (by omega))
  refine ⟨mv_wI (mv_wI M 1 2 (nI (w 2 ^^^ 2 ^ k))) 58 1 0, ?_, RX_fr (fun i j hi => wI_ne (by omega)) (RX_hide h _), rfl, wI_eq, fun i j h1 h2 => by rw [wI_ne h2, wI_ne (by omega)]⟩
  unfold fX8_change fX7_putHidden
  rw [if_pos rfl, h.2.2.1]
  simp only [let_eq]
  rcases bt_01 (w 2) k with e | e
  · rw [e, if_neg (by decide), hid_or hlt (by omega) e]; rfl
  · rw [e, if_pos (by decide), hid_and hlt (by omega) e]; rfl
theorem change_cost {M : mv_M} {w : Nat → Nat} (h : RX M 1 2 w) (hw : WF w) {k : Nat} (hk : k < w 1) (v : Nat) : ∃ M', fX8_change F M 1 (nI k) (nI v) = some M' ∧ RX M' 1 2 (uw w (35 + k) v) ∧ chg M M' := by
  have h12 := hw.2.1
  refine ⟨mv_wI (mv_wI M 6 k (nI v)) 58 1 0, ?_, RX_fr (fun i j hi => wI_ne (by omega)) (RX_cost h hw hk v), rfl, wI_eq, fun i j h1 h2 => by rw [wI_ne h2, wI_ne (by omega)]⟩
  unfold fX8_change
  rw [if_neg (by decide), if_pos rfl, ob_nI (show k < 12 by omega) (by decide), nI_clamp (by omega)]
  rfl
theorem change_above {M : mv_M} {w : Nat → Nat} (h : RX M 1 2 w) (hw : WF w) {t : Nat} (ht : t < w 0) {v : Nat} (hv : v ≤ t) (hF : 8 < F) : ∃ M', fX8_change F M 2 (nI t) (nI v) = some M' ∧ RX M' 1 2 (uw w (3 + t) v) ∧ chg M M' := by
  have h8 := hw.1
  have hw' := WF_above hw ht hv
  obtain ⟨h0, h1, h2, h3, h4⟩ := h
  have e : ∀ j, j ≠ 3 + t → uw w (3 + t) v j = w j := fun j hj => if_neg hj
  have e0 : uw w (3 + t) v 0 = w 0 := e _ (by omega)
  obtain ⟨M1, g1, g2, g3, g4⟩ := seeAbove (F := F) (M := mv_wI M 2 t (nI v)) (w := uw w (3 + t) v) (by rw [wI_ne (by omega), e0]; exact h0) hw'.1 hw'.2.2.2.2.1 (fun u hu => by
    rw [e0] at hu
    by_cases eu : u = t
    · subst eu; rw [wI_eq]; unfold uw; rw [if_pos rfl]
    · rw [wI_ne (by omega), e _ (by omega)]; exact (h3 u hu).1) hF
  refine ⟨mv_wI M1 58 1 0, ?_, RX_fr (M := M1) (fun i j hi => wI_ne (by omega)) ⟨?_, ?_, ?_, fun u hu => ⟨?_, g4 u hu⟩, fun k hk => ?_⟩, g2, wI_eq, fun i j h1 h2 => ?_⟩
  · unfold fX8_change
    rw [if_neg (by decide), if_neg (by decide), ob_nI (show t < 8 by omega) (by decide), nI_clamp (by omega), let_eq, g1]; rfl
  · rw [g3 _ _ (by omega), wI_ne (by omega), e0]; exact h0
  · rw [g3 _ _ (by omega), wI_ne (by omega), e _ (by omega)]; exact h1
  · rw [g3 _ _ (by omega), wI_ne (by omega), e _ (by omega)]; exact h2
  · rw [e0] at hu
    rw [g3 _ _ (by omega)]
    by_cases eu : u = t
    · subst eu; rw [wI_eq]; unfold uw; rw [if_pos rfl]
    · rw [wI_ne (by omega), e _ (by omega)]; exact (h3 u hu).1
  · rw [e _ (by omega)] at hk
    rw [g3 _ _ (by omega), g3 _ _ (by omega), g3 _ _ (by omega), g3 _ _ (by omega), g3 _ _ (by omega), g3 _ _ (by omega), wI_ne (by omega), wI_ne (by omega), wI_ne (by omega), wI_ne (by omega), wI_ne (by omega), wI_ne (by omega), e (11 + k) (by omega), e (23 + k) (by omega), e (35 + k) (by omega), e (47 + k) (by omega), e (59 + k) (by omega), e (71 + k) (by omega)]
    exact h4 k hk
  · rw [wI_ne h2, g3 _ _ (by omega), wI_ne (by omega)]
end WORLDS
