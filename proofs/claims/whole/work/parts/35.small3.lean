/-! COPY, TYPES, ASKS -/
section SMALL3
variable {F : Nat}
theorem copy9_a {M : mv_M} {a i n : Nat} (j16 : mv_M → Option (Int32 × mv_M)) (ha : a < 8) (h : i + n ≤ 40) (hF : 40 < F) : ∃ M' : mv_M, mv_lp (bX9_copy_99 (nI n) j16 (nI a) (nI i)) F (0, M) = j16 M' ∧ M'.2 = M.2 ∧ (∀ c q, c ≠ 6 → M'.1 c q = M.1 c q) ∧ ∀ k, k < n → M'.1 6 k = M.1 5 (40 * a + i + k) := by
  refine lp_rule2 (fun k s => ∃ M' : mv_M, s = (nI k, M') ∧ M'.2 = M.2 ∧ (∀ c q, c ≠ 6 → M'.1 c q = M.1 c q) ∧ ∀ q, q < k → M'.1 6 q = M.1 5 (40 * a + i + q)) n (fun G => ∃ M' : mv_M, G = j16 M' ∧ M'.2 = M.2 ∧ (∀ c q, c ≠ 6 → M'.1 c q = M.1 c q) ∧ ∀ k, k < n → M'.1 6 k = M.1 5 (40 * a + i + k)) ?_ F 0 (0, M) ⟨M, by rw [nI_0], rfl, fun _ _ _ => rfl, fun j hj => absurd hj (by omega)⟩ (by omega) (by omega)
  rintro k s f hk ⟨M', rfl, h2, h3, h4⟩
  unfold bX9_copy_99
  by_cases e : k = n
  · left
    subst e
    rw [if_pos (nI_le (Nat.le_refl _) (by omega))]
    exact ⟨M', rfl, h2, h3, h4⟩
  · right
    have e1 : (((40 : Int32) * nI a) + nI i) + nI k = nI (40 * a + i + k) := by
      rw [show (40 : Int32) = nI 40 from rfl, pk_mul, nI_add, nI_add]
    refine ⟨by omega, (nI (k + 1), mv_wI M' 6 k (M'.1 5 (40 * a + i + k))), ⟨_, rfl, h2, fun c q hq => ?_, fun q hq => ?_⟩, ?_⟩
    · rw [wI_ne (by omega)]; exact h3 c q hq
    · by_cases ej : q = k
      · rw [ej, wI_eq, h3 _ _ (by omega)]
      · rw [wI_ne (by omega)]; exact h4 q (by omega)
    · rw [if_neg (nI_ge (by omega) (by omega)), e1, ob_nI (show 40 * a + i + k < 320 by omega) (by decide), ob_nI (show k < 40 by omega) (by decide), nI_clamp (by omega), nI_clamp (by omega), let_eq, let_eq, nI_1]
theorem copy9_b {M : mv_M} {b j n : Nat} (hb : b < 8) (h : j + n ≤ 40) (hF : 40 < F) : ∃ M' : mv_M, mv_lp (bX9_copy_136 (nI n) (nI b) (nI j)) F (0, M) = some (nI n, M') ∧ M'.2 = M.2 ∧ (∀ c q, ¬ (c = 5 ∧ 40 * b + j ≤ q ∧ q < 40 * b + j + n) → M'.1 c q = M.1 c q) ∧ ∀ k, k < n → M'.1 5 (40 * b + j + k) = M.1 6 k := by
  refine lp_rule2 (fun k s => ∃ M' : mv_M, s = (nI k, M') ∧ M'.2 = M.2 ∧ (∀ c q, ¬ (c = 5 ∧ 40 * b + j ≤ q ∧ q < 40 * b + j + n) → M'.1 c q = M.1 c q) ∧ ∀ q, q < k → M'.1 5 (40 * b + j + q) = M.1 6 q) n (fun G => ∃ M' : mv_M, G = some (nI n, M') ∧ M'.2 = M.2 ∧ (∀ c q, ¬ (c = 5 ∧ 40 * b + j ≤ q ∧ q < 40 * b + j + n) → M'.1 c q = M.1 c q) ∧ ∀ k, k < n → M'.1 5 (40 * b + j + k) = M.1 6 k) ?_ F 0 (0, M) ⟨M, by rw [nI_0], rfl, fun _ _ _ => rfl, fun j hj => absurd hj (by omega)⟩ (by omega) (by omega)
  rintro k s f hk ⟨M', rfl, h2, h3, h4⟩
  unfold bX9_copy_136
  by_cases e : k = n
  · left
    subst e
    rw [if_pos (nI_le (Nat.le_refl _) (by omega))]
    exact ⟨M', rfl, h2, h3, h4⟩
  · right
    have e1 : (((40 : Int32) * nI b) + nI j) + nI k = nI (40 * b + j + k) := by
      rw [show (40 : Int32) = nI 40 from rfl, pk_mul, nI_add, nI_add]
    refine ⟨by omega, (nI (k + 1), mv_wI M' 5 (40 * b + j + k) (M'.1 6 k)), ⟨_, rfl, h2, fun c q hq => ?_, fun q hq => ?_⟩, ?_⟩
    · rw [wI_ne (by omega)]; exact h3 c q hq
    · by_cases ej : q = k
      · rw [ej, wI_eq, h3 _ _ (by omega)]
      · rw [wI_ne (by omega)]; exact h4 q (by omega)
    · rw [if_neg (nI_ge (by omega) (by omega)), e1, ob_nI (show k < 40 by omega) (by decide), ob_nI (show 40 * b + j + k < 320 by omega) (by decide), nI_clamp (by omega), nI_clamp (by omega), let_eq, let_eq, nI_1]
theorem cp_in {α : Type} {sp dp n n0 n1 : Nat} {G : Option α} (h0 : sp + n ≤ n0) (h1 : dp + n ≤ n1) (hn0 : n0 < 2 ^ 31) (hn1 : n1 < 2 ^ 31) : mv_cp (nI sp) (nI dp) (nI n) n0 n1 G = G := by
  unfold mv_cp
  rw [if_neg]
  rw [nI_clamp (by omega), nI_clamp (by omega), nI_clamp (by omega)]
  rintro (h | h | h | h | h)
  · exact nI_pos (by omega) h
  · exact nI_pos (by omega) h
  · exact nI_pos (by omega) h
  · omega
  · omega
theorem ps_copy (hF : 40 < F) (a1 a2 a3 a4 a5 : Int32) : ps_ok Sim (fun M => fX8_copy F M a1 a2 a3 a4 a5) (fun M => fX9_copy F M a1 a2 a3 a4 a5) := by
  rintro MX MM ⟨w, hc, ht⟩
  show ∃ (r : Int32) (MX' MM' : mv_M), fX8_copy F MX a1 a2 a3 a4 a5 = some (r, MX') ∧ fX9_copy F MM a1 a2 a3 a4 a5 = some (r, MM') ∧ Sim MX' MM'
  unfold fX8_copy fX9_copy
  rcases ix_cases a1 (show 8 < 2 ^ 31 by decide) with h | ⟨a, ha, rfl⟩
  · exact ⟨-1000001, MX, MM, by rw [isRow8_out h, bi_some, it0], by rw [isRow9_out h, bi_some, it0], w, hc, ht⟩
  rw [isRow8_in ha, bi_some, it1, isRow9_in ha, bi_some, it1]
  rcases ix_cases a3 (show 8 < 2 ^ 31 by decide) with h | ⟨b, hb, rfl⟩
  · exact ⟨-1000001, MX, MM, by rw [isRow8_out h, bi_some, it0], by rw [isRow9_out h, bi_some, it0], w, hc, ht⟩
  rw [isRow8_in hb, bi_some, it1, isRow9_in hb, bi_some, it1]
  have oba : ∀ {α : Type} (G : Option α), mv_ob (nI a) 8 G = G := fun G => ob_nI ha (by decide)
  have obb : ∀ {α : Type} (G : Option α), mv_ob (nI b) 8 G = G := fun G => ob_nI hb (by decide)
  have cla : (nI a).toNatClampNeg = a := nI_clamp (by omega)
  have clb : (nI b).toNatClampNeg = b := nI_clamp (by omega)
  simp only [oba, obb, cla, clb]
  rcases hc.2.2.2.1 a ha with ⟨e1, e2⟩ | ⟨ln, n, h1, h2, e1, e2, e3, e4, e5⟩
  · refine ⟨(-1000010 : Int32) - 1, mv_wI MX 0 10 1, mv_wI MM 0 5 1, ?_, ?_, w, core_st 1 hc, tab_st 1 (by decide) ht⟩
    · rw [miss_y ha e1, bi_some, it1]; rfl
    · rw [e2, if_pos (by decide)]; rfl
  rw [miss_n ha h1 e1, bi_some, it0, e4, if_neg (nI_pos (by omega))]
  rcases hc.2.2.2.1 b hb with ⟨b1, b2⟩ | ⟨ln', n', g1, g2, b1, b2, b3, b4, b5⟩
  · refine ⟨(-1000010 : Int32) - 1, mv_wI MX 0 10 1, mv_wI MM 0 5 1, ?_, ?_, w, core_st 1 hc, tab_st 1 (by decide) ht⟩
    · rw [miss_y hb b1, bi_some, it1]; rfl
    · rw [b2, if_neg (by decide)]; rfl
  rw [miss_n hb g1 b1, bi_some, it0, b4, if_pos (nI_pos' (by omega)), e1, b1, e2, b2]
  by_cases hl : ln = ln'
  case neg =>
    have hl' : ¬ nI ln = nI ln' := fun q => hl ((nI_eq (by omega) (by omega)).mp q)
    refine ⟨(-1000010 : Int32) - 5, mv_wI MX 0 10 5, mv_wI MM 0 5 5, ?_, ?_, w, core_st 5 hc, tab_st 5 (by decide) ht⟩
    · rw [if_neg hl']; rfl
    · rw [if_neg hl']; rfl
  subst hl
  rw [if_pos rfl, if_pos rfl]
  rcases pl_cases a2 a5 n with h | ⟨i, m, rfl, rfl, him⟩
  · refine ⟨(-1000010 : Int32) - 2, mv_wI MX 0 10 2, mv_wI MM 0 5 2, ?_, ?_, w, core_st 2 hc, tab_st 2 (by decide) ht⟩
    · rw [hasPl_out ha h2 e3 h, bi_some, it0]; rfl
    · rw [agst_out ha h2 e4 h, bi_some, if_pos (by decide)]; rfl
  rw [hasPl_in ha h2 e3 him, bi_some, it1, agst_in ha h2 e4 him, bi_some, if_neg (by decide)]
  rcases pl_cases a4 (nI m) n' with h | ⟨j, m', rfl, hm, hjm⟩
  · refine ⟨(-1000010 : Int32) - 2, mv_wI MX 0 10 2, mv_wI MM 0 5 2, ?_, ?_, w, core_st 2 hc, tab_st 2 (by decide) ht⟩
    · rw [hasPl_out hb g2 b3 h, bi_some, it0]; rfl
    · rw [agst_out hb g2 b4 h, bi_some, if_neg (by decide)]; rfl
  have hm' : m = m' := (nI_eq (by omega) (by omega)).mp hm
  subst hm'
  rw [hasPl_in hb g2 b3 hjm, bi_some, it1, agst_in hb g2 b4 hjm, bi_some, if_pos (by decide), cp_in (show i + m ≤ 40 by omega) (show j + m ≤ 40 by omega) (by decide) (by decide)]
  simp only [let_eq]
  obtain ⟨M1, p1, p2, p3, p4⟩ := copy9_a (F := F) (M := mv_wI MM 0 5 0) (a := a) (i := i) (n := m) (fun s15 => mv_lp (bX9_copy_136 (nI m) (nI b) (nI j)) F (0, s15)) ha (by omega) hF
  obtain ⟨M2, q1, q2, q3, q4⟩ := copy9_b (F := F) (M := M1) (b := b) (j := j) (n := m) hb (by omega) hF
  refine ⟨nI m, mv_wI (mv_wA MX (31 + b) (va_cpy (MX.1 (31 + a)) (MX.1 (31 + b)) i j m)) 0 10 0, M2, ?_, ?_, w, ?_, ?_⟩
  · rw [nI_clamp (by omega), nI_clamp (by omega), nI_clamp (by omega)]; rfl
  · rw [p1]; exact q1
  · refine core_rows hc (fun i' j' _ h1 h2 => ?_) (fun i' j' _ h1 h2 => ?_) (fun r' hr' => ?_) ?_
    · rw [wI_ne h2, wA_ne (by omega)]
    · by_cases e6 : i' = 6
      · rename_i hlv
        unfold LvM at hlv
        omega
      · rw [q3 _ _ (by omega), p3 _ _ e6, wI_ne h2]
    · by_cases e : r' = b
      · subst e
        right
        refine ⟨ln, n', h1, g2, ?_, ?_, ?_, ?_, fun q hq => ?_⟩
        · rw [wI_ne (by omega), wA_ne (by omega)]; exact b1
        · rw [q3 _ _ (by omega), p3 _ _ (by omega), wI_ne (by omega)]; exact b2
        · rw [wI_ne (by omega), wA_ne (by omega)]; exact b3
        · rw [q3 _ _ (by omega), p3 _ _ (by omega), wI_ne (by omega)]; exact b4
        · rw [wI_ne (by omega), wA_eq]
          by_cases hin : j ≤ q ∧ q < j + m
          · rw [pk_cpy_in hin.1 hin.2, e5 _ (by omega)]
            have := q4 (q - j) (by omega)
            rw [show 40 * r' + j + (q - j) = 40 * r' + q by omega] at this
            rw [this, p4 _ (by omega), wI_ne (by omega)]
            exact congrArg _ (by omega)
          · rw [pk_cpy_out (by omega), q3 _ _ (by omega), p3 _ _ (by omega), wI_ne (by omega)]
            exact b5 q hq
      · refine sRow_fr (fun i' j' hi => ?_) (fun i' j' hi => ?_) (hc.2.2.2.1 r' hr')
        · rw [wI_ne (by omega), wA_ne (by omega)]
        · rw [q3 _ _ (by omega), p3 _ _ (by omega), wI_ne (by omega)]
    · rw [wI_eq, q3 _ _ (by omega), p3 _ _ (by omega), wI_eq]
  · exact tab_same (M := MX) rfl (by rw [wI_ne (by omega), wA_ne (by omega)]) ht
/-! sets as bits -/
def orb (f : Nat → Nat) : Nat → Nat
  | 0 => 0
  | n + 1 => orb f n ||| (if f n = 1 then 2 ^ n else 0)
theorem orb_lt (f : Nat → Nat) (n : Nat) : orb f n < 2 ^ n := by
  induction n with
  | zero => show 0 < 1; omega
  | succ n ih =>
    have h2 : (2 : Nat) ^ n < 2 ^ (n + 1) := Nat.pow_lt_pow_right (by omega) (by omega)
    refine Nat.or_lt_two_pow (Nat.lt_trans ih h2) ?_
    split
    · exact h2
    · exact Nat.two_pow_pos _
theorem bt_0 (i : Nat) : ¬ bt 0 i = 1 := by simp [bt]
theorem orb_bt (f : Nat → Nat) (n i : Nat) : bt (orb f n) i = 1 ↔ i < n ∧ f i = 1 := by
  induction n with
  | zero => exact ⟨fun h => absurd h (bt_0 i), fun h => absurd h.1 (by omega)⟩
  | succ n ih =>
    show bt (orb f n ||| (if f n = 1 then 2 ^ n else 0)) i = 1 ↔ _
    rw [bt_or, ih]
    by_cases e : f n = 1
    · rw [if_pos e, bt_pow]
      constructor
      · rintro (⟨h1, h2⟩ | rfl)
        · exact ⟨by omega, h2⟩
        · exact ⟨by omega, e⟩
      · rintro ⟨h1, h2⟩
        by_cases ei : i = n
        · exact Or.inr ei
        · exact Or.inl ⟨by omega, h2⟩
    · rw [if_neg e]
      constructor
      · rintro (⟨h1, h2⟩ | h)
        · exact ⟨by omega, h2⟩
        · exact absurd h (bt_0 i)
      · rintro ⟨h1, h2⟩
        by_cases ei : i = n
        · subst ei; exact absurd h2 e
        · exact Or.inl ⟨by omega, h2⟩
theorem bt_ext {x y : Nat} (h : ∀ i, bt x i = 1 ↔ bt y i = 1) : x = y := by
  refine Nat.eq_of_testBit_eq (fun i => ?_)
  have := h i
  rw [bt_test, bt_test] at this
  exact Bool.eq_iff_iff.mpr this
theorem bt_big {x n i : Nat} (h : x < 2 ^ n) (hi : n ≤ i) : ¬ bt x i = 1 := by
  unfold bt
  rw [Nat.div_eq_of_lt (Nat.lt_of_lt_of_le h (Nat.pow_le_pow_right (by omega) hi))]
  omega
theorem orb_self {x n : Nat} (h : x < 2 ^ n) : orb (bt x) n = x := by
  refine bt_ext (fun i => ?_)
  rw [orb_bt]
  constructor
  · exact fun q => q.2
  · exact fun q => ⟨Nat.lt_of_not_le (fun hi => bt_big h hi q), q⟩
/-- one more bit -/
theorem orb_step {f : Nat → Nat} {n : Nat} (hn : n < 31) : nI (orb f n) ||| ((1 : Int32) <<< (nI n &&& 31)) = nI (orb f n ||| 2 ^ n) := by
  have h1 := Nat.lt_of_lt_of_le (orb_lt f n) (Nat.pow_le_pow_right (show 0 < 2 by omega) (show n ≤ 30 by omega))
  have h2 : (2 : Nat) ^ n ≤ 2 ^ 30 := Nat.pow_le_pow_right (by omega) (by omega)
  rw [bt_shl hn, or_nI (by omega) (by omega)]
theorem or_0 (x : Int32) : x ||| (0 : Int32) = x := by
  apply Int32.toBitVec_inj.mp
  rw [Int32.toBitVec_or]
  show x.toBitVec ||| 0#32 = _
  simp
theorem bt_01 (x i : Nat) : bt x i = 0 ∨ bt x i = 1 := by have := bt_lt x i; omega
section
variable {M : mv_M} {w : Nat → Nat}
theorem typesOf8 (h : RX M 1 2 w) (hw : WF w) {t : Nat} (ht : t < w 0) (hF : 8 < F) : fX7_typesOf F M (nI t) = some (nI (orb (fun u => bt (ofb w u) t) (w 0)), M) := by
  have h8 := hw.1
  unfold fX7_typesOf
  rw [let_eq, let_eq]
  have h0 : ((0 : Int32), (0 : Int32), M) = (fun i : Nat => (nI (orb (fun u => bt (ofb w u) t) i), nI i, M)) 0 := by
    show _ = (nI 0, nI 0, M); rw [nI_0]
  rw [h0]
  refine lp_for (fun i : Nat => (nI (orb (fun u => bt (ofb w u) t) i), nI i, M)) (w 0) (fun i hi f => ?_) (fun f => ?_) F 0 (by omega) (by omega)
  · show bX7_typesOf_4 F (nI t) f (nI (orb (fun u => bt (ofb w u) t) i), nI i, M) = f (nI (orb (fun u => bt (ofb w u) t) i ||| (if bt (ofb w i) t = 1 then 2 ^ i else 0)), nI (i + 1), M)
    unfold bX7_typesOf_4
    simp only [let_eq]
    rw [h.1, if_neg (nI_ge hi (by omega)), fX7_isOf_eq h hw hi (by omega), bi_some]
    rcases bt_01 (ofb w i) t with e | e
    · rw [e, nI_0, it0, if_neg (by omega), nI_1, Nat.or_zero]
    · rw [e, show nI 1 = (1 : Int32) from rfl, it1, if_pos rfl, nI_1, orb_step (by omega)]
  · show bX7_typesOf_4 F (nI t) f (nI (orb (fun u => bt (ofb w u) t) (w 0)), nI (w 0), M) = _
    unfold bX7_typesOf_4
    rw [h.1, if_pos (nI_le (Nat.le_refl _) (by omega))]
theorem membersOf8 (h : RX M 1 2 w) (hw : WF w) {t : Nat} (ht : t < w 0) (hF : 12 < F) : fX7_membersOf F M (nI t) = some (nI (orb (fun k => bt (ofb w (w (23 + k))) t) (w 1)), M) := by
  have h8 := hw.1
  have h12 := hw.2.1
  unfold fX7_membersOf
  rw [let_eq, let_eq]
  have h0 : ((0 : Int32), (0 : Int32), M) = (fun i : Nat => (nI (orb (fun k => bt (ofb w (w (23 + k))) t) i), nI i, M)) 0 := by
    show _ = (nI 0, nI 0, M); rw [nI_0]
  rw [h0]
  refine lp_for (fun i : Nat => (nI (orb (fun k => bt (ofb w (w (23 + k))) t) i), nI i, M)) (w 1) (fun i hi f => ?_) (fun f => ?_) F 0 (by omega) (by omega)
  · show bX7_membersOf_4 F (nI t) f (nI (orb (fun k => bt (ofb w (w (23 + k))) t) i), nI i, M) = f (nI (orb (fun k => bt (ofb w (w (23 + k))) t) i ||| (if bt (ofb w (w (23 + i))) t = 1 then 2 ^ i else 0)), nI (i + 1), M)
    unfold bX7_membersOf_4
    simp only [let_eq]
    rw [h.2.1, if_neg (nI_ge hi (by omega)), fX7_givesOne_eq h hw hi (by omega), bi_some]
    rcases bt_01 (ofb w (w (23 + i))) t with e | e
    · rw [e, nI_0, it0, if_neg (by omega), nI_1, Nat.or_zero]
    · rw [e, show nI 1 = (1 : Int32) from rfl, it1, if_pos rfl, nI_1, orb_step (by omega)]
  · show bX7_membersOf_4 F (nI t) f (nI (orb (fun k => bt (ofb w (w (23 + k))) t) (w 1)), nI (w 1), M) = _
    unfold bX7_membersOf_4
    rw [h.2.1, if_pos (nI_le (Nat.le_refl _) (by omega))]
theorem givers9 (h : RM M 0 w) (hw : WF w) {t : Nat} (ht : t < w 0) (hF : 12 < F) : fX9_givers F M (nI t) = some (nI (orb (fun k => bt (ofb w (w (23 + k))) t) (w 1)), M) := by
  have h8 := hw.1
  have h12 := hw.2.1
  unfold fX9_givers
  rw [let_eq, let_eq]
  have h0 : ((0 : Int32), (0 : Int32), M) = (fun i : Nat => (nI (orb (fun k => bt (ofb w (w (23 + k))) t) i), nI i, M)) 0 := by
    show _ = (nI 0, nI 0, M); rw [nI_0]
  rw [h0]
  refine lp_for (fun i : Nat => (nI (orb (fun k => bt (ofb w (w (23 + k))) t) i), nI i, M)) (w 1) (fun i hi f => ?_) (fun f => ?_) F 0 (by omega) (by omega)
  · show bX9_givers_4 F (nI t) f (nI (orb (fun k => bt (ofb w (w (23 + k))) t) i), nI i, M) = f (nI (orb (fun k => bt (ofb w (w (23 + k))) t) i ||| (if bt (ofb w (w (23 + i))) t = 1 then 2 ^ i else 0)), nI (i + 1), M)
    unfold bX9_givers_4
    simp only [let_eq]
    have hg := (hw.2.2.2.2.2 i hi).2.1
    rw [ob_1, cl_1, RM_at h (by decide), if_neg (nI_ge hi (by omega)), ob_add (ai := (23 : Int32)) (a := 23) rfl (by omega), cl_add (ai := (23 : Int32)) (a := 23) rfl (by omega), RM_at h (by omega), fX9_isOf_eq h hw hg (by omega) (by omega), bi_some]
    rcases bt_01 (ofb w (w (23 + i))) t with e | e
    · rw [e, nI_0, it0, if_neg (by omega), nI_1, Nat.or_zero, or_0]
    · rw [e, show nI 1 = (1 : Int32) from rfl, it1, if_pos rfl, nI_1, orb_step (by omega)]
  · show bX9_givers_4 F (nI t) f (nI (orb (fun k => bt (ofb w (w (23 + k))) t) (w 1)), nI (w 1), M) = _
    unfold bX9_givers_4
    rw [ob_1, cl_1, RM_at h (by decide), if_pos (nI_le (Nat.le_refl _) (by omega))]
theorem typesOf9b (h : RM M 0 w) (hw : WF w) {t : Nat} (ht : t < w 0) (hF : 12 < F) : fX9_typesOf F M (nI t) 1 = some (nI (orb (fun u => bt (ofb w u) t) (w 0)), M) := by
  have h8 := hw.1
  unfold fX9_typesOf
  rw [let_eq, let_eq]
  have h0 : ((0 : Int32), (0 : Int32), M) = (fun i : Nat => (nI (orb (fun u => bt (ofb w u) t) i), nI i, M)) 0 := by
    show _ = (nI 0, nI 0, M); rw [nI_0]
  rw [h0]
  refine lp_for (fun i : Nat => (nI (orb (fun u => bt (ofb w u) t) i), nI i, M)) (w 0) (fun i hi f => ?_) (fun f => ?_) F 0 (by omega) (by omega)
  · show bX9_typesOf_5 1 F (nI t) f (nI (orb (fun u => bt (ofb w u) t) i), nI i, M) = f (nI (orb (fun u => bt (ofb w u) t) i ||| (if bt (ofb w i) t = 1 then 2 ^ i else 0)), nI (i + 1), M)
    unfold bX9_typesOf_5
    simp only [let_eq]
    rw [ob_0, cl_0, RM_at h (by decide), if_neg (nI_ge hi (by omega)), it1, fX9_isOf_eq h hw hi (by omega) (by omega), bi_some]
    rcases bt_01 (ofb w i) t with e | e
    · rw [e, nI_0, it0, if_neg (by omega), nI_1, Nat.or_zero, or_0]
    · rw [e, show nI 1 = (1 : Int32) from rfl, it1, if_pos rfl, nI_1, orb_step (by omega)]
  · show bX9_typesOf_5 1 F (nI t) f (nI (orb (fun u => bt (ofb w u) t) (w 0)), nI (w 0), M) = _
    unfold bX9_typesOf_5
    rw [ob_0, cl_0, RM_at h (by decide), if_pos (nI_le (Nat.le_refl _) (by omega))]
theorem typesOf9a (h : RM M 0 w) (hw : WF w) {t : Nat} (ht : t < w 0) (hF : 12 < F) : fX9_typesOf F M (nI t) 0 = some (nI (ofb w t), M) := by
  have h8 := hw.1
  have hx : orb (bt (ofb w t)) (w 0) = ofb w t := orb_self (Nat.lt_of_lt_of_le (ofb_lt hw.2.2.2.2.1 t ht) (Nat.pow_le_pow_right (by omega) (by omega)))
  unfold fX9_typesOf
  rw [let_eq, let_eq]
  have h0 : ((0 : Int32), (0 : Int32), M) = (fun i : Nat => (nI (orb (bt (ofb w t)) i), nI i, M)) 0 := by
    show _ = (nI 0, nI 0, M); rw [nI_0]
  rw [h0, ← hx]
  refine lp_for (fun i : Nat => (nI (orb (bt (ofb w t)) i), nI i, M)) (w 0) (fun i hi f => ?_) (fun f => ?_) F 0 (by omega) (by omega)
  · show bX9_typesOf_5 0 F (nI t) f (nI (orb (bt (ofb w t)) i), nI i, M) = f (nI (orb (bt (ofb w t)) i ||| (if bt (ofb w t) i = 1 then 2 ^ i else 0)), nI (i + 1), M)
    unfold bX9_typesOf_5
    simp only [let_eq]
    rw [ob_0, cl_0, RM_at h (by decide), if_neg (nI_ge hi (by omega)), if_pos trivial, fX9_isOf_eq h hw ht (by omega) (by omega), bi_some]
    rcases bt_01 (ofb w t) i with e | e
    · rw [e, nI_0, it0, if_neg (by omega), nI_1, Nat.or_zero, or_0]
    · rw [e, show nI 1 = (1 : Int32) from rfl, it1, if_pos rfl, nI_1, orb_step (by omega)]
  · show bX9_typesOf_5 0 F (nI t) f (nI (orb (bt (ofb w t)) (w 0)), nI (w 0), M) = _
    unfold bX9_typesOf_5
    rw [ob_0, cl_0, RM_at h (by decide), if_pos (nI_le (Nat.le_refl _) (by omega))]
end
theorem ps_type (hF : 12 < F) (a1 a2 : Int32) : ps_ok Sim (fun M => fX8_type F M a1 a2) (fun M => fX9_type F M a1 a2) := by
  rintro MX MM ⟨w, hc, ht⟩
  show ∃ (r : Int32) (MX' MM' : mv_M), fX8_type F MX a1 a2 = some (r, MX') ∧ fX9_type F MM a1 a2 = some (r, MM') ∧ Sim MX' MM'
  obtain ⟨hw, hX, hM, -⟩ := id hc
  have h8 := hw.1
  unfold fX8_type fX9_type
  rcases ix_cases a1 (show w 0 < 2 ^ 31 by omega) with h | ⟨t, ht', rfl⟩
  · exact ⟨-1000001, MX, MM, by rw [fX7_hasType_out hX h, bi_some, it0], by rw [fX9_isType_out hM hw h, bi_some, it0], w, hc, ht⟩
  rw [fX7_hasType_in hX hw ht', bi_some, it1, fX9_isType_in hM hw ht', bi_some, it1]
  have x := hX.2.2.2.1 t ht'
  have x2 : MX.1 2 t = nI (w (3 + t)) := x.1
  have x3 : MX.1 3 t = nI (ofb w t) := x.2
  by_cases h0 : a2 = 0
  · exact ⟨nI (w (3 + t)), MX, MM, by rw [if_pos h0, ob_nI (show t < 8 by omega) (by decide), nI_clamp (by omega), x2], by rw [if_pos h0, ob_add (ai := (3 : Int32)) (a := 3) rfl (by omega), cl_add (ai := (3 : Int32)) (a := 3) rfl (by omega), RM_at hM (by omega)], w, hc, ht⟩
  rw [if_neg h0, if_neg h0]
  by_cases h1 : a2 = 1
  · exact ⟨nI (ofb w t), MX, MM, by rw [if_pos h1, ob_nI (show t < 8 by omega) (by decide), nI_clamp (by omega), x3], by rw [if_pos h1, typesOf9a hM hw ht' hF, bi_some], w, hc, ht⟩
  rw [if_neg h1, if_neg h1]
  by_cases h2 : a2 = 2
  · exact ⟨_, MX, MM, by rw [if_pos h2, typesOf8 hX hw ht' (by omega), bi_some], by rw [if_pos h2, typesOf9b hM hw ht' hF, bi_some], w, hc, ht⟩
  rw [if_neg h2, if_neg h2]
  by_cases h3 : a2 = 3
  · exact ⟨_, MX, MM, by rw [if_pos h3, membersOf8 hX hw ht' hF, bi_some], by rw [if_pos h3, givers9 hM hw ht' hF, bi_some], w, hc, ht⟩
  rw [if_neg h3, if_neg h3]
  exact ⟨-1000001, MX, MM, rfl, rfl, w, hc, ht⟩
/-! asks -/
def pw (w : Nat → Nat) (g h : mv_M → Option (Int32 × mv_M)) : Prop := ∀ MX MM, core w MX MM → tab w MX → ∃ (r : Int32) (MX' MM' : mv_M), g MX = some (r, MX') ∧ h MM = some (r, MM') ∧ core w MX' MM' ∧ tab w MX'
theorem beg {w : Nat → Nat} {MX MM : mv_M} (v : Int32) (hc : core w MX MM) (ht : tab w MX) : ∃ MX' MM' : mv_M, fX1_begin F MX v = some MX' ∧ fX9_traces F MM v = some MM' ∧ core w MX' MM' ∧ tab w MX' := by
  obtain ⟨n, hn, e1, e2, e3⟩ := hc.2.2.2.2.2.1
  unfold fX1_begin fX9_traces
  rw [e1, e2]
  by_cases h : n = 16
  · subst h
    exact ⟨MX, MM, if_pos (by decide), if_pos (by decide), hc, ht⟩
  · rw [if_neg (show ¬ (16 : Int32) ≤ nI n from nI_ge (b := 16) (by omega) (by decide)), if_neg (show ¬ (16 : Int32) ≤ nI n from nI_ge (b := 16) (by omega) (by decide)), ob_nI (show n < 16 by omega) (by decide), ob_nI (show n < 16 by omega) (by decide), nI_clamp (by omega)]
    simp only [let_eq]
    refine ⟨_, _, rfl, rfl, ?_, tab_st _ (by decide) (tab_st _ (by decide) ht)⟩
    refine core_trace hc (fun i j _ h => ?_) (fun i j _ h => ?_) ⟨n + 1, by omega, ?_, ?_, fun j hj => ?_⟩
    · rw [wI_ne (by omega), wI_ne (by omega)]
    · rw [wI_ne (by omega), wI_ne (by omega)]
    · rw [wI_eq, wI_ne (by omega), e1, nI_1]
    · rw [wI_eq, wI_ne (by omega), e2, nI_1]
    · rw [wI_ne (a := 112) (by omega), wI_ne (a := 0) (by omega)]
      by_cases ej : j = n
      · subst ej; rw [wI_eq, wI_eq]
      · rw [wI_ne (by omega), wI_ne (by omega)]; exact e3 j (by omega)
section
variable {w : Nat → Nat} {j : Nat}
/-- body 20 stands within 21 and 23 -/
theorem beg20 {MX MM : mv_M} (hc : core w MX MM) (ht : tab w MX) : ∃ MX' MM' : mv_M, fX1_begin F MX 20 = some MX' ∧ fX9_mark20 F MM (nI j) = some (nI j, MM') ∧ core w MX' MM' ∧ tab w MX' := by
  obtain ⟨MX1, MM1, e1, e2, hc, ht⟩ := beg (F := F) 20 hc ht
  exact ⟨MX1, MM1, e1, by unfold fX9_mark20; rw [e2]; rfl, hc, ht⟩
theorem gv8 {MX MM : mv_M} (hc : core w MX MM) (hj : j < w 1) : MX.1 5 j = nI (w (23 + j)) ∧ MX.1 6 j = nI (w (35 + j)) ∧ MX.1 4 j = nI (w (11 + j)) :=
  ⟨(hc.2.1.2.2.2.2 j hj).2.1, (hc.2.1.2.2.2.2 j hj).2.2.1, (hc.2.1.2.2.2.2 j hj).1⟩
theorem pw_21 (hj : j < w 1) : pw w (fun M => fX1_body21 F M (nI j)) (fun M => fX9_mark21 F M (nI j)) := by
  intro MX MM hc ht
  have h12 := hc.1.2.1
  obtain ⟨MX1, MM1, e1, e2, hc, ht⟩ := beg (F := F) 21 hc ht
  obtain ⟨MX2, MM2, e3, e4, hc, ht⟩ := beg20 (F := F) (w := w) (j := j) hc ht
  refine ⟨nI j + nI (w (23 + j)), MX2, MM2, ?_, ?_, hc, ht⟩
  · show fX1_body21 _ _ _ = _
    unfold fX1_body21
    rw [e1, bv_some, e3, bv_some, ob_nI (show j < 12 by omega) (by decide), nI_clamp (by omega), (gv8 hc hj).1]
  · show fX9_mark21 _ _ _ = _
    unfold fX9_mark21
    rw [e2, bv_some, e4, bi_some, ob_add (ai := (23 : Int32)) (a := 23) rfl (by omega), cl_add (ai := (23 : Int32)) (a := 23) rfl (by omega), RM_at hc.2.2.1 (by omega)]
theorem pw_mk (hj : j < w 1) : pw w (fun M => fX1_markOfLocal F M (nI j)) (fun M => fX9_markOf F M (nI j)) := by
  intro MX MM hc ht
  have h12 := hc.1.2.1
  have h5 := (hc.1.2.2.2.2.2 j hj).1.2
  show ∃ (r : Int32) (MX' MM' : mv_M), fX1_markOfLocal F MX (nI j) = some (r, MX') ∧ fX9_markOf F MM (nI j) = some (r, MM') ∧ _
  unfold fX1_markOfLocal fX9_markOf
  rw [ob_nI (show j < 12 by omega) (by decide), nI_clamp (by omega), (gv8 hc hj).2.2, ob_add (ai := (11 : Int32)) (a := 11) rfl (by omega), cl_add (ai := (11 : Int32)) (a := 11) rfl (by omega), RM_at hc.2.2.1 (by omega)]
  by_cases e2 : nI (w (11 + j)) = (2 : Int32)
  · rw [if_pos e2, if_pos e2]
    obtain ⟨MX1, MM1, e1, e2, hc, ht⟩ := beg (F := F) 24 hc ht
    obtain ⟨r, MX2, MM2, e3, e4, hc, ht⟩ := pw_21 (F := F) hj _ _ hc ht
    dsimp only at e3 e4
    refine ⟨r * 2, MX2, MM2, ?_, ?_, hc, ht⟩
    · unfold fX1_body24
      rw [e1, bv_some, e3, bi_some]; rfl
    · rw [e2, bv_some, e4, bi_some, Int32.mul_comm]
  rw [if_neg e2, if_neg e2]
  by_cases e3 : nI (w (11 + j)) = (3 : Int32)
  · rw [if_pos e3, if_pos e3]
    obtain ⟨MX1, MM1, e1, e2, hc, ht⟩ := beg (F := F) 22 hc ht
    obtain ⟨r, MX2, MM2, e3, e4, hc, ht⟩ := pw_21 (F := F) hj _ _ hc ht
    dsimp only at e3 e4
    refine ⟨r - 1000, MX2, MM2, ?_, ?_, hc, ht⟩
    · unfold fX1_body22
      rw [e1, bv_some, e3, bi_some]; rfl
    · rw [e2, bv_some, e4, bi_some]
  rw [if_neg e3, if_neg e3]
  obtain ⟨r, MX2, MM2, e3, e4, hc, ht⟩ := pw_21 (F := F) hj _ _ hc ht
  dsimp only at e3 e4
  exact ⟨r, MX2, MM2, by rw [e3]; rfl, by rw [e4]; rfl, hc, ht⟩
theorem pw_10 (hj : j < w 1) : pw w (fun M => fX1_body10 F M (nI j)) (fun M => fX9_size10 F M (nI j)) := by
  intro MX MM hc ht
  have h12 := hc.1.2.1
  obtain ⟨MX1, MM1, e1, e2, hc, ht⟩ := beg (F := F) 10 hc ht
  refine ⟨nI (w (35 + j)), MX1, MM1, ?_, ?_, hc, ht⟩
  · show fX1_body10 _ _ _ = _
    unfold fX1_body10
    rw [e1, bv_some, ob_nI (show j < 12 by omega) (by decide), nI_clamp (by omega), (gv8 hc hj).2.1]
  · show fX9_size10 _ _ _ = _
    unfold fX9_size10
    rw [e2, bv_some, ob_add (ai := (35 : Int32)) (a := 35) rfl (by omega), cl_add (ai := (35 : Int32)) (a := 35) rfl (by omega), RM_at hc.2.2.1 (by omega)]
theorem pw_13 (hj : j < w 1) : pw w (fun M => fX1_body13 F M (nI j)) (fun M => fX9_size13 F M (nI j)) := by
  intro MX MM hc ht
  obtain ⟨MX1, MM1, e1, e2, hc, ht⟩ := beg (F := F) 13 hc ht
  obtain ⟨r, MX2, MM2, e3, e4, hc, ht⟩ := pw_10 (F := F) hj _ _ hc ht
  dsimp only at e3 e4
  refine ⟨r - 100, MX2, MM2, ?_, ?_, hc, ht⟩
  · show fX1_body13 _ _ _ = _
    unfold fX1_body13
    rw [e1, bv_some, e3, bi_some]
  · show fX9_size13 _ _ _ = _
    unfold fX9_size13
    rw [e2, bv_some, e4, bi_some]
theorem pw_11 (hj : j < w 1) : pw w (fun M => fX1_body11 F M (nI j)) (fun M => fX9_size11 F M (nI j)) := by
  intro MX MM hc ht
  obtain ⟨MX1, MM1, e1, e2, hc, ht⟩ := beg (F := F) 11 hc ht
  obtain ⟨r, MX2, MM2, e3, e4, hc, ht⟩ := pw_10 (F := F) hj _ _ hc ht
  dsimp only at e3 e4
  obtain ⟨r', MX3, MM3, e5, e6, hc, ht⟩ := pw_mk (F := F) hj _ _ hc ht
  dsimp only at e5 e6
  refine ⟨r + r', MX3, MM3, ?_, ?_, hc, ht⟩
  · show fX1_body11 _ _ _ = _
    unfold fX1_body11
    rw [e1, bv_some, e3, bi_some, let_eq, e5, bi_some]
  · show fX9_size11 _ _ _ = _
    unfold fX9_size11
    rw [e2, bv_some, e4, bi_some, let_eq, e6, bi_some]
theorem isKind_c {MX MM : mv_M} (hc : core w MX MM) (hj : j < w 1) {d : Nat} (hd : d ≤ 5) : fX7_isKind F MX (nI j) (nI d) = some (kd (w (11 + j)) d, MX) :=
  isKind_eq (by have := hc.1.2.1; omega) (gv8 hc hj).2.2 (hc.1.2.2.2.2.2 j hj).1.1 (hc.1.2.2.2.2.2 j hj).1.2 hd
/-- of calls and makers -/
theorem pw_szC (hj : j < w 1) (h4 : 4 ≤ w (11 + j)) : pw w (fun M => fX1_sizeOfCall F M (nI j)) (fun M => fX9_sizeOf F M (nI j)) := by
  intro MX MM hc ht
  have h12 := hc.1.2.1
  have h5 := (hc.1.2.2.2.2.2 j hj).1.2
  show ∃ (r : Int32) (MX' MM' : mv_M), fX1_sizeOfCall F MX (nI j) = some (r, MX') ∧ fX9_sizeOf F MM (nI j) = some (r, MM') ∧ _
  unfold fX1_sizeOfCall fX9_sizeOf
  rw [show (5 : Int32) = nI 5 from rfl, isKind_c hc hj (by decide), bi_some, ob_add (ai := (11 : Int32)) (a := 11) rfl (by omega), cl_add (ai := (11 : Int32)) (a := 11) rfl (by omega), RM_at hc.2.2.1 (by omega)]
  rcases (show w (11 + j) = 4 ∨ w (11 + j) = 5 by omega) with e | e
  · rw [e, show kd 4 5 = 0 from rfl, it0, if_neg (by decide), if_neg (by decide), if_pos (by decide)]
    obtain ⟨r, MX2, MM2, e3, e4, hc, ht⟩ := pw_13 (F := F) hj _ _ hc ht
    dsimp only at e3 e4
    exact ⟨r, MX2, MM2, by rw [e3]; rfl, by rw [e4]; rfl, hc, ht⟩
  · rw [e, show kd 5 5 = 1 from rfl, it1, if_neg (by decide), if_neg (by decide), if_neg (by decide), if_pos (by decide)]
    obtain ⟨MX1, MM1, e1, e2, hc, ht⟩ := beg (F := F) 14 hc ht
    obtain ⟨r, MX2, MM2, e3, e4, hc, ht⟩ := pw_13 (F := F) hj _ _ hc ht
    dsimp only at e3 e4
    refine ⟨r * 2, MX2, MM2, ?_, ?_, hc, ht⟩
    · unfold fX1_body14
      rw [e1, bv_some, e3, bi_some]; rfl
    · rw [e2, bv_some, e4, bi_some, Int32.mul_comm]
theorem pw_12 (hj : j < w 1) (e : w (11 + j) = 2) : pw w (fun M => fX1_body12 F M (nI j)) (fun M => fX9_sizeOf F M (nI j)) := by
  intro MX MM hc ht
  have h12 := hc.1.2.1
  show ∃ (r : Int32) (MX' MM' : mv_M), fX1_body12 F MX (nI j) = some (r, MX') ∧ fX9_sizeOf F MM (nI j) = some (r, MM') ∧ _
  unfold fX1_body12 fX9_sizeOf
  rw [ob_add (ai := (11 : Int32)) (a := 11) rfl (by omega), cl_add (ai := (11 : Int32)) (a := 11) rfl (by omega), RM_at hc.2.2.1 (by omega), e, if_pos (show nI 2 = (2 : Int32) from rfl)]
  obtain ⟨MX1, MM1, e1, e2, hc, ht⟩ := beg (F := F) 12 hc ht
  obtain ⟨r, MX2, MM2, e3, e4, hc, ht⟩ := pw_11 (F := F) hj _ _ hc ht
  dsimp only at e3 e4
  refine ⟨-r, MX2, MM2, ?_, ?_, hc, ht⟩
  · rw [e1, bv_some, e3, bi_some]
  · rw [e2, bv_some, e4, bi_some]
theorem pw_sz (hj : j < w 1) : pw w (fun M => fX1_sizeOf F M (nI j)) (fun M => fX9_sizeOf F M (nI j)) := by
  intro MX MM hc ht
  have h12 := hc.1.2.1
  obtain ⟨h1, h5⟩ := (hc.1.2.2.2.2.2 j hj).1
  show ∃ (r : Int32) (MX' MM' : mv_M), fX1_sizeOf F MX (nI j) = some (r, MX') ∧ fX9_sizeOf F MM (nI j) = some (r, MM') ∧ _
  have hc' := hc
  unfold fX1_sizeOf
  rw [ob_nI (show j < 12 by omega) (by decide), nI_clamp (by omega), (gv8 hc hj).2.2]
  rcases (show w (11 + j) = 2 ∨ (w (11 + j) = 4 ∨ w (11 + j) = 5) ∨ (w (11 + j) = 1 ∨ w (11 + j) = 3) by omega) with e | e | e
  · obtain ⟨r, MX2, MM2, e3, e4, hc, ht⟩ := pw_12 (F := F) hj e _ _ hc ht
    dsimp only at e3 e4
    exact ⟨r, MX2, MM2, by rw [e, if_pos (by decide), e3]; rfl, e4, hc, ht⟩
  · obtain ⟨r, MX2, MM2, e3, e4, hc, ht⟩ := pw_szC (F := F) hj (by omega) _ _ hc ht
    dsimp only at e3 e4
    refine ⟨r, MX2, MM2, ?_, e4, hc, ht⟩
    rcases e with e | e
    · rw [e, if_neg (by decide), if_neg (by decide), if_pos (by decide), e3]; rfl
    · rw [e, if_neg (by decide), if_neg (by decide), if_neg (by decide), if_pos (by decide), e3]; rfl
  · obtain ⟨r, MX2, MM2, e3, e4, hc, ht⟩ := pw_11 (F := F) hj _ _ hc ht
    dsimp only at e3 e4
    refine ⟨r, MX2, MM2, ?_, ?_, hc, ht⟩
    · rcases e with e | e
      · rw [e, if_neg (by decide), if_neg (by decide), if_neg (by decide), if_neg (by decide), e3]; rfl
      · rw [e, if_neg (by decide), if_pos (by decide), e3]; rfl
    · unfold fX9_sizeOf
      rw [ob_add (ai := (11 : Int32)) (a := 11) rfl (by omega), cl_add (ai := (11 : Int32)) (a := 11) rfl (by omega), RM_at hc'.2.2.1 (by omega)]
      rcases e with e | e
      · rw [e, if_neg (by decide), if_neg (by decide), if_neg (by decide), if_neg (by decide), e4]; rfl
      · rw [e, if_neg (by decide), if_pos (by decide), e4]; rfl
theorem pw_23 (hj : j < w 1) (h4 : 4 ≤ w (11 + j)) : pw w (fun M => fX1_body23 F M (nI j)) (fun M => fX9_mark23 F M (nI j)) := by
  intro MX MM hc ht
  obtain ⟨MX1, MM1, e1, e2, hc, ht⟩ := beg (F := F) 23 hc ht
  obtain ⟨MX2, MM2, e3, e4, hc, ht⟩ := beg20 (F := F) (w := w) (j := j) hc ht
  obtain ⟨r', MX3, MM3, e5, e6, hc, ht⟩ := pw_szC (F := F) hj h4 _ _ hc ht
  dsimp only at e5 e6
  refine ⟨nI j - r', MX3, MM3, ?_, ?_, hc, ht⟩
  · show fX1_body23 _ _ _ = _
    unfold fX1_body23
    rw [e1, bv_some, e3, bv_some, e5, bi_some]
  · show fX9_mark23 _ _ _ = _
    unfold fX9_mark23
    rw [e2, bv_some, e4, bi_some, let_eq, e6, bi_some]
end
theorem ps_ask (a1 a2 : Int32) : ps_ok Sim (fun M => fX8_ask F M a1 a2) (fun M => fX9_ask F M a1 a2) := by
  rintro MX MM ⟨w, hc, ht⟩
  show ∃ (r : Int32) (MX' MM' : mv_M), fX8_ask F MX a1 a2 = some (r, MX') ∧ fX9_ask F MM a1 a2 = some (r, MM') ∧ Sim MX' MM'
  obtain ⟨hw, hX, hM, -⟩ := id hc
  have h12 := hw.2.1
  unfold fX8_ask fX9_ask
  rcases ix_cases a1 (show w 1 < 2 ^ 31 by omega) with h | ⟨j, hj, rfl⟩
  · exact ⟨-1000001, MX, MM, by rw [fX7_hasMember_out hX h, bi_some, it0], by rw [fX9_isMember_out hM hw h, bi_some, it0], w, hc, ht⟩
  rw [fX7_hasMember_in hX hw hj, bi_some, it1, fX9_isMember_in hM hw hj, bi_some, it1]
  rcases rg_cases a2 0 1 with h | h
  · exact ⟨-1000001, MX, MM, by rw [rg_out h], by rw [in_out (L := 0) (H := 1) (by decide) (by decide) h, bi_some, it0], w, hc, ht⟩
  rw [rg_in h, in_in (L := 0) (H := 1) (by decide) (by decide) h, bi_some, it1, let_eq, let_eq]
  have hc1 : core w (mv_wI MX 112 2 0) (mv_wI MM 0 22 0) := by
    refine core_trace hc (fun i j _ h => wI_ne (by omega)) (fun i j _ h => wI_ne (by omega)) ⟨0, by omega, ?_, ?_, fun j hj => absurd hj (by omega)⟩
    · rw [wI_eq, nI_0]
    · rw [wI_eq, nI_0]
  have ht1 : tab w (mv_wI MX 112 2 0) := tab_st _ (by decide) ht
  have hk4 := isKind_c (F := F) hc1 hj (d := 4) (by decide)
  have hk4 : fX7_isKind F (mv_wI MX 112 2 0) (nI j) 4 = some (kd (w (11 + j)) 4, mv_wI MX 112 2 0) := hk4
  obtain ⟨⟨k1, k2⟩, -⟩ := hw.2.2.2.2.2 j hj
  by_cases h0 : a2 = 0
  · rw [if_pos h0, if_pos h0]
    obtain ⟨r, MX2, MM2, e3, e4, hc, ht⟩ := pw_sz (F := F) hj _ _ hc1 ht1
    dsimp only at e3 e4
    exact ⟨r, MX2, MM2, by rw [e3]; rfl, by rw [e4]; rfl, w, hc, ht⟩
  · rw [if_neg h0, if_neg h0]
    unfold fX1_markOf
    rw [hk4, bi_some, ob_add (ai := (11 : Int32)) (a := 11) rfl (by omega), cl_add (ai := (11 : Int32)) (a := 11) rfl (by omega), RM_at hc1.2.2.1 (by omega)]
    by_cases h4 : w (11 + j) < 4
    · obtain ⟨r, MX2, MM2, e3, e4, hc, ht⟩ := pw_mk (F := F) hj _ _ hc1 ht1
      dsimp only at e3 e4
      refine ⟨r, MX2, MM2, ?_, ?_, w, hc, ht⟩
      · have : kd (w (11 + j)) 4 = 0 := by
          rcases (show w (11 + j) = 1 ∨ w (11 + j) = 2 ∨ w (11 + j) = 3 by omega) with e | e | e <;> rw [e] <;> rfl
        rw [this, it0, e3]; rfl
      · rw [if_pos (show nI (w (11 + j)) < (4 : Int32) from nI_lt (b := 4) h4 (by decide)), e4]; rfl
    · obtain ⟨r, MX2, MM2, e3, e4, hc, ht⟩ := pw_23 (F := F) hj (by omega) _ _ hc1 ht1
      dsimp only at e3 e4
      refine ⟨r, MX2, MM2, ?_, ?_, w, hc, ht⟩
      · have : kd (w (11 + j)) 4 = 1 := by
          rcases (show w (11 + j) = 4 ∨ w (11 + j) = 5 by omega) with e | e <;> rw [e] <;> rfl
        rw [this, it1, e3]; rfl
      · rw [if_neg (show ¬ nI (w (11 + j)) < (4 : Int32) from nI_nlt (b := 4) (by omega) (by omega)), e4]; rfl
end SMALL3
