/-! PURE 2: truth values, bits, what a world is -/
theorem b1_0 {α : Type} (G : Option α) : mv_b1 (0 : Int32) G = G := if_pos (Or.inl rfl)
theorem b1_1 {α : Type} (G : Option α) : mv_b1 (1 : Int32) G = G := if_pos (Or.inr rfl)
theorem bi_some {α : Type} (v : Int32) (M : mv_M) (g : Int32 → mv_M → Option α) : mv_bi (some (v, M)) g = g v M := rfl
theorem bl_some {α : Type} (v : Int64) (M : mv_M) (g : Int64 → mv_M → Option α) : mv_bl (some (v, M)) g = g v M := rfl
theorem bv_some {α : Type} (M : mv_M) (g : mv_M → Option α) : mv_bv (some M) g = g M := rfl
theorem let_eq {α β : Type} (v : α) (g : α → β) : mv_let v g = g v := rfl
theorem sh_amt : ∀ k : Nat, k < 32 → ((nI k &&& 31).toBitVec.smod 32).toNat = k := by decide +kernel
theorem bt_shl {k : Nat} (h : k < 31) : (1 : Int32) <<< (nI k &&& 31) = nI (2 ^ k) := by
  have h1 : (2 : Nat) ^ k < 2 ^ 31 := Nat.pow_lt_pow_right (by omega) h
  have := pk_shlN (n := 1) (nI k &&& 31) k (sh_amt k (by omega)) (by omega)
  rw [Nat.one_mul] at this
  exact this
theorem bt_shr {h k : Nat} (hh : h < 2 ^ 31) (hk : k < 32) : nI h >>> (nI k &&& 31) = nI (h / 2 ^ k) := pk_shrN hh _ k (sh_amt k hk)
theorem bt_and1 {n : Nat} (h : n < 2 ^ 32) : nI n &&& 1 = nI (n % 2) := by
  have := pk_andN h (m := 1) 1 (by decide +kernel)
  exact this
/-- bit k of a set -/
def bt (h k : Nat) : Nat := h / 2 ^ k % 2
theorem bt_lt (h k : Nat) : bt h k < 2 := Nat.mod_lt _ (by omega)
theorem bt_of {h k : Nat} (hh : h < 2 ^ 31) (hk : k < 32) : (nI h >>> (nI k &&& 31)) &&& 1 = nI (bt h k) := by
  rw [bt_shr hh hk, bt_and1]
  · rfl
  · exact Nat.lt_of_le_of_lt (Nat.div_le_self _ _) (by omega)
theorem bt_test (h k : Nat) : bt h k = 1 ↔ h.testBit k = true := by
  unfold bt
  rw [Nat.testBit_eq_decide_div_mod_eq, decide_eq_true_iff]
theorem or_nI {a b : Nat} (ha : a < 2 ^ 31) (hb : b < 2 ^ 31) : nI a ||| nI b = nI (a ||| b) := by
  unfold nI
  apply Int32.toBitVec_inj.mp
  rw [Int32.toBitVec_or]
  show BitVec.ofNat 32 a ||| BitVec.ofNat 32 b = BitVec.ofNat 32 (a ||| b)
  apply BitVec.eq_of_toNat_eq
  rw [BitVec.toNat_or, BitVec.toNat_ofNat, BitVec.toNat_ofNat, BitVec.toNat_ofNat]
  have h1 : a ||| b < 2 ^ 32 := Nat.or_lt_two_pow (by omega) (by omega)
  rw [Nat.mod_eq_of_lt (by omega), Nat.mod_eq_of_lt (by omega), Nat.mod_eq_of_lt h1]
theorem xor_nI {a b : Nat} (ha : a < 2 ^ 31) (hb : b < 2 ^ 31) : nI a ^^^ nI b = nI (a ^^^ b) := by
  unfold nI
  apply Int32.toBitVec_inj.mp
  rw [Int32.toBitVec_xor]
  show BitVec.ofNat 32 a ^^^ BitVec.ofNat 32 b = BitVec.ofNat 32 (a ^^^ b)
  apply BitVec.eq_of_toNat_eq
  rw [BitVec.toNat_xor, BitVec.toNat_ofNat, BitVec.toNat_ofNat, BitVec.toNat_ofNat]
  have h1 : a ^^^ b < 2 ^ 32 := Nat.xor_lt_two_pow (by omega) (by omega)
  rw [Nat.mod_eq_of_lt (by omega), Nat.mod_eq_of_lt (by omega), Nat.mod_eq_of_lt h1]
/-- a number that is a type's or a member's, or not -/
theorem ix_cases (x : Int32) {n : Nat} (hn : n < 2 ^ 31) : (x < 0 ∨ (¬ x < 0 ∧ nI n ≤ x)) ∨ ∃ j : Nat, j < n ∧ x = nI j := by
  by_cases h0 : x < 0
  · exact Or.inl (Or.inl h0)
  · rcases pk_ix x hn with h | h | h
    · exact absurd h h0
    · exact Or.inl (Or.inr ⟨h0, h⟩)
    · exact Or.inr h
/-- the supertypes of a type, as bits: the first n types -/
def ofT (w : Nat → Nat) : Nat → Nat → Nat
  | 0, _ => 0
  | n + 1, t => if t = n then 2 ^ n ||| (if w (3 + n) = n then 0 else ofT w n (w (3 + n))) else ofT w n t
def ofb (w : Nat → Nat) (t : Nat) : Nat := ofT w (t + 1) t
theorem ofT_ge (w : Nat → Nat) (t : Nat) : ∀ m, t < m → ofT w m t = ofb w t := by
  intro m
  induction m with
  | zero => intro h; omega
  | succ m ih =>
    intro h
    by_cases e : t = m
    · subst e; rfl
    · show (if t = m then _ else ofT w m t) = _
      rw [if_neg e]
      exact ih (by omega)
theorem ofb_eq (w : Nat → Nat) (t : Nat) (h : w (3 + t) ≤ t) : ofb w t = 2 ^ t ||| (if w (3 + t) = t then 0 else ofb w (w (3 + t))) := by
  show (if t = t then 2 ^ t ||| (if w (3 + t) = t then 0 else ofT w t (w (3 + t))) else _) = _
  rw [if_pos rfl]
  by_cases e : w (3 + t) = t
  · rw [if_pos e, if_pos e]
  · rw [if_neg e, if_neg e, ofT_ge w _ t (by omega)]
/-- a world, told as the reference tells it: 83 numbers -/
def WF (w : Nat → Nat) : Prop :=
  w 0 ≤ 8 ∧ w 1 ≤ 12 ∧ w 2 < 2 ^ w 1 ∧ (w 0 = 0 ↔ w 1 = 0) ∧ (∀ t, t < w 0 → w (3 + t) ≤ t) ∧
  ∀ k, k < w 1 → (1 ≤ w (11 + k) ∧ w (11 + k) ≤ 5) ∧ w (23 + k) < w 0 ∧ (1 ≤ w (35 + k) ∧ w (35 + k) ≤ 9) ∧ w (47 + k) ≤ 2 ∧ (w (11 + k) < 4 → w (47 + k) = 0) ∧ (4 ≤ w (11 + k) → 1 ≤ w (47 + k)) ∧ (0 < w (47 + k) → w (59 + k) < w 0) ∧ (1 < w (47 + k) → w (71 + k) < w 0)
theorem ofb_lt {w : Nat → Nat} (h : ∀ t, t < w 0 → w (3 + t) ≤ t) : ∀ t, t < w 0 → ofb w t < 2 ^ (t + 1) := by
  intro t
  induction t using Nat.strongRecOn with
  | ind t ih =>
    intro ht
    rw [ofb_eq w t (h t ht)]
    have h2 : (2 : Nat) ^ t < 2 ^ (t + 1) := Nat.pow_lt_pow_right (by omega) (by omega)
    by_cases e : w (3 + t) = t
    · rw [if_pos e, Nat.or_zero]; exact h2
    · rw [if_neg e]
      have h1 := h t ht
      have := ih (w (3 + t)) (by omega) (by omega)
      exact Nat.or_lt_two_pow h2 (Nat.lt_of_lt_of_le this (Nat.pow_le_pow_right (by omega) (by omega)))
/-- the price of a member -/
def pr (w : Nat → Nat) (k : Nat) : Nat := if w (11 + k) = 2 then w (35 + k) + 2 else if w (11 + k) = 3 then w (35 + k) * 3 else if w (11 + k) = 5 then w (35 + k) + w (47 + k) else w (35 + k)
theorem pr_pos {w : Nat → Nat} (h : WF w) {k : Nat} (hk : k < w 1) : 1 ≤ pr w k ∧ pr w k ≤ 27 := by
  obtain ⟨-, -, -, -, -, h⟩ := h
  obtain ⟨h1, h2, h3, h4, -⟩ := h k hk
  unfold pr
  split
  · omega
  · split
    · omega
    · split <;> omega
/-- the class's world at an object o with its rows from b on holds w -/
def RX (M : mv_M) (o b : Nat) (w : Nat → Nat) : Prop :=
  M.1 o 0 = nI (w 0) ∧ M.1 o 1 = nI (w 1) ∧ M.1 o 2 = nI (w 2) ∧ (∀ t, t < w 0 → M.1 b t = nI (w (3 + t)) ∧ M.1 (b + 1) t = nI (ofb w t)) ∧
  ∀ k, k < w 1 → M.1 (b + 2) k = nI (w (11 + k)) ∧ M.1 (b + 3) k = nI (w (23 + k)) ∧ M.1 (b + 4) k = nI (w (35 + k)) ∧ M.1 (b + 5) k = nI (w (47 + k)) ∧ (0 < w (47 + k) → M.1 (b + 6) k = nI (w (59 + k))) ∧ (1 < w (47 + k) → M.1 (b + 7) k = nI (w (71 + k)))
/-- the reference's world at a place p of its row of numbers -/
def RM (M : mv_M) (p : Nat) (w : Nat → Nat) : Prop := ∀ j, j < 83 → M.1 1 (p + j) = nI (w j)
theorem fX7_hasType_in {F : Nat} {M : mv_M} {w : Nat → Nat} (h : RX M 1 2 w) (hw : WF w) {j : Nat} (hj : j < w 0) : fX7_hasType F M (nI j) = some (1, M) := by
  have := hw.1
  unfold fX7_hasType
  rw [if_neg (nI_pos (by omega)), h.1, if_neg (nI_ge hj (by omega)), b1_1]
theorem fX7_hasType_out {F : Nat} {M : mv_M} {w : Nat → Nat} (h : RX M 1 2 w) {a : Int32} (ha : a < 0 ∨ (¬ a < 0 ∧ nI (w 0) ≤ a)) : fX7_hasType F M a = some (0, M) := by
  unfold fX7_hasType
  rcases ha with ha | ⟨ha, hb⟩
  · rw [if_pos ha, b1_0]
  · rw [if_neg ha, h.1, if_pos hb, b1_0]
theorem fX7_hasMember_in {F : Nat} {M : mv_M} {w : Nat → Nat} (h : RX M 1 2 w) (hw : WF w) {j : Nat} (hj : j < w 1) : fX7_hasMember F M (nI j) = some (1, M) := by
  have := hw.2.1
  unfold fX7_hasMember
  rw [if_neg (nI_pos (by omega)), h.2.1, if_neg (nI_ge hj (by omega)), b1_1]
theorem fX7_hasMember_out {F : Nat} {M : mv_M} {w : Nat → Nat} (h : RX M 1 2 w) {a : Int32} (ha : a < 0 ∨ (¬ a < 0 ∧ nI (w 1) ≤ a)) : fX7_hasMember F M a = some (0, M) := by
  unfold fX7_hasMember
  rcases ha with ha | ⟨ha, hb⟩
  · rw [if_pos ha, b1_0]
  · rw [if_neg ha, h.2.1, if_pos hb, b1_0]
theorem fX7_isHidden_eq {F : Nat} {M : mv_M} {w : Nat → Nat} (h : RX M 1 2 w) (hw : WF w) {j : Nat} (hj : j < w 1) : fX7_isHidden F M (nI j) = some (nI (bt (w 2) j), M) := by
  obtain ⟨-, h12, hh, -⟩ := hw
  have hlt : w 2 < 2 ^ 31 := Nat.lt_of_lt_of_le hh (Nat.pow_le_pow_right (by omega) (by omega))
  unfold fX7_isHidden
  rw [h.2.2.1, bt_of hlt (by omega)]
  have := bt_lt (w 2) j
  rcases (show bt (w 2) j = 0 ∨ bt (w 2) j = 1 by omega) with e | e
  · rw [e, if_pos nI_0, b1_0]; rfl
  · rw [e, if_neg (nI_ne0 (by omega) (by omega)), b1_1]; rfl
theorem fX7_priceOf_eq {F : Nat} {M : mv_M} {w : Nat → Nat} (h : RX M 1 2 w) (hw : WF w) {j : Nat} (hj : j < w 1) : fX7_priceOf F M (nI j) = some (nI (pr w j), M) := by
  have h12 := hw.2.1
  obtain ⟨⟨k1, k2⟩, -, ⟨c1, c2⟩, t1, -⟩ := hw.2.2.2.2.2 j hj
  obtain ⟨e1, e2, e3, e4, -⟩ := h.2.2.2.2 j hj
  unfold fX7_priceOf
  rw [nI_clamp (by omega)]
  simp only [ob_nI (show j < 12 by omega) (by decide)]
  have e1' : M.1 4 j = nI (w (11 + j)) := e1
  have e3' : M.1 6 j = nI (w (35 + j)) := e3
  have e4' : M.1 7 j = nI (w (47 + j)) := e4
  rw [e1', e3', e4']
  unfold pr
  have q2 : (2 : Int32) = nI 2 := rfl
  have q3 : (3 : Int32) = nI 3 := rfl
  have q4 : (4 : Int32) = nI 4 := rfl
  have q5 : (5 : Int32) = nI 5 := rfl
  rw [q2, q3, q4, q5]
  simp only [nI_eq (show w (11 + j) < 2 ^ 31 by omega) (show 2 < 2 ^ 31 by decide), nI_eq (show w (11 + j) < 2 ^ 31 by omega) (show 3 < 2 ^ 31 by decide), nI_eq (show w (11 + j) < 2 ^ 31 by omega) (show 4 < 2 ^ 31 by decide), nI_eq (show w (11 + j) < 2 ^ 31 by omega) (show 5 < 2 ^ 31 by decide), nI_add, pk_mul]
  by_cases a2 : w (11 + j) = 2
  · simp [a2]
  · by_cases a3 : w (11 + j) = 3
    · simp [a3]
    · by_cases a4 : w (11 + j) = 4
      · simp [a4]
      · by_cases a5 : w (11 + j) = 5
        · simp [a5]
        · simp [a2, a3, a4, a5]
theorem fX7_isOf_eq {F : Nat} {M : mv_M} {w : Nat → Nat} (h : RX M 1 2 w) (hw : WF w) {t u : Nat} (ht : t < w 0) (hu : u < 32) : fX7_isOf F M (nI t) (nI u) = some (nI (bt (ofb w t) u), M) := by
  have h8 := hw.1
  have hlt := ofb_lt hw.2.2.2.2.1 t ht
  have hlt' : ofb w t < 2 ^ 31 := Nat.lt_of_lt_of_le hlt (Nat.pow_le_pow_right (by omega) (by omega))
  have e := (h.2.2.2.1 t ht).2
  have e' : M.1 3 t = nI (ofb w t) := e
  unfold fX7_isOf
  rw [ob_nI (show t < 8 by omega) (by decide), nI_clamp (by omega), e', bt_of hlt' hu]
  have := bt_lt (ofb w t) u
  rcases (show bt (ofb w t) u = 0 ∨ bt (ofb w t) u = 1 by omega) with e | e
  · rw [e, if_pos nI_0, b1_0]; rfl
  · rw [e, if_neg (nI_ne0 (by omega) (by omega)), b1_1]; rfl
theorem fX7_givesOne_eq {F : Nat} {M : mv_M} {w : Nat → Nat} (h : RX M 1 2 w) (hw : WF w) {k u : Nat} (hk : k < w 1) (hu : u < 32) : fX7_givesOne F M (nI k) (nI u) = some (nI (bt (ofb w (w (23 + k))) u), M) := by
  have h12 := hw.2.1
  obtain ⟨-, hg, -⟩ := hw.2.2.2.2.2 k hk
  obtain ⟨-, e2, -⟩ := h.2.2.2.2 k hk
  have e2' : M.1 5 k = nI (w (23 + k)) := e2
  unfold fX7_givesOne
  rw [ob_nI (show k < 12 by omega) (by decide), nI_clamp (by omega), e2', fX7_isOf_eq h hw hg hu, bi_some]
  have := bt_lt (ofb w (w (23 + k))) u
  rcases (show bt (ofb w (w (23 + k))) u = 0 ∨ bt (ofb w (w (23 + k))) u = 1 by omega) with e | e
  · rw [e]; exact b1_0 _
  · rw [e]; exact b1_1 _
