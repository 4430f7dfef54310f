/-! ACTS, IMAGES -/
section ACTS
variable {F : Nat}
theorem sAct_sh {M M' : mv_M} {i i' : Nat} {v u : Nat → Nat} (h : ∀ c, 53 ≤ c → c ≤ 55 → M'.1 c i' = M.1 c i) (hs : sAct M i v u) : sAct M' i' v u := by
  obtain ⟨wh, was, h1, h2, h3⟩ := hs
  refine ⟨wh, was, ?_, ?_, ?_⟩
  · rw [h _ (by omega) (by omega)]; exact h1
  · rw [h _ (by omega) (by omega)]; exact h2
  · rw [h _ (by omega) (by omega)]; exact h3
/-- one act more can be undone -/
theorem undo_more {w w' : Nat → Nat} {MX MM MX1 MM1 MX2 MM2 : mv_M} {n : Nat} {us : Nat → Nat → Nat} (hw : WF w) (hM : RM MM 0 w) (hn : n ≤ 24) (hus : us n = w) (hu : ∀ i, i < n → WF (us i) ∧ RM MM (332 + 83 * i) (us i) ∧ sAct MX i (us (i + 1)) (us i))
    (k1 : MX1.1 52 3 = nI (n - off n + 1)) (k2 : ∀ c' i, 53 ≤ c' → c' ≤ 55 → i < n - off n → MX1.1 c' i = MX.1 c' (i + off n)) (m1 : MM1.1 0 1 = nI (n - off n + 1)) (m2 : ∀ i j, i < n - off n → j < 83 → MM1.1 1 (332 + 83 * i + j) = MM.1 1 (332 + 83 * (i + off n) + j)) (m3 : ∀ j, j < 83 → MM1.1 1 (332 + 83 * (n - off n) + j) = MM.1 1 j)
    (c1 : ∀ i j, 52 ≤ i ∧ i ≤ 55 → MX2.1 i j = MX1.1 i j) (c2 : ∀ i j, i = 0 ∧ j = 1 ∨ (i = 1 ∧ 332 ≤ j) → MM2.1 i j = MM1.1 i j) (ha : sAct MX1 (n - off n) w' w) : sUndo MX2 MM2 w' := by
  obtain ⟨o1, o2, o3⟩ := off_le hn
  refine ⟨fun i => if i ≤ n - off n then us (i + off n) else w', n - off n + 1, by omega, if_neg (by omega), ?_, ?_, fun i hi => ?_⟩
  · rw [c1 _ _ (by omega)]; exact k1
  · rw [c2 _ _ (by omega)]; exact m1
  · have e1 : (fun i => if i ≤ n - off n then us (i + off n) else w') i = us (i + off n) := if_pos (by omega)
    rw [e1]
    by_cases e : i = n - off n
    · have e2 : (fun i => if i ≤ n - off n then us (i + off n) else w') (i + 1) = w' := if_neg (by omega)
      rw [e2, show i + off n = n by omega, hus]
      refine ⟨hw, fun j hj => ?_, sAct_fr (M := MX1) (fun c hc => c1 _ _ (by omega)) (by rw [e]; exact ha)⟩
      rw [c2 _ _ (by omega), e, m3 j hj]
      have := hM j hj
      rw [Nat.zero_add] at this
      exact this
    · have e2 : (fun i => if i ≤ n - off n then us (i + off n) else w') (i + 1) = us (i + off n + 1) := by
        show (if i + 1 ≤ n - off n then us (i + 1 + off n) else w') = _
        rw [if_pos (by omega)]; exact congrArg us (by omega)
      rw [e2]
      obtain ⟨g1, g2, g3⟩ := hu (i + off n) (by omega)
      refine ⟨g1, fun j hj => ?_, sAct_sh (fun c h1 h2 => by rw [c1 _ _ (by omega), k2 c i h1 h2 (by omega)]) g3⟩
      rw [c2 _ _ (by omega), m2 i j (by omega) hj]
      exact g2 j hj
theorem xor_xor (a b : Nat) : a ^^^ b ^^^ b = a := by
  rw [Nat.xor_assoc, Nat.xor_self, Nat.xor_zero]
theorem uw_uw (w : Nat → Nat) (j x : Nat) : uw (uw w j x) j (w j) = w := by
  funext i
  unfold uw
  by_cases e : i = j
  · subst e; rw [if_pos rfl]
  · rw [if_neg e, if_neg e]
theorem ps_hide (hF : 2000 < F) (a1 a2 : Int32) : ps_ok Sim (fun M => fX8_hide F M a1 a2) (fun M => fX9_hide F M a1 a2) := by
  rintro MX MM ⟨w, hc, ht⟩
  show ∃ (r : Int32) (MX' MM' : mv_M), fX8_hide F MX a1 a2 = some (r, MX') ∧ fX9_hide F MM a1 a2 = some (r, MM') ∧ Sim MX' MM'
  obtain ⟨hw, hX, hM, -, -, -, -, -, -, -, us, n, hn, hus, n1, n2, hu⟩ := id hc
  have h12 := hw.2.1
  have hlt : w 2 < 2 ^ 31 := Nat.lt_of_lt_of_le hw.2.2.1 (Nat.pow_le_pow_right (by omega) (by omega))
  unfold fX8_hide fX9_hide
  rcases ix_cases a1 (show w 1 < 2 ^ 31 by omega) with h | ⟨k, hk, rfl⟩
  · exact ⟨-1000001, MX, MM, by rw [fX7_hasMember_out hX h, bi_some, it0], by rw [fX9_isMember_out hM hw h, bi_some, it0], w, hc, ht⟩
  rw [fX7_hasMember_in hX hw hk, bi_some, it1, fX9_isMember_in hM hw hk, bi_some, it1]
  rcases rg_cases a2 0 1 with h | h
  · exact ⟨-1000001, MX, MM, by rw [rg_out h], by rw [in_out (L := 0) (H := 1) (by decide) (by decide) h, bi_some, it0], w, hc, ht⟩
  rw [rg_in h, in_in (L := 0) (H := 1) (by decide) (by decide) h, bi_some, it1, fX7_isHidden_eq hX hw hk, bi_some, ob_2, cl_2, RM_at hM (by decide), bt_of hlt (by omega)]
  obtain ⟨is, -, hi, rfl⟩ := rg_nat (lo := 0) (hi := 1) rfl rfl (by decide) (by decide) h
  simp only [let_eq]
  have hbs : (if nI (bt (w 2) k) = 0 then (0 : Int32) else 1) = nI (bt (w 2) k) := by
    rcases bt_01 (w 2) k with e | e
    · rw [e, if_pos nI_0, nI_0]
    · rw [e, if_neg (by decide)]; rfl
  have hsplit : ∀ (G : Int32 → Option (Int32 × mv_M)), (if nI (bt (w 2) k) = 0 then G 0 else G 1) = G (nI (bt (w 2) k)) := fun G => by
    rcases bt_01 (w 2) k with e | e
    · rw [e, if_pos nI_0, nI_0]
    · rw [e, if_neg (by decide)]; rfl
  rw [hsplit (fun v => if nI is = v then some ((-1000002 : Int32), MX) else mv_bv (fX0_keep F MX (0 : Int32) (nI k) v) (fun M8 => mv_bv (fX8_change F M8 (0 : Int32) (nI k) (nI is)) (fun M9 => some ((M9.1 1 2), M9))))]
  by_cases e : is = bt (w 2) k
  · rw [e]
    exact ⟨-1000002, MX, MM, if_pos rfl, if_pos rfl, w, hc, ht⟩
  have hlb := bt_lt (w 2) k
  have e' : ¬ nI is = nI (bt (w 2) k) := fun q => e ((nI_eq (by omega) (by omega)).mp q)
  have e'' : ¬ nI (bt (w 2) k) = nI is := fun q => e' q.symm
  rw [if_neg e', if_neg e'']
  have his : is = 1 - bt (w 2) k := by omega
  subst his
  obtain ⟨MX1, k0, k1, k2, k3, k4, k5, k6, k7⟩ := keep_eq (F := F) (M := MX) (a := 0) (b := nI k) (c := nI (bt (w 2) k)) hn n1
  have hX1 : RX MX1 1 2 w := RX_fr (fun i j hi => k2 _ _ (by omega) (by omega)) hX
  obtain ⟨MX2, c1, c2, c3, c4, c5⟩ := change_hide (F := F) hX1 hw hk
  obtain ⟨MM1, m0, m1, m2, m3, m4, m5⟩ := minds_eq (F := F) (M := MM) hn n2 hF
  have hM1 : RM MM1 0 w := RM_fr (fun j h1 h2 => m2 _ _ (by omega) (by omega)) hM
  have hx : (MM1.1 1 2) ^^^ ((1 : Int32) <<< (nI k &&& 31)) = nI (w 2 ^^^ 2 ^ k) := by
    have h2 : (2 : Nat) ^ k < 2 ^ 31 := Nat.pow_lt_pow_right (by omega) (by omega)
    rw [RM_at hM1 (by decide), bt_shl (by omega), xor_nI hlt h2]
  refine ⟨nI (w 2 ^^^ 2 ^ k), MX2, mv_wI MM1 1 2 (nI (w 2 ^^^ 2 ^ k)), ?_, ?_, uw w 2 (w 2 ^^^ 2 ^ k), ?_, ?_⟩
  · rw [k0, bv_some, c1, bv_some, c2.2.2.1]; rfl
  · rw [m0, bv_some, ob_2, ob_2, ob_2, wI_eq, hx]
  · have hw' := WF_hide hw hk
    refine core_world hc (fun i j hl h1 h2 => ?_) (fun i j hl h1 h2 => ?_) hw' c2 (RM_uw hM1) (undo_more hw hM hn hus hu k3 k4 m3 m4 m5 (fun i j hi => c5 _ _ (by omega) (by omega)) (fun i j hi => wI_ne (by omega)) ⟨k, bt (w 2) k, k6, k7, Or.inl ⟨k5, hk, ?_, ?_⟩⟩)
    · rw [c5 _ _ h1 (by unfold LvX at hl; omega), k2 _ _ (by omega) (by omega)]
    · rw [wI_ne (by omega), m2 _ _ h2 (by omega)]
    · show bt (w 2) k = 1 - bt (w 2 ^^^ 2 ^ k) k
      have hq := bt_xor (w 2) k k
      have hl2 := bt_lt (w 2 ^^^ 2 ^ k) k
      rcases bt_01 (w 2) k with e | e
      · have : bt (w 2 ^^^ 2 ^ k) k = 1 := hq.mpr (by simp [e])
        omega
      · have : ¬ bt (w 2 ^^^ 2 ^ k) k = 1 := fun q => by simp [e] at hq; omega
        omega
    · show w = uw (uw w 2 (w 2 ^^^ 2 ^ k)) 2 ((w 2 ^^^ 2 ^ k) ^^^ 2 ^ k)
      rw [xor_xor, uw_uw]
  · exact tab_new (M := MX) (by rw [c3, k1]) c4 ht
theorem ps_cost (hF : 2000 < F) (a1 a2 : Int32) : ps_ok Sim (fun M => fX8_cost F M a1 a2) (fun M => fX9_cost F M a1 a2) := by
  rintro MX MM ⟨w, hc, ht⟩
  show ∃ (r : Int32) (MX' MM' : mv_M), fX8_cost F MX a1 a2 = some (r, MX') ∧ fX9_cost F MM a1 a2 = some (r, MM') ∧ Sim MX' MM'
  obtain ⟨hw, hX, hM, -, -, -, -, -, -, -, us, n, hn, hus, n1, n2, hu⟩ := id hc
  have h12 := hw.2.1
  unfold fX8_cost fX9_cost
  rcases ix_cases a1 (show w 1 < 2 ^ 31 by omega) with h | ⟨k, hk, rfl⟩
  · exact ⟨-1000001, MX, MM, by rw [fX7_hasMember_out hX h, bi_some, it0], by rw [fX9_isMember_out hM hw h, bi_some, it0], w, hc, ht⟩
  rw [fX7_hasMember_in hX hw hk, bi_some, it1, fX9_isMember_in hM hw hk, bi_some, it1]
  rcases rg_cases a2 1 9 with h | h
  · exact ⟨-1000001, MX, MM, by rw [rg_out h], by rw [in_out (L := 1) (H := 9) (by decide) (by decide) h, bi_some, it0], w, hc, ht⟩
  rw [rg_in h, in_in (L := 1) (H := 9) (by decide) (by decide) h, bi_some, it1]
  obtain ⟨v, hv1, hv9, rfl⟩ := rg_nat (lo := 1) (hi := 9) rfl rfl (by decide) (by decide) h
  obtain ⟨-, -, ⟨g1, g9⟩, -⟩ := hw.2.2.2.2.2 k hk
  have x6 : MX.1 6 k = nI (w (35 + k)) := (hX.2.2.2.2 k hk).2.2.1
  obtain ⟨MX1, k0, k1, k2, k3, k4, k5, k6, k7⟩ := keep_eq (F := F) (M := MX) (a := 1) (b := nI k) (c := nI (w (35 + k))) hn n1
  have hX1 : RX MX1 1 2 w := RX_fr (fun i j hi => k2 _ _ (by omega) (by omega)) hX
  obtain ⟨MX2, c1, c2, c3, c4, c5⟩ := change_cost (F := F) hX1 hw hk v
  obtain ⟨MM1, m0, m1, m2, m3, m4, m5⟩ := minds_eq (F := F) (M := MM) hn n2 hF
  have hM1 : RM MM1 0 w := RM_fr (fun j h1 h2 => m2 _ _ (by omega) (by omega)) hM
  refine ⟨nI (w (35 + k)), MX2, mv_wI MM1 1 (35 + k) (nI v), ?_, ?_, uw w (35 + k) v, ?_, ?_⟩
  · rw [ob_nI (show k < 12 by omega) (by decide), nI_clamp (by omega), let_eq, x6, k0, bv_some, c1, bv_some]
  · rw [m0, bv_some, ob_add (ai := (35 : Int32)) (a := 35) rfl (by omega), cl_add (ai := (35 : Int32)) (a := 35) rfl (by omega), let_eq, ob_add (ai := (35 : Int32)) (a := 35) rfl (by omega), let_eq, RM_at hM1 (by omega)]
  · refine core_world hc (fun i j hl h1 h2 => ?_) (fun i j hl h1 h2 => ?_) (WF_cost hw hk hv1 hv9) c2 (RM_uw hM1) (undo_more hw hM hn hus hu k3 k4 m3 m4 m5 (fun i j hi => c5 _ _ (by omega) (by omega)) (fun i j hi => wI_ne (by omega)) ⟨k, w (35 + k), k6, k7, Or.inr (Or.inl ⟨k5, ?_, g1, g9, (uw_uw w (35 + k) v).symm⟩)⟩)
    · rw [c5 _ _ h1 (by unfold LvX at hl; omega), k2 _ _ (by omega) (by omega)]
    · rw [wI_ne (by omega), m2 _ _ h2 (by omega)]
    · show k < uw w (35 + k) v 1
      unfold uw
      rw [if_neg (by omega)]; exact hk
  · exact tab_new (M := MX) (by rw [c3, k1]) c4 ht
theorem ps_above (hF : 2000 < F) (a1 a2 : Int32) : ps_ok Sim (fun M => fX8_above F M a1 a2) (fun M => fX9_above F M a1 a2) := by
  rintro MX MM ⟨w, hc, ht⟩
  show ∃ (r : Int32) (MX' MM' : mv_M), fX8_above F MX a1 a2 = some (r, MX') ∧ fX9_above F MM a1 a2 = some (r, MM') ∧ Sim MX' MM'
  obtain ⟨hw, hX, hM, -, -, -, -, -, -, -, us, n, hn, hus, n1, n2, hu⟩ := id hc
  have h8 := hw.1
  unfold fX8_above fX9_above
  rcases ix_cases a1 (show w 0 < 2 ^ 31 by omega) with h | ⟨k, hk, rfl⟩
  · exact ⟨-1000001, MX, MM, by rw [fX7_hasType_out hX h, bi_some, it0], by rw [fX9_isType_out hM hw h, bi_some, it0], w, hc, ht⟩
  rw [fX7_hasType_in hX hw hk, bi_some, it1, fX9_isType_in hM hw hk, bi_some, it1]
  rcases rg_cases a2 0 (nI k) with h | h
  · exact ⟨-1000001, MX, MM, by rw [rg_out h], by rw [in_out (L := 0) (H := nI k) (by decide) (i64_toInt _) h, bi_some, it0], w, hc, ht⟩
  rw [rg_in h, in_in (L := 0) (H := nI k) (by decide) (i64_toInt _) h, bi_some, it1]
  obtain ⟨v, -, hv9, rfl⟩ := rg_nat (lo := 0) (hi := k) rfl rfl (by decide) (by omega) h
  have x6 : MX.1 2 k = nI (w (3 + k)) := (hX.2.2.2.1 k hk).1
  obtain ⟨MX1, k0, k1, k2, k3, k4, k5, k6, k7⟩ := keep_eq (F := F) (M := MX) (a := 2) (b := nI k) (c := nI (w (3 + k))) hn n1
  have hX1 : RX MX1 1 2 w := RX_fr (fun i j hi => k2 _ _ (by omega) (by omega)) hX
  obtain ⟨MX2, c1, c2, c3, c4, c5⟩ := change_above (F := F) hX1 hw hk hv9 (by omega)
  obtain ⟨MM1, m0, m1, m2, m3, m4, m5⟩ := minds_eq (F := F) (M := MM) hn n2 hF
  have hM1 : RM MM1 0 w := RM_fr (fun j h1 h2 => m2 _ _ (by omega) (by omega)) hM
  refine ⟨nI (w (3 + k)), MX2, mv_wI MM1 1 (3 + k) (nI v), ?_, ?_, uw w (3 + k) v, ?_, ?_⟩
  · rw [ob_nI (show k < 8 by omega) (by decide), nI_clamp (by omega), let_eq, x6, k0, bv_some, c1, bv_some]
  · rw [m0, bv_some, ob_add (ai := (3 : Int32)) (a := 3) rfl (by omega), cl_add (ai := (3 : Int32)) (a := 3) rfl (by omega), let_eq, ob_add (ai := (3 : Int32)) (a := 3) rfl (by omega), let_eq, RM_at hM1 (by omega)]
  · refine core_world hc (fun i j hl h1 h2 => ?_) (fun i j hl h1 h2 => ?_) (WF_above hw hk hv9) c2 (RM_uw hM1) (undo_more hw hM hn hus hu k3 k4 m3 m4 m5 (fun i j hi => c5 _ _ (by omega) (by omega)) (fun i j hi => wI_ne (by omega)) ⟨k, w (3 + k), k6, k7, Or.inr (Or.inr ⟨k5, ?_, hw.2.2.2.2.1 k hk, (uw_uw w (3 + k) v).symm⟩)⟩)
    · rw [c5 _ _ h1 (by unfold LvX at hl; omega), k2 _ _ (by omega) (by omega)]
    · rw [wI_ne (by omega), m2 _ _ h2 (by omega)]
    · show k < uw w (3 + k) v 0
      unfold uw
      rw [if_neg (by omega)]; exact hk
  · exact tab_new (M := MX) (by rw [c3, k1]) c4 ht
theorem ps_undo (hF : 2000 < F) : ps_ok Sim (fun M => fX8_undo F M) (fun M => fX9_undo F M) := by
  rintro MX MM ⟨w, hc, ht⟩
  show ∃ (r : Int32) (MX' MM' : mv_M), fX8_undo F MX = some (r, MX') ∧ fX9_undo F MM = some (r, MM') ∧ Sim MX' MM'
  obtain ⟨hw, hX, hM, -, -, -, -, -, -, -, us, n, hn, hus, n1, n2, hu⟩ := id hc
  unfold fX8_undo fX9_undo
  rw [n1, n2]
  by_cases h0 : n = 0
  · subst h0
    exact ⟨-1000002, MX, MM, if_pos nI_0, if_pos nI_0, w, hc, ht⟩
  obtain ⟨m, rfl⟩ : ∃ m, n = m + 1 := ⟨n - 1, by omega⟩
  rw [if_neg (nI_ne0 (by omega) (by omega)), if_neg (nI_ne0 (by omega) (by omega)), nI_pred]
  simp only [let_eq]
  rw [wI_eq, wI_eq]
  obtain ⟨u1, u2, wh, was, a2, a3, ha⟩ := hu m (by omega)
  rw [hus] at ha
  have hcl : (nI m).toNatClampNeg = m := nI_clamp (by omega)
  have ob : ∀ {α : Type} (G : Option α), mv_ob (nI m) 24 G = G := fun G => ob_nI (by omega) (by decide)
  have hX1 : RX (mv_wI MX 52 3 (nI m)) 1 2 w := RX_fr (fun i j hi => wI_ne (by omega)) hX
  have hch : ∃ MX2, fX8_change F (mv_wI MX 52 3 (nI m)) (MX.1 53 m) (nI wh) (nI was) = some MX2 ∧ RX MX2 1 2 (us m) ∧ chg (mv_wI MX 52 3 (nI m)) MX2 := by
    rcases ha with ⟨e1, e2, e3, e4⟩ | ⟨e1, e2, e3, e3', e4⟩ | ⟨e1, e2, e3, e4⟩
    · rw [e1, e4, e3]; exact change_hide hX1 hw e2
    · rw [e1, e4]; exact change_cost hX1 hw e2 was
    · rw [e1, e4]; exact change_above hX1 hw e2 e3 (by omega)
  obtain ⟨MX2, c1, c2, c3, c4, c5⟩ := hch
  obtain ⟨MM2, g1, g2, g3, g4⟩ := copyOf_eq (F := F) (M := mv_wI MM 0 1 (nI m)) (a := 332 + 83 * m) (b := 0) (by omega) (by omega) (by omega) (by omega)
  have ea : (332 : Int32) + ((83 : Int32) * nI m) = nI (332 + 83 * m) := by rw [show (332 : Int32) = nI 332 from rfl, show (83 : Int32) = nI 83 from rfl, pk_mul, nI_add]
  rw [nI_0] at g1
  refine ⟨nI m, MX2, MM2, ?_, ?_, us m, ?_, ?_⟩
  · rw [ob, ob, ob, hcl, wI_ne (by omega), wI_ne (by omega), wI_ne (by omega), a2, a3, c1, bv_some]
  · rw [ea, g1, bv_some, g3 _ _ (by omega), wI_eq]
  · refine core_world hc (fun i j hl h1 h2 => ?_) (fun i j hl h1 h2 => ?_) u1 c2 (RM_copy (a := 332 + 83 * m) (M := mv_wI MM 0 1 (nI m)) (RM_fr (fun j h1 h2 => wI_ne (by omega)) u2) g4) ⟨us, m, by omega, rfl, ?_, ?_, fun i hi => ?_⟩
    · rw [c5 _ _ h1 (by unfold LvX at hl; omega), wI_ne (by omega)]
    · rw [g3 _ _ (by omega), wI_ne h2]
    · rw [c5 _ _ (by omega) (by omega), wI_eq]
    · rw [g3 _ _ (by omega), wI_eq]
    · obtain ⟨v1, v2, v3⟩ := hu i (by omega)
      refine ⟨v1, RM_fr (fun j h1 h2 => ?_) v2, sAct_fr (M := MX) (fun c hc => ?_) v3⟩
      · rw [g3 _ _ (by omega), wI_ne (by omega)]
      · rw [c5 _ _ (by omega) (by omega), wI_ne (by omega)]
  · exact tab_new (M := MX) c3 c4 ht
/-- an image is new -/
theorem core_img {w : Nat → Nat} {MX MM MX' MM' : mv_M} {k : Nat} (hk : k < 2) (hc : core w MX MM) (hX : ∀ i j, LvX i j → ¬ (i = 11 + k ∨ (13 + 8 * k ≤ i ∧ i ≤ 20 + 8 * k)) → MX'.1 i j = MX.1 i j) (hM : ∀ i j, LvM i j → ¬ (i = 11 ∧ j = k) → ¬ (i = 1 ∧ 166 + 83 * k ≤ j ∧ j < 249 + 83 * k) → MM'.1 i j = MM.1 i j) (hr : sImg MX' MM' k) : core w MX' MM' := by
  obtain ⟨h1, h2, h3, h4, h5, h6, h7, h8, h9, h10, h11⟩ := hc
  refine ⟨h1, RX_fr (fun i j hi => hX i j (by unfold LvX; omega) (by omega)) h2, RM_fr (fun j h6 h7 => hM _ _ (by unfold LvM; omega) (by omega) (by omega)) h3, sRows_fr (fun i j hi => hX i j (by unfold LvX; omega) (by omega)) (fun i j hi => hM i j (by unfold LvM; omega) (by omega) (by omega)) h4, sTape_fr (fun i j hi => hX i j (by unfold LvX; omega) (by omega)) (fun i j hi => hM i j (by unfold LvM; omega) (by omega) (by omega)) h5, sTrace_fr (fun i j hi => hX i j (by unfold LvX; omega) (by omega)) (fun i j hi => hM i j (by unfold LvM; omega) (by omega) (by omega)) h6, ?_, ?_, ?_, ?_, sUndo_fr (fun i j hi => hX i j (by unfold LvX; omega) (by omega)) (fun i j hi => hM i j (by unfold LvM; omega) (by omega) (by omega)) h11⟩
  · rw [hX _ _ (by unfold LvX; omega) (by omega), hM _ _ (by unfold LvM; omega) (by omega) (by omega)]; exact h7
  · rw [hX _ _ (by unfold LvX; omega) (by omega), hM _ _ (by unfold LvM; omega) (by omega) (by omega)]; exact h8
  · by_cases e : k = 0
    · subst e; exact hr
    · exact sImg_fr (fun i j hi => hX i j (by unfold LvX; omega) (by omega)) (fun i j hi => hM i j (by unfold LvM; omega) (by omega) (by omega)) h9
  · by_cases e : k = 1
    · subst e; exact hr
    · exact sImg_fr (fun i j hi => hX i j (by unfold LvX; omega) (by omega)) (fun i j hi => hM i j (by unfold LvM; omega) (by omega) (by omega)) h10
theorem isWorld_y {M : mv_M} {w : Nat → Nat} (h : RM M 0 w) (hw : WF w) (h0 : w 0 ≠ 0) : fX9_isWorld F M = some (1, M) := by
  have h1 : w 1 ≠ 0 := fun q => h0 (hw.2.2.2.1.mpr q)
  have h12 := hw.2.1
  unfold fX9_isWorld
  rw [ob_1, cl_1, RM_at h (by decide), if_neg (nI_nle (by omega) (by omega)), b1_1]
theorem isWorld_n {M : mv_M} {w : Nat → Nat} (h : RM M 0 w) (hw : WF w) (h0 : w 0 = 0) : fX9_isWorld F M = some (0, M) := by
  have h1 : w 1 = 0 := hw.2.2.2.1.mp h0
  unfold fX9_isWorld
  rw [ob_1, cl_1, RM_at h (by decide), h1, if_pos (by decide), b1_0]
theorem lt2_cases (a : Int32) : (a < 0 ∨ (1 : Int32) < a) ∨ a = 0 ∨ a = 1 := by
  rcases rg_cases a 0 1 with h | h
  · exact Or.inl h
  · obtain ⟨j, -, hj, rfl⟩ := rg_nat (lo := 0) (hi := 1) rfl rfl (by decide) (by decide) h
    rcases (show j = 0 ∨ j = 1 by omega) with rfl | rfl
    · exact Or.inr (Or.inl rfl)
    · exact Or.inr (Or.inr rfl)
theorem lt2_out {α : Type} {a : Int32} {B G : α} (h : a < 0 ∨ (1 : Int32) < a) : (if a < 0 then B else (if a < (2 : Int32) then G else B)) = B := by
  by_cases h1 : a < 0
  · rw [if_pos h1]
  · rw [if_neg h1, if_neg]
    intro q
    rcases h with h | h
    · exact h1 h
    · rw [Int32.lt_iff_toInt_lt] at q h
      have : (2 : Int32).toInt = 2 := by decide
      have : (1 : Int32).toInt = 1 := by decide
      omega
theorem ps_image (hF : 2000 < F) (a : Int32) : ps_ok Sim (fun M => fX8_image F M a) (fun M => fX9_image F M a) := by
  rintro MX MM ⟨w, hc, ht⟩
  show ∃ (r : Int32) (MX' MM' : mv_M), fX8_image F MX a = some (r, MX') ∧ fX9_image F MM a = some (r, MM') ∧ Sim MX' MM'
  obtain ⟨hw, hX, hM, -⟩ := id hc
  have h8 := hw.1
  unfold fX8_image fX9_image
  rcases lt2_cases a with h | h
  · exact ⟨-1000001, MX, MM, lt2_out h, by rw [in_out (L := 0) (H := 1) (by decide) (by decide) h, bi_some, it0], w, hc, ht⟩
  by_cases h0 : w 0 = 0
  · refine ⟨-1000002, MX, MM, ?_, ?_, w, hc, ht⟩
    · rw [hX.1, h0, nI_0]
      rcases h with rfl | rfl
      · rfl
      · rfl
    · rw [in_in (L := 0) (H := 1) (by decide) (by decide) (by rcases h with rfl | rfl <;> decide), bi_some, it1, isWorld_n hM hw h0, bi_some, it0]
  have hx0 : ¬ nI (w 0) = 0 := nI_ne0 (by omega) (by omega)
  rcases h with rfl | rfl
  · obtain ⟨MX1, g1, g2, g3, g4⟩ := X7_become_11_o1 (F := F) hX ⟨hw.1, hw.2.1⟩
    obtain ⟨MM1, p1, p2, p3, p4⟩ := copyOf_eq (F := F) (M := MM) (a := 0) (b := 166) (by omega) (by omega) (by omega) (by omega)
    refine ⟨1, MX1, mv_wI MM1 11 0 1, ?_, ?_, w, core_img (k := 0) (by decide) hc (fun i j _ h => g4 _ _ (by omega)) (fun i j _ h1 h2 => ?_) (Or.inr ⟨wI_eq, w, hw, by omega, g2, RM_fr (M := MM1) (fun j h1 h2 => wI_ne (by omega)) (RM_copy hM p4)⟩), ?_⟩
    · rw [if_neg (by decide), if_pos (by decide), hX.1, if_neg hx0, show mv_ob (0 : Int32) 2 _ = _ from if_neg (by decide), if_pos rfl, g1, bv_some]
    · rw [in_in (L := 0) (H := 1) (by decide) (by decide) (by decide), bi_some, it1, isWorld_y hM hw h0, bi_some, it1, show (166 : Int32) + (83 : Int32) * 0 = nI 166 by decide, ← nI_0, p1, bv_some, show mv_ob (nI 0) 2 _ = _ from if_neg (by decide)]; rfl
    · rw [wI_ne h1, p3 _ _ (by omega)]
    · exact tab_same (M := MX) g3 (g4 _ _ (by omega)) ht
  · obtain ⟨MX1, g1, g2, g3, g4⟩ := X7_become_12_o1 (F := F) hX ⟨hw.1, hw.2.1⟩
    obtain ⟨MM1, p1, p2, p3, p4⟩ := copyOf_eq (F := F) (M := MM) (a := 0) (b := 249) (by omega) (by omega) (by omega) (by omega)
    refine ⟨1, MX1, mv_wI MM1 11 1 1, ?_, ?_, w, core_img (k := 1) (by decide) hc (fun i j _ h => g4 _ _ (by omega)) (fun i j _ h1 h2 => ?_) (Or.inr ⟨wI_eq, w, hw, by omega, g2, RM_fr (M := MM1) (fun j h1 h2 => wI_ne (by omega)) (RM_copy hM p4)⟩), ?_⟩
    · rw [if_neg (by decide), if_pos (by decide), hX.1, if_neg hx0, show mv_ob (1 : Int32) 2 _ = _ from if_neg (by decide), if_neg (by decide), g1, bv_some]
    · rw [in_in (L := 0) (H := 1) (by decide) (by decide) (by decide), bi_some, it1, isWorld_y hM hw h0, bi_some, it1, show (166 : Int32) + (83 : Int32) * 1 = nI 249 by decide, ← nI_0, p1, bv_some, show mv_ob (1 : Int32) 2 _ = _ from if_neg (by decide)]; rfl
    · rw [wI_ne h1, p3 _ _ (by omega)]
    · exact tab_same (M := MX) g3 (g4 _ _ (by omega)) ht
theorem ps_restore (hF : 2000 < F) (a : Int32) : ps_ok Sim (fun M => fX8_restore F M a) (fun M => fX9_restore F M a) := by
  rintro MX MM ⟨w, hc, ht⟩
  show ∃ (r : Int32) (MX' MM' : mv_M), fX8_restore F MX a = some (r, MX') ∧ fX9_restore F MM a = some (r, MM') ∧ Sim MX' MM'
  obtain ⟨hw, hX, hM, -, -, -, -, -, i0, i1, -⟩ := id hc
  unfold fX8_restore fX9_restore
  rcases lt2_cases a with h | h
  · exact ⟨-1000001, MX, MM, lt2_out h, by rw [in_out (L := 0) (H := 1) (by decide) (by decide) h, bi_some, it0], w, hc, ht⟩
  rcases h with rfl | rfl
  · rw [if_neg (by decide), if_pos (by decide), show mv_ob (0 : Int32) 2 _ = _ from if_neg (by decide), if_pos rfl, in_in (L := 0) (H := 1) (by decide) (by decide) (by decide), bi_some, it1, show mv_ob (0 : Int32) 2 _ = _ from if_neg (by decide), cl_0]
    rcases i0 with ⟨e1, e2⟩ | ⟨e2, v, hv, hv0, r1, r2⟩
    · have e1 : MX.1 11 0 = 0 := e1
      exact ⟨-1000002, MX, MM, if_pos e1, if_pos e2, w, hc, ht⟩
    have h8 := hv.1
    have e1 : ¬ MX.1 11 0 = 0 := by rw [r1.1]; exact nI_ne0 hv0 (by omega)
    obtain ⟨MX1, g1, g2, g3, g4⟩ := X7_become_o11 (F := F) r1 ⟨hv.1, hv.2.1⟩
    obtain ⟨MM1, p1, p2, p3, p4⟩ := copyOf_eq (F := F) (M := MM) (a := 166) (b := 0) (by omega) (by omega) (by omega) (by omega)
    refine ⟨1, mv_wI (mv_wI MX1 52 3 0) 58 1 0, mv_wI MM1 0 1 0, ?_, ?_, v, core_world hc (fun i j hl h1 h2 => ?_) (fun i j hl h1 h2 => ?_) hv (RX_fr (M := MX1) (fun i j hi => by rw [wI_ne (by omega), wI_ne (by omega)]) g2) (RM_fr (M := MM1) (fun j h1 h2 => wI_ne (by omega)) (RM_copy (a := 166) r2 p4)) ⟨fun _ => v, 0, by decide, rfl, ?_, ?_, fun i hi => absurd hi (by omega)⟩, ?_⟩
    · rw [if_neg e1, if_pos rfl]
      unfold fX8_standAs_o11
      rw [g1]; rfl
    · rw [e2, it1, show (166 : Int32) + (83 : Int32) * 0 = nI 166 by decide, show (0 : Int32) = nI 0 from rfl, p1]; rfl
    · rw [wI_ne (by unfold LvX at hl; omega), wI_ne (by omega), g4 _ _ (by omega)]
    · rw [wI_ne h2, p3 _ _ (by omega)]
    · rw [wI_ne (by omega), wI_eq, nI_0]
    · rw [wI_eq, nI_0]
    · exact tab_new (M := MX) g3 wI_eq ht
  · rw [if_neg (by decide), if_pos (by decide), show mv_ob (1 : Int32) 2 _ = _ from if_neg (by decide), if_neg (by decide), in_in (L := 0) (H := 1) (by decide) (by decide) (by decide), bi_some, it1, show mv_ob (1 : Int32) 2 _ = _ from if_neg (by decide), cl_1]
    rcases i1 with ⟨e1, e2⟩ | ⟨e2, v, hv, hv0, r1, r2⟩
    · have e1 : MX.1 12 0 = 0 := e1
      exact ⟨-1000002, MX, MM, if_pos e1, if_pos e2, w, hc, ht⟩
    have h8 := hv.1
    have e1 : ¬ MX.1 12 0 = 0 := by have := r1.1; rw [this]; exact nI_ne0 hv0 (by omega)
    obtain ⟨MX1, g1, g2, g3, g4⟩ := X7_become_o12 (F := F) r1 ⟨hv.1, hv.2.1⟩
    obtain ⟨MM1, p1, p2, p3, p4⟩ := copyOf_eq (F := F) (M := MM) (a := 249) (b := 0) (by omega) (by omega) (by omega) (by omega)
    refine ⟨1, mv_wI (mv_wI MX1 52 3 0) 58 1 0, mv_wI MM1 0 1 0, ?_, ?_, v, core_world hc (fun i j hl h1 h2 => ?_) (fun i j hl h1 h2 => ?_) hv (RX_fr (M := MX1) (fun i j hi => by rw [wI_ne (by omega), wI_ne (by omega)]) g2) (RM_fr (M := MM1) (fun j h1 h2 => wI_ne (by omega)) (RM_copy (a := 249) r2 p4)) ⟨fun _ => v, 0, by decide, rfl, ?_, ?_, fun i hi => absurd hi (by omega)⟩, ?_⟩
    · rw [if_neg e1]
      unfold fX8_standAs_o12
      rw [g1]; rfl
    · rw [e2, it1, show (166 : Int32) + (83 : Int32) * 1 = nI 249 by decide, show (0 : Int32) = nI 0 from rfl, p1]; rfl
    · rw [wI_ne (by unfold LvX at hl; omega), wI_ne (by omega), g4 _ _ (by omega)]
    · rw [wI_ne h2, p3 _ _ (by omega)]
    · rw [wI_ne (by omega), wI_eq, nI_0]
    · rw [wI_eq, nI_0]
    · exact tab_new (M := MX) g3 wI_eq ht
end ACTS
