/-! THE LEAST PRICES, WHAT CAN BE HAD -/
section LEAST
variable {F : Nat}
theorem lower_eq {M : mv_M} {w l : Nat → Nat} {b x : Nat} (h0 : M.1 1 0 = nI (w 0)) (h8 : w 0 ≤ 8) (hb : b < 2 ^ 31) (hx : x < 2 ^ 31) (hl : ∀ t, t < 8 → M.1 57 t = nI (l t)) (hle : ∀ t, l t ≤ 100000000) (hF : 30 < F) : ∃ (v : Int32) (M' : mv_M), fX3_lower F M (nI b) (nI x) = some (v, M') ∧ (v = 0 ∨ v = 1) ∧ M'.2 = M.2 ∧ (∀ i j, i ≠ 57 → M'.1 i j = M.1 i j) ∧ (∀ t, t < 8 → M'.1 57 t = nI (if t < w 0 ∧ bt b t = 1 ∧ x < l t then x else l t)) ∧ (v = 0 → ∀ t, ¬ (t < w 0 ∧ bt b t = 1 ∧ x < l t)) := by
  unfold fX3_lower
  rw [let_eq, let_eq]
  refine lp_rule2 (fun n s => ∃ (v : Int32) (M' : mv_M), s = (v, nI n, M') ∧ (v = 0 ∨ v = 1) ∧ M'.2 = M.2 ∧ (∀ i j, i ≠ 57 → M'.1 i j = M.1 i j) ∧ (∀ t, t < 8 → M'.1 57 t = nI (if t < n ∧ bt b t = 1 ∧ x < l t then x else l t)) ∧ (v = 0 → ∀ t, ¬ (t < n ∧ bt b t = 1 ∧ x < l t))) (w 0) (fun G => ∃ (v : Int32) (M' : mv_M), G = some (v, M') ∧ (v = 0 ∨ v = 1) ∧ M'.2 = M.2 ∧ (∀ i j, i ≠ 57 → M'.1 i j = M.1 i j) ∧ (∀ t, t < 8 → M'.1 57 t = nI (if t < w 0 ∧ bt b t = 1 ∧ x < l t then x else l t)) ∧ (v = 0 → ∀ t, ¬ (t < w 0 ∧ bt b t = 1 ∧ x < l t))) ?_ F 0 (0, 0, M) ⟨0, M, by rw [nI_0], Or.inl rfl, rfl, fun _ _ _ => rfl, fun t ht => by rw [if_neg (fun q => by omega)]; exact hl t ht, fun _ t q => by omega⟩ (by omega) (by omega)
  rintro n s f hn ⟨v, M', rfl, hv, g2, g3, g4, g5⟩
  unfold bX3_lower_5
  dsimp only
  rw [g3 _ _ (by decide), h0]
  by_cases e : n = w 0
  · left
    subst e
    rw [if_pos (nI_le (Nat.le_refl _) (by omega))]
    refine ⟨v, M', ?_, hv, g2, g3, g4, g5⟩
    rcases hv with rfl | rfl
    · exact b1_0 _
    · exact b1_1 _
  right
  have hn' : n < w 0 := by omega
  rw [if_neg (nI_ge hn' (by omega)), bt_of hb (by omega)]
  have hln := hle n
  have gn : M'.1 57 n = nI (l n) := by rw [g4 n (by omega), if_neg (fun q => by omega)]
  have hnx : ∀ t, t < 8 → ¬ (t = n ∧ bt b t = 1 ∧ x < l t) → (if t < n + 1 ∧ bt b t = 1 ∧ x < l t then x else l t) = (if t < n ∧ bt b t = 1 ∧ x < l t then x else l t) := fun t _ hq => by
    by_cases c : t < n ∧ bt b t = 1 ∧ x < l t
    · rw [if_pos c, if_pos ⟨by omega, c.2⟩]
    · rw [if_neg c, if_neg (fun z => by
        by_cases et : t = n
        · exact hq ⟨et, z.2⟩
        · exact c ⟨by omega, z.2⟩)]
  rcases bt_01 b n with eb | eb
  · refine ⟨hn', (v, nI (n + 1), M'), ⟨v, M', rfl, hv, g2, g3, fun t ht => ?_, fun q t z => ?_⟩, ?_⟩
    · rw [hnx t ht (fun z => by obtain ⟨rfl, z1, -⟩ := z; omega)]; exact g4 t ht
    · by_cases et : t = n
      · subst et; omega
      · exact g5 q t ⟨by omega, z.2⟩
    · rw [eb, if_pos nI_0, let_eq, nI_1]
  · rw [eb, if_neg (by decide), ob_nI (show n < 8 by omega) (by decide), nI_clamp (by omega), gn]
    by_cases c : l n ≤ x
    · refine ⟨hn', (v, nI (n + 1), M'), ⟨v, M', rfl, hv, g2, g3, fun t ht => ?_, fun q t z => ?_⟩, ?_⟩
      · rw [hnx t ht (fun z => by obtain ⟨rfl, -, z2⟩ := z; omega)]; exact g4 t ht
      · by_cases et : t = n
        · subst et; omega
        · exact g5 q t ⟨by omega, z.2⟩
      · rw [if_pos (nI_le c hx), let_eq, nI_1]
    · refine ⟨hn', (1, nI (n + 1), mv_wI M' 57 n (nI x)), ⟨1, _, rfl, Or.inr rfl, g2, fun i j hi => ?_, fun t ht => ?_, fun q => absurd q (by decide)⟩, ?_⟩
      · rw [wI_ne (by omega)]; exact g3 i j hi
      · by_cases et : t = n
        · subst et; rw [wI_eq, if_pos ⟨by omega, eb, by omega⟩]
        · rw [wI_ne (by omega), hnx t ht (fun z => et z.1)]; exact g4 t ht
      · rw [if_neg (nI_ge (by omega) (by omega)), ob_nI (show n < 8 by omega) (by decide), let_eq, let_eq, let_eq, nI_1]
theorem leastWith_eq {M : mv_M} {w l : Nat → Nat} {k : Nat} (h : RX M 1 2 w) (hw : WF w) (hk : k < w 1) (hl : ∀ t, t < 8 → M.1 57 t = nI (l t)) : fX3_leastWith F M (nI k) = some (nI (lw w l k), M) := by
  have h12 := hw.2.1
  have h8 := hw.1
  obtain ⟨-, -, -, htk, -, -, hf, hs⟩ := hw.2.2.2.2.2 k hk
  obtain ⟨-, -, -, x7, x8, x9⟩ := h.2.2.2.2 k hk
  have x7 : M.1 7 k = nI (w (47 + k)) := x7
  have x8 : 0 < w (47 + k) → M.1 8 k = nI (w (59 + k)) := x8
  have x9 : 1 < w (47 + k) → M.1 9 k = nI (w (71 + k)) := x9
  have ob : ∀ {α : Type} (G : Option α), mv_ob (nI k) 12 G = G := fun G => ob_nI (by omega) (by decide)
  have cl : (nI k).toNatClampNeg = k := nI_clamp (by omega)
  unfold fX3_leastWith lw
  rw [fX7_priceOf_eq h hw hk, bi_some]
  simp only [let_eq, ob, cl, x7]
  rcases (show w (47 + k) = 0 ∨ w (47 + k) = 1 ∨ w (47 + k) = 2 by omega) with e | e | e
  · rw [e, if_pos (by decide), if_pos (by decide), if_neg (by decide), if_neg (by decide)]; rfl
  · have ha := hf (by omega)
    rw [e, if_neg (by decide), x8 (by omega), ob_nI (show w (59 + k) < 8 by omega) (by decide), nI_clamp (by omega), hl _ (by omega), if_pos (by decide), if_pos (by decide), if_neg (by decide), nI_add]; rfl
  · have ha := hf (by omega)
    have hb := hs (by omega)
    rw [e, if_neg (by decide), x8 (by omega), ob_nI (show w (59 + k) < 8 by omega) (by decide), nI_clamp (by omega), hl _ (by omega), if_neg (by decide), x9 (by omega), ob_nI (show w (71 + k) < 8 by omega) (by decide), nI_clamp (by omega), hl _ (by omega), if_pos (by decide), if_pos (by decide), nI_add, nI_add]
theorem rd_le {w : Nat → Nat} {h : Nat} {l : Nat → Nat} (hl : ∀ t, l t ≤ 100000000) (n t : Nat) : rd w h l n t ≤ 100000000 := Nat.le_trans (rd_mono w h l t (Nat.zero_le n)) (hl t)
theorem seek_round {M : mv_M} {w l : Nat → Nat} {h r : Nat} {b0 : Int32} {Mr : mv_M} (f5 : Int32 × Int32 × mv_M → Option mv_M) (hX : RX M 1 2 w) (hw : WF w) (hh : h < 2 ^ 31) (hl : ∀ t, t < 8 → M.1 57 t = nI (l t)) (hle : ∀ t, l t ≤ 100000000) (hF : 30 < F) : ∃ (v : Int32) (M' : mv_M), mv_lp (bX3_seek_28 (b0, nI r, Mr) f5 (nI h) F) F (0, 0, M) = f5 (v, nI (r + 1), M') ∧ (v = 0 ∨ v = 1) ∧ M'.2 = M.2 ∧ (∀ i j, i ≠ 57 → M'.1 i j = M.1 i j) ∧ (∀ t, t < 8 → M'.1 57 t = nI (rd w h l (w 1) t)) ∧ (v = 0 → ∀ t, rd w h l (w 1) t = l t) := by
  have h12 := hw.2.1
  have h8 := hw.1
  refine lp_rule2 (fun m s => ∃ (v : Int32) (M' : mv_M), s = (v, nI m, M') ∧ (v = 0 ∨ v = 1) ∧ M'.2 = M.2 ∧ (∀ i j, i ≠ 57 → M'.1 i j = M.1 i j) ∧ (∀ t, t < 8 → M'.1 57 t = nI (rd w h l m t)) ∧ (v = 0 → ∀ t, rd w h l m t = l t)) (w 1) (fun G => ∃ (v : Int32) (M' : mv_M), G = f5 (v, nI (r + 1), M') ∧ (v = 0 ∨ v = 1) ∧ M'.2 = M.2 ∧ (∀ i j, i ≠ 57 → M'.1 i j = M.1 i j) ∧ (∀ t, t < 8 → M'.1 57 t = nI (rd w h l (w 1) t)) ∧ (v = 0 → ∀ t, rd w h l (w 1) t = l t)) ?_ F 0 (0, 0, M) ⟨0, M, by rw [nI_0], Or.inl rfl, rfl, fun _ _ _ => rfl, hl, fun _ t => rfl⟩ (by omega) (by omega)
  rintro m s f hm ⟨v, M', rfl, hv, g2, g3, g4, g5⟩
  have hX' : RX M' 1 2 w := RX_fr (M := M) (fun i j hi => g3 i j (by omega)) hX
  unfold bX3_seek_28
  dsimp only
  rw [hX'.2.1]
  by_cases e : m = w 1
  · left
    subst e
    rw [if_pos (nI_le (Nat.le_refl _) (by omega)), let_eq, nI_1]
    exact ⟨v, M', rfl, hv, g2, g3, g4, g5⟩
  right
  have hm' : m < w 1 := by omega
  refine ⟨hm', ?_⟩
  rw [if_neg (nI_ge hm' (by omega)), bt_of hh (by omega)]
  have hr : rd w h l (m + 1) = if bt h m = 1 then rd w h l m else low w (rd w h l m) m := rfl
  rcases bt_01 h m with eb | eb
  · rw [eb, if_pos nI_0]
    rw [if_neg (by omega)] at hr
    obtain ⟨-, hgv, -⟩ := hw.2.2.2.2.2 m hm'
    have x5 : M'.1 5 m = nI (w (23 + m)) := (hX'.2.2.2.2 m hm').2.1
    have x3 : M'.1 3 (w (23 + m)) = nI (ofb w (w (23 + m))) := (hX'.2.2.2.1 _ hgv).2
    have hlw : lw w (rd w h l m) m < 2 ^ 31 := by
      unfold lw
      have := (pr_pos hw hm').2
      have := rd_le (w := w) (h := h) hle m (w (59 + m))
      have := rd_le (w := w) (h := h) hle m (w (71 + m))
      split <;> split <;> omega
    obtain ⟨v2, M2, a1, a2, a3, a4, a5, a6⟩ := lower_eq (F := F) (M := M') (w := w) (l := rd w h l m) (b := ofb w (w (23 + m))) (x := lw w (rd w h l m) m) hX'.1 h8 (Nat.lt_of_lt_of_le (ofb_lt hw.2.2.2.2.1 _ hgv) (Nat.pow_le_pow_right (by omega) (by omega))) hlw g4 (rd_le hle m) hF
    have hlow : ∀ t, (if t < w 0 ∧ bt (ofb w (w (23 + m))) t = 1 ∧ lw w (rd w h l m) m < rd w h l m t then lw w (rd w h l m) m else rd w h l m t) = rd w h l (m + 1) t := fun t => by rw [hr]; rfl
    rw [ob_nI (show m < 12 by omega) (by decide), nI_clamp (by omega), x5, ob_nI (show w (23 + m) < 8 by omega) (by decide), nI_clamp (by omega), leastWith_eq hX' hw hm' g4, bi_some, x3, a1, bi_some]
    rcases a2 with e2 | e2
    · refine ⟨(v, nI (m + 1), M2), ⟨v, M2, rfl, hv, a3.trans g2, fun i j hi => by rw [a4 _ _ hi, g3 _ _ hi], fun t ht => by rw [a5 t ht, hlow], fun q t => ?_⟩, ?_⟩
      · rw [← hlow, if_neg (a6 e2 t)]; exact g5 q t
      · rw [e2, it0, let_eq, nI_1]
    · refine ⟨(1, nI (m + 1), M2), ⟨1, M2, rfl, Or.inr rfl, a3.trans g2, fun i j hi => by rw [a4 _ _ hi, g3 _ _ hi], fun t ht => by rw [a5 t ht, hlow], fun q => absurd q (by decide)⟩, ?_⟩
      rw [e2, it1, let_eq, let_eq, nI_1]
  · rw [eb, if_neg (by decide)]
    rw [if_pos eb] at hr
    refine ⟨(v, nI (m + 1), M'), ⟨v, M', rfl, hv, g2, g3, fun t ht => by rw [hr]; exact g4 t ht, fun q t => by rw [hr]; exact g5 q t⟩, ?_⟩
    rw [let_eq, nI_1]
theorem seek_eq {M : mv_M} {w : Nat → Nat} {h : Nat} (hX : RX M 1 2 w) (hw : WF w) (hh : h < 2 ^ 31) (hF : 30 < F) : ∃ (M' : mv_M) (l : Nat → Nat), fX3_seek F M (nI h) = some M' ∧ M'.2 = M.2 ∧ (∀ i j, i ≠ 57 → M'.1 i j = M.1 i j) ∧ (∀ t, t < 8 → M'.1 57 t = nI (l t)) ∧ (∀ t, l t ≤ 100000000) ∧ fin_ w h l := by
  unfold fX3_seek
  rw [fill_eq F M 57 8 _ (by omega) (by decide), bv_some, let_eq, let_eq]
  refine lp_rule2 (fun r s => ∃ (v : Int32) (M' : mv_M) (l : Nat → Nat), s = (v, nI r, M') ∧ M'.2 = M.2 ∧ (∀ i j, i ≠ 57 → M'.1 i j = M.1 i j) ∧ (∀ t, t < 8 → M'.1 57 t = nI (l t)) ∧ (∀ t, l t ≤ 100000000) ∧ snd_ w h l ∧ rk w h l r ∧ (v = 1 ∨ (v = 0 ∧ ∀ t, l t ≤ rd w h l (w 1) t))) 9 (fun G => ∃ (M' : mv_M) (l : Nat → Nat), G = some M' ∧ M'.2 = M.2 ∧ (∀ i j, i ≠ 57 → M'.1 i j = M.1 i j) ∧ (∀ t, t < 8 → M'.1 57 t = nI (l t)) ∧ (∀ t, l t ≤ 100000000) ∧ fin_ w h l) ?_ F 0 _ ⟨1, mv_wA M 57 (fun j => if j < 8 then 100000000 else M.1 57 j), fun _ => 100000000, by rw [nI_0], rfl, fun i j hi => wA_ne hi, fun t ht => by rw [wA_eq, if_pos ht]; rfl, fun t => Nat.le_refl _, fun t => ⟨Nat.le_refl _, fun q => absurd q (Nat.lt_irrefl _)⟩, fun t p _ _ q => absurd q (by omega), Or.inl rfl⟩ (by omega) (by omega)
  rintro r s f hr ⟨v, M', l, rfl, g2, g3, g4, g5, g6, g7, g8⟩
  unfold bX3_seek_13
  dsimp only
  by_cases e : r = 9
  · left
    subst e
    rw [if_pos (by decide)]
    exact ⟨M', l, rfl, g2, g3, g4, g5, fin_nine hw g6 g7⟩
  rw [if_neg (show ¬ (8 : Int32) < nI r from nI_nlt (a := 8) (by omega) (by decide))]
  rcases g8 with rfl | ⟨rfl, g8⟩
  case inr =>
    left
    rw [it0]
    exact ⟨M', l, rfl, g2, g3, g4, g5, fin_fix hw g6 g8⟩
  right
  obtain ⟨v2, M2, a1, a2, a3, a4, a5, a6⟩ := seek_round (F := F) (M := M') (h := h) (r := r) (b0 := 1) (Mr := M') f (RX_fr (M := M) (fun i j hi => g3 i j (by omega)) hX) hw hh g4 g5 hF
  refine ⟨by omega, (v2, nI (r + 1), M2), ⟨v2, M2, rd w h l (w 1), rfl, a3.trans g2, fun i j hi => by rw [a4 _ _ hi, g3 _ _ hi], a5, rd_le g5 _, snd_rd hw g6 _ (Nat.le_refl _), rk_step hw g7, ?_⟩, ?_⟩
  · rcases a2 with e2 | e2
    · right
      have : rd w h l (w 1) = l := funext (a6 e2)
      refine ⟨e2, fun t => ?_⟩
      rw [this, this]; exact Nat.le_refl _
    · exact Or.inl e2
  · rw [it1, let_eq, let_eq]
    exact a1
/-- what the first of a list costs -/
def chp (l : Nat → Nat) (t : Nat) : Int32 := if l t ≤ 24 then nI (l t) else -1000000
theorem leastListed_eq {M : mv_M} {w : Nat → Nat} {h t : Nat} (hX : RX M 1 2 w) (hw : WF w) (hh : h < 2 ^ 31) (ht : t < w 0) (hF : 30 < F) : ∃ (M' : mv_M) (l : Nat → Nat), fX3_leastListed F M (nI t) (nI h) = some (chp l t, M') ∧ M'.2 = M.2 ∧ (∀ i j, i ≠ 57 → M'.1 i j = M.1 i j) ∧ fin_ w h l := by
  have h8 := hw.1
  obtain ⟨M1, l, a1, a2, a3, a4, a5, a6⟩ := seek_eq (F := F) hX hw hh hF
  refine ⟨M1, l, ?_, a2, a3, a6⟩
  unfold fX3_leastListed chp
  have := a5 t
  rw [a1, bv_some, ob_nI (show t < 8 by omega) (by decide), nI_clamp (by omega), a4 t (by omega)]
  by_cases c : l t ≤ 24
  · rw [if_neg (show ¬ (24 : Int32) < nI (l t) from nI_nlt (a := 24) c (by decide)), ob_nI (show t < 8 by omega) (by decide), if_pos c]
  · rw [if_pos (show (24 : Int32) < nI (l t) from nI_lt (a := 24) (by omega) (by omega)), if_neg c]
theorem cheapestOf_eq {M : mv_M} {w l : Nat → Nat} {h t : Nat} (hw : WF w) (ht : t < w 0) (hT : ∀ p, p ≤ 24 → M.2 7 (25 * t + p) = lN (ct w h t p)) (hl : fin_ w h l) (hF : 30 < F) : fX9_cheapestOf F M (nI t) = some (chp l t, M) := by
  have h8 := hw.1
  obtain ⟨f1, f2, f3⟩ := hl t ht
  have e25 : ∀ a q : Nat, ((25 : Int32) * nI a) + nI q = nI (25 * a + q) := fun a q => by rw [show (25 : Int32) = nI 25 from rfl, pk_mul, nI_add]
  unfold fX9_cheapestOf
  rw [let_eq]
  refine lp_rule2 (fun n s => s = (nI (n + 1), M) ∧ ∀ q, q ≤ n → ct w h t q = 0) 24 (fun G => G = some (chp l t, M)) ?_ F 0 (1, M) ⟨rfl, fun q hq => by rw [show q = 0 by omega, ct_0]⟩ (by omega) (by omega)
  rintro n s f hn ⟨rfl, hz⟩
  unfold bX9_cheapestOf_2
  dsimp only
  by_cases e : n = 24
  · left
    subst e
    rw [if_pos (by decide)]
    unfold chp
    rw [if_neg]
    intro c
    have h1 := f2 (by omega)
    have h2 := hz (l t) c
    omega
  rw [if_neg (show ¬ (24 : Int32) < nI (n + 1) from nI_nlt (a := 24) (by omega) (by decide)), e25, ob_nI (show 25 * t + (n + 1) < 200 by omega) (by decide), nI_clamp (by omega), hT (n + 1) (by omega)]
  have hle := ct_le w h t (n + 1)
  by_cases c : ct w h t (n + 1) = 0
  · right
    refine ⟨by omega, _, ⟨rfl, fun q hq => ?_⟩, ?_⟩
    · by_cases eq : q = n + 1
      · rw [eq]; exact c
      · exact hz q (by omega)
    · rw [c, if_pos (by decide), let_eq, nI_1]
  · left
    have h1 := f3 (n + 1) (by omega)
    have h2 : l t = n + 1 := by
      have h3 := f2 h1.2
      by_cases q : l t ≤ n
      · have := hz _ q; omega
      · omega
    rw [if_neg]
    · unfold chp
      rw [h2, if_pos (by omega)]
    · rw [cmp_le, pk_lT (by omega)]
      show ¬ ((ct w h t (n + 1) : Nat) : Int) ≤ 0
      omega
theorem fin_chp {w l l' : Nat → Nat} {h t : Nat} (ht : t < w 0) (h1 : fin_ w h l) (h2 : fin_ w h l') : chp l t = chp l' t := by
  obtain ⟨a1, a2, a3⟩ := h1 t ht
  obtain ⟨b1, b2, b3⟩ := h2 t ht
  have : l t = l' t := by
    by_cases c : l t < 100000000
    · have := b3 _ (a2 c)
      have := a3 _ (b2 this.2)
      omega
    · by_cases c' : l' t < 100000000
      · have := a3 _ (b2 c'); omega
      · omega
  unfold chp
  rw [this]
theorem kpX.of57 {M M' : mv_M} (h : ∀ i j, i ≠ 57 → M'.1 i j = M.1 i j) : kpX M M' := fun i j hl => h i j (by unfold LvX at hl; omega)
theorem ps_cheapest (hF : 300 < F) (a1 : Int32) : ps_ok Sim (fun M => fX8_cheapest F M a1) (fun M => fX9_cheapest F M a1) := by
  rintro MX MM ⟨w, hc, ht⟩
  show ∃ (r : Int32) (MX' MM' : mv_M), fX8_cheapest F MX a1 = some (r, MX') ∧ fX9_cheapest F MM a1 = some (r, MM') ∧ Sim MX' MM'
  obtain ⟨hw, hX, hM, -⟩ := id hc
  have h8 := hw.1
  unfold fX8_cheapest fX9_cheapest
  rcases ix_cases a1 (show w 0 < 2 ^ 31 by omega) with h | ⟨t, ht', rfl⟩
  · exact ⟨-1000001, MX, MM, by rw [fX7_hasType_out hX h, bi_some, it0], by rw [fX9_isType_out hM hw h, bi_some, it0], w, hc, ht⟩
  rw [fX7_hasType_in hX hw ht', bi_some, it1, fX9_isType_in hM hw ht', bi_some, it1, hX.2.2.1, ob_2, cl_2, RM_at hM (by decide)]
  obtain ⟨MX1, l, g1, g2, g3, g4⟩ := leastListed_eq (F := F) hX hw (hid_lt hw) ht' (by omega)
  obtain ⟨MM1, k1, k2, k3, k4⟩ := layWays_eq (F := F) (h := w 2) hM hw (hid_lt hw) hF
  refine ⟨chp l t, MX1, MM1, ?_, ?_, w, core_fr hc (kpX.of57 g3) (kpM.of1 k2), tab_same (M := MX) g2 (g3 _ _ (by decide)) ht⟩
  · rw [g1, bi_some]
  · rw [k1, bv_some, cheapestOf_eq hw ht' (k4 t ht') g4 (by omega), bi_some]
theorem hid_more {w : Nat → Nat} (hw : WF w) {k : Nat} (hk : k < w 1) : nI (w 2) ||| ((1 : Int32) <<< (nI k &&& 31)) = nI (w 2 ||| 2 ^ k) ∧ w 2 ||| 2 ^ k < 2 ^ 31 := by
  have h12 := hw.2.1
  have h2 : (2 : Nat) ^ k < 2 ^ 31 := Nat.pow_lt_pow_right (by omega) (by omega)
  exact ⟨by rw [bt_shl (by omega), or_nI (hid_lt hw) h2], Nat.or_lt_two_pow (hid_lt hw) h2⟩
theorem ps_without (hF : 300 < F) (a1 a2 : Int32) : ps_ok Sim (fun M => fX8_without F M a1 a2) (fun M => fX9_without F M a1 a2) := by
  rintro MX MM ⟨w, hc, ht⟩
  show ∃ (r : Int32) (MX' MM' : mv_M), fX8_without F MX a1 a2 = some (r, MX') ∧ fX9_without F MM a1 a2 = some (r, MM') ∧ Sim MX' MM'
  obtain ⟨hw, hX, hM, -⟩ := id hc
  have h8 := hw.1
  have h12 := hw.2.1
  unfold fX8_without fX9_without
  rcases ix_cases a1 (show w 0 < 2 ^ 31 by omega) with h | ⟨t, ht', rfl⟩
  · exact ⟨-1000001, MX, MM, by rw [fX7_hasType_out hX h, bi_some, it0], by rw [fX9_isType_out hM hw h, bi_some, it0], w, hc, ht⟩
  rw [fX7_hasType_in hX hw ht', bi_some, it1, fX9_isType_in hM hw ht', bi_some, it1]
  rcases ix_cases a2 (show w 1 < 2 ^ 31 by omega) with h | ⟨k, hk, rfl⟩
  · exact ⟨-1000001, MX, MM, by rw [fX7_hasMember_out hX h, bi_some, it0], by rw [fX9_isMember_out hM hw h, bi_some, it0], w, hc, ht⟩
  rw [fX7_hasMember_in hX hw hk, bi_some, it1, fX9_isMember_in hM hw hk, bi_some, it1, hX.2.2.1, ob_2, cl_2, RM_at hM (by decide), (hid_more hw hk).1]
  obtain ⟨MX1, l, g1, g2, g3, g4⟩ := leastListed_eq (F := F) hX hw (hid_more hw hk).2 ht' (by omega)
  obtain ⟨MM1, k1, k2, k3, k4⟩ := layWays_eq (F := F) (h := w 2 ||| 2 ^ k) hM hw (hid_more hw hk).2 hF
  refine ⟨chp l t, MX1, MM1, ?_, ?_, w, core_fr hc (kpX.of57 g3) (kpM.of1 k2), tab_same (M := MX) g2 (g3 _ _ (by decide)) ht⟩
  · rw [g1, bi_some]
  · rw [k1, bv_some, cheapestOf_eq hw ht' (k4 t ht') g4 (by omega), bi_some]
/-! what can be had -/
def HS (w : Nat → Nat) (h S : Nat) : Prop := S < 2 ^ w 0 ∧ ∀ t, t < w 0 → (bt S t = 1 ↔ ∃ p, 0 < ct w h t p)
theorem HS_eq {w : Nat → Nat} {h S S' : Nat} (h1 : HS w h S) (h2 : HS w h S') : S = S' := by
  refine bt_ext (fun i => ?_)
  by_cases hi : i < w 0
  · rw [h1.2 i hi, h2.2 i hi]
  · exact ⟨fun q => absurd q (bt_big h1.1 (by omega)), fun q => absurd q (bt_big h2.1 (by omega))⟩
def yn (l : Nat → Nat) (t : Nat) : Nat := if l t < 100000000 then 1 else 0
theorem typesHad_eq {M : mv_M} {w : Nat → Nat} {h : Nat} (hX : RX M 1 2 w) (hw : WF w) (hh : h < 2 ^ 31) (hF : 30 < F) : ∃ (M' : mv_M) (S : Nat), fX3_typesHad F M (nI h) = some (nI S, M') ∧ M'.2 = M.2 ∧ (∀ i j, i ≠ 57 → M'.1 i j = M.1 i j) ∧ HS w h S := by
  have h8 := hw.1
  obtain ⟨M1, l, a1, a2, a3, a4, a5, a6⟩ := seek_eq (F := F) hX hw hh hF
  refine ⟨M1, orb (yn l) (w 0), ?_, a2, a3, orb_lt _ _, fun t ht => ?_⟩
  · unfold fX3_typesHad
    rw [a1, bv_some, let_eq, let_eq]
    have h0 : ((0 : Int32), (0 : Int32), M1) = (fun i : Nat => (nI (orb (yn l) i), nI i, M1)) 0 := by
      show _ = (nI 0, nI 0, M1); rw [nI_0]
    rw [h0]
    refine lp_for (fun i : Nat => (nI (orb (yn l) i), nI i, M1)) (w 0) (fun i hi f => ?_) (fun f => ?_) F 0 (by omega) (by omega)
    · show bX3_typesHad_9 f (nI (orb (yn l) i), nI i, M1) = f (nI (orb (yn l) i ||| (if yn l i = 1 then 2 ^ i else 0)), nI (i + 1), M1)
      unfold bX3_typesHad_9
      dsimp only
      have := a5 i
      rw [a3 _ _ (by decide), hX.1, if_neg (nI_ge hi (by omega)), ob_nI (show i < 8 by omega) (by decide), nI_clamp (by omega), a4 i (by omega)]
      by_cases c : l i < 100000000
      · rw [if_neg (show ¬ (100000000 : Int32) ≤ nI (l i) from nI_ge (b := 100000000) c (by decide)), if_pos (show yn l i = 1 from if_pos c), let_eq, let_eq, nI_1, orb_step (by omega)]
      · rw [if_pos (show (100000000 : Int32) ≤ nI (l i) from nI_le (a := 100000000) (by omega) (by omega)), if_neg (show ¬ yn l i = 1 by unfold yn; rw [if_neg c]; decide), let_eq, nI_1, Nat.or_zero]
    · show bX3_typesHad_9 f (nI (orb (yn l) (w 0)), nI (w 0), M1) = _
      unfold bX3_typesHad_9
      dsimp only
      rw [a3 _ _ (by decide), hX.1, if_pos (nI_le (Nat.le_refl _) (by omega))]
  · rw [orb_bt]
    obtain ⟨f1, f2, f3⟩ := a6 t ht
    constructor
    · rintro ⟨-, q⟩
      unfold yn at q
      by_cases c : l t < 100000000
      · exact ⟨_, f2 c⟩
      · rw [if_neg c] at q; omega
    · rintro ⟨p, hp⟩
      exact ⟨ht, if_pos (f3 p hp).2⟩
/-- whether a member can be used over a set of types: its first i arguments -/
def cb (w : Nat → Nat) (h S k i : Nat) : Nat := if bt h k ≠ 1 ∧ (0 < i → bt S (w (59 + k)) = 1) ∧ (1 < i → bt S (w (71 + k)) = 1) then 1 else 0
def hs (w : Nat → Nat) (h S : Nat) : Nat → Nat
  | 0 => S
  | n + 1 => if cb w h (hs w h S n) n (w (47 + n)) = 1 then hs w h S n ||| ofb w (w (23 + n)) else hs w h S n
theorem hs_mono {w : Nat → Nat} {h S i : Nat} {n m : Nat} (hn : n ≤ m) (hb : bt (hs w h S n) i = 1) : bt (hs w h S m) i = 1 := by
  induction m with
  | zero => rw [show n = 0 by omega] at hb; exact hb
  | succ m ih =>
    by_cases e : n = m + 1
    · rw [← e]; exact hb
    · have := ih (by omega)
      show bt (if cb w h (hs w h S m) m (w (47 + m)) = 1 then hs w h S m ||| ofb w (w (23 + m)) else hs w h S m) i = 1
      split
      · exact (bt_or _ _ _).mpr (Or.inl this)
      · exact this
def Snd (w : Nat → Nat) (h S : Nat) : Prop := S < 2 ^ w 0 ∧ ∀ t, bt S t = 1 → ∃ p, 0 < ct w h t p
theorem hs_snd {w : Nat → Nat} (hw : WF w) {h S : Nat} (hS : Snd w h S) : ∀ n, n ≤ w 1 → Snd w h (hs w h S n) := by
  intro n
  induction n with
  | zero => intro _; exact hS
  | succ n ih =>
    intro hn
    have hs' := ih (by omega)
    show Snd w h (if cb w h (hs w h S n) n (w (47 + n)) = 1 then hs w h S n ||| ofb w (w (23 + n)) else hs w h S n)
    by_cases c : cb w h (hs w h S n) n (w (47 + n)) = 1
    · rw [if_pos c]
      have hn' : n < w 1 := by omega
      obtain ⟨-, hgv, -, htk, -⟩ := hw.2.2.2.2.2 n hn'
      refine ⟨Nat.or_lt_two_pow hs'.1 (Nat.lt_of_lt_of_le (ofb_lt hw.2.2.2.2.1 _ hgv) (Nat.pow_le_pow_right (by omega) (by omega))), fun t ht => ?_⟩
      rcases (bt_or _ _ _).mp ht with q | q
      · exact hs'.2 t q
      · unfold cb at c
        by_cases c' : bt h n ≠ 1 ∧ (0 < w (47 + n) → bt (hs w h S n) (w (59 + n)) = 1) ∧ (1 < w (47 + n) → bt (hs w h S n) (w (71 + n)) = 1)
        · obtain ⟨c1, c2, c3⟩ := c'
          rcases (show w (47 + n) = 0 ∨ w (47 + n) = 1 ∨ w (47 + n) = 2 by omega) with e | e | e
          · exact ⟨pr w n, (ct_pos hw).mpr ⟨n, hn', c1, q, Or.inl ⟨e, rfl⟩⟩⟩
          · obtain ⟨p, hp⟩ := hs'.2 _ (c2 (by omega))
            exact ⟨pr w n + p, (ct_pos hw).mpr ⟨n, hn', c1, q, Or.inr (Or.inl ⟨e, p, hp, rfl⟩)⟩⟩
          · obtain ⟨p, hp⟩ := hs'.2 _ (c2 (by omega))
            obtain ⟨p', hp'⟩ := hs'.2 _ (c3 (by omega))
            exact ⟨pr w n + p + p', (ct_pos hw).mpr ⟨n, hn', c1, q, Or.inr (Or.inr ⟨e, p, p', hp, hp', rfl⟩)⟩⟩
        · rw [if_neg c'] at c; omega
    · rw [if_neg c]; exact hs'
theorem hs_clo {w : Nat → Nat} {h S : Nat} (he : hs w h S (w 1) = S) : clo w h S := by
  intro k hk h1 h2 h3 t ht hb
  have hall : ∀ n, n ≤ w 1 → hs w h S n = S := fun n hn => bt_ext (fun i => ⟨fun q => by rw [← he]; exact hs_mono hn q, fun q => hs_mono (n := 0) (Nat.zero_le n) q⟩)
  have hk1 := hall (k + 1) (by omega)
  have hk0 := hall k (by omega)
  have hk1 : (if cb w h (hs w h S k) k (w (47 + k)) = 1 then hs w h S k ||| ofb w (w (23 + k)) else hs w h S k) = S := hk1
  rw [hk0] at hk1
  have hcb : cb w h S k (w (47 + k)) = 1 := by
    unfold cb
    rw [if_pos ⟨h1, h2, h3⟩]
  rw [if_pos hcb] at hk1
  rw [← hk1]
  exact (bt_or _ _ _).mpr (Or.inr hb)
theorem hadBy_can {M : mv_M} {w : Nat → Nat} {h S k : Nat} {Mr : mv_M} (j20 : Int32 × mv_M → Option (Int32 × mv_M)) (hM : RM M 0 w) (hw : WF w) (hk : k < w 1) (hS : S < 2 ^ 31) (hF : 30 < F) : mv_lp (bX9_hadBy_44 (nI S, nI k, Mr) j20 F) F (nI (cb w h S k 0), 0, M) = j20 (nI (cb w h S k (w (47 + k))), M) := by
  have h12 := hw.2.1
  have h8 := hw.1
  obtain ⟨-, -, -, htk, -, -, hf, hsx⟩ := hw.2.2.2.2.2 k hk
  refine lp_rule2 (fun i s => s = (nI (cb w h S k i), nI i, M)) (w (47 + k)) (fun G => G = j20 (nI (cb w h S k (w (47 + k))), M)) ?_ F 0 _ (by rw [nI_0]) (by omega) (by omega)
  rintro i s f hi rfl
  unfold bX9_hadBy_44
  dsimp only
  rw [ob_add (ai := (47 : Int32)) (a := 47) rfl (by omega), cl_add (ai := (47 : Int32)) (a := 47) rfl (by omega), RM_at hM (by omega)]
  by_cases e : i = w (47 + k)
  · left
    rw [e, if_pos (nI_le (Nat.le_refl _) (by omega))]
  right
  refine ⟨by omega, _, rfl, ?_⟩
  have harg : ∃ a, a < w 0 ∧ (((59 : Int32) + ((12 : Int32) * nI i)) + nI k) = nI (59 + 12 * i + k) ∧ w (59 + 12 * i + k) = a ∧ cb w h S k (i + 1) = (if cb w h S k i = 1 ∧ bt S a = 1 then 1 else 0) := by
    rcases (show i = 0 ∨ i = 1 by omega) with rfl | rfl
    · refine ⟨w (59 + k), hf (by omega), ?_, ?_, ?_⟩
      · rw [show (59 : Int32) = nI 59 from rfl, show (12 : Int32) = nI 12 from rfl, pk_mul, nI_add, nI_add]
      · exact congrArg w (by omega)
      · unfold cb; simp
    · refine ⟨w (71 + k), hsx (by omega), ?_, ?_, ?_⟩
      · rw [show (59 : Int32) = nI 59 from rfl, show (12 : Int32) = nI 12 from rfl, pk_mul, nI_add, nI_add]
      · exact congrArg w (by omega)
      · unfold cb; simp [and_assoc]
  obtain ⟨a, ha, e1, e2, e3⟩ := harg
  rw [if_neg (nI_ge (by omega) (by omega)), e3]
  have hc01 : cb w h S k i = 0 ∨ cb w h S k i = 1 := by unfold cb; split <;> simp
  rcases hc01 with c | c
  · rw [c, nI_0, it0, let_eq, let_eq, nI_1, if_neg (by omega)]; rfl
  · rw [c, show nI 1 = (1 : Int32) from rfl, it1, e1, ob_nI (show 59 + 12 * i + k < 2324 by omega) (by decide), nI_clamp (by omega), RM_at hM (by omega), e2, fX9_has_eq hS (by omega), bi_some]
    rcases bt_01 S a with q | q
    · rw [q, nI_0, it0, let_eq, let_eq, nI_1, if_neg (by omega)]; rfl
    · rw [q, show nI 1 = (1 : Int32) from rfl, it1, let_eq, let_eq, nI_1, if_pos ⟨rfl, rfl⟩]; rfl
theorem hadBy_round {M : mv_M} {w : Nat → Nat} {h S : Nat} (j8 : Int32 × mv_M → Option (Int32 × mv_M)) (hM : RM M 0 w) (hw : WF w) (hh : h < 2 ^ 31) (hS : Snd w h S) (hF : 30 < F) : mv_lp (bX9_hadBy_14 j8 F (nI h)) F (nI S, 0, M) = j8 (nI (hs w h S (w 1)), M) := by
  have h12 := hw.2.1
  have h8 := hw.1
  refine lp_rule2 (fun m s => s = (nI (hs w h S m), nI m, M)) (w 1) (fun G => G = j8 (nI (hs w h S (w 1)), M)) ?_ F 0 _ (by rw [nI_0]; rfl) (by omega) (by omega)
  rintro m s f hm rfl
  unfold bX9_hadBy_14
  dsimp only
  rw [ob_1, cl_1, RM_at hM (by decide)]
  by_cases e : m = w 1
  · left
    subst e
    rw [if_pos (nI_le (Nat.le_refl _) (by omega))]
  right
  have hm' : m < w 1 := by omega
  have hlt : ∀ n, n ≤ w 1 → hs w h S n < 2 ^ 31 := fun n hn => Nat.lt_of_lt_of_le (hs_snd hw hS n hn).1 (Nat.pow_le_pow_right (by omega) (by omega))
  refine ⟨hm', _, rfl, ?_⟩
  obtain ⟨-, hgv, -⟩ := hw.2.2.2.2.2 m hm'
  have hof : ofb w (w (23 + m)) < 2 ^ 31 := Nat.lt_of_lt_of_le (ofb_lt hw.2.2.2.2.1 _ hgv) (Nat.pow_le_pow_right (by omega) (by omega))
  rw [if_neg (nI_ge hm' (by omega)), fX9_has_eq hh (by omega), bi_some, let_eq]
  have h01 : (if nI (bt h m) = 0 then (1 : Int32) else 0) = nI (cb w h (hs w h S m) m 0) := by
    unfold cb
    rcases bt_01 h m with q | q
    · rw [q, if_pos nI_0, if_pos ⟨by omega, fun z => absurd z (by omega), fun z => absurd z (by omega)⟩]; rfl
    · rw [q, if_neg (by decide), if_neg (fun z => z.1 rfl)]; rfl
  have hcan := fun (j20 : Int32 × mv_M → Option (Int32 × mv_M)) => hadBy_can (F := F) (M := M) (w := w) (h := h) (S := hs w h S m) (k := m) (Mr := M) j20 hM hw hm' (hlt m (by omega)) hF
  have hgo : ∀ (G : Int32 → Option (Int32 × mv_M)), (if nI (bt h m) = 0 then G 1 else G 0) = G (nI (cb w h (hs w h S m) m 0)) := fun G => by
    rw [← h01]; split <;> rfl
  refine Eq.trans (hgo (fun v => mv_let v (fun v17 => mv_let (0 : Int32) (fun v18 => mv_let (fun s19 : Int32 × mv_M => (if s19.1 = 0 then mv_let ((nI (hs w h S m)) ||| (0 : Int32)) (fun v21 => mv_let (nI m + (1 : Int32)) (fun v22 => f (v21, v22, s19.2))) else mv_ob ((23 : Int32) + nI m) 2324 (mv_bi (fX9_typesOf F s19.2 (s19.2.1 1 ((23 : Int32) + nI m).toNatClampNeg) (0 : Int32)) (fun v24 M23 => mv_let ((nI (hs w h S m)) ||| v24) (fun v25 => mv_let (nI m + (1 : Int32)) (fun v26 => f (v25, v26, M23))))))) (fun j20 => mv_lp (bX9_hadBy_44 (nI (hs w h S m), nI m, M) j20 F) F (v17, v18, M)))))) ?_
  rw [let_eq, let_eq, let_eq, hcan]
  dsimp only
  have hsn : hs w h S (m + 1) = if cb w h (hs w h S m) m (w (47 + m)) = 1 then hs w h S m ||| ofb w (w (23 + m)) else hs w h S m := rfl
  rw [hsn]
  have hc01 : cb w h (hs w h S m) m (w (47 + m)) = 0 ∨ cb w h (hs w h S m) m (w (47 + m)) = 1 := by unfold cb; split <;> simp
  rcases hc01 with c | c
  · rw [c, nI_0, it0, let_eq, let_eq, or_0, nI_1, if_neg (by omega)]
  · rw [c, show nI 1 = (1 : Int32) from rfl, it1, ob_add (ai := (23 : Int32)) (a := 23) rfl (by omega), cl_add (ai := (23 : Int32)) (a := 23) rfl (by omega), RM_at hM (by omega), typesOf9a hM hw hgv (by omega), bi_some, let_eq, let_eq, or_nI (hlt m (by omega)) hof, nI_1, if_pos rfl]
theorem hadBy_eq {M : mv_M} {w : Nat → Nat} {h : Nat} (hM : RM M 0 w) (hw : WF w) (hh : h < 2 ^ 31) (hF : 300 < F) : ∃ S : Nat, fX9_hadBy F M (nI h) = some (nI S, M) ∧ HS w h S := by
  have h8 := hw.1
  have hp : (2 : Nat) ^ w 0 ≤ 256 := Nat.pow_le_pow_right (n := 2) (by omega) (show w 0 ≤ 8 by omega)
  unfold fX9_hadBy
  rw [let_eq, let_eq]
  refine lp_rule2 (fun i s => ∃ (S : Nat) (v : Int32), s = (nI S, v, M) ∧ Snd w h S ∧ ((v = 1 ∧ i ≤ S) ∨ (v = 0 ∧ clo w h S ∧ i ≤ S + 1))) 257 (fun G => ∃ S : Nat, G = some (nI S, M) ∧ HS w h S) ?_ F 0 (0, 1, M) ⟨0, 1, by rw [nI_0], ⟨Nat.two_pow_pos _, fun t q => absurd q (bt_0 t)⟩, Or.inl ⟨rfl, Nat.le_refl _⟩⟩ (by omega) (by omega)
  rintro i s f hi ⟨S, v, rfl, hS, hv⟩
  have hS1 := hS.1
  unfold bX9_hadBy_4
  dsimp only
  rcases hv with ⟨rfl, hv⟩ | ⟨rfl, hcl, hv⟩
  · right
    rw [it1, let_eq, let_eq, let_eq, hadBy_round (S := S) _ hM hw hh hS (by omega)]
    dsimp only
    have hS' := hs_snd hw hS (w 1) (Nat.le_refl _)
    have hS'1 := hS'.1
    by_cases e : hs w h S (w 1) = S
    · refine ⟨by omega, (nI S, 0, M), ⟨S, 0, rfl, hS, Or.inr ⟨rfl, hs_clo e, by omega⟩⟩, ?_⟩
      rw [e, if_pos rfl, let_eq]
    · refine ⟨by omega, (nI (hs w h S (w 1)), 1, M), ⟨_, 1, rfl, hS', Or.inl ⟨rfl, ?_⟩⟩, ?_⟩
      · have hor : S ||| hs w h S (w 1) = hs w h S (w 1) := bt_ext (fun i => by
          rw [bt_or]
          exact ⟨fun q => by rcases q with q | q; exact hs_mono (n := 0) (Nat.zero_le _) q; exact q, fun q => Or.inr q⟩)
        have := Nat.left_le_or (n := S) (m := hs w h S (w 1))
        rw [hor] at this
        omega
      · rw [if_neg (fun q => e ((nI_eq (by omega) (by omega)).mp q)), let_eq]
  · left
    rw [it0]
    refine ⟨S, rfl, hS1, fun t ht => ⟨hS.2 t, fun ⟨p, hp'⟩ => clo_all hw hcl p t ht hp'⟩⟩
theorem ps_had (hF : 300 < F) : ps_ok Sim (fun M => fX8_had F M) (fun M => fX9_had F M) := by
  rintro MX MM ⟨w, hc, ht⟩
  show ∃ (r : Int32) (MX' MM' : mv_M), fX8_had F MX = some (r, MX') ∧ fX9_had F MM = some (r, MM') ∧ Sim MX' MM'
  obtain ⟨hw, hX, hM, -⟩ := id hc
  have h8 := hw.1
  unfold fX8_had fX9_had
  rw [hX.1]
  by_cases h0 : w 0 = 0
  · exact ⟨-1000002, MX, MM, by rw [h0, if_pos nI_0], by rw [isWorld_n hM hw h0, bi_some, it0], w, hc, ht⟩
  rw [if_neg (nI_ne0 (by omega) (by omega)), isWorld_y hM hw h0, bi_some, it1, ob_2, cl_2, RM_at hM (by decide), hX.2.2.1]
  obtain ⟨MX1, S, g1, g2, g3, g4⟩ := typesHad_eq (F := F) hX hw (hid_lt hw) (by omega)
  obtain ⟨S', k1, k2⟩ := hadBy_eq (F := F) (h := w 2) hM hw (hid_lt hw) hF
  have e := HS_eq g4 k2
  subst e
  exact ⟨nI S, MX1, MM, by rw [g1, bi_some], by rw [k1, bi_some], w, core_fr hc (kpX.of57 g3) (kpM.rf _), tab_same (M := MX) g2 (g3 _ _ (by decide)) ht⟩
theorem ps_needed (hF : 300 < F) (a1 : Int32) : ps_ok Sim (fun M => fX8_needed F M a1) (fun M => fX9_needed F M a1) := by
  rintro MX MM ⟨w, hc, ht⟩
  show ∃ (r : Int32) (MX' MM' : mv_M), fX8_needed F MX a1 = some (r, MX') ∧ fX9_needed F MM a1 = some (r, MM') ∧ Sim MX' MM'
  obtain ⟨hw, hX, hM, -⟩ := id hc
  have h8 := hw.1
  have h12 := hw.2.1
  unfold fX8_needed fX9_needed
  rcases ix_cases a1 (show w 0 < 2 ^ 31 by omega) with h | ⟨t, ht', rfl⟩
  · exact ⟨-1000001, MX, MM, by rw [fX7_hasType_out hX h, bi_some, it0], by rw [fX9_isType_out hM hw h, bi_some, it0], w, hc, ht⟩
  rw [fX7_hasType_in hX hw ht', bi_some, it1, fX9_isType_in hM hw ht', bi_some, it1]
  have hex : ∀ h, ∃ S, h < 2 ^ 31 → HS w h S ∧ fX9_hadBy F MM (nI h) = some (nI S, MM) := fun h => by
    by_cases hh : h < 2 ^ 31
    · obtain ⟨S, k1, k2⟩ := hadBy_eq (F := F) (h := h) hM hw hh hF
      exact ⟨S, fun _ => ⟨k2, k1⟩⟩
    · exact ⟨0, fun q => absurd q hh⟩
  obtain ⟨sS, hsS⟩ := Classical.skolem.mp hex
  have hlt : ∀ h, h < 2 ^ 31 → sS h < 2 ^ 31 := fun h hh => Nat.lt_of_lt_of_le (hsS h hh).1.1 (Nat.pow_le_pow_right (by omega) (by omega))
  have hT : ∀ (M : mv_M) (h : Nat), RX M 1 2 w → h < 2 ^ 31 → ∃ M' : mv_M, fX3_typesHad F M (nI h) = some (nI (sS h), M') ∧ M'.2 = M.2 ∧ ∀ i j, i ≠ 57 → M'.1 i j = M.1 i j := fun M h hR hh => by
    obtain ⟨M1, S, g1, g2, g3, g4⟩ := typesHad_eq (F := F) hR hw hh (by omega)
    rw [HS_eq g4 (hsS h hh).1] at g1
    exact ⟨M1, g1, g2, g3⟩
  obtain ⟨MX1, g1, g2, g3⟩ := hT MX (w 2) hX (hid_lt hw)
  have hX1 : RX MX1 1 2 w := RX_fr (M := MX) (fun i j hi => g3 i j (by omega)) hX
  unfold fX3_membersNeeded
  rw [hX.2.2.1, g1, bi_some, bt_of (hlt _ (hid_lt hw)) (by omega)]
  have h0 := (hsS (w 2) (hid_lt hw)).2
  have hhas : ∀ h, h < 2 ^ 31 → fX9_has F MM (nI (sS h)) (nI t) = some (nI (bt (sS h) t), MM) := fun h hh => fX9_has_eq (hlt h hh) (by omega)
  rcases bt_01 (sS (w 2)) t with e | e
  · refine ⟨0, MX1, MM, ?_, ?_, w, core_fr hc (kpX.of57 g3) (kpM.rf _), tab_same (M := MX) g2 (g3 _ _ (by decide)) ht⟩
    · rw [e, if_pos nI_0, bi_some]
    · rw [let_eq, let_eq]
      obtain ⟨F', rfl⟩ : ∃ F', F = F' + 1 := ⟨F - 1, by omega⟩
      show bX9_needed_15 (F' + 1) (nI t) _ (0, 0, MM) = _
      unfold bX9_needed_15
      dsimp only
      rw [ob_1, cl_1, RM_at hM (by decide)]
      by_cases c : w 1 = 0
      · rw [c, if_pos (by decide)]
      · rw [if_neg (nI_nle (by omega) (by omega)), ob_2, cl_2, RM_at hM (by decide), h0, bi_some, hhas _ (hid_lt hw), bi_some, e, nI_0, it0]
  · rw [e, if_neg (by decide)]
    have hfun : ∀ k, k < w 1 → nI (w 2) ||| ((1 : Int32) <<< (nI k &&& 31)) = nI (w 2 ||| 2 ^ k) ∧ w 2 ||| 2 ^ k < 2 ^ 31 := fun k hk => hid_more hw hk
    have hres : ∃ M' : mv_M, mv_lp (bX3_membersNeeded_24 F (nI t)) F (0, 0, MX1) = some (nI (orb (fun k => 1 - bt (sS (w 2 ||| 2 ^ k)) t) (w 1)), M') ∧ M'.2 = MX1.2 ∧ ∀ i j, i ≠ 57 → M'.1 i j = MX1.1 i j := by
      refine lp_rule2 (fun k s => ∃ M' : mv_M, s = (nI (orb (fun k => 1 - bt (sS (w 2 ||| 2 ^ k)) t) k), nI k, M') ∧ M'.2 = MX1.2 ∧ ∀ i j, i ≠ 57 → M'.1 i j = MX1.1 i j) (w 1) (fun G => ∃ M' : mv_M, G = some (nI (orb (fun k => 1 - bt (sS (w 2 ||| 2 ^ k)) t) (w 1)), M') ∧ M'.2 = MX1.2 ∧ ∀ i j, i ≠ 57 → M'.1 i j = MX1.1 i j) ?_ F 0 (0, 0, MX1) ⟨MX1, rfl, rfl, fun _ _ _ => rfl⟩ (by omega) (by omega)
      rintro k s f hk ⟨M', rfl, q2, q3⟩
      have hX' : RX M' 1 2 w := RX_fr (M := MX1) (fun i j hi => q3 i j (by omega)) hX1
      unfold bX3_membersNeeded_24
      dsimp only
      rw [hX'.2.1]
      by_cases c : k = w 1
      · left
        subst c
        rw [if_pos (nI_le (Nat.le_refl _) (by omega))]
        exact ⟨M', rfl, q2, q3⟩
      right
      have hk' : k < w 1 := by omega
      obtain ⟨M2, p1, p2, p3⟩ := hT M' (w 2 ||| 2 ^ k) hX' (hfun k hk').2
      rw [if_neg (nI_ge hk' (by omega)), hX'.2.2.1, (hfun k hk').1, p1, bi_some, bt_of (hlt _ (hfun k hk').2) (by omega)]
      refine ⟨hk', (nI (orb (fun k => 1 - bt (sS (w 2 ||| 2 ^ k)) t) (k + 1)), nI (k + 1), M2), ⟨M2, rfl, p2.trans q2, fun i j hi => by rw [p3 _ _ hi, q3 _ _ hi]⟩, ?_⟩
      show _ = f (nI (orb (fun k => 1 - bt (sS (w 2 ||| 2 ^ k)) t) k ||| (if 1 - bt (sS (w 2 ||| 2 ^ k)) t = 1 then 2 ^ k else 0)), nI (k + 1), M2)
      rcases bt_01 (sS (w 2 ||| 2 ^ k)) t with q | q
      · rw [q, if_pos nI_0, if_pos rfl, let_eq, let_eq, nI_1, orb_step (by omega)]
      · rw [q, if_neg (by decide), if_neg (by decide), let_eq, nI_1, Nat.or_zero]
    obtain ⟨MX2, p1, p2, p3⟩ := hres
    refine ⟨_, MX2, MM, by rw [let_eq, let_eq, p1, bi_some], ?_, w, core_fr hc (kpX.of57 (fun i j hi => by rw [p3 _ _ hi, g3 _ _ hi])) (kpM.rf _), tab_same (M := MX) (p2.trans g2) (by rw [p3 _ _ (by decide), g3 _ _ (by decide)]) ht⟩
    rw [let_eq, let_eq]
    have hst : ((0 : Int32), (0 : Int32), MM) = (fun k : Nat => (nI (orb (fun k => 1 - bt (sS (w 2 ||| 2 ^ k)) t) k), nI k, MM)) 0 := by
      show _ = (nI 0, nI 0, MM); rw [nI_0]
    rw [hst]
    refine lp_for (fun k : Nat => (nI (orb (fun k => 1 - bt (sS (w 2 ||| 2 ^ k)) t) k), nI k, MM)) (w 1) (fun k hk f => ?_) (fun f => ?_) F 0 (by omega) (by omega)
    · show bX9_needed_15 F (nI t) f (nI (orb (fun k => 1 - bt (sS (w 2 ||| 2 ^ k)) t) k), nI k, MM) = f (nI (orb (fun k => 1 - bt (sS (w 2 ||| 2 ^ k)) t) k ||| (if 1 - bt (sS (w 2 ||| 2 ^ k)) t = 1 then 2 ^ k else 0)), nI (k + 1), MM)
      unfold bX9_needed_15
      dsimp only
      rw [ob_1, cl_1, RM_at hM (by decide), if_neg (nI_ge hk (by omega)), ob_2, cl_2, RM_at hM (by decide), h0, bi_some, hhas _ (hid_lt hw), bi_some, e, show nI 1 = (1 : Int32) from rfl, it1, ob_2, RM_at hM (by decide), (hfun k hk).1, (hsS _ (hfun k hk).2).2, bi_some, hhas _ (hfun k hk).2, bi_some]
      rcases bt_01 (sS (w 2 ||| 2 ^ k)) t with q | q
      · rw [q, nI_0, it0, if_pos rfl, let_eq, let_eq, nI_1, orb_step (by omega)]
      · rw [q, show nI 1 = (1 : Int32) from rfl, it1, if_neg (by decide), let_eq, let_eq, nI_1, Nat.or_zero, or_0]
    · show bX9_needed_15 F (nI t) f (nI (orb (fun k => 1 - bt (sS (w 2 ||| 2 ^ k)) t) (w 1)), nI (w 1), MM) = _
      unfold bX9_needed_15
      dsimp only
      rw [ob_1, cl_1, RM_at hM (by decide), if_pos (nI_le (Nat.le_refl _) (by omega))]
end LEAST
