/-! THE TAPE IS READ: worlds -/
theorem lp2_rule {σ τ α β : Type} {B1 : (σ → Option α) → σ → Option α} {B2 : (τ → Option β) → τ → Option β} (J : Nat → σ → τ → Prop) (N : Nat) (Q : Option α → Option β → Prop) (h : ∀ i s1 s2 (f1 : σ → Option α) (f2 : τ → Option β), i ≤ N → J i s1 s2 → Q (B1 f1 s1) (B2 f2 s2) ∨ (i < N ∧ ∃ s1' s2', J (i + 1) s1' s2' ∧ B1 f1 s1 = f1 s1' ∧ B2 f2 s2 = f2 s2')) : ∀ (n i : Nat) (s1 : σ) (s2 : τ), J i s1 s2 → i ≤ N → N < i + n → Q (mv_lp B1 n s1) (mv_lp B2 n s2) := by
  intro n
  induction n with
  | zero => intro i s1 s2 _ h1 h2; exact absurd h2 (by omega)
  | succ n ih =>
    intro i s1 s2 hJ h1 h2
    show Q (B1 (mv_lp B1 n) s1) (B2 (mv_lp B2 n) s2)
    rcases h i s1 s2 (mv_lp B1 n) (mv_lp B2 n) h1 hJ with hq | ⟨hlt, s1', s2', hJ', e1, e2⟩
    · exact hq
    · rw [e1, e2]
      exact ih (i + 1) s1' s2' hJ' (by omega) (by omega)
def fw8 (M M' : mv_M) : Prop := M'.2 = M.2 ∧ ∀ i j, ¬ (i = 41 ∧ (j = 3 ∨ j = 4)) → ¬ (43 ≤ i ∧ i ≤ 51) → M'.1 i j = M.1 i j
def fw9 (M M' : mv_M) : Prop := M'.2 = M.2 ∧ ∀ i j, ¬ (i = 0 ∧ (j = 4 ∨ j = 10 ∨ j = 11 ∨ j = 12)) → ¬ (i = 1 ∧ 83 ≤ j ∧ j < 166) → M'.1 i j = M.1 i j
theorem ft8.fw {M M' : mv_M} (h : ft8 M M') : fw8 M M' := ⟨h.1, fun i j h1 _ => h.2 i j h1⟩
theorem ft9.fw {M M' : mv_M} (h : ft9 M M') : fw9 M M' := ⟨h.1, fun i j h1 _ => h.2 i j h1⟩
theorem fw8.tr {M M' M'' : mv_M} (h : fw8 M M') (h' : fw8 M' M'') : fw8 M M'' := ⟨h'.1.trans h.1, fun i j h1 h2 => (h'.2 i j h1 h2).trans (h.2 i j h1 h2)⟩
theorem fw9.tr {M M' M'' : mv_M} (h : fw9 M M') (h' : fw9 M' M'') : fw9 M M'' := ⟨h'.1.trans h.1, fun i j h1 h2 => (h'.2 i j h1 h2).trans (h.2 i j h1 h2)⟩
theorem fw8_w {M : mv_M} {i j : Nat} {v : Int32} (h : 43 ≤ i ∧ i ≤ 51) : fw8 M (mv_wI M i j v) := ⟨rfl, fun a b h1 h2 => wI_ne (by omega)⟩
theorem fw9_w {M : mv_M} {j : Nat} {v : Int32} (h : 83 ≤ j ∧ j < 166) : fw9 M (mv_wI M 1 j v) := ⟨rfl, fun a b h1 h2 => wI_ne (by omega)⟩
theorem RM_uwp {M : mv_M} {v : Nat → Nat} {p j x : Nat} (h : RM M p v) : RM (mv_wI M 1 (p + j) (nI x)) p (uw v j x) := fun i hi => by
  unfold uw
  by_cases e : i = j
  · subst e; rw [if_pos rfl, wI_eq]
  · rw [if_neg e, wI_ne (by omega)]; exact h i hi
theorem RM_t9 {M M' : mv_M} {v : Nat → Nat} (h : ft9 M M') (hr : RM M 83 v) : RM M' 83 v := RM_fr (M := M) (fun j _ _ => h.2 _ _ (by omega)) hr
theorem RX_t8 {M M' : mv_M} {v : Nat → Nat} (h : ft8 M M') (hr : RX M 43 44 v) : RX M' 43 44 v := RX_fr (M := M) (fun i j hi => h.2 _ _ (by omega)) hr
theorem ofb_congr8 {w w' : Nat → Nat} (h : ∀ t, t < 8 → w' (3 + t) = w (3 + t)) {t : Nat} (ht : t < 8) : ofb w' t = ofb w t := by
  have : ∀ n t, n ≤ 8 → ofT w' n t = ofT w n t := by
    intro n
    induction n with
    | zero => intro t _; rfl
    | succ n ih =>
      intro t hn
      show (if t = n then 2 ^ n ||| (if w' (3 + n) = n then 0 else ofT w' n (w' (3 + n))) else ofT w' n t) = (if t = n then 2 ^ n ||| (if w (3 + n) = n then 0 else ofT w n (w (3 + n))) else ofT w n t)
      rw [h n (by omega), ih _ (by omega), ih _ (by omega)]
  exact this (t + 1) t (by omega)
section READW
variable {F n a : Nat} {c : Nat → Int32} {f4 : Int32} {MX MM : mv_M}
theorem ob_83 {α : Type} (G : Option α) : mv_ob (83 : Int32) 2324 G = G := if_neg (by decide +kernel)
theorem ob_84 {α : Type} (G : Option α) : mv_ob (84 : Int32) 2324 G = G := if_neg (by decide +kernel)
theorem cl_83 : (83 : Int32).toNatClampNeg = 83 := by decide +kernel
theorem cl_84 : (84 : Int32).toNatClampNeg = 84 := by decide +kernel
theorem FL_fr {MX' MM' : mv_M} (hX : ∀ j, MX'.1 41 j = MX.1 41 j) (hM : ∀ j, MM'.1 0 j = MM.1 0 j) (h : FL MX MM) : FL MX' MM' := by
  unfold FL
  rw [hX, hX, hM, hM]; exact h
theorem law_eq {v : Nat → Nat} (h : PS n c f4 a MX MM) (hr : RM MM 83 v) (hF : 300 < F) : ∃ (b : Int32) (MX' MM' : mv_M), fX4_readLaw F MX = some (b, MX') ∧ fX9_takesLaw F MM = some (b, MM') ∧ fw8 MX MX' ∧ fw9 MM MM' ∧ ((b = 1 ∧ ∃ T a', 1 ≤ T ∧ T ≤ 8 ∧ PS n c f4 a' MX' MM' ∧ MX'.1 43 0 = nI T ∧ (∀ i j, 43 ≤ i → i ≤ 51 → ¬ (i = 43 ∧ j = 0) → MX'.1 i j = MX.1 i j) ∧ RM MM' 83 (uw v 0 T)) ∨ (b = 0 ∧ FL MX' MM')) := by
  unfold fX4_readLaw fX9_takesLaw
  obtain ⟨b1, MX1, MM1, t1, t2, t3, t4, t5⟩ := take_eq (F := F) 119 (by decide) h
  rw [t1, bi_some, t2, bi_some]
  rcases t5 with ⟨rfl, ps1⟩ | ⟨rfl, fl1⟩
  case inr => rw [it0, it0, b1_0, b1_0]; exact ⟨0, MX1, MM1, rfl, rfl, t3.fw, t4.fw, Or.inr ⟨rfl, fl1⟩⟩
  rw [it1, it1]
  obtain ⟨MX2, MM2, u3, u4, u5⟩ := num_eq (F := F) 1 8 (by decide) (by decide) ps1 hF
  rcases u5 with ⟨x, a', x1, x2, u1, u2, u12, ps2⟩ | ⟨u1, u2, fl2⟩
  case inr =>
    rw [show (1 : Int32) = nI 1 from rfl, show (8 : Int32) = nI 8 from rfl, u1, bi_some, u2, bi_some, it0, let_eq, let_eq, if_pos (by decide), if_pos (by decide), b1_0]
    rw [show mv_b1 (0 : Int32) (some ((0 : Int32), MM2)) = _ from b1_0 _]
    exact ⟨0, _, MM2, rfl, rfl, (t3.tr u3).fw.tr (fw8_w (by decide)), (t4.tr u4).fw, Or.inr ⟨rfl, FL_fr (fun j => wI_ne (by omega)) (fun j => rfl) fl2⟩⟩
  rw [show (1 : Int32) = nI 1 from rfl, show (8 : Int32) = nI 8 from rfl, u1, bi_some, u2, bi_some]
  rw [show nI 1 = (1 : Int32) from rfl, it1, let_eq, let_eq, if_neg (show ¬ nI x < (0 : Int32) from nI_pos (by omega)), if_neg (nI_pos (by omega)), ob_83, cl_83, let_eq, u12]
  have ps3 : PS n c f4 a' (mv_wI MX2 43 0 (nI x)) (mv_wI MM2 1 83 (nI x)) := PS_fr (fun i j hi => wI_ne (by omega)) (fun i j hi => wI_ne (by omega)) ps2
  have hr3 : RM (mv_wI MM2 1 83 (nI x)) 83 (uw v 0 x) := RM_uwp (j := 0) (RM_t9 (t4.tr u4) hr)
  obtain ⟨b4, MX4, MM4, w1, w2, w3, w4, w5⟩ := take_eq (F := F) 59 (by decide) ps3
  rw [w1, bi_some, w2, bi_some]
  have F8 : fw8 MX MX4 := ((t3.tr u3).fw.tr (fw8_w (by decide))).tr w3.fw
  have F9 : fw9 MM MM4 := ((t4.tr u4).fw.tr (fw9_w (by decide))).tr w4.fw
  rcases w5 with ⟨rfl, ps4⟩ | ⟨rfl, fl4⟩
  · rw [it1, b1_1, b1_1]
    refine ⟨1, MX4, MM4, rfl, rfl, F8, F9, Or.inl ⟨rfl, x, a' + 1, x1, x2, ps4, ?_, fun i j h1 h2 h3 => ?_, RM_t9 w4 hr3⟩⟩
    · rw [w3.2 _ _ (by omega), wI_eq]
    · rw [w3.2 _ _ (by omega), wI_ne h3, u3.2 _ _ (by omega), t3.2 _ _ (by omega)]
  · rw [it0, b1_0, b1_0]
    exact ⟨0, MX4, MM4, rfl, rfl, F8, F9, Or.inr ⟨rfl, fl4⟩⟩
/-- a world in part: its types and m members -/
def WFp (v : Nat → Nat) (m : Nat) : Prop := 1 ≤ v 0 ∧ v 0 ≤ 8 ∧ v 1 = m ∧ v 2 = 0 ∧ (∀ t, t < v 0 → v (3 + t) ≤ t) ∧
  ∀ k, k < m → (1 ≤ v (11 + k) ∧ v (11 + k) ≤ 5) ∧ v (23 + k) < v 0 ∧ (1 ≤ v (35 + k) ∧ v (35 + k) ≤ 9) ∧ v (47 + k) ≤ 2 ∧ (v (11 + k) < 4 → v (47 + k) = 0) ∧ (4 ≤ v (11 + k) → 1 ≤ v (47 + k)) ∧ (0 < v (47 + k) → v (59 + k) < v 0) ∧ (1 < v (47 + k) → v (71 + k) < v 0)
/-- types: the two loops together -/
theorem types_eq {v : Nat → Nat} {T : Nat} (j5 : mv_M → Option (Int32 × mv_M)) (h : PS n c f4 a MX MM) (hT1 : 1 ≤ T) (hT8 : T ≤ 8) (h0 : MX.1 43 0 = nI T) (h10 : MX.1 43 1 = 0) (h20 : MX.1 43 2 = 0) (hr : RM MM 83 v) (hv0 : v 0 = T) (hv1 : v 1 = 0) (hv2 : v 2 = 0) (hF : 300 < F) : (∃ (MX' MM' : mv_M) (v' : Nat → Nat) (a' : Nat), fX4_readTypes F MX = some (1, MX') ∧ mv_lp (bX9_takesAll_11 j5 F) F (0, MM) = j5 MM' ∧ fw8 MX MX' ∧ fw9 MM MM' ∧ PS n c f4 a' MX' MM' ∧ RX MX' 43 44 v' ∧ RM MM' 83 v' ∧ WFp v' 0) ∨ (∃ MX' MM' : mv_M, fX4_readTypes F MX = some (0, MX') ∧ mv_lp (bX9_takesAll_11 j5 F) F (0, MM) = some (0, MM') ∧ fw8 MX MX' ∧ fw9 MM MM' ∧ FL MX' MM') := by
  unfold fX4_readTypes
  rw [let_eq, let_eq]
  refine lp2_rule (fun t s1 s2 => ∃ (M1 M2 : mv_M) (v' : Nat → Nat) (a' : Nat), s1 = (nI t, M1) ∧ s2 = (nI t, M2) ∧ fw8 MX M1 ∧ fw9 MM M2 ∧ PS n c f4 a' M1 M2 ∧ RM M2 83 v' ∧ v' 0 = T ∧ v' 1 = 0 ∧ v' 2 = 0 ∧ (∀ i j, 43 ≤ i → i ≤ 51 → i ≠ 44 → M1.1 i j = MX.1 i j) ∧ ∀ i, i < t → M1.1 44 i = nI (v' (3 + i)) ∧ v' (3 + i) ≤ i) T (fun G1 G2 => (∃ (MX' MM' : mv_M) (v' : Nat → Nat) (a' : Nat), G1 = some (1, MX') ∧ G2 = j5 MM' ∧ fw8 MX MX' ∧ fw9 MM MM' ∧ PS n c f4 a' MX' MM' ∧ RX MX' 43 44 v' ∧ RM MM' 83 v' ∧ WFp v' 0) ∨ (∃ MX' MM' : mv_M, G1 = some (0, MX') ∧ G2 = some (0, MM') ∧ fw8 MX MX' ∧ fw9 MM MM' ∧ FL MX' MM')) ?_ F 0 (0, MX) (0, MM) ⟨MX, MM, v, a, by rw [nI_0], by rw [nI_0], ⟨rfl, fun _ _ _ _ => rfl⟩, ⟨rfl, fun _ _ _ _ => rfl⟩, h, hr, hv0, hv1, hv2, fun _ _ _ _ _ => rfl, fun i hi => absurd hi (by omega)⟩ (by omega) (by omega)
  rintro t s1 s2 f1 f2 ht ⟨M1, M2, v', a', rfl, rfl, g8, g9, ps, hrv, e0, e1, e2, gk, gab⟩
  have hM83 : M2.1 1 83 = nI T := by have := hrv 0 (by decide); rw [e0] at this; exact this
  unfold bX4_readTypes_2 bX9_takesAll_11
  dsimp only
  rw [gk _ _ (by decide) (by decide) (by decide), h0, ob_83, cl_83, hM83]
  by_cases e : t = T
  · left; left
    subst e
    rw [if_pos (nI_le (Nat.le_refl _) (by omega)), if_pos (nI_le (Nat.le_refl _) (by omega))]
    obtain ⟨M3, s1, s2, s3, s4⟩ := seeAbove_43 (F := F) (M := M1) (w := v') (by rw [gk _ _ (by decide) (by decide) (by decide), h0, e0]) (by omega) (fun i hi => (gab i (by omega)).2) (fun i hi => (gab i (by omega)).1) (by omega)
    refine ⟨M3, M2, v', a', by rw [s1, bv_some, b1_1], rfl, ⟨s2.trans g8.1, fun i j h1 h2 => by rw [s3 _ _ (by omega), g8.2 _ _ h1 h2]⟩, g9, PS_fr (fun i j hi => s3 _ _ (by omega)) (fun i j hi => rfl) ps, ⟨?_, ?_, ?_, fun i hi => ⟨?_, s4 i hi⟩, fun k hk => absurd hk (by omega)⟩, hrv, by omega, by omega, e1, e2, fun i hi => (gab i (by omega)).2, fun k hk => absurd hk (by omega)⟩
    · rw [s3 _ _ (by decide), gk _ _ (by decide) (by decide) (by decide), h0, e0]
    · rw [s3 _ _ (by decide), gk _ _ (by decide) (by decide) (by decide), h10, e1, nI_0]
    · rw [s3 _ _ (by decide), gk _ _ (by decide) (by decide) (by decide), h20, e2, nI_0]
    · rw [s3 _ _ (by decide)]; exact (gab i (by omega)).1
  have ht' : t < T := by omega
  rw [if_neg (nI_ge ht' (by omega)), if_neg (nI_ge ht' (by omega))]
  unfold fX9_takesType
  obtain ⟨b3, M3, N3, t1, t2, t3, t4, t5⟩ := take_eq (F := F) 117 (by decide) ps
  rw [t1, bi_some, t2, bi_some]
  rcases t5 with ⟨rfl, ps3⟩ | ⟨rfl, fl3⟩
  case inr =>
    left; right
    exact ⟨M3, N3, by rw [it0, b1_0], by rw [it0, b1_0]; rfl, g8.tr t3.fw, g9.tr t4.fw, fl3⟩
  rw [it1, it1]
  obtain ⟨M4, N4, u3, u4, u5⟩ := num_eq (F := F) 0 t (by decide) (by omega) ps3 hF
  rcases u5 with ⟨x, a4, x1, x2, u1, u2, u12, ps4⟩ | ⟨u1, u2, fl4⟩
  case inr =>
    left; right
    rw [show (0 : Int32) = nI 0 from nI_0.symm, u1, u2]
    exact ⟨M4, N4, by rw [bi_some, let_eq, if_pos (by decide), nI_0, b1_0], by rw [bi_some, nI_0, it0, b1_0]; rfl, g8.tr (t3.tr u3).fw, g9.tr (t4.tr u4).fw, fl4⟩
  rw [show fX4_takeNumber F M3 (0 : Int32) (nI t) = some (nI x, M4) from u1, bi_some, let_eq, if_neg (nI_pos (by omega)), show fX9_takesNumber F N3 (0 : Int32) (nI t) = some (1, N4) from u2, bi_some, it1]
  have i86 : (86 : Int32) + nI t = nI (83 + (3 + t)) := by rw [show (86 : Int32) = nI 86 from rfl, nI_add]; exact congrArg nI (by omega)
  rw [i86, ob_nI (show 83 + (3 + t) < 2324 by omega) (by decide), nI_clamp (show 83 + (3 + t) < 2 ^ 31 by omega), let_eq, u12]
  have ps5 : PS n c f4 a4 M4 (mv_wI N4 1 (83 + (3 + t)) (nI x)) := PS_fr (fun i j hi => rfl) (fun i j hi => wI_ne (by omega)) ps4
  have hr5 : RM (mv_wI N4 1 (83 + (3 + t)) (nI x)) 83 (uw v' (3 + t) x) := RM_uwp (RM_t9 (t4.tr u4) hrv)
  obtain ⟨b6, M6, N6, w1, w2, w3, w4, w5⟩ := take_eq (F := F) 59 (by decide) ps5
  rw [w1, bi_some, w2, bi_some]
  have F8 := g8.tr ((t3.tr u3).tr w3).fw
  have F9 := (g9.tr (t4.tr u4).fw).tr ((fw9_w (M := N4) (j := 83 + (3 + t)) (v := nI x) (by omega)).tr w4.fw)
  rcases w5 with ⟨rfl, ps6⟩ | ⟨rfl, fl6⟩
  case inr =>
    left; right
    exact ⟨M6, N6, by rw [it0, b1_0], by rw [b1_0, bi_some, it0, b1_0], F8, F9, fl6⟩
  right
  refine ⟨ht', (nI (t + 1), mv_wI M6 44 t (nI x)), (nI (t + 1), N6), ⟨mv_wI M6 44 t (nI x), N6, uw v' (3 + t) x, a4 + 1, rfl, rfl, F8.tr (fw8_w (by decide)), F9, PS_fr (fun i j hi => wI_ne (by omega)) (fun i j hi => rfl) ps6, RM_t9 w4 hr5, ?_, ?_, ?_, fun i j h1 h2 h3 => ?_, fun i hi => ?_⟩, ?_, ?_⟩
  · unfold uw; rw [if_neg (by omega)]; exact e0
  · unfold uw; rw [if_neg (by omega)]; exact e1
  · unfold uw; rw [if_neg (by omega)]; exact e2
  · rw [wI_ne (by omega), w3.2 _ _ (by omega), u3.2 _ _ (by omega), t3.2 _ _ (by omega)]; exact gk i j h1 h2 h3
  · by_cases ei : i = t
    · subst ei
      unfold uw
      rw [wI_eq, if_pos rfl]; exact ⟨rfl, x2⟩
    · unfold uw
      rw [wI_ne (by omega), if_neg (by omega), w3.2 _ _ (by omega), u3.2 _ _ (by omega), t3.2 _ _ (by omega)]
      exact gab i (by omega)
  · rw [it1, ob_nI (show t < 8 by omega) (by decide), nI_clamp (by omega), let_eq, let_eq, nI_1]
  · rw [b1_1, bi_some, it1, let_eq, nI_1]
/-! members -/
def kk (b : Int32) : Nat := if b = 108 then 1 else if b = 102 then 2 else if b = 111 then 3 else if b = 99 then 4 else if b = 109 then 5 else 0
theorem kindOf9 {b : Int32} : fX9_kindOf F MM b = some (nI (kk b), MM) := by
  unfold fX9_kindOf kk
  by_cases h1 : b = 108
  · rw [if_pos h1, if_pos h1]; rfl
  rw [if_neg h1, if_neg h1]
  by_cases h2 : b = 102
  · rw [if_pos h2, if_pos h2]; rfl
  rw [if_neg h2, if_neg h2]
  by_cases h3 : b = 111
  · rw [if_pos h3, if_pos h3]; rfl
  rw [if_neg h3, if_neg h3]
  by_cases h4 : b = 99
  · rw [if_pos h4, if_pos h4]; rfl
  rw [if_neg h4, if_neg h4]
  by_cases h5 : b = 109
  · rw [if_pos h5, if_pos h5]; rfl
  rw [if_neg h5, if_neg h5]; rfl
theorem kindOf8 {b : Int32} : fX4_kindOf F MX b = some (nI (kk b), MX) := by
  unfold fX4_kindOf kk
  by_cases h1 : b = 108
  · subst h1; rfl
  by_cases h2 : b = 102
  · subst h2; rfl
  by_cases h3 : b = 111
  · subst h3; rfl
  by_cases h4 : b = 99
  · subst h4; rfl
  by_cases h5 : b = 109
  · subst h5; rfl
  simp only [h1, h2, h3, h4, h5, if_false]
  repeat' split
  all_goals rfl
theorem kk_le (b : Int32) : kk b ≤ 5 := by
  unfold kk
  repeat' split
  all_goals omega
theorem kk_lt {i : Nat} (h : kk (byt n c i) ≠ 0) : i < n := by
  by_cases e : i < n
  · exact e
  · exfalso
    unfold byt at h
    rw [if_neg e] at h
    exact h (by decide)
/-- what a call takes -/
theorem taken_eq {v : Nat → Nat} {m kd : Nat} (j19 : Int32 × mv_M → Option (Int32 × mv_M)) (h : PS n c f4 a MX MM) (hm : m < 12) (hv1 : 1 ≤ v 0) (hv8 : v 0 ≤ 8) (h0 : MX.1 43 0 = nI (v 0)) (hr : RM MM 83 v) (hk : 4 ≤ kd) (hk5 : kd ≤ 5) (hF : 300 < F) : (∃ (MX' MM' : mv_M) (v' : Nat → Nat) (a' nt : Nat), fX4_readTaken F MX (nI m) = some (1, MX') ∧ mv_lp (bX9_takesMember_134 (nI kd) j19 F (nI m)) F (0, MM) = j19 (nI nt, MM') ∧ (MX'.2 = MX.2 ∧ ∀ i j, ¬ (i = 41 ∧ (j = 3 ∨ j = 4)) → ¬ ((49 ≤ i ∧ i ≤ 51) ∧ j = m) → MX'.1 i j = MX.1 i j) ∧ fw9 MM MM' ∧ PS n c f4 a' MX' MM' ∧ RM MM' 83 v' ∧ 1 ≤ nt ∧ nt ≤ 2 ∧ (∀ j, j ≠ 59 + m → j ≠ 71 + m → v' j = v j) ∧ MX'.1 49 m = nI nt ∧ MX'.1 50 m = nI (v' (59 + m)) ∧ v' (59 + m) < v 0 ∧ (1 < nt → MX'.1 51 m = nI (v' (71 + m)) ∧ v' (71 + m) < v 0)) ∨ (∃ MX' MM' : mv_M, fX4_readTaken F MX (nI m) = some (0, MX') ∧ mv_lp (bX9_takesMember_134 (nI kd) j19 F (nI m)) F (0, MM) = some (0, MM') ∧ fw8 MX MX' ∧ fw9 MM MM' ∧ FL MX' MM') := by
  obtain ⟨F', hF'⟩ : ∃ F', F = F' + 1 + 1 + 1 := ⟨F - 3, by omega⟩
  have hlp : ∀ (B : (Int32 × mv_M → Option (Int32 × mv_M)) → Int32 × mv_M → Option (Int32 × mv_M)) (z : Int32 × mv_M), mv_lp B F z = B (mv_lp B (F' + 1 + 1)) z := fun B z => by rw [hF', lp_succ]
  have hk4 : ¬ nI kd < (4 : Int32) := nI_nlt (b := 4) hk (by omega)
  have obm : ∀ {α : Type} (G : Option α), mv_ob (nI m) 12 G = G := fun G => ob_nI (by omega) (by decide)
  have clm : (nI m).toNatClampNeg = m := nI_clamp (by omega)
  have hM83 : ∀ {M' : mv_M} {v' : Nat → Nat}, RM M' 83 v' → v' 0 = v 0 → M'.1 1 83 = nI (v 0) := fun hr' e => by have := hr' 0 (by decide); rw [e] at this; exact this
  have hsub : nI (v 0) - 1 = nI (v 0 - 1) := by rw [show (1 : Int32) = nI 1 from rfl, pk_sub hv1]
  have i0 : ((142 : Int32) + ((12 : Int32) * 0)) + nI m = nI (83 + (59 + m)) := by rw [show (142 : Int32) + (12 : Int32) * 0 = nI 142 by decide, nI_add]; exact congrArg nI (by omega)
  have i1 : ((142 : Int32) + ((12 : Int32) * 1)) + nI m = nI (83 + (71 + m)) := by rw [show (142 : Int32) + (12 : Int32) * 1 = nI 154 by decide, nI_add]; exact congrArg nI (by omega)
  rw [hlp]
  unfold fX4_readTaken
  generalize hL : mv_lp (bX9_takesMember_134 (nI kd) j19 F (nI m)) (F' + 1 + 1) = L
  have hB : bX9_takesMember_134 (nI kd) j19 F (nI m) L (0, MM) = mv_bi (fX9_takes F MM (44 : Int32)) (fun v27 M26 => (if v27 = 0 then mv_b1 (0 : Int32) (some ((0 : Int32), M26)) else mv_ob (83 : Int32) 2324 (mv_bi (fX9_takesNumber F M26 (0 : Int32) ((M26.1 1 (83 : Int32).toNatClampNeg) - (1 : Int32))) (fun v29 M28 => (if v29 = 0 then mv_b1 (0 : Int32) (some ((0 : Int32), M28)) else mv_ob (((142 : Int32) + ((12 : Int32) * 0)) + nI m) 2324 (mv_let (mv_wI M28 1 (((142 : Int32) + ((12 : Int32) * 0)) + nI m).toNatClampNeg (M28.1 0 12)) (fun M30 => mv_let ((0 : Int32) + (1 : Int32)) (fun v31 => L (v31, M30))))))))) := by
    unfold bX9_takesMember_134
    dsimp only
    rw [if_neg hk4, if_neg (by decide), if_pos rfl]
  rw [hB]
  obtain ⟨b1, M1, N1, t1, t2, t3, t4, t5⟩ := take_eq (F := F) 44 (by decide) h
  rw [t1, bi_some, t2, bi_some]
  rcases t5 with ⟨rfl, ps1⟩ | ⟨rfl, fl1⟩
  case inr =>
    right
    exact ⟨M1, N1, by rw [it0, b1_0], by rw [it0, b1_0], t3.fw, t4.fw, fl1⟩
  rw [it1, it1, ob_83, cl_83, t3.2 _ _ (by omega), h0, hM83 (RM_t9 t4 hr) rfl, hsub]
  obtain ⟨M2, N2, u3, u4, u5⟩ := num_eq (F := F) 0 (v 0 - 1) (by decide) (by omega) ps1 hF
  have T8 := t3.tr u3
  have T9 := t4.tr u4
  rcases u5 with ⟨x, a2, x1, x2, u1, u2, u12, ps2⟩ | ⟨u1, u2, fl2⟩
  case inr =>
    right
    rw [show fX4_takeNumber F M1 (0 : Int32) (nI (v 0 - 1)) = some (-1, M2) from u1, bi_some, show fX9_takesNumber F N1 (0 : Int32) (nI (v 0 - 1)) = some (0, N2) from u2, bi_some, it0, b1_0]
    simp only [let_eq, obm, clm]
    rw [wI_ne (a := 49) (by omega), wI_eq, if_pos (by decide), if_pos (by decide), b1_0]
    exact ⟨_, N2, rfl, rfl, T8.fw.tr ((fw8_w (by decide)).tr (fw8_w (by decide))), T9.fw, FL_fr (fun j => by rw [wI_ne (by omega), wI_ne (by omega)]) (fun j => rfl) fl2⟩
  rw [show fX4_takeNumber F M1 (0 : Int32) (nI (v 0 - 1)) = some (nI x, M2) from u1, bi_some, show fX9_takesNumber F N1 (0 : Int32) (nI (v 0 - 1)) = some (1, N2) from u2, bi_some, it1, i0, ob_nI (show 83 + (59 + m) < 2324 by omega) (by decide), nI_clamp (show 83 + (59 + m) < 2 ^ 31 by omega), u12]
  simp only [let_eq, obm, clm]
  rw [wI_ne (a := 49) (i := 50) (by omega), wI_eq, if_neg (nI_pos (by omega)), show (0 : Int32) + 1 = 1 by decide]
  have ps3 : PS n c f4 a2 (mv_wI (mv_wI M2 50 m (nI x)) 49 m 1) (mv_wI N2 1 (83 + (59 + m)) (nI x)) := PS_fr (fun i j hi => by rw [wI_ne (by omega), wI_ne (by omega)]) (fun i j hi => wI_ne (by omega)) ps2
  have hr3 : RM (mv_wI N2 1 (83 + (59 + m)) (nI x)) 83 (uw v (59 + m) x) := RM_uwp (RM_t9 T9 hr)
  have F9 : fw9 MM (mv_wI N2 1 (83 + (59 + m)) (nI x)) := T9.fw.tr (fw9_w (by omega))
  rw [here8_eq ps3, bi_some]
  have hL1 : L (1, mv_wI N2 1 (83 + (59 + m)) (nI x)) = mv_bi (fX9_here F (mv_wI N2 1 (83 + (59 + m)) (nI x))) (fun v33 M32 => (if v33 = (44 : Int32) then mv_bi (fX9_takes F M32 (44 : Int32)) (fun v35 M34 => (if v35 = 0 then mv_b1 (0 : Int32) (some ((0 : Int32), M34)) else mv_ob (83 : Int32) 2324 (mv_bi (fX9_takesNumber F M34 (0 : Int32) ((M34.1 1 (83 : Int32).toNatClampNeg) - (1 : Int32))) (fun v37 M36 => (if v37 = 0 then mv_b1 (0 : Int32) (some ((0 : Int32), M36)) else mv_ob (((142 : Int32) + ((12 : Int32) * 1)) + nI m) 2324 (mv_let (mv_wI M36 1 (((142 : Int32) + ((12 : Int32) * 1)) + nI m).toNatClampNeg (M36.1 0 12)) (fun M38 => mv_let ((1 : Int32) + (1 : Int32)) (fun v39 => mv_lp (bX9_takesMember_134 (nI kd) j19 F (nI m)) (F' + 1) (v39, M38))))))))) else j19 (1, M32))) := by
    rw [← hL, lp_succ]
    generalize mv_lp (bX9_takesMember_134 (nI kd) j19 F (nI m)) (F' + 1) = L2
    unfold bX9_takesMember_134
    dsimp only
    rw [if_neg hk4, if_neg (by decide), if_neg (by decide)]
  rw [hL1, here9_of ps3, bi_some]
  generalize hM3 : mv_wI (mv_wI M2 50 m (nI x)) 49 m 1 = M3 at ps3
  generalize hN3 : mv_wI N2 1 (83 + (59 + m)) (nI x) = N3 at ps3 hr3 F9
  have k50 : M3.1 50 m = nI x := by rw [← hM3, wI_ne (by omega), wI_eq]
  have k49 : M3.1 49 m = 1 := by rw [← hM3, wI_eq]
  have k43 : M3.1 43 0 = nI (v 0) := by rw [← hM3, wI_ne (by omega), wI_ne (by omega), T8.2 _ _ (by omega)]; exact h0
  have kf3 : M3.2 = MX.2 ∧ ∀ i j, ¬ (i = 41 ∧ (j = 3 ∨ j = 4)) → ¬ ((49 ≤ i ∧ i ≤ 51) ∧ j = m) → M3.1 i j = MX.1 i j := by
    rw [← hM3]
    exact ⟨T8.1, fun i j h1 h2 => by rw [wI_ne (by omega), wI_ne (by omega), T8.2 _ _ h1]⟩
  by_cases e44 : byt n c a2 = 44
  case neg =>
    left
    rw [if_neg e44, if_neg e44, k50, if_neg (nI_pos (by omega)), b1_1]
    refine ⟨M3, N3, uw v (59 + m) x, a2, 1, rfl, rfl, kf3, F9, ps3, hr3, by omega, by omega, fun j h1 h2 => if_neg h1, k49, ?_, ?_, fun q => absurd q (by omega)⟩
    · rw [k50]; unfold uw; rw [if_pos rfl]
    · unfold uw; rw [if_pos rfl]; omega
  rw [if_pos e44, if_pos e44, ps3.2.2.2.1, nI_1]
  have ha2 := byt_lt (by decide) e44
  have htk9 : fX9_takes F N3 44 = some (1, mv_wI N3 0 10 (nI (a2 + 1))) := by
    unfold fX9_takes
    rw [here9_of ps3, bi_some, if_pos e44, let_eq, b1_1, ps3.2.2.2.2.1, nI_1]
  have ps4 := PS_on ps3 ha2
  have hr4 : RM (mv_wI N3 0 10 (nI (a2 + 1))) 83 (uw v (59 + m) x) := RM_t9 (ft9_w _) hr3
  have hv0' : uw v (59 + m) x 0 = v 0 := if_neg (by omega)
  rw [htk9, bi_some, it1, ob_83, cl_83, hM83 hr4 hv0', hsub, wI_ne (a := 41) (i := 43) (by omega), k43, hsub]
  obtain ⟨M5, N5, w3, w4, w5⟩ := num_eq (F := F) 0 (v 0 - 1) (by decide) (by omega) ps4 hF
  have G9 : fw9 MM N5 := F9.tr ((ft9_w (MM := N3) (nI (a2 + 1))).tr w4).fw
  have G8 : ∀ i j, ¬ (i = 41 ∧ (j = 3 ∨ j = 4)) → M5.1 i j = M3.1 i j := fun i j hij => by rw [w3.2 _ _ hij, wI_ne (by omega)]
  rcases w5 with ⟨y, a5, y1, y2, w1, w2, w12, ps5⟩ | ⟨w1, w2, fl5⟩
  case inr =>
    right
    rw [show fX4_takeNumber F (mv_wI M3 41 3 (nI (a2 + 1))) (0 : Int32) (nI (v 0 - 1)) = some (-1, M5) from w1, bi_some, show fX9_takesNumber F (mv_wI N3 0 10 (nI (a2 + 1))) (0 : Int32) (nI (v 0 - 1)) = some (0, N5) from w2, bi_some, it0, b1_0, wI_ne (a := 49) (i := 51) (by omega), wI_eq, if_pos (by decide), b1_0]
    refine ⟨_, N5, rfl, rfl, ⟨?_, fun i j h1 h2 => ?_⟩, G9, FL_fr (fun j => by rw [wI_ne (by omega), wI_ne (by omega)]) (fun j => rfl) fl5⟩
    · exact w3.1.trans kf3.1
    · rw [wI_ne (by omega), wI_ne (by omega), G8 _ _ h1, kf3.2 _ _ h1 (by omega)]
  left
  rw [show fX4_takeNumber F (mv_wI M3 41 3 (nI (a2 + 1))) (0 : Int32) (nI (v 0 - 1)) = some (nI y, M5) from w1, bi_some, show fX9_takesNumber F (mv_wI N3 0 10 (nI (a2 + 1))) (0 : Int32) (nI (v 0 - 1)) = some (1, N5) from w2, bi_some, it1, i1, ob_nI (show 83 + (71 + m) < 2324 by omega) (by decide), nI_clamp (show 83 + (71 + m) < 2 ^ 31 by omega), w12, wI_ne (a := 49) (i := 51) (by omega), wI_eq, if_neg (nI_pos (by omega)), b1_1, show (1 : Int32) + 1 = 2 by decide, let_eq, let_eq, lp_succ]
  have hend : bX9_takesMember_134 (nI kd) j19 F (nI m) (mv_lp (bX9_takesMember_134 (nI kd) j19 F (nI m)) F') (2, mv_wI N5 1 (83 + (71 + m)) (nI y)) = j19 (2, mv_wI N5 1 (83 + (71 + m)) (nI y)) := by
    generalize mv_lp (bX9_takesMember_134 (nI kd) j19 F (nI m)) F' = L3
    unfold bX9_takesMember_134
    dsimp only
    rw [if_neg hk4, if_pos (by decide)]
  rw [hend]
  refine ⟨mv_wI (mv_wI M5 51 m (nI y)) 49 m 2, mv_wI N5 1 (83 + (71 + m)) (nI y), uw (uw v (59 + m) x) (71 + m) y, a5, 2, rfl, rfl, ⟨w3.1.trans kf3.1, fun i j h1 h2 => by rw [wI_ne (by omega), wI_ne (by omega), G8 _ _ h1, kf3.2 _ _ h1 h2]⟩, G9.tr (fw9_w (by omega)), PS_fr (fun i j hi => by rw [wI_ne (by omega), wI_ne (by omega)]) (fun i j hi => wI_ne (by omega)) ps5, RM_uwp (RM_t9 w4 hr4), by omega, by omega, fun j h1 h2 => ?_, ?_, ?_, ?_, fun _ => ⟨?_, ?_⟩⟩
  · unfold uw; rw [if_neg h2, if_neg h1]
  · rw [wI_eq]; rfl
  · rw [wI_ne (by omega), wI_ne (by omega), G8 _ _ (by omega), k50]
    unfold uw; rw [if_neg (by omega), if_pos rfl]
  · unfold uw; rw [if_neg (by omega), if_pos rfl]; omega
  · rw [wI_ne (by omega), wI_eq]
    unfold uw; rw [if_pos rfl]
  · unfold uw; rw [if_pos rfl]; omega
end READW
