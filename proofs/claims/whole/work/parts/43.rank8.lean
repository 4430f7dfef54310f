/-! THE EXPRESSION AT A PLACE: pure, then the class -/
def kf (g : Nat → Nat) : Nat → Nat → Nat
  | 0, _ => 0
  | n + 1, x => if x < sm g n then kf g n x else n
theorem kf_spec {g : Nat → Nat} {n x : Nat} (h : x < sm g n) : kf g n x < n ∧ sm g (kf g n x) ≤ x ∧ x < sm g (kf g n x) + g (kf g n x) := by
  induction n with
  | zero => exact absurd h (by show ¬ x < 0; omega)
  | succ n ih =>
    show (if x < sm g n then kf g n x else n) < n + 1 ∧ sm g (if x < sm g n then kf g n x else n) ≤ x ∧ x < sm g (if x < sm g n then kf g n x else n) + g (if x < sm g n then kf g n x else n)
    by_cases c : x < sm g n
    · rw [if_pos c]
      obtain ⟨h1, h2, h3⟩ := ih c
      exact ⟨by omega, h2, h3⟩
    · rw [if_neg c]
      exact ⟨by omega, by omega, h⟩
/-- a state: what waits, the price that is left, the place within -/
abbrev usS : Type := List Nat × Nat × Nat
def um (w : Nat → Nat) (h : Nat) (a : usS) : Nat := match a.1 with
  | [] => 0
  | t :: s => kf (fun k => wy w h k t s a.2.1) (w 1) a.2.2
def us1 (w : Nat → Nat) (h : Nat) (a : usS) : usS := match a.1 with
  | [] => a
  | t :: s => (tk w (um w h a) ++ s, a.2.1 - pr w (um w h a), a.2.2 - sm (fun k => wy w h k t s a.2.1) (um w h a))
def un (w : Nat → Nat) (h : Nat) (a : usS) : Nat → usS
  | 0 => a
  | n + 1 => us1 w h (un w h a n)
def val (w : Nat → Nat) (h : Nat) (a : usS) : Prop := a.2.2 < fl w h a.1 a.2.1 ∧ a.2.1 ≤ 24 ∧ ∀ t ∈ a.1, t < w 0
theorem us1_cons (w : Nat → Nat) (h t : Nat) (s : List Nat) (l x : Nat) : us1 w h (t :: s, l, x) = (tk w (um w h (t :: s, l, x)) ++ s, l - pr w (um w h (t :: s, l, x)), x - sm (fun k => wy w h k t s l) (um w h (t :: s, l, x))) := rfl
/-- one step -/
theorem val_step {w : Nat → Nat} (hw : WF w) {h t : Nat} {s : List Nat} {l x : Nat} (hv : val w h (t :: s, l, x)) : um w h (t :: s, l, x) < w 1 ∧ sm (fun k => wy w h k t s l) (um w h (t :: s, l, x)) ≤ x ∧ x - sm (fun k => wy w h k t s l) (um w h (t :: s, l, x)) < wy w h (um w h (t :: s, l, x)) t s l ∧ pr w (um w h (t :: s, l, x)) ≤ l ∧ val w h (us1 w h (t :: s, l, x)) := by
  obtain ⟨h1, h2, h3⟩ := hv
  have h1 : x < fl w h (t :: s) l := h1
  have h1' := h1
  rw [fl_sum hw] at h1'
  obtain ⟨k1, k2, k3⟩ := kf_spec (mC_lt h1')
  have ek : um w h (t :: s, l, x) = kf (fun k => wy w h k t s l) (w 1) x := rfl
  rw [us1_cons, ek]
  generalize kf (fun k => wy w h k t s l) (w 1) x = k at k1 k2 k3
  have k3' : x < sm (fun k => wy w h k t s l) k + wy w h k t s l := k3
  have hx : x - sm (fun k => wy w h k t s l) k < wy w h k t s l := by omega
  obtain ⟨p1, p2, p3, p4⟩ := wy_pos (show 0 < wy w h k t s l by omega)
  refine ⟨k1, k2, hx, p3, ?_, ?_, ?_⟩
  · show x - sm (fun k => wy w h k t s l) k < fl w h (tk w k ++ s) (l - pr w k)
    rw [← p4]; exact hx
  · show l - pr w k ≤ 24
    have : l ≤ 24 := h2
    omega
  · intro u hu
    rcases List.mem_append.mp hu with q | q
    · exact tk_T hw k1 u q
    · exact h3 u (List.mem_cons_of_mem _ q)
def done (w : Nat → Nat) (h : Nat) (a : usS) (N : Nat) : Prop := (un w h a N).1 = [] ∧ ∀ i, i < N → (un w h a i).1 ≠ []
theorem done_eq {w : Nat → Nat} {h : Nat} {a : usS} {N N' : Nat} (h1 : done w h a N) (h2 : done w h a N') : N = N' := by
  rcases Nat.lt_trichotomy N N' with q | q | q
  · exact absurd h1.1 (h2.2 N q)
  · exact q
  · exact absurd h2.1 (h1.2 N' q)
/-- so long as something waits, the price falls -/
theorem un_val {w : Nat → Nat} (hw : WF w) {h : Nat} {a : usS} (hv : val w h a) : ∀ n, (∀ i, i < n → (un w h a i).1 ≠ []) → val w h (un w h a n) ∧ (un w h a n).2.1 + n ≤ a.2.1 := by
  intro n
  induction n with
  | zero => intro _; exact ⟨hv, Nat.le_refl _⟩
  | succ n ih =>
    intro hne
    obtain ⟨i1, i2⟩ := ih (fun i hi => hne i (by omega))
    have hn := hne n (by omega)
    have e : un w h a (n + 1) = us1 w h (un w h a n) := rfl
    rw [e]
    rcases hq : un w h a n with ⟨st, l, x⟩
    rw [hq] at i1 i2 hn
    cases st with
    | nil => exact absurd rfl hn
    | cons t s =>
      obtain ⟨k1, k2, k3, k4, k5⟩ := val_step hw i1
      refine ⟨k5, ?_⟩
      have hp := (pr_pos hw k1).1
      rw [us1_cons]
      show l - pr w (um w h (t :: s, l, x)) + (n + 1) ≤ a.2.1
      have i2 : l + n ≤ a.2.1 := i2
      omega
theorem done_ex {w : Nat → Nat} (hw : WF w) {h : Nat} {a : usS} (hv : val w h a) : ∃ N, N ≤ a.2.1 ∧ done w h a N := by
  by_cases hall : ∀ i, i < a.2.1 + 1 → (un w h a i).1 ≠ []
  · have := (un_val hw hv (a.2.1 + 1) hall).2
    omega
  · have hex : ∃ i, (un w h a i).1 = [] := Classical.byContradiction (fun hn => hall (fun i _ q => hn ⟨i, q⟩))
    obtain ⟨N, h1, h2⟩ := pk_least (fun i => (un w h a i).1 = []) hex
    refine ⟨N, ?_, h1, h2⟩
    have := (un_val hw hv N h2).2
    omega
theorem fl_one (w : Nat → Nat) (h t p : Nat) : fl w h [t] p = ct w h t p := by
  show mC (cv (ct w h t) (fun p => if p = 0 then 1 else 0) p) = _
  have : cv (ct w h t) (fun p => if p = 0 then 1 else 0) p = ct w h t p := by
    show sm (fun q => ct w h t q * (if p - q = 0 then 1 else 0)) p + ct w h t p * (if p - p = 0 then 1 else 0) = _
    rw [sm_zero (fun q hq => by rw [if_neg (by omega), Nat.mul_zero]), if_pos (by omega)]
    omega
  rw [this, mC_self (ct_le _ _ _ _)]
section RANK8
variable {F : Nat} {w : Nat → Nat}
/-- rows of ways to fill what is below -/
def rst (M : mv_M) (w : Nat → Nat) (l : Nat) : List Nat → Prop
  | [] => ∀ p, p ≤ 24 → M.2 82 p = lN (fl w (w 2) [] p)
  | t :: s => (∀ p, p ≤ l → M.2 (82 + (s.length + 1)) p = lN (fl w (w 2) (t :: s) p)) ∧ rst M w l s
theorem rst_at {M : mv_M} {l : Nat} {s : List Nat} (h : rst M w l s) (hl : l ≤ 24) : ∀ p, p ≤ l → M.2 (82 + s.length) p = lN (fl w (w 2) s p) := by
  cases s with
  | nil => intro p hp; exact h p (by omega)
  | cons t s => exact h.1
theorem rst_fr {M M' : mv_M} {l l' : Nat} (hl : l' ≤ l) : ∀ {s : List Nat}, (∀ i j, 82 ≤ i → i ≤ 82 + s.length → M'.2 i j = M.2 i j) → rst M w l s → rst M' w l' s := by
  intro s
  induction s with
  | nil => intro h hr p hp; rw [h _ _ (by omega) (by omega)]; exact hr p hp
  | cons t s ih =>
    intro h hr
    refine ⟨fun p hp => ?_, ih (fun i j h1 h2 => h i j h1 (by show i ≤ 82 + (s.length + 1); omega)) hr.2⟩
    rw [h _ _ (by omega) (by show _ ≤ 82 + (s.length + 1); omega)]
    exact hr.1 p (by omega)
theorem rst_tail {M : mv_M} {l : Nat} {s : List Nat} (h : rst M w l s) : rst M w l s.tail := by
  cases s with
  | nil => exact h
  | cons t s => exact h.2
/-- what the class holds while it spells -/
def inv8 (M : mv_M) (w : Nat → Nat) (st : List Nat) (l : Nat) : Prop := RX M 1 2 w ∧ tabs M w ∧ M.1 58 6 = nI st.length ∧ rep (M.1 107) st ∧ rst M w l st.tail
/-- all but scratch stands -/
def fr8 (M M' : mv_M) : Prop := (∀ i j, ¬ (i = 58 ∧ j = 6) → i ≠ 107 → i ≠ 108 → M'.1 i j = M.1 i j) ∧ ∀ i j, ¬ (i = 58) → ¬ (83 ≤ i) → M'.2 i j = M.2 i j
theorem fr8.rf (M : mv_M) : fr8 M M := ⟨fun _ _ _ _ _ => rfl, fun _ _ _ _ => rfl⟩
theorem fr8.tr {M M' M'' : mv_M} (h : fr8 M M') (h' : fr8 M' M'') : fr8 M M'' := ⟨fun i j h1 h2 h3 => (h'.1 i j h1 h2 h3).trans (h.1 i j h1 h2 h3), fun i j h1 h2 => (h'.2 i j h1 h2).trans (h.2 i j h1 h2)⟩
theorem tabs_fr {M M' : mv_M} (hw : w 0 ≤ 8 ∧ w 1 ≤ 12) (h : ∀ i j, ¬ (i = 58) → ¬ (83 ≤ i) → M'.2 i j = M.2 i j) (ht : tabs M w) : tabs M' w := fun p hp => ⟨fun t ht' => by rw [h _ _ (by omega) (by omega)]; exact (ht p hp).1 t ht', fun k hk => by rw [h _ _ (by omega) (by omega)]; exact (ht p hp).2 k hk⟩
theorem RX_f8 {M M' : mv_M} (h : fr8 M M') (hX : RX M 1 2 w) : RX M' 1 2 w := RX_fr (M := M) (fun i j hi => h.1 i j (by omega) (by omega) (by omega)) hX
theorem hb_le (w : Nat → Nat) (k p : Nat) : hb w k p ≤ 1000000000 := by
  unfold hb; split
  · omega
  · exact hd_le _ _ _ _
theorem want_eq {M : mv_M} {s : List Nat} {t : Nat} (hs : s.length < 24) (h6 : M.1 58 6 = nI s.length) (hr : rep (M.1 107) s) : ∃ M' : mv_M, fX2_want F M (nI t) = some M' ∧ M'.2 = M.2 ∧ fr8 M M' ∧ M'.1 58 6 = nI (s.length + 1) ∧ rep (M'.1 107) (t :: s) ∧ M'.1 108 = M.1 108 := by
  unfold fX2_want
  rw [h6, if_neg (show ¬ (24 : Int32) ≤ nI s.length from nI_ge (b := 24) hs (by decide)), ob_nI (show s.length < 25 by omega) (by decide), nI_clamp (by omega), let_eq, let_eq, wI_ne (by omega), h6, nI_1]
  refine ⟨_, rfl, rfl, ⟨fun i j h1 h2 h3 => by rw [wI_ne h1, wI_ne (by omega)], fun _ _ _ _ => rfl⟩, wI_eq, rep_push (s := s) hr (by rw [wI_ne (by omega), wI_eq]) (fun q hq => by rw [wI_ne (by omega), wI_ne (by omega)]), funext (fun j => by rw [wI_ne (by omega), wI_ne (by omega)])⟩
theorem waysWith_eq {M : mv_M} {s : List Nat} {t m l : Nat} (hX : RX M 1 2 w) (hw : WF w) (hT : tabs M w) (hm : m < w 1) (ht : t < w 0) (hl : l ≤ 24) (hs : s.length ≤ 24) (h6 : M.1 58 6 = nI s.length) (hr : rst M w l s) (hF : 30 < F) : fX2_waysWith F M (nI m) (nI t) (nI l) = some (lN (wy w (w 2) m t s l), M) := by
  have h8 := hw.1
  have h12 := hw.2.1
  unfold fX2_waysWith wy
  rw [fX7_isHidden_eq hX hw hm, bi_some]
  rcases bt_01 (w 2) m with e | e
  case inr => rw [e, show nI 1 = (1 : Int32) from rfl, it1, if_pos rfl]; rfl
  rw [e, nI_0, it0, if_neg (by decide), fX7_givesOne_eq hX hw hm (by omega), bi_some]
  rcases bt_01 (ofb w (w (23 + m))) t with q | q
  · rw [q, nI_0, it0, if_neg (by decide)]; rfl
  rw [q, show nI 1 = (1 : Int32) from rfl, it1, if_pos rfl, ob_nI (show m < 12 by omega) (by decide), h6, ob_nI (show s.length < 25 by omega) (by decide), nI_clamp (by omega), nI_clamp (by omega), ways_eq (f := hb w m) (g := fl w (w 2) s) hl (fun q hq => (hT q (by omega)).2 m hm) (fun q hq => rst_at hr hl q hq) (fun q => hb_le w m q) (fun q => fl_le w (w 2) s q) hF, bl_some, ← wy_hd]
  have : hb w m = hdW (ct w (w 2)) w m := funext (fun p => by unfold hb; rw [if_neg (by omega)])
  rw [this]
theorem choose_eq {M : mv_M} {s : List Nat} {t l x : Nat} (hX : RX M 1 2 w) (hw : WF w) (hT : tabs M w) (hs : s.length ≤ 24) (h6 : M.1 58 6 = nI s.length) (hr : rst M w l s) (hx : M.2 58 8 = lN x) (hv : val w (w 2) (t :: s, l, x)) (hF : 30 < F) : ∃ M' : mv_M, fX2_choose F M (nI t) (nI l) = some (nI (um w (w 2) (t :: s, l, x)), M') ∧ M'.1 = M.1 ∧ (∀ i j, ¬ (i = 58 ∧ j = 8) → M'.2 i j = M.2 i j) ∧ M'.2 58 8 = lN (x - sm (fun k => wy w (w 2) k t s l) (um w (w 2) (t :: s, l, x))) := by
  have h12 := hw.2.1
  obtain ⟨k1, k2, k3, k4, k5⟩ := val_step hw hv
  obtain ⟨v1, v2, v3⟩ := hv
  have v2 : l ≤ 24 := v2
  have ht : t < w 0 := v3 t List.mem_cons_self
  have hxb : x < 1000000000 := Nat.lt_of_lt_of_le v1 (fl_le _ _ _ _)
  generalize um w (w 2) (t :: s, l, x) = k at k1 k2 k3 k4 k5
  unfold fX2_choose
  rw [let_eq]
  refine lp_rule2 (fun m st => m ≤ k ∧ ∃ M' : mv_M, st = (nI m, M') ∧ M'.1 = M.1 ∧ (∀ i j, ¬ (i = 58 ∧ j = 8) → M'.2 i j = M.2 i j) ∧ M'.2 58 8 = lN (x - sm (fun k => wy w (w 2) k t s l) m)) k (fun G => ∃ M' : mv_M, G = some (nI k, M') ∧ M'.1 = M.1 ∧ (∀ i j, ¬ (i = 58 ∧ j = 8) → M'.2 i j = M.2 i j) ∧ M'.2 58 8 = lN (x - sm (fun k => wy w (w 2) k t s l) k)) ?_ F 0 (0, M) ⟨by omega, M, by rw [nI_0], rfl, fun _ _ _ => rfl, hx⟩ (by omega) (by omega)
  rintro m st f hm ⟨hmk, M', rfl, g2, g3, g4⟩
  have hX' : RX M' 1 2 w := RX_fr (M := M) (fun i j _ => by rw [g2]) hX
  have hT' : tabs M' w := fun p hp => ⟨fun t ht' => by rw [g3 _ _ (by omega)]; exact (hT p hp).1 t ht', fun k hk => by rw [g3 _ _ (by omega)]; exact (hT p hp).2 k hk⟩
  have hww := waysWith_eq (F := F) (m := m) hX' hw hT' (by omega) ht v2 hs (by rw [g2]; exact h6) (rst_fr (M := M) (Nat.le_refl l) (fun i j h1 _ => g3 i j (by omega)) hr) hF
  unfold bX2_choose_2
  dsimp only
  rw [g2, hX.2.1, if_neg (nI_ge (by omega) (by omega)), hww, bl_some, let_eq, g4]
  have hwl := wy_le w (w 2) m t s l
  have hmono : sm (fun k => wy w (w 2) k t s l) m ≤ sm (fun k => wy w (w 2) k t s l) k := sm_mono hmk
  by_cases e : m = k
  · left
    subst e
    rw [if_neg]
    · exact ⟨M', rfl, g2, g3, g4⟩
    · rw [cmp_ge, pk_lT (by omega), pk_lT (by omega)]; omega
  · right
    have hs1 : sm (fun k => wy w (w 2) k t s l) (m + 1) ≤ sm (fun k => wy w (w 2) k t s l) k := sm_mono (by omega)
    have hs2 : sm (fun k => wy w (w 2) k t s l) (m + 1) = sm (fun k => wy w (w 2) k t s l) m + wy w (w 2) m t s l := rfl
    refine ⟨by omega, (nI (m + 1), mv_wL M' 58 8 (lN (x - sm (fun k => wy w (w 2) k t s l) (m + 1)))), ⟨by omega, _, rfl, g2, fun i j hi => by rw [wL_ne hi]; exact g3 i j hi, wL_eq⟩, ?_⟩
    rw [if_pos, let_eq, let_eq, lN_sub (by omega), nI_1, hs2]
    · rw [show x - sm (fun k => wy w (w 2) k t s l) m - wy w (w 2) m t s l = x - (sm (fun k => wy w (w 2) k t s l) m + wy w (w 2) m t s l) by omega]
    · rw [cmp_ge, pk_lT (by omega), pk_lT (by omega)]; omega
theorem fillRest_eq {M : mv_M} {s : List Nat} {u l : Nat} (hw : WF w) (hT : tabs M w) (hu : u < w 0) (hl : l ≤ 24) (hs : s.length < 24) (h6 : M.1 58 6 = nI (s.length + 1)) (hrep : rep (M.1 107) (u :: s)) (hr : rst M w l s) (hF : 30 < F) : ∃ M' : mv_M, fX2_fillRest F M (nI l) = some M' ∧ M'.1 = M.1 ∧ (∀ i j, i ≠ 82 + (s.length + 1) → M'.2 i j = M.2 i j) ∧ rst M' w l (u :: s) := by
  have h8 := hw.1
  have hl1 : nI (s.length + 1) - 1 = nI s.length := nI_pred s.length
  have hru : M.1 107 s.length = nI u := hrep.1
  unfold fX2_fillRest
  rw [h6, hl1, ob_nI (show s.length < 25 by omega) (by decide), nI_clamp (by omega), hru, ob_nI (show u < 8 by omega) (by decide), let_eq]
  refine lp_rule2 (fun n st => ∃ M' : mv_M, st = (nI n, M') ∧ M'.1 = M.1 ∧ (∀ i j, i ≠ 82 + (s.length + 1) → M'.2 i j = M.2 i j) ∧ ∀ p, p < n → M'.2 (82 + (s.length + 1)) p = lN (fl w (w 2) (u :: s) p)) (l + 1) (fun G => ∃ M' : mv_M, G = some M' ∧ M'.1 = M.1 ∧ (∀ i j, i ≠ 82 + (s.length + 1) → M'.2 i j = M.2 i j) ∧ rst M' w l (u :: s)) ?_ F 0 (0, M) ⟨M, by rw [nI_0], rfl, fun _ _ _ => rfl, fun p hp => absurd hp (by omega)⟩ (by omega) (by omega)
  rintro n st f hn ⟨M', rfl, g2, g3, g4⟩
  unfold bX2_fillRest_19
  dsimp only
  by_cases e : n = l + 1
  · left
    subst e
    rw [if_pos (nI_lt (by omega) (by omega))]
    refine ⟨M', rfl, g2, g3, fun p hp => g4 p (by omega), rst_fr (M := M) (Nat.le_refl l) (fun i j h1 h2 => g3 i j (by omega)) hr⟩
  · right
    refine ⟨by omega, (nI (n + 1), mv_wL M' (82 + (s.length + 1)) n (lN (fl w (w 2) (u :: s) n))), ⟨_, rfl, g2, fun i j hi => by rw [wL_ne (by omega)]; exact g3 i j hi, fun p hp => ?_⟩, ?_⟩
    · by_cases ep : p = n
      · subst ep; rw [wL_eq]
      · rw [wL_ne (by omega)]; exact g4 p (by omega)
    · rw [if_neg (nI_nlt (by omega) (by omega)), g2, h6, hl1, ob_nI (show s.length + 1 < 25 by omega) (by decide), ob_nI (show s.length < 25 by omega) (by decide), nI_clamp (show s.length < 2 ^ 31 by omega), nI_clamp (show s.length + 1 < 2 ^ 31 by omega), nI_clamp (show n < 2 ^ 31 by omega), hru, nI_clamp (show u < 2 ^ 31 by omega), ways_eq (f := ct w (w 2) u) (g := fl w (w 2) s) (by omega) (fun q hq => by rw [g3 _ _ (by omega)]; exact (hT q (by omega)).1 u hu) (fun q hq => by rw [g3 _ _ (by omega)]; exact rst_at hr hl q (by omega)) (fun q => ct_le w (w 2) u q) (fun q => fl_le w (w 2) s q) hF, bl_some, ob_nI (show n < 25 by omega) (by decide), let_eq, let_eq, nI_1]
      rfl
theorem wantTaken_eq {M : mv_M} {s : List Nat} {m l : Nat} (hX : RX M 1 2 w) (hw : WF w) (hT : tabs M w) (hm : m < w 1) (hl : l ≤ 24) (hs : (tk w m ++ s).length ≤ 24) (h6 : M.1 58 6 = nI s.length) (hrep : rep (M.1 107) s) (hr : rst M w l s) (hF : 30 < F) : ∃ M' : mv_M, fX2_wantTaken F M (nI m) (nI l) = some M' ∧ fr8 M M' ∧ inv8 M' w (tk w m ++ s) l ∧ M'.1 108 = M.1 108 ∧ ∀ j, M'.2 58 j = M.2 58 j := by
  have h12 := hw.2.1
  have h8 := hw.1
  obtain ⟨-, -, -, htk, -, -, hf, hsx⟩ := hw.2.2.2.2.2 m hm
  obtain ⟨-, -, -, x7, x8, x9⟩ := hX.2.2.2.2 m hm
  have x7 : M.1 7 m = nI (w (47 + m)) := x7
  have x8 : 0 < w (47 + m) → M.1 8 m = nI (w (59 + m)) := x8
  have x9 : 1 < w (47 + m) → M.1 9 m = nI (w (71 + m)) := x9
  have ob : ∀ {α : Type} (G : Option α), mv_ob (nI m) 12 G = G := fun G => ob_nI (by omega) (by decide)
  have cl : (nI m).toNatClampNeg = m := nI_clamp (by omega)
  unfold fX2_wantTaken
  simp only [let_eq, ob, cl, x7]
  rcases (show w (47 + m) = 0 ∨ w (47 + m) = 1 ∨ w (47 + m) = 2 by omega) with e | e | e
  · have et : tk w m = [] := by unfold tk; rw [if_pos e]
    rw [e, if_pos (by decide), if_pos (by decide), et]
    exact ⟨M, rfl, fr8.rf M, ⟨hX, hT, h6, hrep, rst_tail hr⟩, rfl, fun _ => rfl⟩
  · have et : tk w m = [w (59 + m)] := by unfold tk; rw [if_neg (by omega), if_pos e]
    rw [et] at hs
    have hs : s.length + 1 ≤ 24 := hs
    obtain ⟨M1, a1, a2, a3, a4, a5, a6⟩ := want_eq (F := F) (t := w (59 + m)) (by omega) h6 hrep
    rw [e, if_pos (by decide), if_neg (by decide), et, x8 (by omega), a1, bv_some]
    exact ⟨M1, rfl, a3, ⟨RX_f8 a3 hX, tabs_fr ⟨h8, h12⟩ a3.2 hT, a4, a5, rst_fr (M := M) (Nat.le_refl l) (fun i j _ _ => by rw [a2]) hr⟩, a6, fun j => by rw [a2]⟩
  · have et : tk w m = [w (59 + m), w (71 + m)] := by unfold tk; rw [if_neg (by omega), if_neg (by omega)]
    rw [et] at hs
    have hs : s.length + 1 + 1 ≤ 24 := hs
    have hb := hsx (by omega)
    obtain ⟨M1, a1, a2, a3, a4, a5, a6⟩ := want_eq (F := F) (t := w (71 + m)) (by omega) h6 hrep
    obtain ⟨M2, b1, b2, b3, b4⟩ := fillRest_eq (F := F) (M := M1) (u := w (71 + m)) hw (tabs_fr ⟨h8, h12⟩ a3.2 hT) hb hl (by omega) a4 a5 (rst_fr (M := M) (Nat.le_refl l) (fun i j _ _ => by rw [a2]) hr) hF
    obtain ⟨M3, c1, c2, c3, c4, c5, c6⟩ := want_eq (F := F) (M := M2) (s := w (71 + m) :: s) (t := w (59 + m)) (by show s.length + 1 < 24; omega) (by rw [b2]; exact a4) (by rw [b2]; exact a5)
    have f12 : fr8 M1 M2 := ⟨fun i j _ _ _ => by rw [b2], fun i j h1 h2 => b3 i j (by omega)⟩
    have f13 := a3.tr (f12.tr c3)
    have y7 : M2.1 7 m = nI (w (47 + m)) := by rw [(a3.tr f12).1 _ _ (by omega) (by omega) (by omega)]; exact x7
    have y8 : M2.1 8 m = nI (w (59 + m)) := by rw [(a3.tr f12).1 _ _ (by omega) (by omega) (by omega)]; exact x8 (by omega)
    rw [e, if_neg (by decide), x9 (by omega), a1, bv_some, b1, bv_some, y7, e, if_neg (by decide), y8, c1, bv_some, et]
    refine ⟨M3, rfl, f13, ⟨RX_f8 f13 hX, tabs_fr ⟨h8, h12⟩ f13.2 hT, c4, c5, ?_⟩, by rw [c6, b2, a6], fun j => by rw [c2, b3 _ _ (by omega), a2]⟩
    show rst M3 w l (w (71 + m) :: s)
    exact rst_fr (M := M2) (Nat.le_refl l) (fun i j _ _ => by rw [c2]) b4
theorem spell_eq {M : mv_M} {t p x : Nat} (hX : RX M 1 2 w) (hw : WF w) (hT : tabs M w) (hz : ∀ q, q ≤ 24 → M.2 82 q = lN (if q = 0 then 1 else 0)) (hx : M.2 58 8 = lN x) (ht : t < w 0) (hp : p ≤ 24) (hxp : x < ct w (w 2) t p) (hF : 30 < F) : ∃ (N : Nat) (M' : mv_M), fX2_spell F M (nI t) (nI p) = some (nI N, M') ∧ fr8 M M' ∧ N ≤ 24 ∧ done w (w 2) ([t], p, x) N ∧ ∀ i, i < N → M'.1 108 i = nI (um w (w 2) (un w (w 2) ([t], p, x) i)) := by
  have h8 := hw.1
  have h12 := hw.2.1
  have hv : val w (w 2) ([t], p, x) := ⟨by show x < fl w (w 2) [t] p; rw [fl_one]; exact hxp, hp, fun u hu => by rw [List.mem_singleton] at hu; rw [hu]; exact ht⟩
  unfold fX2_spell
  rw [let_eq, let_eq, let_eq]
  have h60 : (mv_wI M 58 6 0).1 58 6 = nI ([] : List Nat).length := wI_eq
  obtain ⟨M1, a1, a2, a3, a4, a5, a6⟩ := want_eq (F := F) (M := mv_wI M 58 6 0) (s := []) (t := t) (by decide) h60 trivial
  have f01 : fr8 M (mv_wI M 58 6 0) := ⟨fun i j h1 _ _ => wI_ne h1, fun _ _ _ _ => rfl⟩
  have f02 := f01.tr a3
  rw [a1, bv_some, let_eq]
  refine lp_rule2 (fun i st => ∃ M' : mv_M, st = (nI (un w (w 2) ([t], p, x) i).2.1, nI i, nI i, M') ∧ fr8 M M' ∧ inv8 M' w (un w (w 2) ([t], p, x) i).1 (un w (w 2) ([t], p, x) i).2.1 ∧ M'.2 58 8 = lN (un w (w 2) ([t], p, x) i).2.2 ∧ (∀ j, j < i → (un w (w 2) ([t], p, x) j).1 ≠ []) ∧ ∀ j, j < i → M'.1 108 j = nI (um w (w 2) (un w (w 2) ([t], p, x) j))) 24 (fun G => ∃ (N : Nat) (M' : mv_M), G = some (nI N, M') ∧ fr8 M M' ∧ N ≤ 24 ∧ done w (w 2) ([t], p, x) N ∧ ∀ i, i < N → M'.1 108 i = nI (um w (w 2) (un w (w 2) ([t], p, x) i))) ?_ F 0 _ ⟨M1, by rw [nI_0]; rfl, f02, ⟨RX_f8 f02 hX, tabs_fr ⟨h8, h12⟩ f02.2 hT, a4, a5, fun q hq => ?_⟩, ?_, fun j hj => absurd hj (by omega), fun j hj => absurd hj (by omega)⟩ (by omega) (by omega)
  · rintro i st f hi ⟨M', rfl, g1, ⟨gX, gT, g6, grep, grst⟩, gx, gne, gcode⟩
    obtain ⟨uv, ul⟩ := un_val hw hv i gne
    have he : un w (w 2) ([t], p, x) (i + 1) = us1 w (w 2) (un w (w 2) ([t], p, x) i) := rfl
    unfold bX2_spell_18
    dsimp only
    rcases hq : un w (w 2) ([t], p, x) i with ⟨stq, l, y⟩
    rw [hq] at uv ul g6 grep grst gx he
    have ul : l + i ≤ p := ul
    cases stq with
    | nil =>
      left
      have g6 : M'.1 58 6 = nI 0 := g6
      refine ⟨i, M', ?_, g1, by omega, ⟨by rw [hq], gne⟩, gcode⟩
      rw [g6]
      by_cases c : i = 24
      · rw [c, if_pos (show (24 : Int32) ≤ nI 24 from nI_le (Nat.le_refl _) (by decide))]
      · rw [if_neg (show ¬ (24 : Int32) ≤ nI i from nI_ge (b := 24) (by omega) (by decide)), if_pos (by decide)]
    | cons u s =>
      right
      have hlen : s.length + 1 ≤ l := by
        have h1 : 0 < fl w (w 2) (u :: s) l := Nat.lt_of_le_of_lt (Nat.zero_le _) uv.1
        exact fl_len (u :: s) l h1
      have hl24 : l ≤ 24 := uv.2.1
      obtain ⟨k1, k2, k3, k4, k5⟩ := val_step hw uv
      have g6 : M'.1 58 6 = nI (s.length + 1) := g6
      have hpop : nI (s.length + 1) - 1 = nI s.length := nI_pred s.length
      have f1 : fr8 M' (mv_wI M' 58 6 (nI s.length)) := ⟨fun i j h1 _ _ => wI_ne h1, fun _ _ _ _ => rfl⟩
      have r1 : rst (mv_wI M' 58 6 (nI s.length)) w l s := rst_fr (M := M') (Nat.le_refl l) (fun i j _ _ => rfl) grst
      have w107 : (mv_wI M' 58 6 (nI s.length)).1 107 s.length = nI u := by rw [wI_ne (by omega)]; exact grep.1
      obtain ⟨M2, b1, b2, b3, b4⟩ := choose_eq (F := F) (M := mv_wI M' 58 6 (nI s.length)) (s := s) (t := u) (l := l) (x := y) (RX_f8 f1 gX) hw gT (by omega) wI_eq r1 gx uv hF
      generalize hk : um w (w 2) (u :: s, l, y) = k at k1 k2 k3 k4 k5 b1 b4
      have hst : us1 w (w 2) (u :: s, l, y) = (tk w k ++ s, l - pr w k, y - sm (fun k => wy w (w 2) k u s l) k) := by rw [us1_cons, hk]
      have hlen2 : (tk w k ++ s).length ≤ l - pr w k := by
        rw [hst] at k5
        exact fl_len _ _ (Nat.lt_of_le_of_lt (Nat.zero_le _) k5.1)
      have hpk := (pr_pos hw k1).1
      have f2 : fr8 (mv_wI M' 58 6 (nI s.length)) M2 := ⟨fun i j _ _ _ => by rw [b2], fun i j h1 h2 => b3 i j (by omega)⟩
      have f3 : fr8 M2 (mv_wI M2 108 i (nI k)) := ⟨fun i j _ _ h3 => wI_ne (by omega), fun _ _ _ _ => rfl⟩
      have f123 := f1.tr (f2.tr f3)
      have x3 : RX (mv_wI M2 108 i (nI k)) 1 2 w := RX_f8 f123 gX
      obtain ⟨M4, c1, c2, c3, c4, c5⟩ := wantTaken_eq (F := F) (M := mv_wI M2 108 i (nI k)) (s := s) (m := k) (l := l - pr w k) x3 hw (tabs_fr ⟨h8, h12⟩ f123.2 gT) k1 (by omega) (by omega) (by rw [wI_ne (by omega), b2, wI_eq]) (rep_congr (f := M'.1 107) (fun q _ => by rw [wI_ne (by omega), b2, wI_ne (by omega)]) grep.2) (rst_fr (M := mv_wI M' 58 6 (nI s.length)) (by omega) (fun i j h1 h2 => by rw [wI_2]; exact b3 i j (by omega)) r1) hF
      refine ⟨by omega, (nI (un w (w 2) ([t], p, x) (i + 1)).2.1, nI (i + 1), nI (i + 1), M4), ⟨M4, rfl, g1.tr (f123.tr c2), ?_, ?_, fun j hj => ?_, fun j hj => ?_⟩, ?_⟩
      · rw [he, hst]; exact c3
      · rw [he, hst, c5, wI_2, b4]
      · by_cases ej : j = i
        · rw [ej, hq]; simp
        · exact gne j (by omega)
      · rw [c4]
        by_cases ej : j = i
        · rw [ej, wI_eq, hq, hk]
        · rw [wI_ne (by omega), b2, wI_ne (by omega)]; exact gcode j (by omega)
      · rw [if_neg (show ¬ (24 : Int32) ≤ nI i from nI_ge (b := 24) (by omega) (by decide)), g6, if_neg (nI_nle (by omega) (by omega)), hpop, let_eq, wI_eq, ob_nI (show s.length < 25 by omega) (by decide), nI_clamp (show s.length < 2 ^ 31 by omega), w107, b1, bi_some, let_eq, if_pos (nI_pos' (by omega)), ob_nI (show i < 24 by omega) (by decide), nI_clamp (show i < 2 ^ 31 by omega), let_eq, let_eq, fX7_priceOf_eq x3 hw k1, bi_some, let_eq, pk_sub k4, c1, bv_some, let_eq, nI_1, he, hst]
  · rw [a2, wI_2, hz q hq]; rfl
  · rw [a2, wI_2]; exact hx
/-- the price at a place -/
theorem findPlace_eq {M : mv_M} {t x : Nat} (hX : RX M 1 2 w) (hw : WF w) (htab : tab w M) (ht : t < w 0) (hx : x < 1000000000) (hF : 30 < F) : ∃ (v : Int32) (M' : mv_M), fX2_findPlace F M (nI t) (nI x) = some (v, M') ∧ tab w M' ∧ tabs M' w ∧ (∀ i j, ¬ (i = 58 ∧ j = 1) → M'.1 i j = M.1 i j) ∧ ((x < sm (ct w (w 2) t) 25 ∧ v = nI (kf (ct w (w 2) t) 25 x) ∧ M'.2 58 8 = lN (x - sm (ct w (w 2) t) (kf (ct w (w 2) t) 25 x))) ∨ (¬ x < sm (ct w (w 2) t) 25 ∧ v = -1000000)) := by
  have h8 := hw.1
  have h12 := hw.2.1
  obtain ⟨M1, a1, a2⟩ := countAll_eq (F := F) hX hw htab hF
  obtain ⟨c1, c2, c3, c4, c5⟩ := id a2
  unfold fX2_findPlace
  rw [a1, bv_some, let_eq, let_eq, nI_l (by omega)]
  have hok : ∀ M' : mv_M, M'.1 = M1.1 → (∀ i j, ¬ (i = 58 ∧ j = 8) → M'.2 i j = M1.2 i j) → tab w M' ∧ tabs M' w ∧ ∀ i j, ¬ (i = 58 ∧ j = 1) → M'.1 i j = M.1 i j := fun M' k1 k2 => by
    have ht' : tab w M' := tab_fr (M := M1) (fun i j hi => k2 i j (by omega)) (by rw [k1]) (tab.of a2) ⟨h8, h12⟩
    refine ⟨ht', fun p hp => ⟨fun t ht' => ?_, fun k hk => ?_⟩, fun i j hi => by rw [k1]; exact c4 i j hi⟩
    · rw [k2 _ _ (by omega)]; exact (c2 p hp).1 t ht'
    · rw [k2 _ _ (by omega)]; exact (c2 p hp).2 k hk
  refine lp_rule2 (fun n s => ∃ M' : mv_M, s = (nI (n + 1), M') ∧ M'.1 = M1.1 ∧ (∀ i j, ¬ (i = 58 ∧ j = 8) → M'.2 i j = M1.2 i j) ∧ sm (ct w (w 2) t) (n + 1) ≤ x ∧ M'.2 58 8 = lN (x - sm (ct w (w 2) t) (n + 1))) 24 (fun G => ∃ (v : Int32) (M' : mv_M), G = some (v, M') ∧ tab w M' ∧ tabs M' w ∧ (∀ i j, ¬ (i = 58 ∧ j = 1) → M'.1 i j = M.1 i j) ∧ ((x < sm (ct w (w 2) t) 25 ∧ v = nI (kf (ct w (w 2) t) 25 x) ∧ M'.2 58 8 = lN (x - sm (ct w (w 2) t) (kf (ct w (w 2) t) 25 x))) ∨ (¬ x < sm (ct w (w 2) t) 25 ∧ v = -1000000))) ?_ F 0 (1, mv_wL M1 58 8 (lN x)) ⟨_, rfl, rfl, fun i j hi => wL_ne hi, ?_, ?_⟩ (by omega) (by omega)
  · rintro n s f hn ⟨M', rfl, k1, k2, k3, k4⟩
    obtain ⟨o1, o2, o3⟩ := hok M' k1 k2
    unfold bX2_findPlace_12
    dsimp only
    by_cases e : n = 24
    · left
      subst e
      rw [if_pos (by decide)]
      exact ⟨_, M', rfl, o1, o2, o3, Or.inr ⟨Nat.not_lt.mpr k3, rfl⟩⟩
    have ob : ∀ {α : Type} (G : Option α), mv_ob (nI t) 8 G = G := fun G => ob_nI (by omega) (by decide)
    have ob' : ∀ {α : Type} (G : Option α), mv_ob (nI (n + 1)) 25 G = G := fun G => ob_nI (by omega) (by decide)
    have hc := ct_le w (w 2) t (n + 1)
    have hs2 : sm (ct w (w 2) t) (n + 1 + 1) = sm (ct w (w 2) t) (n + 1) + ct w (w 2) t (n + 1) := rfl
    rw [if_neg (show ¬ (24 : Int32) < nI (n + 1) from nI_nlt (a := 24) (by omega) (by decide)), ob, ob', ob, ob', nI_clamp (show t < 2 ^ 31 by omega), nI_clamp (show n + 1 < 2 ^ 31 by omega), k4, (o2 (n + 1) (by omega)).1 t ht]
    by_cases c : ct w (w 2) t (n + 1) ≤ x - sm (ct w (w 2) t) (n + 1)
    · right
      refine ⟨by omega, (nI (n + 1 + 1), mv_wL M' 58 8 (lN (x - sm (ct w (w 2) t) (n + 1 + 1)))), ⟨_, rfl, k1, fun i j hi => by rw [wL_ne hi]; exact k2 i j hi, by omega, wL_eq⟩, ?_⟩
      rw [if_pos, let_eq, let_eq, lN_sub c, nI_1, hs2]
      · rw [show x - sm (ct w (w 2) t) (n + 1) - ct w (w 2) t (n + 1) = x - (sm (ct w (w 2) t) (n + 1) + ct w (w 2) t (n + 1)) by omega]
      · rw [cmp_ge, pk_lT (by omega), pk_lT (by omega)]; omega
    · left
      have hlt : x < sm (ct w (w 2) t) (n + 1 + 1) := by omega
      have hm : sm (ct w (w 2) t) (n + 1 + 1) ≤ sm (ct w (w 2) t) 25 := sm_mono (by omega)
      have hkf : kf (ct w (w 2) t) 25 x = n + 1 := by
        obtain ⟨z1, z2, z3⟩ := kf_spec (g := ct w (w 2) t) (n := 25) (x := x) (by omega)
        rcases Nat.lt_trichotomy (kf (ct w (w 2) t) 25 x) (n + 1) with q | q | q
        · have : sm (ct w (w 2) t) (kf (ct w (w 2) t) 25 x + 1) ≤ sm (ct w (w 2) t) (n + 1) := sm_mono (by omega)
          have z4 : sm (ct w (w 2) t) (kf (ct w (w 2) t) 25 x + 1) = sm (ct w (w 2) t) (kf (ct w (w 2) t) 25 x) + ct w (w 2) t (kf (ct w (w 2) t) 25 x) := rfl
          omega
        · exact q
        · have : sm (ct w (w 2) t) (n + 1 + 1) ≤ sm (ct w (w 2) t) (kf (ct w (w 2) t) 25 x) := sm_mono (by omega)
          omega
      rw [if_neg]
      · exact ⟨_, M', rfl, o1, o2, o3, Or.inl ⟨by omega, by rw [hkf], by rw [hkf]; exact k4⟩⟩
      · rw [cmp_ge, pk_lT (by omega), pk_lT (by omega)]; omega
  · show 0 + ct w (w 2) t 0 ≤ x
    rw [ct_0]; omega
  · rw [wL_eq]
    have : sm (ct w (w 2) t) (0 + 1) = 0 := by show 0 + ct w (w 2) t 0 = 0; rw [ct_0]
    rw [this, Nat.sub_zero]
end RANK8
