/-! LISTED, DRAWN -/
section LISTED
variable {F : Nat}
theorem big_I : (999999999 : Int32) = nI 999999999 := by decide
theorem kpX.of8 {M M' : mv_M} (h : fr8 M M') : kpX M M' := fun i j hl => h.1 i j (by unfold LvX at hl; omega) (by unfold LvX at hl; omega) (by unfold LvX at hl; omega)
theorem tab.of8 {w : Nat → Nat} {M M' : mv_M} (hw : WF w) (h : fr8 M M') (ht : tab w M) : tab w M' := tab_fr (M := M) (fun i j hi => h.2 i j (by omega) (by omega)) (h.1 _ _ (by omega) (by omega) (by omega)) ht ⟨hw.1, hw.2.1⟩
theorem nI_neN {p : Nat} (hp : p < 100) : ¬ nI p = (-1000000 : Int32) := by
  intro q
  have h1 : (nI p).toInt = (p : Int) := nI_toInt (by omega)
  rw [q] at h1
  have h2 : (-1000000 : Int32).toInt = -1000000 := by decide
  omega
theorem ps_listed (hF : 300 < F) (a1 a2 a3 : Int32) : ps_ok Sim (fun M => fX8_listed F M a1 a2 a3) (fun M => fX9_listed F M a1 a2 a3) := by
  rintro MX MM ⟨w, hc, ht⟩
  show ∃ (r : Int32) (MX' MM' : mv_M), fX8_listed F MX a1 a2 a3 = some (r, MX') ∧ fX9_listed F MM a1 a2 a3 = some (r, MM') ∧ Sim MX' MM'
  obtain ⟨hw, hX, hM, -⟩ := id hc
  have h8 := hw.1
  unfold fX8_listed fX9_listed
  rcases ix_cases a1 (show w 0 < 2 ^ 31 by omega) with h | ⟨t, ht', rfl⟩
  · exact ⟨-1000001, MX, MM, by rw [fX7_hasType_out hX h, bi_some, it0], by rw [fX9_isType_out hM hw h, bi_some, it0], w, hc, ht⟩
  rw [fX7_hasType_in hX hw ht', bi_some, it1, fX9_isType_in hM hw ht', bi_some, it1, big_I]
  rcases ix_cases a2 (show 999999999 < 2 ^ 31 by decide) with h | ⟨x, hx, rfl⟩
  · refine ⟨-1000001, MX, MM, ?_, ?_, w, hc, ht⟩
    · rcases h with h | ⟨h, h'⟩
      · rw [if_pos h]
      · rw [if_neg h, if_pos h']
    · rw [fX9_in0_out h (by decide) (by decide), bi_some, it0]
  rw [if_neg (nI_pos (by omega)), if_neg (nI_ge hx (by decide)), fX9_in0_in hx (by decide) (by decide), bi_some, it1]
  by_cases h3 : (-1 : Int32) ≤ a3
  case neg => exact ⟨-1000001, MX, MM, by rw [if_neg h3], by rw [if_neg h3], w, hc, ht⟩
  rw [if_pos h3, if_pos h3]
  obtain ⟨v, MX1, g1, g2, g3, g4, g5⟩ := findPlace_eq (F := F) hX hw ht ht' (show x < 1000000000 by omega) (by omega)
  obtain ⟨MM1, k1, k2, k3, k4⟩ := layWays_eq (F := F) (h := w 2) hM hw (hid_lt hw) hF
  obtain ⟨v', MM2, l1, l2, l3⟩ := laysCode_eq (F := F) (M := MM1) (x := x) hw (RM_1 k2 hM) k4 ht' (by omega) (by omega)
  rw [g1, bi_some, let_eq, ob_2, cl_2, RM_at hM (by decide), k1, bv_some, l1, bi_some]
  have hkM : kpM MM MM2 := (kpM.of1 k2).tr l2.kp
  have hkX : kpX MX MX1 := kpX.of1 g4
  rcases g5 with ⟨g5, rfl, g6⟩ | ⟨g5, rfl⟩
  case inr =>
    rcases l3 with ⟨l3, -⟩ | ⟨-, rfl⟩
    · exact absurd l3 g5
    · exact ⟨-1000000, MX1, MM2, by rw [if_pos rfl], by rw [it0], w, core_fr hc hkX hkM, g2⟩
  rcases l3 with ⟨-, rfl, l19, N, hN, hdone, l18, lcode⟩ | ⟨l3, -⟩
  case inr => exact absurd g5 l3
  obtain ⟨z1, z2, z3⟩ := kf_spec g5
  generalize kf (ct w (w 2) t) 25 x = p at z1 z2 z3 g6 l19 hdone lcode
  rw [if_neg (nI_neN (show p < 100 by omega)), it1]
  by_cases h1 : a3 = -1
  · exact ⟨nI p, MX1, MM2, by rw [if_pos h1], by rw [if_pos h1, l19], w, core_fr hc hkX hkM, g2⟩
  rw [if_neg h1, if_neg h1, l18]
  have hX1 : RX MX1 1 2 w := RX_fr (M := MX) (fun i j hi => g4 i j (by omega)) hX
  obtain ⟨N', MX2, s1, s2, s3, s4, s5⟩ := spell_eq (F := F) (M := MX1) (p := p) (x := x - sm (ct w (w 2) t) p) hX1 hw g3 g2.1.2.2 g6 ht' (by omega) (by omega) (by omega)
  have eN := done_eq s4 hdone
  subst eN
  rw [s1, bi_some, let_eq]
  have h30 : ¬ a3 < 0 := fun q => by
    rw [Int32.lt_iff_toInt_lt] at q
    rw [Int32.le_iff_toInt_le] at h3
    have e1 : (-1 : Int32).toInt = -1 := by decide
    have e0 : (0 : Int32).toInt = 0 := by decide
    exact h1 (Int32.toInt_inj.mp (by omega))
  obtain ⟨j, hj, rfl⟩ := nI_of h30
  have hfin : Sim MX2 MM2 := ⟨w, core_fr hc (hkX.tr (kpX.of8 s2)) hkM, tab.of8 hw s2 g2⟩
  by_cases hNj : N' ≤ j
  · exact ⟨-1000000, MX2, MM2, by rw [if_pos (nI_le hNj hj)], by rw [if_pos (nI_le hNj hj)], hfin⟩
  · refine ⟨MX2.1 108 j, MX2, MM2, ?_, ?_, hfin⟩
    · rw [if_neg (nI_ge (by omega) (by omega)), ob_nI (show j < 24 by omega) (by decide), nI_clamp hj]
    · rw [if_neg (nI_ge (by omega) (by omega)), ob_nI (show j < 64 by omega) (by decide), nI_clamp hj, s5 j (by omega), lcode j (by omega)]
theorem manyBelow_eq {M : mv_M} {w : Nat → Nat} {t p : Nat} (hX : RX M 1 2 w) (hw : WF w) (htab : tab w M) (ht : t < w 0) (hp1 : 1 ≤ p) (hp : p ≤ 25) (hF : 30 < F) : ∃ M' : mv_M, fX2_manyBelow F M (nI t) (nI p) = some (lN (sm (ct w (w 2) t) p), M') ∧ cnt8 w M M' := by
  have h8 := hw.1
  obtain ⟨M1, a1, a2⟩ := countAll_eq (F := F) hX hw htab hF
  refine ⟨M1, ?_, a2⟩
  unfold fX2_manyBelow
  rw [a1, bv_some, let_eq, let_eq]
  refine lp_rule2 (fun i st => st = (lN (sm (ct w (w 2) t) (i + 1)), nI (i + 1), M1)) (p - 1) (fun G => G = some (lN (sm (ct w (w 2) t) p), M1)) ?_ F 0 (0, 1, M1) ?_ (by omega) (by omega)
  · rintro i st f hi rfl
    unfold bX2_manyBelow_9
    dsimp only
    by_cases e : i + 1 = p
    · left
      rw [e, if_pos (nI_le (Nat.le_refl _) (by omega))]
    · right
      refine ⟨by omega, _, rfl, ?_⟩
      rw [if_neg (nI_ge (by omega) (by omega)), ob_nI (show t < 8 by omega) (by decide), ob_nI (show i + 1 < 25 by omega) (by decide), nI_clamp (by omega), nI_clamp (by omega), (a2.2.1 (i + 1) (by omega)).1 t ht, lN_add, let_eq, let_eq, nI_1]
      rfl
  · have : sm (ct w (w 2) t) (0 + 1) = 0 := by show 0 + ct w (w 2) t 0 = 0; rw [ct_0]
    rw [this]; rfl
theorem rg2_out {α : Type} {x L H : Int32} {B G : α} (h : x < L ∨ H < x) : (if x < L then B else (if H < x then B else G)) = B := by
  by_cases h1 : x < L
  · rw [if_pos h1]
  · rcases h with h | h
    · exact absurd h h1
    · rw [if_neg h1, if_pos h]
theorem rg2_in {α : Type} {x L H : Int32} {B G : α} (h : ¬ x < L ∧ x ≤ H) : (if x < L then B else (if H < x then B else G)) = G := by
  rw [if_neg h.1, if_neg (Int32.not_lt.mpr h.2)]
theorem sm_bd {G : Nat → Nat} {B n : Nat} (h : ∀ i, i < n → G i ≤ B) : sm G n ≤ n * B := by
  induction n with
  | zero => show 0 ≤ _; omega
  | succ n ih =>
    have h1 := ih (fun i hi => h i (by omega))
    have h2 := h n (by omega)
    show sm G n + G n ≤ (n + 1) * B
    rw [Nat.add_mul]; omega
theorem cmp_eq0 {a : Nat} (h : a < 2 ^ 63) : lg_cmp (lN a) (0 : Int64) = 0 ↔ a = 0 := by
  constructor
  · intro q
    have h1 := (cmp_le (lN a) 0).mp (by rw [q]; decide)
    rw [pk_lT h] at h1
    have : (0 : Int64).toInt = 0 := by decide
    omega
  · intro q
    subst q
    decide
def xsq (x : Nat) : Nat → Nat
  | 0 => x
  | n + 1 => xsq x n * 16807 % 2147483647
def svq (a : Int32) (g N : Nat → Nat) (pl : Nat → Nat) : Nat → Int32
  | 0 => 0
  | n + 1 => svq a g N pl n + (if a = 0 then nI (g (pl n)) else nI (N (pl n)))
theorem xsq_lt {x : Nat} (h : x < 2147483647) : ∀ n, xsq x n < 2147483647 := by
  intro n
  cases n with
  | zero => exact h
  | succ n => exact Nat.mod_lt _ (by decide)
theorem nzl_1 {α : Type} {n : Nat} {G : Option α} (h0 : 0 < n) (h : n < 2 ^ 63) : mv_nzl (lN n) G = G := if_neg (fun q => by
  have := (pk_lEQ h (show 0 < 2 ^ 63 by decide)).mp q
  omega)
theorem rem_q {x : Nat} (h : x < 2147483647) : (lN x * (16807 : Int64)) - (lN x * (16807 : Int64)) / (2147483647 : Int64) * (2147483647 : Int64) = lN (x * 16807 % 2147483647) := by
  rw [show (16807 : Int64) = lN 16807 by decide, show (2147483647 : Int64) = lN 2147483647 by decide, lN_mul, pk_lRem (by omega) (by decide) (by decide)]
theorem ps_drawn (hF : 300 < F) (a1 a2 a3 a4 : Int32) : ps_ok Sim (fun M => fX8_drawn F M a1 a2 a3 a4) (fun M => fX9_drawn F M a1 a2 a3 a4) := by
  rintro MX MM ⟨w, hc, ht⟩
  show ∃ (r : Int32) (MX' MM' : mv_M), fX8_drawn F MX a1 a2 a3 a4 = some (r, MX') ∧ fX9_drawn F MM a1 a2 a3 a4 = some (r, MM') ∧ Sim MX' MM'
  obtain ⟨hw, hX, hM, -⟩ := id hc
  have h8 := hw.1
  unfold fX8_drawn fX9_drawn
  rcases ix_cases a1 (show w 0 < 2 ^ 31 by omega) with h | ⟨t, ht', rfl⟩
  · exact ⟨-1000001, MX, MM, by rw [fX7_hasType_out hX h, bi_some, it0], by rw [fX9_isType_out hM hw h, bi_some, it0], w, hc, ht⟩
  rw [fX7_hasType_in hX hw ht', bi_some, it1, fX9_isType_in hM hw ht', bi_some, it1]
  rcases rg_cases a2 1 60 with h | h2
  · exact ⟨-1000001, MX, MM, by rw [rg2_out h], by rw [in_out (L := 1) (H := 60) (by decide) (by decide) h, bi_some, it0], w, hc, ht⟩
  rw [rg2_in h2, in_in (L := 1) (H := 60) (by decide) (by decide) h2, bi_some, it1]
  rcases rg_cases a3 1 999999 with h | h3
  · exact ⟨-1000001, MX, MM, by rw [rg2_out h], by rw [in_out (L := 1) (H := 999999) (by decide) (by decide) h, bi_some, it0], w, hc, ht⟩
  rw [rg2_in h3, in_in (L := 1) (H := 999999) (by decide) (by decide) h3, bi_some, it1]
  rcases rg_cases a4 0 1 with h | h4
  · exact ⟨-1000001, MX, MM, by rw [rg_out h], by rw [in_out (L := 0) (H := 1) (by decide) (by decide) h, bi_some, it0], w, hc, ht⟩
  rw [rg_in h4, in_in (L := 0) (H := 1) (by decide) (by decide) h4, bi_some, it1]
  obtain ⟨n, hn1, hn60, rfl⟩ := rg_nat (lo := 1) (hi := 60) rfl rfl (by decide) (by decide) h2
  obtain ⟨sd, hsd1, hsd, rfl⟩ := rg_nat (lo := 1) (hi := 999999) rfl rfl (by decide) (by decide) h3
  obtain ⟨MX1, g1, g2⟩ := manyBelow_eq (F := F) (p := 25) hX hw ht ht' (by decide) (by decide) (by omega)
  obtain ⟨MM1, k1, k2, k3, k4⟩ := layWays_eq (F := F) (h := w 2) hM hw (hid_lt hw) hF
  have hSb : sm (ct w (w 2) t) 25 ≤ 25 * 1000000000 := sm_bd (fun i _ => ct_le _ _ _ _)
  generalize hS : sm (ct w (w 2) t) 25 = S at hSb g1
  have hsz : fX2_size F MX (nI t) = some (nI (if 999999999 < S then 999999999 else S), MX1) := by
    unfold fX2_size
    rw [show (25 : Int32) = nI 25 from rfl, g1, bl_some, minT (by omega)]
  have hall : ∀ j13 : Int64 × mv_M → Option (Int32 × mv_M), mv_lp (bX9_drawn_62 j13 (nI t) F) F (0, 1, MM1) = j13 (lN (mC S), MM1) := fun j13 => by
    refine lp_rule2 (fun i st => st = (lN (mC (sm (ct w (w 2) t) (i + 1))), nI (i + 1), MM1)) 24 (fun G => G = j13 (lN (mC S), MM1)) ?_ F 0 (0, 1, MM1) ?_ (by omega) (by omega)
    · rintro i st f hi rfl
      unfold bX9_drawn_62
      dsimp only
      by_cases e : i = 24
      · left
        subst e
        rw [if_pos (by decide), ← hS]
      · right
        refine ⟨by omega, _, rfl, ?_⟩
        have hc1 := mC_le (sm (ct w (w 2) t) (i + 1))
        have hc2 := ct_le w (w 2) t (i + 1)
        rw [if_neg (show ¬ (24 : Int32) < nI (i + 1) from nI_nlt (a := 24) (by omega) (by decide)), e25, ob_nI (show 25 * t + (i + 1) < 200 by omega) (by decide), nI_clamp (by omega), k4 t ht' _ (by omega), lN_add, cut_eq (by omega), bl_some, let_eq, let_eq, nI_1, mC_add]
        rfl
    · have : sm (ct w (w 2) t) (0 + 1) = 0 := by show 0 + ct w (w 2) t 0 = 0; rw [ct_0]
      rw [this]; rfl
  rw [hsz, bi_some, let_eq, ob_2, cl_2, RM_at hM (by decide), k1, bv_some, let_eq, let_eq, let_eq, let_eq, let_eq, let_eq, hall]
  dsimp only
  have hmc := mC_le S
  have hkX1 : kpX MX MX1 := kpX.of1 g2.2.2.2.1
  by_cases h0 : S = 0
  · refine ⟨-1000002, MX1, MM1, ?_, ?_, w, core_fr hc hkX1 (kpM.of1 k2), tab.of g2⟩
    · rw [h0]; exact if_neg (by decide)
    · rw [h0, if_pos (by decide)]
  have hmc0 : ¬ lg_cmp (lN (mC S)) (0 : Int64) = 0 := fun q => by
    have h1 := (cmp_eq0 (by omega)).mp q
    have h2 := (mC_pos S).mpr (by omega)
    omega
  have htold : (if 999999999 < mC S then 999999999 else mC S) = (if 999999999 < S then 999999999 else S) := by
    unfold mC
    split <;> split <;> (try split) <;> omega
  rw [if_neg hmc0, toldOf_eq (by omega), bi_some, htold]
  have hsz1 : 1 ≤ (if 999999999 < S then 999999999 else S) ∧ (if 999999999 < S then 999999999 else S) ≤ S ∧ (if 999999999 < S then 999999999 else S) ≤ 999999999 := by split <;> omega
  generalize (if 999999999 < S then 999999999 else S) = sz at hsz1
  obtain ⟨z1, z2, z3⟩ := hsz1
  rw [if_pos (show (1 : Int32) ≤ nI sz from nI_le (a := 1) z1 (by omega)), let_eq, let_eq, let_eq, let_eq, nI_l (by omega)]
  have hex : ∀ x, ∃ N, x < S → N ≤ 24 ∧ done w (w 2) ([t], kf (ct w (w 2) t) 25 x, x - sm (ct w (w 2) t) (kf (ct w (w 2) t) 25 x)) N := fun x => by
    by_cases hx : x < S
    · rw [← hS] at hx
      obtain ⟨q1, q2, q3⟩ := kf_spec hx
      obtain ⟨N, d1, d2⟩ := done_ex (h := w 2) (a := ([t], kf (ct w (w 2) t) 25 x, x - sm (ct w (w 2) t) (kf (ct w (w 2) t) 25 x))) hw ⟨by show x - sm (ct w (w 2) t) (kf (ct w (w 2) t) 25 x) < fl w (w 2) [t] (kf (ct w (w 2) t) 25 x); rw [fl_one]; omega, by show kf (ct w (w 2) t) 25 x ≤ 24; omega, fun u hu => by have hu : u ∈ [t] := hu; rw [List.mem_singleton] at hu; rw [hu]; exact ht'⟩
      have d1 : N ≤ kf (ct w (w 2) t) 25 x := d1
      exact ⟨N, fun _ => ⟨by omega, d2⟩⟩
    · exact ⟨0, fun q => absurd q hx⟩
  obtain ⟨Nf, hNf⟩ := Classical.skolem.mp hex
  have hxl := xsq_lt (show sd < 2147483647 by omega)
  have hpl : ∀ i, xsq sd (i + 1) % sz < sz := fun i => Nat.mod_lt _ (by omega)
  have hnzs : ∀ {α : Type} (G : Option α), mv_nzl (nI sz).toInt64 G = G := fun G => by rw [nI_l (by omega)]; exact nzl_1 (by omega) (by omega)
  have hnz2 : ∀ {α : Type} (G : Option α), mv_nzl (2147483647 : Int64) G = G := fun G => if_neg (by decide)
  have hrem : ∀ i, (lN (xsq sd i) * (16807 : Int64)) - (lN (xsq sd i) * (16807 : Int64)) / (2147483647 : Int64) * (2147483647 : Int64) = lN (xsq sd (i + 1)) := fun i => rem_q (hxl i)
  have hplc : ∀ i, (lN (xsq sd (i + 1)) - lN (xsq sd (i + 1)) / (nI sz).toInt64 * (nI sz).toInt64).toInt32 = nI (xsq sd (i + 1) % sz) := fun i => by
    have := hxl (i + 1)
    rw [nI_l (by omega), pk_lRem (by omega) (by omega) (by omega), lN_i]
  have hres8 : ∃ M' : mv_M, mv_lp (bX8_drawn_77 (nI n) (nI sz) F (nI t) a4) F (lN sd, 0, 0, MX1) = some (svq a4 (kf (ct w (w 2) t) 25) Nf (fun i => xsq sd (i + 1) % sz) n, M') ∧ kpX MX M' ∧ tab w M' := by
    refine lp_rule2 (fun i st => ∃ M' : mv_M, st = (lN (xsq sd i), svq a4 (kf (ct w (w 2) t) 25) Nf (fun i => xsq sd (i + 1) % sz) i, nI i, M') ∧ kpX MX M' ∧ tab w M') n (fun G => ∃ M' : mv_M, G = some (svq a4 (kf (ct w (w 2) t) 25) Nf (fun i => xsq sd (i + 1) % sz) n, M') ∧ kpX MX M' ∧ tab w M') ?_ F 0 (lN sd, 0, 0, MX1) ⟨MX1, rfl, hkX1, tab.of g2⟩ (by omega) (by omega)
    rintro i st f hi ⟨M', rfl, q1, q2⟩
    unfold bX8_drawn_77
    dsimp only
    by_cases e : i = n
    · left
      subst e
      rw [if_pos (nI_le (Nat.le_refl _) (by omega))]
      exact ⟨M', rfl, q1, q2⟩
    right
    have hX' : RX M' 1 2 w := RX_fr (M := MX) (fun a b hab => q1 a b (by unfold LvX; omega)) hX
    have hp1 := hpl i
    obtain ⟨v, M2, r1, r2, r3, r4, r5⟩ := findPlace_eq (F := F) hX' hw q2 ht' (show xsq sd (i + 1) % sz < 1000000000 by omega) (by omega)
    rw [if_neg (nI_ge (by omega) (by omega)), hnz2, hrem, let_eq, hnzs, hplc, r1, bi_some, let_eq]
    have hlt : xsq sd (i + 1) % sz < sm (ct w (w 2) t) 25 := by rw [hS]; omega
    rcases r5 with ⟨-, rfl, r6⟩ | ⟨r5, -⟩
    case inr => exact absurd hlt r5
    obtain ⟨y1, y2, y3⟩ := kf_spec hlt
    have hstep : svq a4 (kf (ct w (w 2) t) 25) Nf (fun i => xsq sd (i + 1) % sz) (i + 1) = svq a4 (kf (ct w (w 2) t) 25) Nf (fun i => xsq sd (i + 1) % sz) i + (if a4 = 0 then nI (kf (ct w (w 2) t) 25 (xsq sd (i + 1) % sz)) else nI (Nf (xsq sd (i + 1) % sz))) := rfl
    by_cases ha : a4 = 0
    · rw [if_pos ha] at hstep
      refine ⟨by omega, (lN (xsq sd (i + 1)), svq a4 (kf (ct w (w 2) t) 25) Nf (fun i => xsq sd (i + 1) % sz) (i + 1), nI (i + 1), M2), ⟨M2, rfl, q1.tr (kpX.of1 r4), r2⟩, ?_⟩
      rw [if_pos ha, let_eq, let_eq, nI_1, hstep]
    · rw [if_neg ha] at hstep
      have hX2 : RX M2 1 2 w := RX_fr (M := M') (fun a b hab => r4 a b (by omega)) hX'
      obtain ⟨N', M3, s1, s2, s3, s4, s5⟩ := spell_eq (F := F) (M := M2) (t := t) (p := kf (ct w (w 2) t) 25 (xsq sd (i + 1) % sz)) hX2 hw r3 r2.1.2.2 r6 ht' (by omega) (by omega) (by omega)
      have eN := done_eq s4 (hNf _ (show xsq sd (i + 1) % sz < S by omega)).2
      refine ⟨by omega, (lN (xsq sd (i + 1)), svq a4 (kf (ct w (w 2) t) 25) Nf (fun i => xsq sd (i + 1) % sz) (i + 1), nI (i + 1), M3), ⟨M3, rfl, (q1.tr (kpX.of1 r4)).tr (kpX.of8 s2), tab.of8 hw s2 r2⟩, ?_⟩
      rw [if_neg ha, s1, bi_some, let_eq, let_eq, nI_1, hstep, eN]
  have hres9 : ∃ M' : mv_M, mv_lp (bX9_drawn_123 (nI n) (nI sz) F (nI t) a4) F (lN sd, 0, 0, MM1) = some (svq a4 (kf (ct w (w 2) t) 25) Nf (fun i => xsq sd (i + 1) % sz) n, M') ∧ kpM MM M' := by
    refine lp_rule2 (fun i st => ∃ M' : mv_M, st = (lN (xsq sd i), svq a4 (kf (ct w (w 2) t) 25) Nf (fun i => xsq sd (i + 1) % sz) i, nI i, M') ∧ fr9 MM1 M') n (fun G => ∃ M' : mv_M, G = some (svq a4 (kf (ct w (w 2) t) 25) Nf (fun i => xsq sd (i + 1) % sz) n, M') ∧ kpM MM M') ?_ F 0 (lN sd, 0, 0, MM1) ⟨MM1, rfl, fr9.rf _⟩ (by omega) (by omega)
    rintro i st f hi ⟨M', rfl, q1⟩
    unfold bX9_drawn_123
    dsimp only
    by_cases e : i = n
    · left
      subst e
      rw [if_pos (nI_le (Nat.le_refl _) (by omega))]
      exact ⟨M', rfl, (kpM.of1 k2).tr q1.kp⟩
    right
    have hp1 := hpl i
    obtain ⟨v, M2, r1, r2, r3⟩ := laysCode_eq (F := F) (M := M') (t := t) (x := xsq sd (i + 1) % sz) hw (RM_f9 q1 (RM_1 k2 hM)) (tbR_fa q1.2 k4) ht' (by omega) (by omega)
    rw [if_neg (nI_ge (by omega) (by omega)), hnz2, hrem, let_eq, hnzs, hplc, r1, bi_some, let_eq]
    have hlt : xsq sd (i + 1) % sz < sm (ct w (w 2) t) 25 := by rw [hS]; omega
    rcases r3 with ⟨-, rfl, l19, N, hN, hdone, l18, -⟩ | ⟨r5, -⟩
    case inr => exact absurd hlt r5
    have hstep : svq a4 (kf (ct w (w 2) t) 25) Nf (fun i => xsq sd (i + 1) % sz) (i + 1) = svq a4 (kf (ct w (w 2) t) 25) Nf (fun i => xsq sd (i + 1) % sz) i + (if a4 = 0 then nI (kf (ct w (w 2) t) 25 (xsq sd (i + 1) % sz)) else nI (Nf (xsq sd (i + 1) % sz))) := rfl
    refine ⟨by omega, (lN (xsq sd (i + 1)), svq a4 (kf (ct w (w 2) t) 25) Nf (fun i => xsq sd (i + 1) % sz) (i + 1), nI (i + 1), M2), ⟨M2, rfl, q1.tr r2⟩, ?_⟩
    rw [it1]
    by_cases ha : a4 = 0
    · rw [if_pos ha] at hstep
      rw [if_pos ha, let_eq, let_eq, nI_1, hstep, l19]
    · rw [if_neg ha] at hstep
      have eN := done_eq hdone (hNf _ (show xsq sd (i + 1) % sz < S by omega)).2
      rw [if_neg ha, let_eq, let_eq, nI_1, hstep, l18, eN]
  obtain ⟨MX2, p1, p2, p3⟩ := hres8
  obtain ⟨MM2, r1, r2⟩ := hres9
  exact ⟨_, MX2, MM2, p1, r1, w, core_fr hc p2 r2, p3⟩
end LISTED
