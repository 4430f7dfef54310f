/-! THE TAPE IS READ: members, the whole -/
section READM
variable {F n a : Nat} {c : Nat → Int32} {f4 : Int32} {MX MM : mv_M}
theorem new_member {v v' : Nat → Nat} {m kd g cs nt : Nat} {M0 M : mv_M} (hm : m < 12) (hW : WFp v m) (hX : RX M0 43 44 v)
    (L0 : ∀ j, j ≠ 1 → j ≠ 11 + m → j ≠ 23 + m → j ≠ 35 + m → j ≠ 47 + m → j ≠ 59 + m → j ≠ 71 + m → v' j = v j) (L1 : v' 1 = m + 1) (L11 : v' (11 + m) = kd) (L23 : v' (23 + m) = g) (L35 : v' (35 + m) = cs) (L47 : v' (47 + m) = nt)
    (hk : 1 ≤ kd ∧ kd ≤ 5) (hg : g < v 0) (hcs : 1 ≤ cs ∧ cs ≤ 9) (hnt : nt ≤ 2) (hn0 : kd < 4 → nt = 0) (hn1 : 4 ≤ kd → 1 ≤ nt) (hf1 : 0 < nt → v' (59 + m) < v 0) (hf2 : 1 < nt → v' (71 + m) < v 0)
    (hc : ∀ i j, 43 ≤ i → i ≤ 51 → ¬ (i = 43 ∧ j = 1) → ¬ (46 ≤ i ∧ j = m) → M.1 i j = M0.1 i j) (c1 : M.1 43 1 = nI (m + 1)) (c46 : M.1 46 m = nI kd) (c47 : M.1 47 m = nI g) (c48 : M.1 48 m = nI cs) (c49 : M.1 49 m = nI nt) (c50 : 0 < nt → M.1 50 m = nI (v' (59 + m))) (c51 : 1 < nt → M.1 51 m = nI (v' (71 + m))) : RX M 43 44 v' ∧ WFp v' (m + 1) := by
  obtain ⟨w1, w2, w3, w4, w5, w6⟩ := hW
  obtain ⟨x0, x1, x2, x3, x4⟩ := hX
  have e0 : v' 0 = v 0 := L0 0 (by omega) (by omega) (by omega) (by omega) (by omega) (by omega) (by omega)
  have e2 : v' 2 = v 2 := L0 2 (by omega) (by omega) (by omega) (by omega) (by omega) (by omega) (by omega)
  have e3 : ∀ t, t < 8 → v' (3 + t) = v (3 + t) := fun t ht => L0 _ (by omega) (by omega) (by omega) (by omega) (by omega) (by omega) (by omega)
  have e11 : ∀ k, k < m → v' (11 + k) = v (11 + k) := fun k hk => L0 _ (by omega) (by omega) (by omega) (by omega) (by omega) (by omega) (by omega)
  have e23 : ∀ k, k < m → v' (23 + k) = v (23 + k) := fun k hk => L0 _ (by omega) (by omega) (by omega) (by omega) (by omega) (by omega) (by omega)
  have e35 : ∀ k, k < m → v' (35 + k) = v (35 + k) := fun k hk => L0 _ (by omega) (by omega) (by omega) (by omega) (by omega) (by omega) (by omega)
  have e47 : ∀ k, k < m → v' (47 + k) = v (47 + k) := fun k hk => L0 _ (by omega) (by omega) (by omega) (by omega) (by omega) (by omega) (by omega)
  have e59 : ∀ k, k < m → v' (59 + k) = v (59 + k) := fun k hk => L0 _ (by omega) (by omega) (by omega) (by omega) (by omega) (by omega) (by omega)
  have e71 : ∀ k, k < m → v' (71 + k) = v (71 + k) := fun k hk => L0 _ (by omega) (by omega) (by omega) (by omega) (by omega) (by omega) (by omega)
  refine ⟨⟨?_, ?_, ?_, fun t ht => ?_, fun k hk' => ?_⟩, by omega, by omega, L1, by omega, fun t ht => ?_, fun k hk' => ?_⟩
  · rw [hc _ _ (by decide) (by decide) (by omega) (by omega), e0]; exact x0
  · rw [c1, L1]
  · rw [hc _ _ (by decide) (by decide) (by omega) (by omega), e2]; exact x2
  · rw [e0] at ht
    rw [hc _ _ (by decide) (by decide) (by omega) (by omega), hc _ _ (by decide) (by decide) (by omega) (by omega), e3 t (by omega), ofb_congr8 e3 (by omega)]
    exact x3 t ht
  · rw [L1] at hk'
    by_cases ek : k = m
    · subst ek
      rw [L11, L23, L35, L47]
      exact ⟨c46, c47, c48, c49, c50, c51⟩
    · rw [hc _ _ (by decide) (by decide) (by omega) (by omega), hc _ _ (by decide) (by decide) (by omega) (by omega), hc _ _ (by decide) (by decide) (by omega) (by omega), hc _ _ (by decide) (by decide) (by omega) (by omega), hc _ _ (by decide) (by decide) (by omega) (by omega), hc _ _ (by decide) (by decide) (by omega) (by omega), e11 k (by omega), e23 k (by omega), e35 k (by omega), e47 k (by omega), e59 k (by omega), e71 k (by omega)]
      exact x4 k (by omega)
  · rw [e0] at ht
    rw [e3 t (by omega)]; exact w5 t ht
  · by_cases ek : k = m
    · subst ek
      rw [L11, L23, L35, L47, e0]
      exact ⟨hk, hg, hcs, hnt, hn0, hn1, hf1, hf2⟩
    · rw [e11 k (by omega), e23 k (by omega), e35 k (by omega), e47 k (by omega), e59 k (by omega), e71 k (by omega), e0]
      exact w6 k (by omega)
/-- the end of a member: its sign -/
theorem member_end {v' : Nat → Nat} {vt : Nat → Nat} {m nt : Nat} (hm : m < 12) (ps : PS n c f4 a MX MM) (hr : RM MM 83 vt) (hvt : vt 1 = m) (hv' : v' = uw (uw vt (47 + m) nt) 1 (m + 1)) (hX : RX MX 43 44 v') (hW : WFp v' (m + 1)) : ∃ (b : Int32) (MX' MM' : mv_M), mv_bi (fX4_take F MX (59 : Int32)) (fun v23 M22 => (if v23 = 0 then mv_b1 (0 : Int32) (some ((0 : Int32), M22)) else mv_b1 (1 : Int32) (some ((1 : Int32), M22)))) = some (b, MX') ∧ mv_ob ((130 : Int32) + nI m) 2324 (mv_let (mv_wI MM 1 ((130 : Int32) + nI m).toNatClampNeg (nI nt)) (fun M20 => mv_ob (84 : Int32) 2324 (mv_ob (84 : Int32) 2324 (mv_let (mv_wI M20 1 (84 : Int32).toNatClampNeg ((M20.1 1 (84 : Int32).toNatClampNeg) + (1 : Int32))) (fun M21 => mv_bi (fX9_takes F M21 (59 : Int32)) (fun v23 M22 => mv_b1 v23 (some (v23, M22)))))))) = some (b, MM') ∧ fw8 MX MX' ∧ fw9 MM MM' ∧ ((b = 1 ∧ ∃ a', PS n c f4 a' MX' MM' ∧ RX MX' 43 44 v' ∧ RM MM' 83 v' ∧ WFp v' (m + 1)) ∨ (b = 0 ∧ FL MX' MM')) := by
  have i130 : (130 : Int32) + nI m = nI (83 + (47 + m)) := by rw [show (130 : Int32) = nI 130 from rfl, nI_add]; exact congrArg nI (by omega)
  have h84 : (mv_wI MM 1 (83 + (47 + m)) (nI nt)).1 1 84 = nI m := by
    rw [wI_ne (by omega)]
    have := hr 1 (by decide)
    rw [hvt] at this
    exact this
  rw [i130, ob_nI (show 83 + (47 + m) < 2324 by omega) (by decide), nI_clamp (by omega), let_eq, ob_84, ob_84, cl_84, let_eq, h84, nI_1]
  have hr2 : RM (mv_wI (mv_wI MM 1 (83 + (47 + m)) (nI nt)) 1 84 (nI (m + 1))) 83 v' := by
    rw [hv']; exact RM_uwp (j := 1) (RM_uwp hr)
  have ps2 : PS n c f4 a MX (mv_wI (mv_wI MM 1 (83 + (47 + m)) (nI nt)) 1 84 (nI (m + 1))) := PS_fr (fun i j hi => rfl) (fun i j hi => by rw [wI_ne (by omega), wI_ne (by omega)]) ps
  have F9 : fw9 MM (mv_wI (mv_wI MM 1 (83 + (47 + m)) (nI nt)) 1 84 (nI (m + 1))) := (fw9_w (by omega)).tr (fw9_w (by decide))
  obtain ⟨b, M3, N3, t1, t2, t3, t4, t5⟩ := take_eq (F := F) 59 (by decide) ps2
  rw [t1, bi_some, t2, bi_some]
  rcases t5 with ⟨rfl, ps3⟩ | ⟨rfl, fl3⟩
  · rw [it1, b1_1, b1_1]
    exact ⟨1, M3, N3, rfl, rfl, t3.fw, F9.tr t4.fw, Or.inl ⟨rfl, _, ps3, RX_t8 t3 hX, RM_t9 t4 hr2, hW⟩⟩
  · rw [it0, b1_0, b1_0]
    exact ⟨0, M3, N3, rfl, rfl, t3.fw, F9.tr t4.fw, Or.inr ⟨rfl, fl3⟩⟩
theorem member_eq {v : Nat → Nat} {m : Nat} (h : PS n c f4 a MX MM) (hm : m ≤ 12) (hX : RX MX 43 44 v) (hr : RM MM 83 v) (hW : WFp v m) (hF : 300 < F) : ∃ (b : Int32) (MX' MM' : mv_M), fX4_readMember F MX (nI m) = some (b, MX') ∧ fX9_takesMember F MM = some (b, MM') ∧ fw8 MX MX' ∧ fw9 MM MM' ∧ ((b = 1 ∧ m < 12 ∧ ∃ v' a', PS n c f4 a' MX' MM' ∧ RX MX' 43 44 v' ∧ RM MM' 83 v' ∧ WFp v' (m + 1)) ∨ (b = 0 ∧ FL MX' MM')) := by
  obtain ⟨w1, w2, w3, w4, w5, w6⟩ := id hW
  have hM84 : MM.1 1 84 = nI m := by have := hr 1 (by decide); rw [w3] at this; exact this
  have hfail : ∀ x : Int32, FL (mv_wI MX 41 4 x) (mv_wI (mv_wI MM 0 4 x) 0 11 (nI a)) := fun x => FL_of h.2.2.2.1
  have hM83 : ∀ {M' : mv_M} {v' : Nat → Nat}, RM M' 83 v' → v' 0 = v 0 → M'.1 1 83 = nI (v 0) := fun hr' e => by have := hr' 0 (by decide); rw [e] at this; exact this
  have hsub : nI (v 0) - 1 = nI (v 0 - 1) := by rw [show (1 : Int32) = nI 1 from rfl, pk_sub w1]
  unfold fX4_readMember fX9_takesMember
  rw [here8_eq h, bi_some, kindOf8, bi_some, let_eq (nI (kk (byt n c a))), here9_of h, bi_some, kindOf9, bi_some, let_eq (nI (kk (byt n c a)))]
  have hk5 := kk_le (byt n c a)
  by_cases k0 : kk (byt n c a) = 0
  · rw [k0, if_pos nI_0, if_pos nI_0]
    refine ⟨0, mv_wI MX 41 4 1, mv_wI (mv_wI MM 0 4 1) 0 11 (nI a), ?_, ?_, (ft8_w4 _).fw, (ft9_f _ _).fw, Or.inr ⟨rfl, hfail 1⟩⟩
    · unfold fX4_refuse
      rw [let_eq, b1_0, bi_some, b1_0]
    · unfold fX9_fails
      rw [h.2.2.2.2.1, let_eq, let_eq, b1_0, bi_some, b1_0]
  have ha := kk_lt k0
  rw [if_neg (nI_ne0 (by omega) (by omega)), if_neg (nI_ne0 (by omega) (by omega)), ob_84, cl_84, hM84, let_eq (nI m)]
  by_cases m12 : m = 12
  · subst m12
    rw [if_neg (by decide), if_pos (by decide)]
    refine ⟨0, mv_wI MX 41 4 3, mv_wI (mv_wI MM 0 4 3) 0 11 (nI a), ?_, ?_, (ft8_w4 _).fw, (ft9_f _ _).fw, Or.inr ⟨rfl, hfail 3⟩⟩
    · unfold fX4_refuse
      rw [let_eq, b1_0, bi_some, b1_0]
    · unfold fX9_fails
      rw [h.2.2.2.2.1, let_eq, let_eq, b1_0, bi_some, b1_0]
  have hm' : m < 12 := by omega
  generalize kk (byt n c a) = kd at k0 hk5
  rw [if_pos (show nI m < (12 : Int32) from nI_lt (b := 12) hm' (by decide)), if_neg (show ¬ nI m = (12 : Int32) from fun q => m12 ((nI_eq (b := 12) (by omega) (by decide)).mp q)), h.2.2.2.1, h.2.2.2.2.1, nI_1 a, let_eq (mv_wI MX 41 3 (nI (a + 1))), let_eq (mv_wI MM 0 10 (nI (a + 1)))]
  have i94 : (94 : Int32) + nI m = nI (83 + (11 + m)) := by rw [show (94 : Int32) = nI 94 from rfl, nI_add]; exact congrArg nI (by omega)
  have i106 : (106 : Int32) + nI m = nI (83 + (23 + m)) := by rw [show (106 : Int32) = nI 106 from rfl, nI_add]; exact congrArg nI (by omega)
  have i118 : (118 : Int32) + nI m = nI (83 + (35 + m)) := by rw [show (118 : Int32) = nI 118 from rfl, nI_add]; exact congrArg nI (by omega)
  have obm : ∀ {α : Type} (G : Option α), mv_ob (nI m) 12 G = G := fun G => ob_nI (by omega) (by decide)
  have clm : (nI m).toNatClampNeg = m := nI_clamp (by omega)
  rw [i94, ob_nI (show 83 + (11 + m) < 2324 by omega) (by decide), nI_clamp (show 83 + (11 + m) < 2 ^ 31 by omega), let_eq (mv_wI (mv_wI MM 0 10 (nI (a + 1))) 1 (83 + (11 + m)) (nI kd)), ob_83, cl_83]
  have ps1 := PS_on h ha
  have hr1 : RM (mv_wI MM 0 10 (nI (a + 1))) 83 v := RM_t9 (ft9_w _) hr
  have ps2 : PS n c f4 (a + 1) (mv_wI MX 41 3 (nI (a + 1))) (mv_wI (mv_wI MM 0 10 (nI (a + 1))) 1 (83 + (11 + m)) (nI kd)) := PS_fr (fun i j hi => rfl) (fun i j hi => wI_ne (by omega)) ps1
  have hr2 : RM (mv_wI (mv_wI MM 0 10 (nI (a + 1))) 1 (83 + (11 + m)) (nI kd)) 83 (uw v (11 + m) kd) := RM_uwp hr1
  have F8 : ft8 MX (mv_wI MX 41 3 (nI (a + 1))) := ft8_w _
  have F9 : fw9 MM (mv_wI (mv_wI MM 0 10 (nI (a + 1))) 1 (83 + (11 + m)) (nI kd)) := (ft9_w _).fw.tr (fw9_w (by omega))
  have h430 : (mv_wI MX 41 3 (nI (a + 1))).1 43 0 = nI (v 0) := by rw [wI_ne (by omega)]; exact hX.1
  rw [h430, hsub, hM83 hr2 (if_neg (by omega)), hsub]
  generalize mv_wI MX 41 3 (nI (a + 1)) = M2 at ps2 F8
  generalize mv_wI (mv_wI MM 0 10 (nI (a + 1))) 1 (83 + (11 + m)) (nI kd) = N2 at ps2 hr2 F9
  obtain ⟨M3, N3, u3, u4, u5⟩ := num_eq (F := F) 0 (v 0 - 1) (by decide) (by omega) ps2 hF
  rcases u5 with ⟨g, a3, x1, x2, u1, u2, u12, ps3⟩ | ⟨u1, u2, fl3⟩
  case inr =>
    rw [show fX4_takeNumber F M2 (0 : Int32) (nI (v 0 - 1)) = some (-1, M3) from u1, bi_some, show fX9_takesNumber F N2 (0 : Int32) (nI (v 0 - 1)) = some (0, N3) from u2, bi_some, it0, let_eq, if_pos (by decide), b1_0, b1_0]
    exact ⟨0, M3, N3, rfl, rfl, (F8.tr u3).fw, F9.tr u4.fw, Or.inr ⟨rfl, fl3⟩⟩
  rw [show fX4_takeNumber F M2 (0 : Int32) (nI (v 0 - 1)) = some (nI g, M3) from u1, bi_some, show fX9_takesNumber F N2 (0 : Int32) (nI (v 0 - 1)) = some (1, N3) from u2, bi_some, it1, let_eq, if_neg (nI_pos (by omega)), i106, ob_nI (show 83 + (23 + m) < 2324 by omega) (by decide), nI_clamp (show 83 + (23 + m) < 2 ^ 31 by omega), let_eq, u12]
  have ps4 : PS n c f4 a3 M3 (mv_wI N3 1 (83 + (23 + m)) (nI g)) := PS_fr (fun i j hi => rfl) (fun i j hi => wI_ne (by omega)) ps3
  have hr4 : RM (mv_wI N3 1 (83 + (23 + m)) (nI g)) 83 (uw (uw v (11 + m) kd) (23 + m) g) := RM_uwp (RM_t9 u4 hr2)
  have F9 := F9.tr (u4.fw.tr (fw9_w (M := N3) (j := 83 + (23 + m)) (v := nI g) (by omega)))
  have F8 := F8.tr u3
  generalize mv_wI N3 1 (83 + (23 + m)) (nI g) = N4 at ps4 hr4 F9
  obtain ⟨b5, M5, N5, t1, t2, t3, t4, t5⟩ := take_eq (F := F) 44 (by decide) ps4
  rw [t1, bi_some, t2, bi_some]
  rcases t5 with ⟨rfl, ps5⟩ | ⟨rfl, fl5⟩
  case inr =>
    rw [it0, it0, b1_0, b1_0]
    exact ⟨0, M5, N5, rfl, rfl, (F8.tr t3).fw, F9.tr t4.fw, Or.inr ⟨rfl, fl5⟩⟩
  rw [it1, it1]
  have F8 := F8.tr t3
  have F9 := F9.tr t4.fw
  have hr5 := RM_t9 t4 hr4
  obtain ⟨M6, N6, y3, y4, y5⟩ := num_eq (F := F) 1 9 (by decide) (by decide) ps5 hF
  rcases y5 with ⟨cs, a6, z1, z2, y1, y2, y12, ps6⟩ | ⟨y1, y2, fl6⟩
  case inr =>
    rw [show fX4_takeNumber F M5 (1 : Int32) (9 : Int32) = some (-1, M6) from y1, bi_some, show fX9_takesNumber F N5 (1 : Int32) (9 : Int32) = some (0, N6) from y2, bi_some, it0, let_eq, if_neg (by decide), b1_0, b1_0]
    exact ⟨0, M6, N6, rfl, rfl, (F8.tr y3).fw, F9.tr y4.fw, Or.inr ⟨rfl, fl6⟩⟩
  rw [show fX4_takeNumber F M5 (1 : Int32) (9 : Int32) = some (nI cs, M6) from y1, bi_some, show fX9_takesNumber F N5 (1 : Int32) (9 : Int32) = some (1, N6) from y2, bi_some, it1, let_eq, if_pos (nI_pos' (by omega)), i118, ob_nI (show 83 + (35 + m) < 2324 by omega) (by decide), nI_clamp (show 83 + (35 + m) < 2 ^ 31 by omega), y12]
  simp only [let_eq, obm, clm]
  rw [nI_1]
  have F8 := F8.tr y3
  have hr7 : RM (mv_wI N6 1 (83 + (35 + m)) (nI cs)) 83 (uw (uw (uw v (11 + m) kd) (23 + m) g) (35 + m) cs) := RM_uwp (RM_t9 y4 hr5)
  have F9 := F9.tr (y4.fw.tr (fw9_w (M := N6) (j := 83 + (35 + m)) (v := nI cs) (by omega)))
  have e7 : ∀ j, j ≠ 11 + m → j ≠ 23 + m → j ≠ 35 + m → uw (uw (uw v (11 + m) kd) (23 + m) g) (35 + m) cs j = v j := fun j h1 h2 h3 => by unfold uw; rw [if_neg h3, if_neg h2, if_neg h1]
  have e7a : uw (uw (uw v (11 + m) kd) (23 + m) g) (35 + m) cs (11 + m) = kd := by unfold uw; rw [if_neg (by omega), if_neg (by omega), if_pos rfl]
  have e7b : uw (uw (uw v (11 + m) kd) (23 + m) g) (35 + m) cs (23 + m) = g := by unfold uw; rw [if_neg (by omega), if_pos rfl]
  have e7c : uw (uw (uw v (11 + m) kd) (23 + m) g) (35 + m) cs (35 + m) = cs := by unfold uw; rw [if_pos rfl]
  generalize uw (uw (uw v (11 + m) kd) (23 + m) g) (35 + m) cs = v7 at hr7 e7 e7a e7b e7c
  have ps7 : PS n c f4 a6 (mv_wI (mv_wI (mv_wI (mv_wI (mv_wI M6 46 m (nI kd)) 47 m (nI g)) 48 m (nI cs)) 49 m 0) 43 1 (nI (m + 1))) (mv_wI N6 1 (83 + (35 + m)) (nI cs)) := PS_fr (fun i j hi => by rw [wI_ne (by omega), wI_ne (by omega), wI_ne (by omega), wI_ne (by omega), wI_ne (by omega)]) (fun i j hi => wI_ne (by omega)) ps6
  have G8 : fw8 M6 (mv_wI (mv_wI (mv_wI (mv_wI (mv_wI M6 46 m (nI kd)) 47 m (nI g)) 48 m (nI cs)) 49 m 0) 43 1 (nI (m + 1))) := (fw8_w (by decide)).tr ((fw8_w (by decide)).tr ((fw8_w (by decide)).tr ((fw8_w (by decide)).tr (fw8_w (by decide)))))
  have q46 : (mv_wI (mv_wI (mv_wI (mv_wI (mv_wI M6 46 m (nI kd)) 47 m (nI g)) 48 m (nI cs)) 49 m 0) 43 1 (nI (m + 1))).1 46 m = nI kd := by rw [wI_ne (by omega), wI_ne (by omega), wI_ne (by omega), wI_ne (by omega), wI_eq]
  have q47 : (mv_wI (mv_wI (mv_wI (mv_wI (mv_wI M6 46 m (nI kd)) 47 m (nI g)) 48 m (nI cs)) 49 m 0) 43 1 (nI (m + 1))).1 47 m = nI g := by rw [wI_ne (by omega), wI_ne (by omega), wI_ne (by omega), wI_eq]
  have q48 : (mv_wI (mv_wI (mv_wI (mv_wI (mv_wI M6 46 m (nI kd)) 47 m (nI g)) 48 m (nI cs)) 49 m 0) 43 1 (nI (m + 1))).1 48 m = nI cs := by rw [wI_ne (by omega), wI_ne (by omega), wI_eq]
  have q49 : (mv_wI (mv_wI (mv_wI (mv_wI (mv_wI M6 46 m (nI kd)) 47 m (nI g)) 48 m (nI cs)) 49 m 0) 43 1 (nI (m + 1))).1 49 m = 0 := by rw [wI_ne (by omega), wI_eq]
  have q1 : (mv_wI (mv_wI (mv_wI (mv_wI (mv_wI M6 46 m (nI kd)) 47 m (nI g)) 48 m (nI cs)) 49 m 0) 43 1 (nI (m + 1))).1 43 1 = nI (m + 1) := wI_eq
  have qc : ∀ i j, 43 ≤ i → i ≤ 51 → ¬ (i = 43 ∧ j = 1) → ¬ (46 ≤ i ∧ j = m) → (mv_wI (mv_wI (mv_wI (mv_wI (mv_wI M6 46 m (nI kd)) 47 m (nI g)) 48 m (nI cs)) 49 m 0) 43 1 (nI (m + 1))).1 i j = MX.1 i j := fun i j h1 h2 h3 h4 => by
    rw [wI_ne h3, wI_ne (by omega), wI_ne (by omega), wI_ne (by omega), wI_ne (by omega), F8.2 _ _ (by omega)]
  generalize mv_wI (mv_wI (mv_wI (mv_wI (mv_wI M6 46 m (nI kd)) 47 m (nI g)) 48 m (nI cs)) 49 m 0) 43 1 (nI (m + 1)) = M7 at ps7 G8 q46 q47 q48 q49 q1 qc
  generalize mv_wI N6 1 (83 + (35 + m)) (nI cs) = N7 at ps7 hr7 F9
  have H8 : fw8 MX M7 := F8.fw.tr G8
  by_cases k4 : kd < 4
  · obtain ⟨rx, wf⟩ := new_member (v := v) (v' := uw (uw v7 (47 + m) 0) 1 (m + 1)) (m := m) (kd := kd) (g := g) (cs := cs) (nt := 0) (M0 := MX) (M := M7) hm' hW hX (fun j j1 j2 j3 j4 j5 j6 j7 => by unfold uw; rw [if_neg j1, if_neg j5]; exact e7 j j2 j3 j4) (by unfold uw; rw [if_pos rfl]) (by unfold uw; rw [if_neg (by omega), if_neg (by omega)]; exact e7a) (by unfold uw; rw [if_neg (by omega), if_neg (by omega)]; exact e7b) (by unfold uw; rw [if_neg (by omega), if_neg (by omega)]; exact e7c) (by unfold uw; rw [if_neg (by omega), if_pos rfl]) ⟨by omega, hk5⟩ (by omega) ⟨z1, z2⟩ (by omega) (fun _ => rfl) (fun q => absurd k4 (by omega)) (fun q => absurd q (by omega)) (fun q => absurd q (by omega)) qc q1 q46 q47 q48 (by rw [q49, nI_0]) (fun q => absurd q (by omega)) (fun q => absurd q (by omega))
    obtain ⟨b8, M8, N8, s1, s2, s3, s4, s5⟩ := member_end (F := F) (nt := 0) hm' ps7 hr7 (by rw [e7 _ (by omega) (by omega) (by omega)]; exact w3) rfl rx wf
    refine ⟨b8, M8, N8, ?_, ?_, H8.tr s3, F9.tr s4, ?_⟩
    · rw [if_neg (show ¬ nI kd = (4 : Int32) from fun q => by have := (nI_eq (b := 4) (by omega) (by decide)).mp q; omega), if_neg (show ¬ nI kd = (5 : Int32) from fun q => by have := (nI_eq (b := 5) (by omega) (by decide)).mp q; omega)]
      exact s1
    · obtain ⟨F', hF'⟩ : ∃ F', F = F' + 1 := ⟨F - 1, by omega⟩
      have hlp : ∀ (B : (Int32 × mv_M → Option (Int32 × mv_M)) → Int32 × mv_M → Option (Int32 × mv_M)) (z : Int32 × mv_M), mv_lp B F z = B (mv_lp B F') z := fun B z => by rw [hF', lp_succ]
      rw [hlp]
      unfold bX9_takesMember_134
      dsimp only
      rw [if_pos (show nI kd < (4 : Int32) from nI_lt (b := 4) k4 (by decide))]
      rw [nI_0] at s2
      exact s2
    · rcases s5 with ⟨rfl, a', p1, p2, p3, p4⟩ | ⟨rfl, fl⟩
      · exact Or.inl ⟨rfl, hm', _, a', p1, p2, p3, p4⟩
      · exact Or.inr ⟨rfl, fl⟩
  · have hv70 : v7 0 = v 0 := e7 0 (by omega) (by omega) (by omega)
    have hcls : ∀ (G : Option (Int32 × mv_M)), (if nI kd = (4 : Int32) then mv_bi (fX4_readTaken F M7 (nI m)) (fun v21 M20 => (if v21 = 0 then mv_b1 (0 : Int32) (some ((0 : Int32), M20)) else mv_bi (fX4_take F M20 (59 : Int32)) (fun v23 M22 => (if v23 = 0 then mv_b1 (0 : Int32) (some ((0 : Int32), M22)) else mv_b1 (1 : Int32) (some ((1 : Int32), M22)))))) else (if nI kd = (5 : Int32) then mv_bi (fX4_readTaken F M7 (nI m)) (fun v27 M26 => (if v27 = 0 then mv_b1 (0 : Int32) (some ((0 : Int32), M26)) else mv_bi (fX4_take F M26 (59 : Int32)) (fun v29 M28 => (if v29 = 0 then mv_b1 (0 : Int32) (some ((0 : Int32), M28)) else mv_b1 (1 : Int32) (some ((1 : Int32), M28)))))) else G)) = mv_bi (fX4_readTaken F M7 (nI m)) (fun v21 M20 => (if v21 = 0 then mv_b1 (0 : Int32) (some ((0 : Int32), M20)) else mv_bi (fX4_take F M20 (59 : Int32)) (fun v23 M22 => (if v23 = 0 then mv_b1 (0 : Int32) (some ((0 : Int32), M22)) else mv_b1 (1 : Int32) (some ((1 : Int32), M22)))))) := fun G => by
      rcases (show kd = 4 ∨ kd = 5 by omega) with q | q
      · rw [q, if_pos (by decide)]
      · rw [q, if_neg (by decide), if_pos (by decide)]
    rw [hcls]
    have htk := taken_eq (F := F) (m := m) (kd := kd) (v := v7) (fun s18 : Int32 × mv_M => mv_ob ((130 : Int32) + nI m) 2324 (mv_let (mv_wI s18.2 1 ((130 : Int32) + nI m).toNatClampNeg s18.1) (fun M20 => mv_ob (84 : Int32) 2324 (mv_ob (84 : Int32) 2324 (mv_let (mv_wI M20 1 (84 : Int32).toNatClampNeg ((M20.1 1 (84 : Int32).toNatClampNeg) + (1 : Int32))) (fun M21 => mv_bi (fX9_takes F M21 (59 : Int32)) (fun v23 M22 => mv_b1 v23 (some (v23, M22))))))))) ps7 hm' (by omega) (by omega) (by rw [qc _ _ (by decide) (by decide) (by omega) (by omega), hv70]; exact hX.1) hr7 (by omega) hk5 hF
    rcases htk with ⟨M8, N8, v8, a8, nt, p1, p2, p3, p4, p5, p6, p7, p8, p9, p10, p11, p12, p13⟩ | ⟨M8, N8, p1, p2, p3, p4, p5⟩
    case inr =>
      exact ⟨0, M8, N8, by rw [p1, bi_some, it0, b1_0], p2, H8.tr p3, F9.tr p4, Or.inr ⟨rfl, p5⟩⟩
    obtain ⟨rx, wf⟩ := new_member (v := v) (v' := uw (uw v8 (47 + m) nt) 1 (m + 1)) (m := m) (kd := kd) (g := g) (cs := cs) (nt := nt) (M0 := MX) (M := M8) hm' hW hX (fun j j1 j2 j3 j4 j5 j6 j7 => by unfold uw; rw [if_neg j1, if_neg j5, p9 j j6 j7]; exact e7 j j2 j3 j4) (by unfold uw; rw [if_pos rfl]) (by unfold uw; rw [if_neg (by omega), if_neg (by omega), p9 _ (by omega) (by omega)]; exact e7a) (by unfold uw; rw [if_neg (by omega), if_neg (by omega), p9 _ (by omega) (by omega)]; exact e7b) (by unfold uw; rw [if_neg (by omega), if_neg (by omega), p9 _ (by omega) (by omega)]; exact e7c) (by unfold uw; rw [if_neg (by omega), if_pos rfl]) ⟨by omega, hk5⟩ (by omega) ⟨z1, z2⟩ p8 (fun q => absurd q k4) (fun _ => p7) (fun _ => by unfold uw; rw [if_neg (by omega), if_neg (by omega)]; omega) (fun q => by unfold uw; rw [if_neg (by omega), if_neg (by omega)]; have := (p13 q).2; omega) (fun i j h1 h2 h3 h4 => by rw [p3.2 _ _ (by omega) (by omega)]; exact qc i j h1 h2 h3 h4) (by rw [p3.2 _ _ (by omega) (by omega)]; exact q1) (by rw [p3.2 _ _ (by omega) (by omega)]; exact q46) (by rw [p3.2 _ _ (by omega) (by omega)]; exact q47) (by rw [p3.2 _ _ (by omega) (by omega)]; exact q48) p10 (fun _ => by unfold uw; rw [if_neg (by omega), if_neg (by omega)]; exact p11) (fun q => by unfold uw; rw [if_neg (by omega), if_neg (by omega)]; exact (p13 q).1)
    have hv81 : v8 1 = m := by rw [p9 _ (by omega) (by omega), e7 _ (by omega) (by omega) (by omega)]; exact w3
    obtain ⟨b9, M9, N9, s1, s2, s3, s4, s5⟩ := member_end (F := F) (nt := nt) hm' p5 p6 hv81 rfl rx wf
    refine ⟨b9, M9, N9, ?_, ?_, (H8.tr ⟨p3.1, fun i j h1 h2 => p3.2 i j h1 (by omega)⟩).tr s3, (F9.tr p4).tr s4, ?_⟩
    · rw [p1, bi_some, it1]; exact s1
    · refine Eq.trans p2 ?_
      exact s2
    · rcases s5 with ⟨rfl, a', r1, r2, r3, r4⟩ | ⟨rfl, fl⟩
      · exact Or.inl ⟨rfl, hm', _, a', r1, r2, r3, r4⟩
      · exact Or.inr ⟨rfl, fl⟩
/-- members: the two loops together -/
theorem members_eq {v : Nat → Nat} (h : PS n c f4 a MX MM) (hX : RX MX 43 44 v) (hr : RM MM 83 v) (hW : WFp v 0) (hF : 300 < F) : ∃ (b : Int32) (MX' MM' : mv_M), fX4_readMembers F MX = some (b, MX') ∧ mv_lp (bX9_takesAll_38 F) F MM = some (b, MM') ∧ fw8 MX MX' ∧ fw9 MM MM' ∧ ((b = 1 ∧ ∃ v' a', PS n c f4 a' MX' MM' ∧ RX MX' 43 44 v' ∧ RM MM' 83 v' ∧ WF v' ∧ 0 < v' 0) ∨ (b = 0 ∧ FL MX' MM')) := by
  unfold fX4_readMembers
  rw [let_eq]
  refine lp2_rule (fun m s1 s2 => ∃ (M1 : mv_M) (v' : Nat → Nat) (a' : Nat), s1 = (nI m, M1) ∧ fw8 MX M1 ∧ fw9 MM s2 ∧ PS n c f4 a' M1 s2 ∧ RX M1 43 44 v' ∧ RM s2 83 v' ∧ WFp v' m) 12 (fun G1 G2 => ∃ (b : Int32) (MX' MM' : mv_M), G1 = some (b, MX') ∧ G2 = some (b, MM') ∧ fw8 MX MX' ∧ fw9 MM MM' ∧ ((b = 1 ∧ ∃ v' a', PS n c f4 a' MX' MM' ∧ RX MX' 43 44 v' ∧ RM MM' 83 v' ∧ WF v' ∧ 0 < v' 0) ∨ (b = 0 ∧ FL MX' MM'))) ?_ F 0 (0, MX) MM ⟨MX, v, a, by rw [nI_0], ⟨rfl, fun _ _ _ _ => rfl⟩, ⟨rfl, fun _ _ _ _ => rfl⟩, h, hX, hr, hW⟩ (by omega) (by omega)
  rintro m s1 M2 f1 f2 hm ⟨M1, v', a', rfl, g8, g9, ps, rx, rm, wf⟩
  have h84 : M2.1 1 84 = nI m := by have := rm 1 (by decide); rw [wf.2.2.1] at this; exact this
  obtain ⟨b, M3, N3, t1, t2, t3, t4, t5⟩ := member_eq (F := F) ps hm rx rm wf hF
  have hgo : ∀ (X1 : Option (Int32 × mv_M)) (X2 : Option (Int32 × mv_M)), X1 = mv_bi (fX4_readMember F M1 (nI m)) (fun v5 M4 => (if v5 = 0 then mv_b1 (0 : Int32) (some ((0 : Int32), M4)) else mv_let (nI m + (1 : Int32)) (fun v6 => f1 (v6, M4)))) → X2 = mv_bi (fX9_takesMember F M2) (fun v9 M8 => (if v9 = 0 then mv_b1 (0 : Int32) (some ((0 : Int32), M8)) else f2 M8)) → (∃ (b : Int32) (MX' MM' : mv_M), X1 = some (b, MX') ∧ X2 = some (b, MM') ∧ fw8 MX MX' ∧ fw9 MM MM' ∧ ((b = 1 ∧ ∃ v' a', PS n c f4 a' MX' MM' ∧ RX MX' 43 44 v' ∧ RM MM' 83 v' ∧ WF v' ∧ 0 < v' 0) ∨ (b = 0 ∧ FL MX' MM'))) ∨ (m < 12 ∧ ∃ s1' s2', (∃ (M1 : mv_M) (v' : Nat → Nat) (a' : Nat), s1' = (nI (m + 1), M1) ∧ fw8 MX M1 ∧ fw9 MM s2' ∧ PS n c f4 a' M1 s2' ∧ RX M1 43 44 v' ∧ RM s2' 83 v' ∧ WFp v' (m + 1)) ∧ X1 = f1 s1' ∧ X2 = f2 s2') := fun X1 X2 e1 e2 => by
    rw [e1, e2, t1, bi_some, t2, bi_some]
    rcases t5 with ⟨rfl, hm12, v3, a3, p1, p2, p3, p4⟩ | ⟨rfl, fl⟩
    · right
      refine ⟨hm12, (nI (m + 1), M3), N3, ⟨M3, v3, a3, rfl, g8.tr t3, g9.tr t4, p1, p2, p3, p4⟩, ?_, ?_⟩
      · rw [it1, let_eq, nI_1]
      · rw [it1]
    · left
      exact ⟨0, M3, N3, by rw [it0, b1_0], by rw [it0, b1_0], g8.tr t3, g9.tr t4, Or.inr ⟨rfl, fl⟩⟩
  unfold bX4_readMembers_2 bX9_takesAll_38
  dsimp only
  rw [if_neg (show ¬ (12 : Int32) < nI m from nI_nlt (a := 12) hm (by decide)), ob_84, cl_84, h84]
  by_cases m0 : m = 0
  · rw [if_pos (show nI m ≤ 0 by rw [m0]; decide), if_pos (show nI m = 0 by rw [m0]; exact nI_0)]
    exact hgo _ _ rfl rfl
  rw [if_neg (nI_nle (by omega) (by omega)), if_neg (nI_ne0 (by omega) (by omega)), ps.2.2.2.1, ps.1, ps.2.1, ps.2.2.2.2.1]
  have ha := ps.2.2.2.2.2.1
  have hn := ps.2.2.2.2.2.2.1
  by_cases e : a' = n
  · left
    refine ⟨1, M1, M2, by rw [if_pos (by rw [e]), b1_1], by rw [if_pos (nI_le (by omega) (by omega)), b1_1], g8, g9, Or.inl ⟨rfl, v', a', ps, rx, rm, ?_, by have := wf.1; omega⟩⟩
    obtain ⟨q1, q2, q3, q4, q5, q6⟩ := wf
    refine ⟨q2, by omega, by rw [q4]; exact Nat.two_pow_pos _, by omega, q5, fun k hk => q6 k (by omega)⟩
  · rw [if_neg (fun q => e ((nI_eq (by omega) (by omega)).mp q)), if_neg (nI_ge (by omega) (by omega))]
    exact hgo _ _ rfl rfl
/-- a fault -/
theorem core_fault {w : Nat → Nat} {MX' MM' : mv_M} (hc : core w MX MM) (hX : ∀ i j, LvX i j → ¬ (i = 41 ∨ i = 42) → ¬ (i = 0 ∧ j = 9) → MX'.1 i j = MX.1 i j) (hM : ∀ i j, LvM i j → ¬ (i = 2 ∨ i = 0 ∧ j = 3) → ¬ (i = 0 ∧ j = 4) → MM'.1 i j = MM.1 i j) (hr : sTape MX' MM') (hf : MX'.1 0 9 = MM'.1 0 4) : core w MX' MM' := by
  obtain ⟨h1, h2, h3, h4, h5, h6, h7, h8, h9, h10, h11⟩ := hc
  refine ⟨h1, RX_fr (fun i j hi => hX i j (by unfold LvX; omega) (by omega) (by omega)) h2, RM_fr (fun j h6 h7 => hM _ _ (by unfold LvM; omega) (by omega) (by omega)) h3, sRows_fr (fun i j hi => hX i j (by unfold LvX; omega) (by omega) (by omega)) (fun i j hi => hM i j (by unfold LvM; omega) (by omega) (by omega)) h4, hr, sTrace_fr (fun i j hi => hX i j (by unfold LvX; omega) (by omega) (by omega)) (fun i j hi => hM i j (by unfold LvM; omega) (by omega) (by omega)) h6, hf, ?_, sImg_fr (fun i j hi => hX i j (by unfold LvX; omega) (by omega) (by omega)) (fun i j hi => hM i j (by unfold LvM; omega) (by omega) (by omega)) h9, sImg_fr (fun i j hi => hX i j (by unfold LvX; omega) (by omega) (by omega)) (fun i j hi => hM i j (by unfold LvM; omega) (by omega) (by omega)) h10, sUndo_fr (fun i j hi => hX i j (by unfold LvX; omega) (by omega) (by omega)) (fun i j hi => hM i j (by unfold LvM; omega) (by omega) (by omega)) h11⟩
  rw [hX _ _ (by unfold LvX; omega) (by omega) (by omega), hM _ _ (by unfold LvM; omega) (by omega) (by omega)]; exact h8
theorem world9_zero (j3 : mv_M → Option (Int32 × mv_M)) (hF : 300 < F) : ∃ M' : mv_M, mv_lp (bX9_world_2 j3) F (0, MM) = j3 M' ∧ M'.2 = MM.2 ∧ (∀ i j, ¬ (i = 1 ∧ 83 ≤ j ∧ j < 166) → M'.1 i j = MM.1 i j) ∧ RM M' 83 (fun _ => 0) := by
  refine lp_rule2 (fun i s => ∃ M' : mv_M, s = (nI i, M') ∧ M'.2 = MM.2 ∧ (∀ i j, ¬ (i = 1 ∧ 83 ≤ j ∧ j < 166) → M'.1 i j = MM.1 i j) ∧ ∀ j, j < i → M'.1 1 (83 + j) = 0) 83 (fun G => ∃ M' : mv_M, G = j3 M' ∧ M'.2 = MM.2 ∧ (∀ i j, ¬ (i = 1 ∧ 83 ≤ j ∧ j < 166) → M'.1 i j = MM.1 i j) ∧ RM M' 83 (fun _ => 0)) ?_ F 0 (0, MM) ⟨MM, by rw [nI_0], rfl, fun _ _ _ => rfl, fun j hj => absurd hj (by omega)⟩ (by omega) (by omega)
  rintro i s f hi ⟨M', rfl, g2, g3, g4⟩
  unfold bX9_world_2
  dsimp only
  by_cases e : i = 83
  · left
    subst e
    rw [if_pos (show (83 : Int32) ≤ nI 83 from nI_le (Nat.le_refl _) (by decide))]
    exact ⟨M', rfl, g2, g3, fun j hj => by rw [g4 j hj, nI_0]⟩
  · right
    refine ⟨by omega, (nI (i + 1), mv_wI M' 1 (83 + i) 0), ⟨_, rfl, g2, fun p q hpq => by rw [wI_ne (by omega)]; exact g3 p q hpq, fun j hj => ?_⟩, ?_⟩
    · by_cases ej : j = i
      · rw [ej, wI_eq]
      · rw [wI_ne (by omega)]; exact g4 j (by omega)
    · rw [if_neg (show ¬ (83 : Int32) ≤ nI i from nI_ge (b := 83) (by omega) (by decide)), show (83 : Int32) + nI i = nI (83 + i) by rw [show (83 : Int32) = nI 83 from rfl, nI_add], ob_nI (show 83 + i < 2324 by omega) (by decide), nI_clamp (by omega), let_eq, let_eq, nI_1]
/-- the whole tape, both sides -/
theorem tape_eq (h : PS n c f4 0 MX MM) (h0 : MX.1 43 0 = 0) (h1 : MX.1 43 1 = 0) (h2 : MX.1 43 2 = 0) (hr : RM MM 83 (fun _ => 0)) (hF : 300 < F) : ∃ (b : Int32) (MX' MM' : mv_M), mv_bi (fX4_readLaw F MX) (fun v7 M6 => (if v7 = 0 then mv_b1 (0 : Int32) (some ((0 : Int32), M6)) else mv_bi (fX4_readTypes F M6) (fun v9 M8 => (if v9 = 0 then mv_b1 (0 : Int32) (some ((0 : Int32), M8)) else mv_bi (fX4_readMembers F M8) (fun v11 M10 => (if v11 = 0 then mv_b1 (0 : Int32) (some ((0 : Int32), M10)) else mv_b1 (1 : Int32) (some ((1 : Int32), M10)))))))) = some (b, MX') ∧ fX9_takesAll F MM = some (b, MM') ∧ fw8 MX MX' ∧ fw9 MM MM' ∧ ((b = 1 ∧ ∃ v' a', PS n c f4 a' MX' MM' ∧ RX MX' 43 44 v' ∧ RM MM' 83 v' ∧ WF v' ∧ 0 < v' 0) ∨ (b = 0 ∧ FL MX' MM')) := by
  unfold fX9_takesAll
  obtain ⟨b1, M1, N1, t1, t2, t3, t4, t5⟩ := law_eq (F := F) h hr hF
  rw [t1, bi_some, t2, bi_some]
  rcases t5 with ⟨rfl, T, a1, T1, T8, ps1, k0, kc, hr1⟩ | ⟨rfl, fl1⟩
  case inr => rw [it0, it0, b1_0, b1_0]; exact ⟨0, M1, N1, rfl, rfl, t3, t4, Or.inr ⟨rfl, fl1⟩⟩
  rw [it1, it1, let_eq, let_eq]
  rcases types_eq (F := F) (MX := M1) (MM := N1) (v := uw (fun _ => 0) 0 T) (T := T) (fun s4 : mv_M => mv_lp (bX9_takesAll_38 F) F s4) ps1 T1 T8 k0 (by rw [kc _ _ (by decide) (by decide) (by decide)]; exact h1) (by rw [kc _ _ (by decide) (by decide) (by decide)]; exact h2) hr1 rfl rfl rfl hF with ⟨M2, N2, v2, a2, s1, s2, s3, s4, ps2, rx2, rm2, wf2⟩ | ⟨M2, N2, s1, s2, s3, s4, fl2⟩
  case inr => exact ⟨0, M2, N2, by rw [s1, bi_some, it0, b1_0], s2, t3.tr s3, t4.tr s4, Or.inr ⟨rfl, fl2⟩⟩
  obtain ⟨b3, M3, N3, u1, u2, u3, u4, u5⟩ := members_eq (F := F) ps2 rx2 rm2 wf2 hF
  rw [s1, bi_some, it1, s2, u1, bi_some]
  refine ⟨b3, M3, N3, ?_, u2, (t3.tr s3).tr u3, (t4.tr s4).tr u4, u5⟩
  rcases u5 with ⟨rfl, -⟩ | ⟨rfl, -⟩
  · rw [it1, b1_1]
  · rw [it0, b1_0]
theorem ps_world (hF : 300 < F) : ps_ok Sim (fun M => fX8_world F M) (fun M => fX9_world F M) := by
  rintro MX MM ⟨w, hc, ht⟩
  show ∃ (r : Int32) (MX' MM' : mv_M), fX8_world F MX = some (r, MX') ∧ fX9_world F MM = some (r, MM') ∧ Sim MX' MM'
  obtain ⟨hw, hX, hM, -, ⟨n, hn, e1, e2, e3⟩, -, hfa, -⟩ := id hc
  unfold fX8_world fX9_world
  rw [let_eq, let_eq]
  obtain ⟨N1, z1, z2, z3, z4⟩ := world9_zero (F := F) (MM := MM) (fun s2 : mv_M => mv_let (mv_wI s2 0 10 (0 : Int32)) (fun M4 => mv_bi (fX9_takesAll F M4) (fun v6 M5 => mv_let v6 (fun v7 => mv_let (mv_wI M5 0 3 (0 : Int32)) (fun M8 => (if v7 = 0 then some (((-1000100 : Int32) - (M8.1 0 11)), M8) else mv_bv (fX9_copyOf F M8 (83 : Int32) (0 : Int32)) (fun M9 => mv_let (mv_wI M9 0 1 (0 : Int32)) (fun M10 => mv_ob (1 : Int32) 2324 (some ((M10.1 1 (1 : Int32).toNatClampNeg), M10)))))))))) hF
  rw [z1]
  unfold fX4_readTape
  rw [let_eq, let_eq, let_eq, let_eq, let_eq, let_eq]
  have q8 : fw8 MX (mv_wI (mv_wI (mv_wI (mv_wI (mv_wI MX 41 3 0) 41 4 0) 43 0 0) 43 1 0) 43 2 0) := ⟨rfl, fun i j h1 h2 => by rw [wI_ne (by omega), wI_ne (by omega), wI_ne (by omega), wI_ne (by omega), wI_ne (by omega)]⟩
  have q430 : (mv_wI (mv_wI (mv_wI (mv_wI (mv_wI MX 41 3 0) 41 4 0) 43 0 0) 43 1 0) 43 2 0).1 43 0 = 0 := by rw [wI_ne (by omega), wI_ne (by omega), wI_eq]
  have q431 : (mv_wI (mv_wI (mv_wI (mv_wI (mv_wI MX 41 3 0) 41 4 0) 43 0 0) 43 1 0) 43 2 0).1 43 1 = 0 := by rw [wI_ne (by omega), wI_eq]
  have q432 : (mv_wI (mv_wI (mv_wI (mv_wI (mv_wI MX 41 3 0) 41 4 0) 43 0 0) 43 1 0) 43 2 0).1 43 2 = 0 := wI_eq
  have q413 : (mv_wI (mv_wI (mv_wI (mv_wI (mv_wI MX 41 3 0) 41 4 0) 43 0 0) 43 1 0) 43 2 0).1 41 3 = 0 := by rw [wI_ne (by omega), wI_ne (by omega), wI_ne (by omega), wI_ne (by omega), wI_eq]
  generalize mv_wI (mv_wI (mv_wI (mv_wI (mv_wI MX 41 3 0) 41 4 0) 43 0 0) 43 1 0) 43 2 0 = M1 at q8 q430 q431 q432 q413
  have r9 : fw9 MM (mv_wI N1 0 10 0) := ⟨z2, fun i j h1 h2 => by rw [wI_ne (by omega), z3 _ _ h2]⟩
  have ps : PS n (fun j => MX.1 42 j) (MM.1 0 4) 0 M1 (mv_wI N1 0 10 0) := by
    refine ⟨by rw [q8.2 _ _ (by omega) (by omega)]; exact e1, by rw [r9.2 _ _ (by omega) (by omega)]; exact e2, fun j hj => ⟨by rw [q8.2 _ _ (by omega) (by omega)], by rw [r9.2 _ _ (by omega) (by omega)]; exact (e3 j hj).symm⟩, by rw [q413, nI_0], by rw [wI_eq, nI_0], by omega, hn, by rw [wI_ne (by omega), z3 _ _ (by omega)]⟩
  have hr : RM (mv_wI N1 0 10 0) 83 (fun _ => 0) := RM_fr (M := N1) (fun j _ _ => wI_ne (by omega)) z4
  obtain ⟨b, M2, N2, t1, t2, t3, t4, t5⟩ := tape_eq (F := F) ps q430 q431 q432 hr hF
  rw [t1, bi_some, t2, bi_some, let_eq, let_eq, let_eq]
  unfold fX4_emptyTape
  rw [let_eq, bv_some]
  have T8 := q8.tr t3
  have T9 := r9.tr t4
  rcases t5 with ⟨rfl, v', a', ps2, rx2, rm2, wf2, v0⟩ | ⟨rfl, fl⟩
  case inr =>
    rw [it0, it0, let_eq]
    have f1 : (mv_wI N2 0 3 0).1 0 11 = N2.1 0 11 := wI_ne (by omega)
    refine ⟨(-1000100 : Int32) - N2.1 0 11, mv_wI (mv_wI M2 41 1 0) 0 9 (M2.1 41 4), mv_wI N2 0 3 0, ?_, by rw [f1], w, core_fault hc (fun i j hl h1 h2 => ?_) (fun i j hl h1 h2 => ?_) ⟨0, by omega, ?_, ?_, fun j hj => absurd hj (by omega)⟩ ?_, ?_⟩
    · rw [wI_ne (a := 0) (by omega), wI_ne (a := 41) (i := 41) (j := 3) (by omega), wI_ne (a := 41) (i := 41) (j := 4) (by omega), fl.2]
    · rw [wI_ne h2, wI_ne (by omega), T8.2 _ _ (by omega) (by unfold LvX at hl; omega)]
    · rw [wI_ne (by omega), T9.2 _ _ (by unfold LvM at hl; omega) (by unfold LvM at hl; omega)]
    · rw [wI_ne (by omega), wI_eq, nI_0]
    · rw [wI_eq, nI_0]
    · rw [wI_eq, wI_ne (by omega)]; exact fl.1
    · exact tab_same (M := MX) T8.1 (by rw [wI_ne (by omega), wI_ne (by omega), T8.2 _ _ (by omega) (by omega)]) ht
  rw [it1, it1]
  have hc2 : core w (mv_wI M2 41 1 0) (mv_wI N2 0 3 0) := by
    refine core_fault hc (fun i j hl h1 h2 => ?_) (fun i j hl h1 h2 => ?_) ⟨0, by omega, by rw [wI_eq, nI_0], by rw [wI_eq, nI_0], fun j hj => absurd hj (by omega)⟩ ?_
    · rw [wI_ne (by omega), T8.2 _ _ (by omega) (by unfold LvX at hl; omega)]
    · rw [wI_ne (by omega), T9.2 _ _ (by unfold LvM at hl; omega) (by unfold LvM at hl; omega)]
    · rw [wI_ne (by omega), T8.2 _ _ (by omega) (by omega), wI_ne (by omega), ps2.2.2.2.2.2.2.2]; exact hfa
  have rx3 : RX (mv_wI M2 41 1 0) 43 44 v' := RX_fr (M := M2) (fun i j hi => wI_ne (by omega)) rx2
  have rm3 : RM (mv_wI N2 0 3 0) 83 v' := RM_fr (M := N2) (fun j _ _ => wI_ne (by omega)) rm2
  obtain ⟨M3, b1, b2, b3, b4⟩ := X7_become_o43 (F := F) rx3 ⟨wf2.1, wf2.2.1⟩
  obtain ⟨N3, c1, c2, c3, c4⟩ := copyOf_eq (F := F) (M := mv_wI N2 0 3 0) (a := 83) (b := 0) (by omega) (by omega) (by omega) (by omega)
  have rm4 : RM N3 0 v' := RM_copy (a := 83) rm3 c4
  have g11 : (mv_wI (mv_wI M3 52 3 0) 58 1 0).1 1 1 = nI (v' 1) := by rw [wI_ne (by omega), wI_ne (by omega)]; exact b2.2.1
  refine ⟨nI (v' 1), mv_wI (mv_wI M3 52 3 0) 58 1 0, mv_wI N3 0 1 0, ?_, ?_, v', core_world hc2 (fun i j hl h1 h2 => ?_) (fun i j hl h1 h2 => ?_) wf2 (RX_fr (M := M3) (fun i j hi => by rw [wI_ne (by omega), wI_ne (by omega)]) b2) (RM_fr (M := N3) (fun j _ _ => wI_ne (by omega)) rm4) ⟨fun _ => v', 0, by decide, rfl, ?_, ?_, fun i hi => absurd hi (by omega)⟩, ?_⟩
  · unfold fX8_standAs_o43
    rw [b1, bv_some, let_eq, let_eq, bv_some, g11]
  · rw [show fX9_copyOf F (mv_wI N2 0 3 0) (83 : Int32) (0 : Int32) = some N3 from c1, bv_some, let_eq, ob_1, cl_1, wI_ne (by omega), RM_at rm4 (by decide)]
  · rw [wI_ne (by unfold LvX at hl; omega), wI_ne (by omega), b4 _ _ (by omega)]
  · rw [wI_ne h2, c3 _ _ (by omega)]
  · rw [wI_ne (by omega), wI_eq, nI_0]
  · rw [wI_eq, nI_0]
  · exact tab_new (M := MX) (b3.trans T8.1) wI_eq ht
end READM
