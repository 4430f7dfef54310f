/-! WORDS -/
/-- a stack of types in a row of numbers, the next last -/
def rep (f : Nat → Int32) : List Nat → Prop
  | [] => True
  | t :: s => f s.length = nI t ∧ rep f s
theorem rep_congr {f g : Nat → Int32} : ∀ {s : List Nat}, (∀ q, q < s.length → g q = f q) → rep f s → rep g s := by
  intro s
  induction s with
  | nil => intro _ _; trivial
  | cons t s ih =>
    intro h hr
    refine ⟨?_, ih (fun q hq => h q (by show q < s.length + 1; omega)) hr.2⟩
    rw [h _ (by show s.length < s.length + 1; omega)]; exact hr.1
/-- what waits behind i members of a code -/
def stk (w : Nat → Nat) (c : Nat → Nat) : Nat → List Nat
  | 0 => []
  | i + 1 => tk w (c i) ++ (stk w c i).tail
theorem tk_len {w : Nat → Nat} (hw : WF w) {k : Nat} (hk : k < w 1) : (tk w k).length = w (47 + k) := by
  have := (hw.2.2.2.2.2 k hk).2.2.2.1
  unfold tk
  by_cases e0 : w (47 + k) = 0
  · rw [if_pos e0, e0]; rfl
  · by_cases e1 : w (47 + k) = 1
    · rw [if_neg e0, if_pos e1, e1]; rfl
    · rw [if_neg e0, if_neg e1, show w (47 + k) = 2 by omega]; rfl
theorem tk_T {w : Nat → Nat} (hw : WF w) {k : Nat} (hk : k < w 1) : ∀ t ∈ tk w k, t < w 0 := by
  obtain ⟨-, -, -, htk, -, -, hf, hs⟩ := hw.2.2.2.2.2 k hk
  intro t ht
  unfold tk at ht
  by_cases e0 : w (47 + k) = 0
  · rw [if_pos e0] at ht; cases ht
  · by_cases e1 : w (47 + k) = 1
    · rw [if_neg e0, if_pos e1] at ht
      rw [List.mem_singleton] at ht
      rw [ht]; exact hf (by omega)
    · rw [if_neg e0, if_neg e1] at ht
      rcases List.mem_cons.mp ht with q | q
      · rw [q]; exact hf (by omega)
      · rw [List.mem_singleton] at q
        rw [q]; exact hs (by omega)
def cN (cd : Nat → Int32) (e : Nat) : Nat := (cd e).toNatClampNeg
def OKe (w : Nat → Nat) (cd : Nat → Int32) (e : Nat) : Prop := cN cd e < w 1 ∧ cd e = nI (cN cd e) ∧ bt (w 2) (cN cd e) ≠ 1 ∧ (e = 0 ∨ ∃ u s, stk w (cN cd) e = u :: s ∧ bt (ofb w (w (23 + cN cd e))) u = 1)
def Wh (w : Nat → Nat) (cd : Nat → Int32) (n : Nat) : Prop := (∀ e, e < n → OKe w cd e) ∧ stk w (cN cd) n = []
theorem tail_len (l : List Nat) : l.tail.length = l.length - 1 := List.length_tail
theorem stk_len {w : Nat → Nat} (hw : WF w) {c : Nat → Nat} : ∀ i, (∀ e, e < i → c e < w 1) → (stk w c i).length ≤ i + 1 := by
  intro i
  induction i with
  | zero => intro _; exact Nat.zero_le _
  | succ i ih =>
    intro h
    have h1 := ih (fun e he => h e (by omega))
    have h2 := tk_len hw (h i (by omega))
    have h3 := (hw.2.2.2.2.2 _ (h i (by omega))).2.2.2.1
    show (tk w (c i) ++ (stk w c i).tail).length ≤ _
    rw [List.length_append, tail_len]
    omega
theorem stk_T {w : Nat → Nat} (hw : WF w) {c : Nat → Nat} : ∀ i, (∀ e, e < i → c e < w 1) → ∀ t ∈ stk w c i, t < w 0 := by
  intro i
  induction i with
  | zero => intro _ t ht; cases ht
  | succ i ih =>
    intro h t ht
    rcases List.mem_append.mp ht with q | q
    · exact tk_T hw (h i (by omega)) t q
    · exact ih (fun e he => h e (by omega)) t (List.mem_of_mem_tail q)
section WORDS8
variable {F : Nat} {w : Nat → Nat}
theorem len_in {M : mv_M} {a : Int32} (h : ¬ a < (1 : Int32) ∧ a ≤ (24 : Int32)) : fX6_isLength F M a = some (1, M) := by
  unfold fX6_isLength
  rw [if_neg h.1, if_neg (Int32.not_lt.mpr h.2), b1_1]
theorem len_out {M : mv_M} {a : Int32} (h : a < (1 : Int32) ∨ (24 : Int32) < a) : fX6_isLength F M a = some (0, M) := by
  unfold fX6_isLength
  by_cases h1 : a < 1
  · rw [if_pos h1, b1_0]
  · rcases h with h | h
    · exact absurd h h1
    · rw [if_neg h1, if_pos h, b1_0]
theorem fits_eq {M : mv_M} {cd : Nat → Int32} {i : Nat} (hX : RX M 1 2 w) (hw : WF w) (hi : i < 24) (hcd : M.1 110 i = cd i) (hg : ∀ e, e < i → cN cd e < w 1) (hr : rep (M.1 111) (stk w (cN cd) i)) (h0 : i = 0 ∨ stk w (cN cd) i ≠ []) : ∃ v : Int32, fX6_fits F M (nI i) (nI (stk w (cN cd) i).length) = some (v, M) ∧ ((v = 1 ∧ OKe w cd i) ∨ (v = 0 ∧ ¬ OKe w cd i)) := by
  have h12 := hw.2.1
  have h8 := hw.1
  unfold fX6_fits
  rw [ob_nI hi (by decide), nI_clamp (by omega), let_eq, hcd]
  rcases ix_cases (cd i) (show w 1 < 2 ^ 31 by omega) with h | ⟨m, hm, hcm⟩
  · refine ⟨0, by rw [fX7_hasMember_out hX h, bi_some, it0, b1_0], Or.inr ⟨rfl, fun ok => ?_⟩⟩
    obtain ⟨o1, o2, -⟩ := ok
    rw [o2] at h
    rcases h with h | ⟨-, h⟩
    · exact nI_pos (by omega) h
    · exact nI_ge o1 (by omega) h
  have hcn : cN cd i = m := by unfold cN; rw [hcm, nI_clamp (by omega)]
  rw [hcm, fX7_hasMember_in hX hw hm, bi_some, it1, fX7_isHidden_eq hX hw hm, bi_some]
  rcases bt_01 (w 2) m with e | e
  case inr =>
    rw [e, show nI 1 = (1 : Int32) from rfl, it1]
    exact ⟨0, b1_0 _, Or.inr ⟨rfl, fun ok => ok.2.2.1 (by rw [hcn]; exact e)⟩⟩
  rw [e, nI_0, it0]
  by_cases hi0 : i = 0
  · subst hi0
    exact ⟨1, by rw [nI_0, it0, b1_1], Or.inl ⟨rfl, by rw [hcn]; exact hm, by rw [hcn]; exact hcm, by rw [hcn]; omega, Or.inl rfl⟩⟩
  rw [if_neg (nI_ne0 (by omega) (by omega))]
  obtain ⟨u, s, hs⟩ : ∃ u s, stk w (cN cd) i = u :: s := by
    cases hq : stk w (cN cd) i with
    | nil => rcases h0 with q | q; exact absurd q hi0; exact absurd hq q
    | cons u s => exact ⟨u, s, rfl⟩
  have hu : u < w 0 := stk_T hw i hg u (by rw [hs]; exact List.mem_cons_self)
  have hln := stk_len hw i hg
  rw [hs] at hr hln ⊢
  have hln' : s.length + 1 ≤ i + 1 := hln
  have hl1 : nI (u :: s).length - 1 = nI s.length := nI_pred s.length
  have hru : M.1 111 s.length = nI u := hr.1
  rw [hl1, ob_nI (show s.length < 26 by omega) (by decide), nI_clamp (by omega), hru, fX7_givesOne_eq hX hw hm (by omega), bi_some]
  rcases bt_01 (ofb w (w (23 + m))) u with q | q
  · rw [q, nI_0, it0]
    refine ⟨0, b1_0 _, Or.inr ⟨rfl, fun ok => ?_⟩⟩
    rcases ok.2.2.2 with z | ⟨u', s', z1, z2⟩
    · exact hi0 z
    · rw [hs] at z1
      cases z1
      rw [hcn, q] at z2
      omega
  · rw [q, show nI 1 = (1 : Int32) from rfl, it1]
    exact ⟨1, b1_1 _, Or.inl ⟨rfl, by rw [hcn]; exact hm, by rw [hcn]; exact hcm, by rw [hcn]; omega, Or.inr ⟨u, s, hs, by rw [hcn]; exact q⟩⟩⟩
theorem rep_push {f g : Nat → Int32} {s : List Nat} {t : Nat} (h : rep f s) (ht : g s.length = nI t) (hg : ∀ q, q < s.length → g q = f q) : rep g (t :: s) := ⟨ht, rep_congr hg h⟩
theorem want6_eq {M : mv_M} {m : Nat} {s : List Nat} (hX : RX M 1 2 w) (hw : WF w) (hm : m < w 1) (hs : s.length ≤ 24) (hr : rep (M.1 111) s) : ∃ M' : mv_M, fX6_wantTaken F M (nI m) (nI s.length) = some (nI (tk w m ++ s).length, M') ∧ M'.2 = M.2 ∧ (∀ i j, i ≠ 111 → M'.1 i j = M.1 i j) ∧ rep (M'.1 111) (tk w m ++ s) := by
  have h12 := hw.2.1
  obtain ⟨-, -, -, htk, -, -, -⟩ := hw.2.2.2.2.2 m hm
  obtain ⟨-, -, -, x7, x8, x9⟩ := hX.2.2.2.2 m hm
  have x7 : M.1 7 m = nI (w (47 + m)) := x7
  have x8 : 0 < w (47 + m) → M.1 8 m = nI (w (59 + m)) := x8
  have x9 : 1 < w (47 + m) → M.1 9 m = nI (w (71 + m)) := x9
  have ob : ∀ {α : Type} (G : Option α), mv_ob (nI m) 12 G = G := fun G => ob_nI (by omega) (by decide)
  have cl : (nI m).toNatClampNeg = m := nI_clamp (by omega)
  unfold fX6_wantTaken tk
  simp only [let_eq, ob, cl, x7]
  rcases (show w (47 + m) = 0 ∨ w (47 + m) = 1 ∨ w (47 + m) = 2 by omega) with e | e | e
  · rw [e, if_pos (by decide), if_pos (by decide), if_pos rfl]
    exact ⟨M, rfl, rfl, fun _ _ _ => rfl, hr⟩
  · rw [e, if_pos (by decide), if_neg (by decide), x8 (by omega), ob_nI (show s.length < 26 by omega) (by decide), nI_clamp (by omega), nI_1, if_neg (by decide), if_pos rfl]
    exact ⟨_, rfl, rfl, fun i j hi => wI_ne (by omega), rep_push (s := s) hr wI_eq (fun q hq => wI_ne (by omega))⟩
  · rw [e, if_neg (by decide), x9 (by omega), ob_nI (show s.length < 26 by omega) (by decide), nI_clamp (by omega), nI_1, wI_ne (by omega), x7, e, if_neg (by decide), wI_ne (by omega), x8 (by omega), ob_nI (show s.length + 1 < 26 by omega) (by decide), nI_clamp (by omega), nI_1, if_neg (by decide), if_neg (by decide)]
    refine ⟨_, rfl, rfl, fun i j hi => by rw [wI_ne (by omega), wI_ne (by omega)], rep_push (s := w (71 + m) :: s) (f := (mv_wI M 111 s.length (nI (w (71 + m)))).1 111) (rep_push hr wI_eq (fun q hq => wI_ne (by omega))) ?_ (fun q hq => ?_)⟩
    · show (mv_wI _ 111 (s.length + 1) _).1 111 (s.length + 1) = _
      rw [wI_eq]
    · have hq : q < s.length + 1 := hq
      exact wI_ne (by omega)
theorem isWhole8 {M : mv_M} {cd : Nat → Int32} {n : Nat} (hX : RX M 1 2 w) (hw : WF w) (hn : n ≤ 24) (e1 : M.1 109 3 = nI n) (e2 : ∀ e, e < n → M.1 110 e = cd e) (hF : 30 < F) : ∃ (v : Int32) (M' : mv_M), fX6_isWhole F M = some (v, M') ∧ M'.2 = M.2 ∧ (∀ i j, i ≠ 111 → M'.1 i j = M.1 i j) ∧ ((v = 1 ∧ Wh w cd n) ∨ (v = 0 ∧ ¬ Wh w cd n)) := by
  unfold fX6_isWhole
  rw [let_eq, let_eq, let_eq]
  refine lp_rule2 (fun i s => ∃ M' : mv_M, s = (nI (stk w (cN cd) i).length, nI i, M') ∧ M'.2 = M.2 ∧ (∀ i j, i ≠ 111 → M'.1 i j = M.1 i j) ∧ rep (M'.1 111) (stk w (cN cd) i) ∧ ∀ e, e < i → OKe w cd e) n (fun G => ∃ (v : Int32) (M' : mv_M), G = some (v, M') ∧ M'.2 = M.2 ∧ (∀ i j, i ≠ 111 → M'.1 i j = M.1 i j) ∧ ((v = 1 ∧ Wh w cd n) ∨ (v = 0 ∧ ¬ Wh w cd n))) ?_ F 0 (0, 0, M) ⟨M, by show _ = (nI 0, nI 0, M); rw [nI_0], rfl, fun _ _ _ => rfl, trivial, fun e he => absurd he (by omega)⟩ (by omega) (by omega)
  rintro i s f hi ⟨M', rfl, g2, g3, g4, g5⟩
  have hX' : RX M' 1 2 w := RX_fr (M := M) (fun i j hi => g3 i j (by omega)) hX
  have hlt : ∀ e, e < i → cN cd e < w 1 := fun e he => (g5 e he).1
  have hlen := stk_len hw i hlt
  unfold bX6_isWhole_4
  dsimp only
  rw [g3 _ _ (by decide), e1]
  by_cases e : i = n
  · left
    subst e
    rw [if_pos (nI_le (Nat.le_refl _) (by omega))]
    cases hq : stk w (cN cd) i with
    | nil => exact ⟨1, M', by show (if nI 0 = 0 then mv_b1 (1 : Int32) _ else _) = _; rw [if_pos nI_0, b1_1], g2, g3, Or.inl ⟨rfl, g5, hq⟩⟩
    | cons u s =>
      rw [hq] at hlen
      have hlen : s.length + 1 ≤ i + 1 := hlen
      refine ⟨0, M', ?_, g2, g3, Or.inr ⟨rfl, fun z => ?_⟩⟩
      · show (if nI (s.length + 1) = 0 then _ else mv_b1 (0 : Int32) _) = _
        rw [if_neg (nI_ne0 (by omega) (by omega)), b1_0]
      · have := z.2; rw [hq] at this; cases this
  have hi' : i < n := by omega
  rw [if_neg (nI_ge hi' (by omega))]
  have hcd : M'.1 110 i = cd i := by rw [g3 _ _ (by decide)]; exact e2 i hi'
  have ob24 : ∀ {α : Type} (G : Option α), mv_ob (nI i) 24 G = G := fun G => ob_nI (by omega) (by decide)
  have cli : (nI i).toNatClampNeg = i := nI_clamp (by omega)
  have htail : (if (nI (stk w (cN cd) i).length - (1 : Int32)) < (0 : Int32) then (0 : Int32) else (nI (stk w (cN cd) i).length - (1 : Int32))) = nI (stk w (cN cd) i).tail.length := by
    cases hq : stk w (cN cd) i with
    | nil => rfl
    | cons u s =>
      rw [hq] at hlen
      have hlen : s.length + 1 ≤ i + 1 := hlen
      have : nI (u :: s).length - (1 : Int32) = nI s.length := nI_pred s.length
      rw [this, if_neg (nI_pos (by omega))]; rfl
  have hrt : rep (M'.1 111) (stk w (cN cd) i).tail := by
    cases hq : stk w (cN cd) i with
    | nil => trivial
    | cons u s => rw [hq] at g4; exact g4.2
  have hgo : OKe w cd i → ∃ s', (∃ M2 : mv_M, s' = (nI (stk w (cN cd) (i + 1)).length, nI (i + 1), M2) ∧ M2.2 = M.2 ∧ (∀ i j, i ≠ 111 → M2.1 i j = M.1 i j) ∧ rep (M2.1 111) (stk w (cN cd) (i + 1)) ∧ ∀ e, e < i + 1 → OKe w cd e) ∧ mv_bi (fX6_wantTaken F M' (M'.1 110 i) (nI (stk w (cN cd) i).tail.length)) (fun v10 M9 => mv_let v10 (fun v11 => mv_let (nI i + (1 : Int32)) (fun v12 => f (v11, v12, M9)))) = f s' := fun ok => by
    obtain ⟨o1, o2, -⟩ := id ok
    obtain ⟨M2, p1, p2, p3, p4⟩ := want6_eq (F := F) (M := M') (m := cN cd i) (s := (stk w (cN cd) i).tail) hX' hw o1 (by rw [tail_len]; omega) hrt
    refine ⟨_, ⟨M2, rfl, p2.trans g2, fun a b hab => by rw [p3 _ _ hab, g3 _ _ hab], p4, fun e he => ?_⟩, ?_⟩
    · by_cases ee : e = i
      · rw [ee]; exact ok
      · exact g5 e (by omega)
    · rw [hcd, o2, p1, bi_some, let_eq, let_eq, nI_1]; rfl
  by_cases hi0 : i = 0
  · have hle0 : nI i ≤ 0 := by rw [hi0]; decide
    rw [if_pos hle0]
    obtain ⟨v, q1, q2⟩ := fits_eq (F := F) hX' hw (by omega) hcd hlt g4 (Or.inl hi0)
    rw [q1, bi_some]
    rcases q2 with ⟨rfl, ok⟩ | ⟨rfl, nok⟩
    · right
      obtain ⟨s', h1, h2⟩ := hgo ok
      refine ⟨hi', s', h1, ?_⟩
      rw [it1, ob24, cli, htail]; exact h2
    · left
      rw [it0]
      exact ⟨0, M', b1_0 _, g2, g3, Or.inr ⟨rfl, fun z => nok (z.1 i hi')⟩⟩
  · rw [if_neg (nI_nle (by omega) (by omega))]
    by_cases hz : stk w (cN cd) i = []
    · left
      rw [hz]
      refine ⟨0, M', by show (if nI 0 = 0 then mv_b1 (0 : Int32) _ else _) = _; rw [if_pos nI_0, b1_0], g2, g3, Or.inr ⟨rfl, fun z => ?_⟩⟩
      rcases (z.1 i hi').2.2.2 with y | ⟨u, s, y, -⟩
      · exact hi0 y
      · rw [hz] at y; cases y
    · have hne : ¬ nI (stk w (cN cd) i).length = 0 := by
        have : 0 < (stk w (cN cd) i).length := Nat.pos_of_ne_zero (fun q => hz (List.length_eq_zero_iff.mp q))
        exact nI_ne0 this (by omega)
      rw [if_neg hne]
      obtain ⟨v, q1, q2⟩ := fits_eq (F := F) hX' hw (by omega) hcd hlt g4 (Or.inr hz)
      rw [q1, bi_some]
      rcases q2 with ⟨rfl, ok⟩ | ⟨rfl, nok⟩
      · right
        obtain ⟨s', h1, h2⟩ := hgo ok
        refine ⟨hi', s', h1, ?_⟩
        rw [it1, ob24, cli, htail]; exact h2
      · left
        rw [it0]
        exact ⟨0, M', b1_0 _, g2, g3, Or.inr ⟨rfl, fun z => nok (z.1 i hi')⟩⟩
theorem priceT8 {M : mv_M} {cd : Nat → Int32} {n : Nat} (hX : RX M 1 2 w) (hw : WF w) (hn : n ≤ 24) (e1 : M.1 109 3 = nI n) (e2 : ∀ e, e < n → M.1 110 e = cd e) (hg : ∀ e, e < n → OKe w cd e) (hF : 30 < F) : fX6_priceTogether F M = some (nI (sm (fun e => pr w (cN cd e)) n), M) := by
  unfold fX6_priceTogether
  rw [let_eq, let_eq]
  have h0 : ((0 : Int32), (0 : Int32), M) = (fun i : Nat => (nI (sm (fun e => pr w (cN cd e)) i), nI i, M)) 0 := by
    show _ = (nI 0, nI 0, M); rw [nI_0]
  rw [h0]
  refine lp_for (fun i : Nat => (nI (sm (fun e => pr w (cN cd e)) i), nI i, M)) n (fun i hi f => ?_) (fun f => ?_) F 0 (by omega) (by omega)
  · show bX6_priceTogether_4 F f (nI (sm (fun e => pr w (cN cd e)) i), nI i, M) = f (nI (sm (fun e => pr w (cN cd e)) i + pr w (cN cd i)), nI (i + 1), M)
    obtain ⟨o1, o2, -⟩ := hg i hi
    unfold bX6_priceTogether_4
    dsimp only
    rw [e1, if_neg (nI_ge hi (by omega)), ob_nI (show i < 24 by omega) (by decide), nI_clamp (by omega), e2 i hi, o2, fX7_priceOf_eq hX hw o1, bi_some, let_eq, let_eq, nI_add, nI_1]
  · show bX6_priceTogether_4 F f (nI (sm (fun e => pr w (cN cd e)) n), nI n, M) = _
    unfold bX6_priceTogether_4
    dsimp only
    rw [e1, if_pos (nI_le (Nat.le_refl _) (by omega))]
theorem push9_end {M : mv_M} {d a b e v14 : Int32} {Mr : mv_M} {m : Nat} (f8 : Int32 × Int32 × Int32 × mv_M → Option (Int32 × mv_M)) (f : Int32 × Int32 × mv_M → Option (Int32 × mv_M)) : bX9_isWhole_146 (a, b, e, Mr) f8 v14 (nI m) f (d, -1, M) = f8 (d, v14, e + 1, M) := by
  unfold bX9_isWhole_146
  dsimp only
  rw [if_pos (by decide), let_eq]
theorem push9_0 {M Mr : mv_M} {m d : Nat} {a b e v14 : Int32} (f8 : Int32 × Int32 × Int32 × mv_M → Option (Int32 × mv_M)) (f : Int32 × Int32 × mv_M → Option (Int32 × mv_M)) (hM : RM M 0 w) (hm : m < 12) (hd : d < 64) : bX9_isWhole_146 (a, b, e, Mr) f8 v14 (nI m) f (nI d, 0, M) = f (nI (d + 1), -1, mv_wI M 8 d (nI (w (59 + m)))) := by
  have i59 : ((59 : Int32) + ((12 : Int32) * 0)) + nI m = nI (59 + m) := by rw [show (59 : Int32) + (12 : Int32) * 0 = nI 59 by decide, nI_add]
  unfold bX9_isWhole_146
  dsimp only
  rw [if_neg (by decide), i59, ob_nI (show 59 + m < 2324 by omega) (by decide), ob_nI hd (by decide), nI_clamp (by omega), nI_clamp (by omega), RM_at hM (by omega), let_eq, let_eq, let_eq, nI_1, show (0 : Int32) + (-1) = -1 by decide]
theorem push9_1 {M Mr : mv_M} {m d : Nat} {a b e v14 : Int32} (f8 : Int32 × Int32 × Int32 × mv_M → Option (Int32 × mv_M)) (f : Int32 × Int32 × mv_M → Option (Int32 × mv_M)) (hM : RM M 0 w) (hm : m < 12) (hd : d < 64) : bX9_isWhole_146 (a, b, e, Mr) f8 v14 (nI m) f (nI d, 1, M) = f (nI (d + 1), 0, mv_wI M 8 d (nI (w (71 + m)))) := by
  have i71 : ((59 : Int32) + ((12 : Int32) * 1)) + nI m = nI (71 + m) := by rw [show (59 : Int32) + (12 : Int32) * 1 = nI 71 by decide, nI_add]
  unfold bX9_isWhole_146
  dsimp only
  rw [if_neg (by decide), i71, ob_nI (show 71 + m < 2324 by omega) (by decide), ob_nI hd (by decide), nI_clamp (by omega), nI_clamp (by omega), RM_at hM (by omega), let_eq, let_eq, let_eq, nI_1, show (1 : Int32) + (-1) = 0 by decide]
theorem lp_succ {σ α : Type} {B : (σ → Option α) → σ → Option α} {n : Nat} {s : σ} : mv_lp B (n + 1) s = B (mv_lp B n) s := rfl
theorem push9 {M Mr : mv_M} {m e : Nat} {s : List Nat} {a b v14 : Int32} (f8 : Int32 × Int32 × Int32 × mv_M → Option (Int32 × mv_M)) (hM : RM M 0 w) (hw : WF w) (hm : m < w 1) (hs : s.length ≤ 60) (hr : rep (M.1 8) s) (hF : 30 < F) : ∃ M' : mv_M, mv_lp (bX9_isWhole_146 (a, b, nI e, Mr) f8 v14 (nI m)) F (nI s.length, nI (w (47 + m)) - 1, M) = f8 (nI (tk w m ++ s).length, v14, nI (e + 1), M') ∧ M'.2 = M.2 ∧ (∀ i j, i ≠ 8 → M'.1 i j = M.1 i j) ∧ rep (M'.1 8) (tk w m ++ s) := by
  have h12 := hw.2.1
  obtain ⟨-, -, -, htk, -, -, -⟩ := hw.2.2.2.2.2 m hm
  obtain ⟨F', hF'⟩ : ∃ F', F = F' + 1 + 1 + 1 := ⟨F - 3, by omega⟩
  rw [hF']
  rcases (show w (47 + m) = 0 ∨ w (47 + m) = 1 ∨ w (47 + m) = 2 by omega) with q | q | q
  · have et : tk w m = [] := by unfold tk; rw [if_pos q]
    rw [q, et, show nI 0 - 1 = (-1 : Int32) by decide, lp_succ, push9_end, nI_1]
    exact ⟨M, rfl, rfl, fun _ _ _ => rfl, hr⟩
  · have et : tk w m = [w (59 + m)] := by unfold tk; rw [if_neg (by omega), if_pos q]
    rw [q, et, show nI 1 - 1 = (0 : Int32) by decide, lp_succ, push9_0 (w := w) _ _ hM (by omega) (by omega), lp_succ, push9_end, nI_1]
    exact ⟨_, rfl, rfl, fun i j hi => wI_ne (by omega), rep_push (s := s) hr wI_eq (fun q hq => wI_ne (by omega))⟩
  · have et : tk w m = [w (59 + m), w (71 + m)] := by unfold tk; rw [if_neg (by omega), if_neg (by omega)]
    rw [q, et, show nI 2 - 1 = (1 : Int32) by decide, lp_succ, push9_1 (w := w) _ _ hM (by omega) (by omega), lp_succ, push9_0 (w := w) _ _ (RM_fr (M := M) (fun j _ _ => wI_ne (by omega)) hM) (by omega) (by omega), lp_succ, push9_end, nI_1]
    refine ⟨_, rfl, rfl, fun i j hi => by rw [wI_ne (by omega), wI_ne (by omega)], rep_push (s := w (71 + m) :: s) (f := (mv_wI M 8 s.length (nI (w (71 + m)))).1 8) (rep_push (s := s) hr wI_eq (fun q hq => wI_ne (by omega))) ?_ (fun q hq => ?_)⟩
    · show (mv_wI _ 8 (s.length + 1) _).1 8 (s.length + 1) = _
      rw [wI_eq]
    · have hq : q < s.length + 1 := hq
      exact wI_ne (by omega)
theorem isWhole9 {M : mv_M} {cd : Nat → Int32} {o n : Nat} (hM : RM M 0 w) (hw : WF w) (hn : n ≤ 24) (ho : o + n ≤ 320) (e2 : ∀ e, e < n → M.1 5 (o + e) = cd e) (hF : 30 < F) : ∃ (v : Int32) (M' : mv_M), fX9_isWhole F M (nI o) (nI n) = some (v, M') ∧ M'.2 = M.2 ∧ (∀ i j, i ≠ 8 → ¬ (i = 0 ∧ j = 19) → M'.1 i j = M.1 i j) ∧ ((v = 1 ∧ Wh w cd n ∧ M'.1 0 19 = nI (sm (fun e => pr w (cN cd e)) n)) ∨ (v = 0 ∧ ¬ Wh w cd n)) := by
  have h12 := hw.2.1
  have h8 := hw.1
  unfold fX9_isWhole
  rw [let_eq, let_eq, let_eq, let_eq, let_eq]
  refine lp_rule2 (fun i s => ∃ (d v : Int32) (M' : mv_M), s = (d, v, nI i, M') ∧ M'.2 = M.2 ∧ (∀ i j, i ≠ 8 → ¬ (i = 0 ∧ j = 19) → M'.1 i j = M.1 i j) ∧ ((v = 1 ∧ d = nI (stk w (cN cd) i).length ∧ rep (M'.1 8) (stk w (cN cd) i) ∧ (∀ e, e < i → OKe w cd e) ∧ M'.1 0 19 = nI (sm (fun e => pr w (cN cd e)) i)) ∨ (v = 0 ∧ ¬ Wh w cd n))) n (fun G => ∃ (v : Int32) (M' : mv_M), G = some (v, M') ∧ M'.2 = M.2 ∧ (∀ i j, i ≠ 8 → ¬ (i = 0 ∧ j = 19) → M'.1 i j = M.1 i j) ∧ ((v = 1 ∧ Wh w cd n ∧ M'.1 0 19 = nI (sm (fun e => pr w (cN cd e)) n)) ∨ (v = 0 ∧ ¬ Wh w cd n))) ?_ F 0 (0, 1, 0, mv_wI M 0 19 0) ⟨0, 1, mv_wI M 0 19 0, by rw [nI_0], rfl, fun i j _ h => wI_ne h, Or.inl ⟨rfl, nI_0.symm, trivial, fun e he => absurd he (by omega), by rw [wI_eq]; exact nI_0.symm⟩⟩ (by omega) (by omega)
  rintro i s f hi ⟨d, v, M', rfl, g2, g3, hcase⟩
  have hM' : RM M' 0 w := RM_fr (M := M) (fun j _ _ => g3 _ _ (by omega) (by omega)) hM
  unfold bX9_isWhole_13
  dsimp only
  rcases hcase with ⟨rfl, rfl, g4, g5, g6⟩ | ⟨rfl, nwh⟩
  case inr =>
    left
    refine ⟨0, M', ?_, g2, g3, Or.inr ⟨rfl, nwh⟩⟩
    rw [it0, it0, b1_0]
    split <;> rfl
  have hlt : ∀ e, e < i → cN cd e < w 1 := fun e he => (g5 e he).1
  have hlen := stk_len hw i hlt
  by_cases e : i = n
  · left
    subst e
    rw [if_pos (nI_le (Nat.le_refl _) (by omega)), it1]
    cases hq : stk w (cN cd) i with
    | nil => exact ⟨1, M', by show (if nI 0 = 0 then mv_b1 (1 : Int32) _ else _) = _; rw [if_pos nI_0, b1_1], g2, g3, Or.inl ⟨rfl, ⟨g5, hq⟩, g6⟩⟩
    | cons u s =>
      rw [hq] at hlen
      have hlen : s.length + 1 ≤ i + 1 := hlen
      refine ⟨0, M', ?_, g2, g3, Or.inr ⟨rfl, fun z => ?_⟩⟩
      · show (if nI (s.length + 1) = 0 then _ else mv_b1 (0 : Int32) _) = _
        rw [if_neg (nI_ne0 (by omega) (by omega)), b1_0]
      · have := z.2; rw [hq] at this; cases this
  right
  have hi' : i < n := by omega
  refine ⟨hi', ?_⟩
  have hcd : M'.1 5 (o + i) = cd i := by rw [g3 _ _ (by decide) (by omega)]; exact e2 i hi'
  rw [if_neg (nI_ge hi' (by omega)), it1, nI_add, ob_nI (show o + i < 320 by omega) (by decide), nI_clamp (by omega), let_eq, hcd]
  have hbad : ¬ OKe w cd i → ∃ s', (∃ (d v : Int32) (M2 : mv_M), s' = (d, v, nI (i + 1), M2) ∧ M2.2 = M.2 ∧ (∀ i j, i ≠ 8 → ¬ (i = 0 ∧ j = 19) → M2.1 i j = M.1 i j) ∧ ((v = 1 ∧ d = nI (stk w (cN cd) (i + 1)).length ∧ rep (M2.1 8) (stk w (cN cd) (i + 1)) ∧ (∀ e, e < i + 1 → OKe w cd e) ∧ M2.1 0 19 = nI (sm (fun e => pr w (cN cd e)) (i + 1))) ∨ (v = 0 ∧ ¬ Wh w cd n))) ∧ f (nI (stk w (cN cd) i).length, 0, nI i + 1, M') = f s' := fun nok =>
    ⟨(nI (stk w (cN cd) i).length, 0, nI (i + 1), M'), ⟨_, 0, M', rfl, g2, g3, Or.inr ⟨rfl, fun z => nok (z.1 i hi')⟩⟩, by rw [nI_1]⟩
  rcases ix_cases (cd i) (show w 1 < 2 ^ 31 by omega) with h | ⟨m, hm, hcm⟩
  · rw [fX9_isMember_out hM' hw h, bi_some, let_eq, it0]
    dsimp only
    rw [let_eq, it0, let_eq]
    refine hbad (fun ok => ?_)
    obtain ⟨o1, o2, -⟩ := ok
    rw [o2] at h
    rcases h with h | ⟨-, h⟩
    · exact nI_pos (by omega) h
    · exact nI_ge o1 (by omega) h
  have hcn : cN cd i = m := by unfold cN; rw [hcm, nI_clamp (by omega)]
  rw [hcm, fX9_isMember_in hM' hw hm, bi_some, let_eq, it1, ob_2, cl_2, RM_at hM' (by decide), fX9_has_eq (hid_lt hw) (by omega), bi_some]
  rcases bt_01 (w 2) m with eh | eh
  case inr =>
    rw [eh, show nI 1 = (1 : Int32) from rfl, it1]
    dsimp only
    rw [let_eq, it0, let_eq]
    exact hbad (fun ok => ok.2.2.1 (by rw [hcn]; exact eh))
  rw [eh, nI_0, it0]
  obtain ⟨-, hgv, -, htk, -⟩ := hw.2.2.2.2.2 m hm
  have hrt : rep (M'.1 8) (stk w (cN cd) i).tail := by
    cases hq : stk w (cN cd) i with
    | nil => trivial
    | cons u s => rw [hq] at g4; exact g4.2
  have hgood : OKe w cd i → ∀ x : Int32, nI (stk w (cN cd) i).length - x = nI (stk w (cN cd) i).tail.length → ∃ s', (∃ (d v : Int32) (M2 : mv_M), s' = (d, v, nI (i + 1), M2) ∧ M2.2 = M.2 ∧ (∀ i j, i ≠ 8 → ¬ (i = 0 ∧ j = 19) → M2.1 i j = M.1 i j) ∧ ((v = 1 ∧ d = nI (stk w (cN cd) (i + 1)).length ∧ rep (M2.1 8) (stk w (cN cd) (i + 1)) ∧ (∀ e, e < i + 1 → OKe w cd e) ∧ M2.1 0 19 = nI (sm (fun e => pr w (cN cd e)) (i + 1))) ∨ (v = 0 ∧ ¬ Wh w cd n))) ∧ mv_let (nI (stk w (cN cd) i).length - x) (fun v18 => mv_bi (fX9_priceOf F M' (nI m)) (fun v20 M19 => mv_let (mv_wI M19 0 19 ((M'.1 0 19) + v20)) (fun M21 => mv_ob ((47 : Int32) + nI m) 2324 (mv_let ((M21.1 1 ((47 : Int32) + nI m).toNatClampNeg) - (1 : Int32)) (fun v22 => mv_lp (bX9_isWhole_146 (nI (stk w (cN cd) i).length, 1, nI i, M') f 1 (nI m)) F (v18, v22, M21)))))) = f s' := fun ok x hx => by
    have hM2 : RM (mv_wI M' 0 19 ((M'.1 0 19) + nI (pr w m))) 0 w := RM_fr (M := M') (fun j _ _ => wI_ne (by omega)) hM'
    obtain ⟨M3, p1, p2, p3, p4⟩ := push9 (F := F) (M := mv_wI M' 0 19 ((M'.1 0 19) + nI (pr w m))) (Mr := M') (m := m) (e := i) (s := (stk w (cN cd) i).tail) (a := nI (stk w (cN cd) i).length) (b := 1) (v14 := 1) f hM2 hw hm (by rw [tail_len]; omega) (rep_congr (f := M'.1 8) (fun q _ => wI_ne (by omega)) hrt) hF
    have hst : stk w (cN cd) (i + 1) = tk w m ++ (stk w (cN cd) i).tail := by
      show tk w (cN cd i) ++ _ = _
      rw [hcn]
    refine ⟨(nI (tk w m ++ (stk w (cN cd) i).tail).length, 1, nI (i + 1), M3), ⟨_, 1, M3, rfl, p2.trans g2, fun a b h1 h2 => by rw [p3 _ _ h1, wI_ne h2, g3 _ _ h1 h2], Or.inl ⟨rfl, by rw [hst], by rw [hst]; exact p4, fun e he => ?_, ?_⟩⟩, ?_⟩
    · by_cases ee : e = i
      · rw [ee]; exact ok
      · exact g5 e (by omega)
    · rw [p3 _ _ (by decide), wI_eq, g6, nI_add]
      show _ = nI (sm (fun e => pr w (cN cd e)) i + pr w (cN cd i))
      rw [hcn]
    · rw [let_eq, fX9_priceOf_eq hM' hw hm, bi_some, let_eq, ob_add (ai := (47 : Int32)) (a := 47) rfl (by omega), cl_add (ai := (47 : Int32)) (a := 47) rfl (by omega), RM_at hM2 (by omega), let_eq, hx]
      exact p1
  by_cases hi0 : i = 0
  · have hz : nI i = 0 := by rw [hi0]; exact nI_0
    rw [if_pos hz]
    dsimp only
    rw [let_eq, it1, let_eq, if_pos hz]
    refine hgood ⟨by rw [hcn]; exact hm, by rw [hcn]; exact hcm, by rw [hcn]; omega, Or.inl hi0⟩ 0 ?_
    rw [hi0, i_sub0]; rfl
  have hnz : ¬ nI i = 0 := nI_ne0 (by omega) (by omega)
  rw [if_neg hnz]
  cases hq : stk w (cN cd) i with
  | nil =>
    rw [show nI ([] : List Nat).length = 0 from rfl, if_pos (by decide)]
    dsimp only
    rw [let_eq, it0, let_eq]
    rw [hq] at hbad
    refine hbad (fun ok => ?_)
    rcases ok.2.2.2 with y | ⟨u, s, y, -⟩
    · exact hi0 y
    · rw [hq] at y; cases y
  | cons u s =>
    have hu : u < w 0 := stk_T hw i hlt u (by rw [hq]; exact List.mem_cons_self)
    rw [hq] at hlen g4
    have hlen : s.length + 1 ≤ i + 1 := hlen
    have hl1 : nI (u :: s).length - 1 = nI s.length := nI_pred s.length
    have hru : M'.1 8 s.length = nI u := g4.1
    rw [if_neg (show ¬ nI (u :: s).length ≤ 0 from nI_nle (show 0 < s.length + 1 by omega) (show s.length + 1 < 2 ^ 31 by omega)), hl1, ob_add (ai := (23 : Int32)) (a := 23) rfl (by omega), cl_add (ai := (23 : Int32)) (a := 23) rfl (by omega), RM_at hM' (by omega), ob_nI (show s.length < 64 by omega) (by decide), nI_clamp (by omega), hru, fX9_isOf_eq hM' hw hgv (by omega) (by omega), bi_some]
    rw [hq] at hbad hgood
    rcases bt_01 (ofb w (w (23 + m))) u with y | y
    · rw [y, nI_0, it0]
      dsimp only
      rw [let_eq, it0, let_eq]
      refine hbad (fun ok => ?_)
      rcases ok.2.2.2 with z | ⟨u', s', z1, z2⟩
      · exact hi0 z
      · rw [hq] at z1
        cases z1
        rw [hcn, y] at z2
        omega
    · rw [y, show nI 1 = (1 : Int32) from rfl, it1]
      dsimp only
      rw [let_eq, it1, let_eq, if_neg hnz]
      exact hgood ⟨by rw [hcn]; exact hm, by rw [hcn]; exact hcm, by rw [hcn]; omega, Or.inr ⟨u, s, hq, by rw [hcn]; exact y⟩⟩ 1 hl1
theorem take8_in {M : mv_M} {r ln len i n : Nat} (hr : r < 8) (hln : ln ≤ 2) (hl : len ≤ 40) (e1 : M.1 39 r = nI ln) (e3 : M.1 40 r = nI len) (h : i + n ≤ len) (hn : n ≤ 24) : fX6_take F M (nI r) (nI i) (nI n) = some (0, mv_wI (mv_wA M 110 (va_cpy (M.1 (31 + r)) (M.1 110) i 0 n)) 109 3 (nI n)) := by
  unfold fX6_take
  rw [miss_n hr hln e1, bi_some, it0, hasPl_in hr hl e3 h, bi_some, it1, ob_nI hr (by decide), show (0 : Int32) = nI 0 from nI_0.symm, cp_in (show i + n ≤ 40 by omega) (show 0 + n ≤ 24 by omega) (by decide) (by decide), let_eq, let_eq, nI_clamp (by omega), nI_clamp (by omega), nI_clamp (by omega), nI_clamp (by omega)]
/-- what take leaves -/
theorem take8_cd {M : mv_M} {r i n e : Nat} (he : e < n) : (mv_wI (mv_wA M 110 (va_cpy (M.1 (31 + r)) (M.1 110) i 0 n)) 109 3 (nI n)).1 110 e = M.1 (31 + r) (i + e) := by
  rw [wI_ne (by omega), wA_eq, pk_cpy_in (by omega) (by omega)]
  exact congrArg _ (by omega)
theorem ps_word (hF : 300 < F) (a1 a2 a3 a4 : Int32) : ps_ok Sim (fun M => fX8_word F M a1 a2 a3 a4) (fun M => fX9_word F M a1 a2 a3 a4) := by
  rintro MX MM ⟨w, hc, ht⟩
  show ∃ (r : Int32) (MX' MM' : mv_M), fX8_word F MX a1 a2 a3 a4 = some (r, MX') ∧ fX9_word F MM a1 a2 a3 a4 = some (r, MM') ∧ Sim MX' MM'
  obtain ⟨hw, hX, hM, -⟩ := id hc
  have h8 := hw.1
  have h12 := hw.2.1
  unfold fX8_word fX9_word
  rcases ix_cases a1 (show 8 < 2 ^ 31 by decide) with h | ⟨r, hr, rfl⟩
  · exact ⟨-1000001, MX, MM, by rw [isRow8_out h, bi_some, it0], by rw [isRow9_out h, bi_some, it0], w, hc, ht⟩
  rw [isRow8_in hr, bi_some, it1, isRow9_in hr, bi_some, it1]
  rcases rg_cases a3 1 24 with h | h3
  · exact ⟨-1000001, MX, MM, by rw [len_out h, bi_some, it0], by rw [in_out (L := 1) (H := 24) (by decide) (by decide) h, bi_some, it0], w, hc, ht⟩
  rw [len_in h3, bi_some, it1, in_in (L := 1) (H := 24) (by decide) (by decide) h3, bi_some, it1]
  rcases rg_cases a4 0 1 with h | h4
  · exact ⟨-1000001, MX, MM, by rw [rg_out h], by rw [in_out (L := 0) (H := 1) (by decide) (by decide) h, bi_some, it0], w, hc, ht⟩
  rw [rg_in h4, in_in (L := 0) (H := 1) (by decide) (by decide) h4, bi_some, it1, hX.1]
  by_cases h0 : w 0 = 0
  · exact ⟨-1000002, MX, MM, by rw [h0, if_pos nI_0], by rw [isWorld_n hM hw h0, bi_some, it0], w, hc, ht⟩
  rw [if_neg (nI_ne0 (by omega) (by omega)), isWorld_y hM hw h0, bi_some, it1]
  obtain ⟨n, hn1, hn24, rfl⟩ := rg_nat (lo := 1) (hi := 24) rfl rfl (by decide) (by decide) h3
  rcases hc.2.2.2.1 r hr with ⟨e1, e2⟩ | ⟨ln, len, l1, l2, e1, e2, e3, e4, e5⟩
  · refine ⟨(-1000010 : Int32) - 1, mv_wI MX 0 10 1, mv_wI MM 0 5 1, ?_, ?_, w, core_st 1 hc, tab_st 1 (by decide) ht⟩
    · unfold fX6_take
      rw [miss_y hr e1, bi_some, it1]; rfl
    · rw [agst_no hr e2, bi_some, let_eq, if_neg (by decide)]; rfl
  rcases pl_cases a2 (nI n) len with h | ⟨i, n', rfl, hnn, hin⟩
  · refine ⟨(-1000010 : Int32) - 2, mv_wI MX 0 10 2, mv_wI MM 0 5 2, ?_, ?_, w, core_st 2 hc, tab_st 2 (by decide) ht⟩
    · unfold fX6_take
      rw [miss_n hr l1 e1, bi_some, it0, hasPl_out hr l2 e3 h, bi_some, it0]; rfl
    · rw [agst_out hr l2 e4 h, bi_some, let_eq, if_neg (by decide)]; rfl
  have hnn' : n = n' := (nI_eq (by omega) (by omega)).mp hnn
  subst hnn'
  rw [take8_in hr l1 l2 e1 e3 hin hn24, bi_some, let_eq, it0, agst_in hr l2 e4 hin, bi_some, let_eq, if_pos (by decide), let_eq]
  have ea : ((40 : Int32) * nI r) + nI i = nI (40 * r + i) := by rw [show (40 : Int32) = nI 40 from rfl, pk_mul, nI_add]
  rw [ea]
  generalize hMX1 : mv_wI (mv_wA MX 110 (va_cpy (MX.1 (31 + r)) (MX.1 110) i 0 n)) 109 3 (nI n) = MX1
  have hk1 : ∀ a b, a ≠ 110 → a ≠ 109 → MX1.1 a b = MX.1 a b := fun a b h1 h2 => by rw [← hMX1, wI_ne (by omega), wA_ne h1]
  have hk2 : MX1.2 = MX.2 := by rw [← hMX1]; rfl
  have hX1 : RX MX1 1 2 w := RX_fr (M := MX) (fun a b hi => hk1 a b (by omega) (by omega)) hX
  have hM1 : RM (mv_wI MM 0 5 0) 0 w := RM_fr (M := MM) (fun j _ _ => wI_ne (by omega)) hM
  have hn3 : MX1.1 109 3 = nI n := by rw [← hMX1, wI_eq]
  have hcdX : ∀ e, e < n → MX1.1 110 e = (fun e => MM.1 5 (40 * r + i + e)) e := fun e he => by
    rw [← hMX1, take8_cd he, e5 _ (by omega)]
    exact congrArg _ (by omega)
  obtain ⟨v, MX2, p1, p2, p3, p4⟩ := isWhole8 (F := F) (M := MX1) (cd := fun e => MM.1 5 (40 * r + i + e)) (n := n) hX1 hw hn24 hn3 hcdX (by omega)
  obtain ⟨v', MM2, q1, q2, q3, q4⟩ := isWhole9 (F := F) (M := mv_wI MM 0 5 0) (cd := fun e => MM.1 5 (40 * r + i + e)) (o := 40 * r + i) (n := n) hM1 hw hn24 (by omega) (fun e he => wI_ne (by omega)) (by omega)
  rw [p1, bi_some, q1, bi_some]
  have hfin : ∀ MX3 : mv_M, MX3.2 = MX2.2 → (∀ a b, MX3.1 a b = if a = 0 ∧ b = 10 then 0 else MX2.1 a b) → Sim MX3 MM2 := fun MX3 z2 z1 => by
    refine ⟨w, core_stat hc (fun a b hl hne => ?_) (fun a b hl hne => ?_) ?_, tab_same (M := MX) (by rw [z2, p2, hk2]) (by rw [z1, if_neg (by omega), p3 _ _ (by decide), hk1 _ _ (by decide) (by decide)]) ht⟩
    · rw [z1, if_neg hne, p3 _ _ (by unfold LvX at hl; omega), hk1 _ _ (by unfold LvX at hl; omega) (by unfold LvX at hl; omega)]
    · rw [q3 _ _ (by unfold LvM at hl; omega) (by unfold LvM at hl; omega), wI_ne hne]
    · rw [z1, if_pos ⟨rfl, rfl⟩, q3 _ _ (by decide) (by omega), wI_eq]
  have hun : ∀ (x : Int32), fX8_unfound F MX2 x = some (x, mv_wI MX2 0 10 0) := fun x => rfl
  rcases p4 with ⟨rfl, wh⟩ | ⟨rfl, nwh⟩
  case inr =>
    rcases q4 with ⟨rfl, wh, -⟩ | ⟨rfl, -⟩
    · exact absurd wh nwh
    · exact ⟨-1000000, mv_wI MX2 0 10 0, MM2, by rw [it0, hun, bi_some], by rw [it0], hfin _ rfl (fun a b => wI_get _ _ _ _ _ _)⟩
  rcases q4 with ⟨rfl, -, hpr⟩ | ⟨rfl, nwh⟩
  case inr => exact absurd wh nwh
  rw [it1, it1]
  have hX2 : RX MX2 1 2 w := RX_fr (M := MX1) (fun a b hi => p3 a b (by omega)) hX1
  by_cases h40 : a4 = 0
  · have ok0 := wh.1 0 (by omega)
    have hc0 : MM.1 5 (40 * r + i) = nI (cN (fun e => MM.1 5 (40 * r + i + e)) 0) := ok0.2.1
    have hlt0 := ok0.1
    generalize cN (fun e => MM.1 5 (40 * r + i + e)) 0 = c0 at hc0 hlt0
    refine ⟨nI (w (23 + c0)), mv_wI MX2 0 10 0, MM2, ?_, ?_, hfin _ rfl (fun a b => wI_get _ _ _ _ _ _)⟩
    · have hcc : MX2.1 110 0 = nI c0 := by
        rw [p3 _ _ (by decide), hcdX 0 (by omega)]; exact hc0
      have x5 : MX2.1 5 c0 = nI (w (23 + c0)) := (hX2.2.2.2.2 c0 hlt0).2.1
      rw [if_pos h40]
      unfold fX6_given
      rw [show mv_ob (0 : Int32) 24 _ = _ from if_neg (by decide), cl_0, hcc, ob_nI (show c0 < 12 by omega) (by decide), nI_clamp (by omega), x5, bi_some, hun, bi_some]
    · have hM2 : RM MM2 0 w := RM_fr (M := mv_wI MM 0 5 0) (fun j _ _ => q3 _ _ (by omega) (by omega)) hM1
      have hcc : MM2.1 5 (40 * r + i) = nI c0 := by rw [q3 _ _ (by decide) (by omega), wI_ne (by omega)]; exact hc0
      rw [if_pos h40, ob_nI (show 40 * r + i < 320 by omega) (by decide), nI_clamp (by omega), hcc, ob_add (ai := (23 : Int32)) (a := 23) rfl (by omega), cl_add (ai := (23 : Int32)) (a := 23) rfl (by omega), RM_at hM2 (by omega)]
  · have hpt := priceT8 (F := F) (M := MX2) (cd := fun e => MM.1 5 (40 * r + i + e)) (n := n) hX2 hw hn24 (by rw [p3 _ _ (by decide)]; exact hn3) (fun e he => by rw [p3 _ _ (by decide)]; exact hcdX e he) wh.1 (by omega)
    exact ⟨_, mv_wI MX2 0 10 0, MM2, by rw [if_neg h40, hpt, bi_some, hun, bi_some], by rw [if_neg h40, hpr], hfin _ rfl (fun a b => wI_get _ _ _ _ _ _)⟩
end WORDS8
