/-! WHAT THE TWO SIDES HAVE IN COMMON -/
def sRow (MX MM : mv_M) (r : Nat) : Prop :=
  (MX.1 39 r = -1 ∧ MM.1 3 r = -1) ∨ ∃ ln n : Nat, ln ≤ 2 ∧ n ≤ 40 ∧ MX.1 39 r = nI ln ∧ MM.1 4 r = nI ln ∧ MX.1 40 r = nI n ∧ MM.1 3 r = nI n ∧ ∀ j, j < 40 → MX.1 (31 + r) j = MM.1 5 (40 * r + j)
def sRows (MX MM : mv_M) : Prop := ∀ r, r < 8 → sRow MX MM r
def sTape (MX MM : mv_M) : Prop := ∃ n : Nat, n ≤ 140 ∧ MX.1 41 1 = nI n ∧ MM.1 0 3 = nI n ∧ ∀ j, j < n → MX.1 42 j = MM.1 2 j
def sTrace (MX MM : mv_M) : Prop := ∃ n : Nat, n ≤ 16 ∧ MX.1 112 2 = nI n ∧ MM.1 0 22 = nI n ∧ ∀ j, j < n → MX.1 113 j = MM.1 12 j
def sImg (MX MM : mv_M) (k : Nat) : Prop := (MX.1 (11 + k) 0 = 0 ∧ MM.1 11 k = 0) ∨ (MM.1 11 k = 1 ∧ ∃ v : Nat → Nat, WF v ∧ 0 < v 0 ∧ RX MX (11 + k) (13 + 8 * k) v ∧ RM MM (166 + 83 * k) v)
/-- a world with one number another -/
def uw (v : Nat → Nat) (j x : Nat) : Nat → Nat := fun i => if i = j then x else v i
/-- act i of the class, undone, makes u of v -/
def sAct (M : mv_M) (i : Nat) (v u : Nat → Nat) : Prop := ∃ wh was : Nat, M.1 54 i = nI wh ∧ M.1 55 i = nI was ∧
  ((M.1 53 i = 0 ∧ wh < v 1 ∧ was = 1 - bt (v 2) wh ∧ u = uw v 2 (v 2 ^^^ 2 ^ wh)) ∨ (M.1 53 i = 1 ∧ wh < v 1 ∧ 1 ≤ was ∧ was ≤ 9 ∧ u = uw v (35 + wh) was) ∨ (M.1 53 i = 2 ∧ wh < v 0 ∧ was ≤ wh ∧ u = uw v (3 + wh) was))
def sUndo (MX MM : mv_M) (w : Nat → Nat) : Prop := ∃ (us : Nat → Nat → Nat) (n : Nat), n ≤ 24 ∧ us n = w ∧ MX.1 52 3 = nI n ∧ MM.1 0 1 = nI n ∧ ∀ i, i < n → WF (us i) ∧ RM MM (332 + 83 * i) (us i) ∧ sAct MX i (us (i + 1)) (us i)
def core (w : Nat → Nat) (MX MM : mv_M) : Prop :=
  WF w ∧ RX MX 1 2 w ∧ RM MM 0 w ∧ sRows MX MM ∧ sTape MX MM ∧ sTrace MX MM ∧ MX.1 0 9 = MM.1 0 4 ∧ MX.1 0 10 = MM.1 0 5 ∧ sImg MX MM 0 ∧ sImg MX MM 1 ∧ sUndo MX MM w
/-- the class's counts -/
def hb (w : Nat → Nat) (k p : Nat) : Nat := if bt (w 2) k = 1 then 0 else hdW (ct w (w 2)) w k p
def tabs (M : mv_M) (w : Nat → Nat) : Prop := ∀ p, p ≤ 24 → (∀ t, t < w 0 → M.2 (73 + t) p = lN (ct w (w 2) t p)) ∧ ∀ k, k < w 1 → M.2 (60 + k) p = lN (hb w k p)
def zer (M : mv_M) : Prop := (∀ t, t < 8 → M.2 (73 + t) 0 = 0) ∧ (∀ k, k < 12 → M.2 (60 + k) 0 = 0) ∧ ∀ p, p ≤ 24 → M.2 82 p = lN (if p = 0 then 1 else 0)
def tab (w : Nat → Nat) (M : mv_M) : Prop := zer M ∧ (M.1 58 1 = 0 ∨ (M.1 58 1 = 1 ∧ tabs M w))
def Sim (MX MM : mv_M) : Prop := ∃ w : Nat → Nat, core w MX MM ∧ tab w MX
/-! what a part of it looks at -/
theorem RX_fr {M M' : mv_M} {o b : Nat} {w : Nat → Nat} (h : ∀ i j, (i = o ∨ (b ≤ i ∧ i ≤ b + 7)) → M'.1 i j = M.1 i j) (hr : RX M o b w) : RX M' o b w := by
  obtain ⟨h0, h1, h2, h3, h4⟩ := hr
  refine ⟨by rw [h _ _ (by omega)]; exact h0, by rw [h _ _ (by omega)]; exact h1, by rw [h _ _ (by omega)]; exact h2, fun t ht => ?_, fun k hk => ?_⟩
  · rw [h _ _ (by omega), h _ _ (by omega)]; exact h3 t ht
  · rw [h _ _ (by omega), h _ _ (by omega), h _ _ (by omega), h _ _ (by omega), h _ _ (by omega), h _ _ (by omega)]; exact h4 k hk
theorem RM_fr {M M' : mv_M} {p : Nat} {w : Nat → Nat} (h : ∀ j, p ≤ j → j < p + 83 → M'.1 1 j = M.1 1 j) (hr : RM M p w) : RM M' p w := fun j hj => by
  rw [h _ (by omega) (by omega)]; exact hr j hj
theorem sRow_fr {MX MM MX' MM' : mv_M} {r : Nat} (hX : ∀ i j, (i = 39 ∨ i = 40) ∧ j = r ∨ i = 31 + r → MX'.1 i j = MX.1 i j) (hM : ∀ i j, (i = 3 ∨ i = 4) ∧ j = r ∨ i = 5 ∧ 40 * r ≤ j ∧ j < 40 * r + 40 → MM'.1 i j = MM.1 i j) (h : sRow MX MM r) : sRow MX' MM' r := by
  rcases h with ⟨h1, h2⟩ | ⟨ln, n, h1, h2, h3, h4, h5, h6, h7⟩
  · left; exact ⟨by rw [hX _ _ (by omega)]; exact h1, by rw [hM _ _ (by omega)]; exact h2⟩
  · right
    refine ⟨ln, n, h1, h2, ?_, ?_, ?_, ?_, fun j hj => ?_⟩
    · rw [hX _ _ (by omega)]; exact h3
    · rw [hM _ _ (by omega)]; exact h4
    · rw [hX _ _ (by omega)]; exact h5
    · rw [hM _ _ (by omega)]; exact h6
    · rw [hX _ _ (by omega), hM _ _ (by omega)]; exact h7 j hj
theorem sRows_fr {MX MM MX' MM' : mv_M} (hX : ∀ i j, 31 ≤ i ∧ i ≤ 40 → MX'.1 i j = MX.1 i j) (hM : ∀ i j, 3 ≤ i ∧ i ≤ 5 → MM'.1 i j = MM.1 i j) (h : sRows MX MM) : sRows MX' MM' := fun r hr =>
  sRow_fr (fun i j hi => hX i j (by omega)) (fun i j hi => hM i j (by omega)) (h r hr)
theorem sTape_fr {MX MM MX' MM' : mv_M} (hX : ∀ i j, i = 41 ∧ j = 1 ∨ i = 42 → MX'.1 i j = MX.1 i j) (hM : ∀ i j, i = 0 ∧ j = 3 ∨ i = 2 → MM'.1 i j = MM.1 i j) (h : sTape MX MM) : sTape MX' MM' := by
  obtain ⟨n, h1, h2, h3, h4⟩ := h
  refine ⟨n, h1, ?_, ?_, fun j hj => ?_⟩
  · rw [hX _ _ (by omega)]; exact h2
  · rw [hM _ _ (by omega)]; exact h3
  · rw [hX _ _ (by omega), hM _ _ (by omega)]; exact h4 j hj
theorem sTrace_fr {MX MM MX' MM' : mv_M} (hX : ∀ i j, i = 112 ∨ i = 113 → MX'.1 i j = MX.1 i j) (hM : ∀ i j, i = 0 ∧ j = 22 ∨ i = 12 → MM'.1 i j = MM.1 i j) (h : sTrace MX MM) : sTrace MX' MM' := by
  obtain ⟨n, h1, h2, h3, h4⟩ := h
  refine ⟨n, h1, ?_, ?_, fun j hj => ?_⟩
  · rw [hX _ _ (by omega)]; exact h2
  · rw [hM _ _ (by omega)]; exact h3
  · rw [hX _ _ (by omega), hM _ _ (by omega)]; exact h4 j hj
theorem sImg_fr {MX MM MX' MM' : mv_M} {k : Nat} (hX : ∀ i j, i = 11 + k ∨ (13 + 8 * k ≤ i ∧ i ≤ 20 + 8 * k) → MX'.1 i j = MX.1 i j) (hM : ∀ i j, i = 11 ∧ j = k ∨ (i = 1 ∧ 166 + 83 * k ≤ j ∧ j < 249 + 83 * k) → MM'.1 i j = MM.1 i j) (h : sImg MX MM k) : sImg MX' MM' k := by
  rcases h with ⟨h1, h2⟩ | ⟨h1, v, h2, h3, h4, h5⟩
  · left; exact ⟨by rw [hX _ _ (by omega)]; exact h1, by rw [hM _ _ (by omega)]; exact h2⟩
  · right; exact ⟨by rw [hM _ _ (by omega)]; exact h1, v, h2, h3, RX_fr (fun i j hi => hX i j (by omega)) h4, RM_fr (fun j h6 h7 => hM _ _ (by omega)) h5⟩
theorem sAct_fr {M M' : mv_M} {i : Nat} {v u : Nat → Nat} (h : ∀ c, 53 ≤ c ∧ c ≤ 55 → M'.1 c i = M.1 c i) (hs : sAct M i v u) : sAct M' i v u := by
  obtain ⟨wh, was, h1, h2, h3⟩ := hs
  refine ⟨wh, was, ?_, ?_, ?_⟩
  · rw [h _ (by omega)]; exact h1
  · rw [h _ (by omega)]; exact h2
  · rw [h _ (by omega)]; exact h3
theorem sUndo_fr {MX MM MX' MM' : mv_M} {w : Nat → Nat} (hX : ∀ i j, 52 ≤ i ∧ i ≤ 55 → MX'.1 i j = MX.1 i j) (hM : ∀ i j, i = 0 ∧ j = 1 ∨ (i = 1 ∧ 332 ≤ j) → MM'.1 i j = MM.1 i j) (h : sUndo MX MM w) : sUndo MX' MM' w := by
  obtain ⟨us, n, h1, h2, h3, h4, h5⟩ := h
  refine ⟨us, n, h1, h2, ?_, ?_, fun i hi => ?_⟩
  · rw [hX _ _ (by omega)]; exact h3
  · rw [hM _ _ (by omega)]; exact h4
  · obtain ⟨g1, g2, g3⟩ := h5 i hi
    exact ⟨g1, RM_fr (fun j h6 h7 => hM _ _ (by omega)) g2, sAct_fr (fun c hc => hX _ _ (by omega)) g3⟩
/-- numbers of the class that are no scratch -/
def LvX (i j : Nat) : Prop := i ≤ 40 ∨ (i = 41 ∧ j = 1) ∨ i = 42 ∨ (52 ≤ i ∧ i ≤ 55) ∨ 112 ≤ i
/-- numbers of the reference that are no scratch -/
def LvM (i j : Nat) : Prop := (i = 0 ∧ (j = 1 ∨ j = 3 ∨ j = 4 ∨ j = 5 ∨ j = 22)) ∨ (i = 1 ∧ (j < 83 ∨ 166 ≤ j)) ∨ (2 ≤ i ∧ i ≤ 5) ∨ 11 ≤ i
def kpX (M M' : mv_M) : Prop := ∀ i j, LvX i j → M'.1 i j = M.1 i j
def kpM (M M' : mv_M) : Prop := ∀ i j, LvM i j → M'.1 i j = M.1 i j
theorem kpX.rf (M : mv_M) : kpX M M := fun _ _ _ => rfl
theorem kpM.rf (M : mv_M) : kpM M M := fun _ _ _ => rfl
theorem kpX.tr {M M' M'' : mv_M} (h : kpX M M') (h' : kpX M' M'') : kpX M M'' := fun i j hi => (h' i j hi).trans (h i j hi)
theorem kpM.tr {M M' M'' : mv_M} (h : kpM M M') (h' : kpM M' M'') : kpM M M'' := fun i j hi => (h' i j hi).trans (h i j hi)
theorem core_fr {w : Nat → Nat} {MX MM MX' MM' : mv_M} (hc : core w MX MM) (hX : kpX MX MX') (hM : kpM MM MM') : core w MX' MM' := by
  obtain ⟨h1, h2, h3, h4, h5, h6, h7, h8, h9, h10, h11⟩ := hc
  refine ⟨h1, RX_fr (fun i j hi => hX i j (by unfold LvX; omega)) h2, RM_fr (fun j h6 h7 => hM _ _ (by unfold LvM; omega)) h3, sRows_fr (fun i j hi => hX i j (by unfold LvX; omega)) (fun i j hi => hM i j (by unfold LvM; omega)) h4, sTape_fr (fun i j hi => hX i j (by unfold LvX; omega)) (fun i j hi => hM i j (by unfold LvM; omega)) h5, sTrace_fr (fun i j hi => hX i j (by unfold LvX; omega)) (fun i j hi => hM i j (by unfold LvM; omega)) h6, ?_, ?_, sImg_fr (fun i j hi => hX i j (by unfold LvX; omega)) (fun i j hi => hM i j (by unfold LvM; omega)) h9, sImg_fr (fun i j hi => hX i j (by unfold LvX; omega)) (fun i j hi => hM i j (by unfold LvM; omega)) h10, sUndo_fr (fun i j hi => hX i j (by unfold LvX; omega)) (fun i j hi => hM i j (by unfold LvM; omega)) h11⟩
  · rw [hX _ _ (by unfold LvX; omega), hM _ _ (by unfold LvM; omega)]; exact h7
  · rw [hX _ _ (by unfold LvX; omega), hM _ _ (by unfold LvM; omega)]; exact h8
/-- rows and status are new -/
theorem core_rows {w : Nat → Nat} {MX MM MX' MM' : mv_M} (hc : core w MX MM) (hX : ∀ i j, LvX i j → ¬ (31 ≤ i ∧ i ≤ 40) → ¬ (i = 0 ∧ j = 10) → MX'.1 i j = MX.1 i j) (hM : ∀ i j, LvM i j → ¬ (3 ≤ i ∧ i ≤ 5) → ¬ (i = 0 ∧ j = 5) → MM'.1 i j = MM.1 i j) (hr : sRows MX' MM') (hs : MX'.1 0 10 = MM'.1 0 5) : core w MX' MM' := by
  obtain ⟨h1, h2, h3, h4, h5, h6, h7, h8, h9, h10, h11⟩ := hc
  refine ⟨h1, RX_fr (fun i j hi => hX i j (by unfold LvX; omega) (by omega) (by omega)) h2, RM_fr (fun j h6 h7 => hM _ _ (by unfold LvM; omega) (by omega) (by omega)) h3, hr, sTape_fr (fun i j hi => hX i j (by unfold LvX; omega) (by omega) (by omega)) (fun i j hi => hM i j (by unfold LvM; omega) (by omega) (by omega)) h5, sTrace_fr (fun i j hi => hX i j (by unfold LvX; omega) (by omega) (by omega)) (fun i j hi => hM i j (by unfold LvM; omega) (by omega) (by omega)) h6, ?_, hs, sImg_fr (fun i j hi => hX i j (by unfold LvX; omega) (by omega) (by omega)) (fun i j hi => hM i j (by unfold LvM; omega) (by omega) (by omega)) h9, sImg_fr (fun i j hi => hX i j (by unfold LvX; omega) (by omega) (by omega)) (fun i j hi => hM i j (by unfold LvM; omega) (by omega) (by omega)) h10, sUndo_fr (fun i j hi => hX i j (by unfold LvX; omega) (by omega) (by omega)) (fun i j hi => hM i j (by unfold LvM; omega) (by omega) (by omega)) h11⟩
  rw [hX _ _ (by unfold LvX; omega) (by omega) (by omega), hM _ _ (by unfold LvM; omega) (by omega) (by omega)]; exact h7
/-- the status alone is new -/
theorem core_stat {w : Nat → Nat} {MX MM MX' MM' : mv_M} (hc : core w MX MM) (hX : ∀ i j, LvX i j → ¬ (i = 0 ∧ j = 10) → MX'.1 i j = MX.1 i j) (hM : ∀ i j, LvM i j → ¬ (i = 0 ∧ j = 5) → MM'.1 i j = MM.1 i j) (hs : MX'.1 0 10 = MM'.1 0 5) : core w MX' MM' :=
  core_rows hc (fun i j h1 _ h3 => hX i j h1 h3) (fun i j h1 _ h3 => hM i j h1 h3) (sRows_fr (fun i j hi => hX i j (by unfold LvX; omega) (by omega)) (fun i j hi => hM i j (by unfold LvM; omega) (by omega)) hc.2.2.2.1) hs
/-- the tape is new -/
theorem core_tape {w : Nat → Nat} {MX MM MX' MM' : mv_M} (hc : core w MX MM) (hX : ∀ i j, LvX i j → ¬ (i = 41 ∨ i = 42) → MX'.1 i j = MX.1 i j) (hM : ∀ i j, LvM i j → ¬ (i = 2 ∨ i = 0 ∧ j = 3) → MM'.1 i j = MM.1 i j) (hr : sTape MX' MM') : core w MX' MM' := by
  obtain ⟨h1, h2, h3, h4, h5, h6, h7, h8, h9, h10, h11⟩ := hc
  refine ⟨h1, RX_fr (fun i j hi => hX i j (by unfold LvX; omega) (by omega)) h2, RM_fr (fun j h6 h7 => hM _ _ (by unfold LvM; omega) (by omega)) h3, sRows_fr (fun i j hi => hX i j (by unfold LvX; omega) (by omega)) (fun i j hi => hM i j (by unfold LvM; omega) (by omega)) h4, hr, sTrace_fr (fun i j hi => hX i j (by unfold LvX; omega) (by omega)) (fun i j hi => hM i j (by unfold LvM; omega) (by omega)) h6, ?_, ?_, sImg_fr (fun i j hi => hX i j (by unfold LvX; omega) (by omega)) (fun i j hi => hM i j (by unfold LvM; omega) (by omega)) h9, sImg_fr (fun i j hi => hX i j (by unfold LvX; omega) (by omega)) (fun i j hi => hM i j (by unfold LvM; omega) (by omega)) h10, sUndo_fr (fun i j hi => hX i j (by unfold LvX; omega) (by omega)) (fun i j hi => hM i j (by unfold LvM; omega) (by omega)) h11⟩
  · rw [hX _ _ (by unfold LvX; omega) (by omega), hM _ _ (by unfold LvM; omega) (by omega)]; exact h7
  · rw [hX _ _ (by unfold LvX; omega) (by omega), hM _ _ (by unfold LvM; omega) (by omega)]; exact h8
/-- the trace is new -/
theorem core_trace {w : Nat → Nat} {MX MM MX' MM' : mv_M} (hc : core w MX MM) (hX : ∀ i j, LvX i j → ¬ (i = 112 ∨ i = 113) → MX'.1 i j = MX.1 i j) (hM : ∀ i j, LvM i j → ¬ (i = 12 ∨ i = 0 ∧ j = 22) → MM'.1 i j = MM.1 i j) (hr : sTrace MX' MM') : core w MX' MM' := by
  obtain ⟨h1, h2, h3, h4, h5, h6, h7, h8, h9, h10, h11⟩ := hc
  refine ⟨h1, RX_fr (fun i j hi => hX i j (by unfold LvX; omega) (by omega)) h2, RM_fr (fun j h6 h7 => hM _ _ (by unfold LvM; omega) (by omega)) h3, sRows_fr (fun i j hi => hX i j (by unfold LvX; omega) (by omega)) (fun i j hi => hM i j (by unfold LvM; omega) (by omega)) h4, sTape_fr (fun i j hi => hX i j (by unfold LvX; omega) (by omega)) (fun i j hi => hM i j (by unfold LvM; omega) (by omega)) h5, hr, ?_, ?_, sImg_fr (fun i j hi => hX i j (by unfold LvX; omega) (by omega)) (fun i j hi => hM i j (by unfold LvM; omega) (by omega)) h9, sImg_fr (fun i j hi => hX i j (by unfold LvX; omega) (by omega)) (fun i j hi => hM i j (by unfold LvM; omega) (by omega)) h10, sUndo_fr (fun i j hi => hX i j (by unfold LvX; omega) (by omega)) (fun i j hi => hM i j (by unfold LvM; omega) (by omega)) h11⟩
  · rw [hX _ _ (by unfold LvX; omega) (by omega), hM _ _ (by unfold LvM; omega) (by omega)]; exact h7
  · rw [hX _ _ (by unfold LvX; omega) (by omega), hM _ _ (by unfold LvM; omega) (by omega)]; exact h8
/-- world and acts are new -/
theorem core_world {w w' : Nat → Nat} {MX MM MX' MM' : mv_M} (hc : core w MX MM) (hX : ∀ i j, LvX i j → ¬ (1 ≤ i ∧ i ≤ 9) → ¬ (52 ≤ i ∧ i ≤ 55) → MX'.1 i j = MX.1 i j) (hM : ∀ i j, LvM i j → ¬ (i = 1 ∧ (j < 83 ∨ 332 ≤ j)) → ¬ (i = 0 ∧ j = 1) → MM'.1 i j = MM.1 i j) (hw : WF w') (hr : RX MX' 1 2 w') (hrm : RM MM' 0 w') (hu : sUndo MX' MM' w') : core w' MX' MM' := by
  obtain ⟨h1, h2, h3, h4, h5, h6, h7, h8, h9, h10, h11⟩ := hc
  refine ⟨hw, hr, hrm, sRows_fr (fun i j hi => hX i j (by unfold LvX; omega) (by omega) (by omega)) (fun i j hi => hM i j (by unfold LvM; omega) (by omega) (by omega)) h4, sTape_fr (fun i j hi => hX i j (by unfold LvX; omega) (by omega) (by omega)) (fun i j hi => hM i j (by unfold LvM; omega) (by omega) (by omega)) h5, sTrace_fr (fun i j hi => hX i j (by unfold LvX; omega) (by omega) (by omega)) (fun i j hi => hM i j (by unfold LvM; omega) (by omega) (by omega)) h6, ?_, ?_, sImg_fr (fun i j hi => hX i j (by unfold LvX; omega) (by omega) (by omega)) (fun i j hi => hM i j (by unfold LvM; omega) (by omega) (by omega)) h9, sImg_fr (fun i j hi => hX i j (by unfold LvX; omega) (by omega) (by omega)) (fun i j hi => hM i j (by unfold LvM; omega) (by omega) (by omega)) h10, hu⟩
  · rw [hX _ _ (by unfold LvX; omega) (by omega) (by omega), hM _ _ (by unfold LvM; omega) (by omega) (by omega)]; exact h7
  · rw [hX _ _ (by unfold LvX; omega) (by omega) (by omega), hM _ _ (by unfold LvM; omega) (by omega) (by omega)]; exact h8
theorem tab_fr {w : Nat → Nat} {M M' : mv_M} (h2 : ∀ i j, (60 ≤ i ∧ i ≤ 80 ∨ i = 82) → M'.2 i j = M.2 i j) (h1 : M'.1 58 1 = M.1 58 1) (ht : tab w M) (hw : w 0 ≤ 8 ∧ w 1 ≤ 12) : tab w M' := by
  obtain ⟨⟨z1, z2, z3⟩, hs⟩ := ht
  refine ⟨⟨fun t ht => by rw [h2 _ _ (by omega)]; exact z1 t ht, fun k hk => by rw [h2 _ _ (by omega)]; exact z2 k hk, fun p hp => by rw [h2 _ _ (by omega)]; exact z3 p hp⟩, ?_⟩
  rw [h1]
  rcases hs with hs | ⟨hs, hs2⟩
  · exact Or.inl hs
  · exact Or.inr ⟨hs, fun p hp => ⟨fun t ht => by rw [h2 _ _ (by omega)]; exact (hs2 p hp).1 t ht, fun k hk => by rw [h2 _ _ (by omega)]; exact (hs2 p hp).2 k hk⟩⟩
theorem tab_same {w : Nat → Nat} {M M' : mv_M} (h2 : M'.2 = M.2) (h1 : M'.1 58 1 = M.1 58 1) (ht : tab w M) : tab w M' := by
  obtain ⟨z, hs⟩ := ht
  unfold tab zer tabs
  rw [h1, h2]
  exact ⟨z, hs⟩
/-- a new world: nothing is counted -/
theorem tab_new {w w' : Nat → Nat} {M M' : mv_M} (h2 : M'.2 = M.2) (h1 : M'.1 58 1 = 0) (ht : tab w M) : tab w' M' := by
  obtain ⟨z, hs⟩ := ht
  refine ⟨?_, Or.inl h1⟩
  unfold zer
  rw [h2]
  exact z
