/-! PURE: loops, memory, guards -/
theorem lp_for {σ α : Type} {B : (σ → Option α) → σ → Option α} (st : Nat → σ) (N : Nat) {r : Option α} (hs : ∀ i, i < N → ∀ f, B f (st i) = f (st (i + 1))) (he : ∀ f, B f (st N) = r) : ∀ (n i : Nat), i ≤ N → N < i + n → mv_lp B n (st i) = r := by
  intro n
  induction n with
  | zero => intro i h1 h2; exact absurd h2 (by omega)
  | succ n ih =>
    intro i h1 h2
    show B (mv_lp B n) (st i) = r
    by_cases hi : i = N
    · rw [hi]; exact he _
    · rw [hs i (by omega)]
      exact ih (i + 1) (by omega) (by omega)
theorem lp_rule {σ α : Type} {B : (σ → Option α) → σ → Option α} (I : Nat → σ → Prop) (N : Nat) (Q : Option α → Prop) (h : ∀ i s, i ≤ N → I i s → (∀ f, Q (B f s)) ∨ (i < N ∧ ∃ s', I (i + 1) s' ∧ ∀ f, B f s = f s')) : ∀ (n i : Nat) (s : σ), I i s → i ≤ N → N < i + n → Q (mv_lp B n s) := by
  intro n
  induction n with
  | zero => intro i s _ h1 h2; exact absurd h2 (by omega)
  | succ n ih =>
    intro i s hI h1 h2
    show Q (B (mv_lp B n) s)
    rcases h i s h1 hI with hq | ⟨hlt, s', hI', he⟩
    · exact hq _
    · rw [he]
      exact ih (i + 1) s' hI' (by omega) (by omega)
theorem ob_in {α : Type} {i : Int32} {n : Nat} {G : Option α} (h : vp_in i n) : mv_ob i n G = G := if_neg h
theorem ob_nI {α : Type} {j n : Nat} {G : Option α} (h : j < n) (hn : n < 2 ^ 31) : mv_ob (nI j) n G = G := if_neg (vp_in_nI h hn)
theorem wI_get (M : mv_M) (a k : Nat) (v : Int32) (i j : Nat) : (mv_wI M a k v).1 i j = if i = a ∧ j = k then v else M.1 i j := by
  unfold mv_wI
  by_cases hi : i = a
  · subst hi
    simp [upd]
  · simp [hi]
theorem wI_2 (M : mv_M) (a k : Nat) (v : Int32) : (mv_wI M a k v).2 = M.2 := rfl
theorem wL_get (M : mv_M) (a k : Nat) (v : Int64) (i j : Nat) : (mv_wL M a k v).2 i j = if i = a ∧ j = k then v else M.2 i j := by
  unfold mv_wL
  by_cases hi : i = a
  · subst hi
    simp [vp_updL]
  · simp [hi]
theorem wL_1 (M : mv_M) (a k : Nat) (v : Int64) : (mv_wL M a k v).1 = M.1 := rfl
theorem wA_get (M : mv_M) (a : Nat) (f : Nat → Int32) (i j : Nat) : (mv_wA M a f).1 i j = if i = a then f j else M.1 i j := by
  unfold mv_wA
  by_cases hi : i = a <;> simp [hi]
theorem wA_2 (M : mv_M) (a : Nat) (f : Nat → Int32) : (mv_wA M a f).2 = M.2 := rfl
theorem mv_ext {M M' : mv_M} (h1 : ∀ i j, M.1 i j = M'.1 i j) (h2 : ∀ i j, M.2 i j = M'.2 i j) : M = M' := Prod.ext (funext fun i => funext fun j => h1 i j) (funext fun i => funext fun j => h2 i j)
/-- Arrays.fill -/
theorem fill_eq (F : Nat) (M : mv_M) (i n : Nat) (v : Int32) (hF : n < F) (hn : n < 2 ^ 31) : fJ7_fill_53178 F M i n v = some (mv_wA M i (fun j => if j < n then v else M.1 i j)) := by
  unfold fJ7_fill_53178
  simp only [mv_let]
  have hst : ((0 : Int32), M) = (fun k : Nat => (nI k, mv_wA M i (fun j => if j < k then v else M.1 i j))) 0 := by
    refine Prod.ext nI_0.symm ?_
    refine mv_ext (fun a b => ?_) (fun a b => rfl)
    rw [wA_get]
    by_cases h : a = i <;> simp [h]
  rw [hst]
  refine lp_for (fun k : Nat => (nI k, mv_wA M i (fun j => if j < k then v else M.1 i j))) n ?_ ?_ F 0 (by omega) (by omega)
  · intro k hk f
    show bJ7_fill_53178_5 _ _ _ _ f _ = _
    unfold bJ7_fill_53178_5
    simp only [mv_let]
    have h1 : ¬ (Int32.ofNat n) ≤ nI k := nI_ge hk hn
    rw [if_neg h1, ob_nI hk hn, nI_clamp (by omega)]
    refine congrArg f (Prod.ext (nI_1 k) ?_)
    refine mv_ext (fun a b => ?_) (fun a b => rfl)
    rw [wI_get, wA_get, wA_get]
    by_cases ha : a = i
    · by_cases hb : b = k
      · simp [ha, hb]
      · have : (b < k + 1) ↔ (b < k) := by omega
        simp [ha, hb, this]
    · simp [ha]
  · intro f
    show bJ7_fill_53178_5 _ _ _ _ f _ = _
    unfold bJ7_fill_53178_5
    have h1 : (Int32.ofNat n) ≤ nI n := nI_le (Nat.le_refl n) hn
    rw [if_pos h1]
