theorem cn_arrq {D : va_G} {H : Heap} {a n : Nat} {c : ClassId} {f g : Nat → Option Nat} (hfg : ∀ j : Nat, j < n → f j = g j) (h : va_at D vwCl (a, .inl (c, n, .inr (.inr (.inr (.inr f))))) H) : va_at D vwCl (a, .inl (c, n, .inr (.inr (.inr (.inr g))))) H := by
  have e : arrV c n (fun j => va_rf (f j)) = arrV c n (fun j => va_rf (g j)) := by
    unfold arrV
    congr 2
    funext j
    show va_rf (f j.val) = va_rf (g j.val)
    rw [hfg j.val j.isLt]
  show H[a]? = some (arrV c n (fun j => va_rf (g j)))
  rw [← e]
  exact h
def mv_fl (ad : Nat → Nat) (M : mv_M) (i : Nat) : Nat → List Nat → List Value
  | _, [] => []
  | b, f :: l => mv_fv ad M i b f :: mv_fl ad M i (b + 1) l
theorem mv_fl_eq (ad : Nat → Nat) (M : mv_M) (i : Nat) : ∀ (fs : List Nat) (b : Nat), fs.mapIdx (fun k f => mv_fv ad M i (b + k) f) = mv_fl ad M i b fs
  | [], b => rfl
  | f :: l, b => by
    rw [List.mapIdx_cons]
    show mv_fv ad M i (b + 0) f :: _ = mv_fv ad M i b f :: mv_fl ad M i (b + 1) l
    rw [← mv_fl_eq ad M i l (b + 1)]
    have e : (fun k f => mv_fv ad M i (b + (k + 1)) f) = (fun k f => mv_fv ad M i (b + 1 + k) f) := by
      funext k f
      rw [show b + (k + 1) = b + 1 + k by omega]
    rw [e]
    rfl
theorem cn_objat {D : va_G} {H : Heap} {cA : Nat → ClassId} {ad : Nat → Nat} {M : mv_M} {a i ci : Nat} {fs : List Nat} {vs : List Value} (hv : mv_fl ad M i 0 fs = vs) (h : va_at D vwCl (a, .inr (ci, vs)) H) : va_at D vwCl (a, mv_cell cA ad M i (0, ci, fs)) H := by
  have e : mv_cell cA ad M i (0, ci, fs) = .inr (ci, vs) := by
    show Sum.inr (ci, fs.mapIdx (fun k f => mv_fv ad M i k f)) = _
    have := mv_fl_eq ad M i fs 0
    simp only [Nat.zero_add] at this
    rw [this, hv]
  rw [e]
  exact h
def cn_allP (Q : Nat → mv_L → Prop) : Nat → List mv_L → Prop
  | _, [] => True
  | b, a :: l => Q b a ∧ cn_allP Q (b + 1) l
theorem cn_allP_get {Q : Nat → mv_L → Prop} : ∀ (l : List mv_L) (b : Nat), cn_allP Q b l → ∀ (i : Nat) (c : mv_L), l[i]? = some c → Q (b + i) c
  | [], b, _, i, c, h => by simp at h
  | a :: l, b, hh, i, c, h => by
    cases i with
    | zero => cases h; exact hh.1
    | succ i =>
      have := cn_allP_get l (b + 1) hh.2 i c h
      rw [show b + (i + 1) = b + 1 + i by omega]
      exact this
/-- the cells that are made, as a world: each at its place -/
def cn_fin (cA : Nat → ClassId) (ad : Nat → Nat) (L : List mv_L) (M : mv_M) (ws : va_W) : Prop :=
  ∃ pl : Nat → Nat, (∀ i j : Nat, i < L.length → j < L.length → pl i = pl j → i = j) ∧ ∀ (i : Nat) (c : mv_L), L[i]? = some c → ∃ e : va_E, ws[pl i]? = some (ad i, e) ∧ ∀ (D : va_G) (H : Heap), va_at D vwCl (ad i, e) H → va_at D vwCl (ad i, mv_cell cA ad M i c) H
theorem cn_fin.P {D : va_G} {cA : Nat → ClassId} {ad : Nat → Nat} {L : List mv_L} {M : mv_M} {ws : va_W} {H : Heap} (h : cn_fin cA ad L M ws) (hP : va_P D vwCl ws H) : va_P D vwCl (mv_ws (D, cA, ad, L) M) H := by
  intro i q hq
  obtain ⟨c, hc, rfl⟩ := mv_ws_get hq
  obtain ⟨pl, -, h⟩ := h
  obtain ⟨e, h1, h2⟩ := h i c hc
  exact h2 D H (hP _ _ h1)
theorem cn_fin.D {D : va_G} {A : Nat → Prop} {cA : Nat → ClassId} {ad : Nat → Nat} {L : List mv_L} {M : mv_M} {ws : va_W} (h : cn_fin cA ad L M ws) (hD : va_D A ws) : mv_DD (D, cA, ad, L) ∧ ∀ i : Nat, i < L.length → A (ad i) := by
  obtain ⟨pl, hi, h⟩ := h
  refine ⟨fun i j h1 h2 e => ?_, fun i h1 => ?_⟩
  · obtain ⟨e1, a1, -⟩ := h i _ (List.getElem?_eq_getElem h1)
    obtain ⟨e2, a2, -⟩ := h j _ (List.getElem?_eq_getElem h2)
    exact hi i j h1 h2 (hD.1 _ _ _ _ a1 a2 e)
  · obtain ⟨e1, a1, -⟩ := h i _ (List.getElem?_eq_getElem h1)
    exact hD.2 _ _ a1
theorem cn_innerint (c : ClassId) (K : Nat) : Jvm.Free.Multi.innerC c K (defaultValue .int) = vp_cell c (K, .inl (fun _ => 0)) := by
  rw [vp_cell_i]; exact arrV_new _ _ _
theorem cn_innerlong (c : ClassId) (K : Nat) : Jvm.Free.Multi.innerC c K (defaultValue .long) = vp_cell c (K, .inr (.inl (fun _ => 0))) := by
  rw [vp_cell_l]; exact arrV_new _ _ _
def sg_X7 (cA : Nat → ClassId) (h0 : Nat) (u : Nat → Nat) : va_W := (h0, .inr (7, [.int 0, .int 0, .int 0, .ref (u 0), .ref (u 1), .ref (u 2), .ref (u 3), .ref (u 4), .ref (u 5), .ref (u 6), .ref (u 7)])) :: ((((((((([]) ++ [((u 0), .inl (cA 0, 8, .inl (fun _ => 0)))]) ++ [((u 1), .inl (cA 0, 8, .inl (fun _ => 0)))]) ++ [((u 2), .inl (cA 0, 12, .inl (fun _ => 0)))]) ++ [((u 3), .inl (cA 0, 12, .inl (fun _ => 0)))]) ++ [((u 4), .inl (cA 0, 12, .inl (fun _ => 0)))]) ++ [((u 5), .inl (cA 0, 12, .inl (fun _ => 0)))]) ++ [((u 6), .inl (cA 0, 12, .inl (fun _ => 0)))]) ++ [((u 7), .inl (cA 0, 12, .inl (fun _ => 0)))])
abbrev jX7 : mv_Y := (cX7_init, 1, RX7, none, { frames := 1, cells := 8, slots := 88, locals := 20 })
set_option maxRecDepth 100000 in
set_option maxHeartbeats 4000000 in
theorem ccX7 (l : Launch) (D : va_G) (cA : Nat → ClassId) (h0 : Nat) : cn_C l D cA yX7_init jX7 h0 (.inr (7, [.int 0, .int 0, .int 0, .null, .null, .null, .null, .null, .null, .null, .null])) [] 8 88 (fun ws => ∃ u : Nat → Nat, ws = sg_X7 cA h0 u) := by
  refine cn_C.ofV (ls := [(0, .ref h0)]) (by decide) rfl rfl (Nat.le_of_ble_eq_true rfl) rfl ?_
  intro x A hxl
  subst hxl
  refine cn_aload_n (pc := 0) (i := 0) 0 dX7_init_0 rfl rfl ?_
  refine cn_obj (pc := 1) dX7_init_1 mwX7_3 ⟨obj_i, obj_c⟩ ⟨Nat.le_of_ble_eq_true rfl, Nat.le_of_ble_eq_true rfl⟩ ?_
  refine cn_aload_n (pc := 4) (i := 0) 0 dX7_init_4 rfl rfl ?_
  refine cn_bipush (pc := 5) (v := (8 : Int32)) dX7_init_5 (by decide +kernel) ?_
  refine cn_newI (pc := 7) (N := 8) dX7_init_7 ar_int (by decide +kernel) (by decide +kernel) (Nat.le_of_ble_eq_true rfl) ⟨Nat.le_of_ble_eq_true rfl, Nat.le_of_ble_eq_true rfl⟩ (fun q1 => ?_)
  refine cn_num (nc' := 1) (ns' := 8) rfl rfl ?_
  refine cn_ws (ws' := (h0, .inr (7, [.int 0, .int 0, .int 0, .null, .null, .null, .null, .null, .null, .null, .null])) :: (([]) ++ [(q1, .inl (cA 0, 8, .inl (fun _ => 0)))])) rfl ?_
  refine cn_putF (pc := 9) (ci := 7) (kf := 3) (ty := .array .int) dX7_init_9 inmX7 tyX7_ok nmX7 rfl (by decide) fwX7_9 rfl rfl (by decide +kernel) rfl rfl (Nat.le_of_ble_eq_true rfl) ?_
  refine cn_ws (ws' := (h0, .inr (7, [.int 0, .int 0, .int 0, .ref q1, .null, .null, .null, .null, .null, .null, .null])) :: (([]) ++ [(q1, .inl (cA 0, 8, .inl (fun _ => 0)))])) rfl ?_
  refine cn_aload_n (pc := 12) (i := 0) 0 dX7_init_12 rfl rfl ?_
  refine cn_bipush (pc := 13) (v := (8 : Int32)) dX7_init_13 (by decide +kernel) ?_
  refine cn_newI (pc := 15) (N := 8) dX7_init_15 ar_int (by decide +kernel) (by decide +kernel) (Nat.le_of_ble_eq_true rfl) ⟨Nat.le_of_ble_eq_true rfl, Nat.le_of_ble_eq_true rfl⟩ (fun q2 => ?_)
  refine cn_num (nc' := 2) (ns' := 16) rfl rfl ?_
  refine cn_ws (ws' := (h0, .inr (7, [.int 0, .int 0, .int 0, .ref q1, .null, .null, .null, .null, .null, .null, .null])) :: ((([]) ++ [(q1, .inl (cA 0, 8, .inl (fun _ => 0)))]) ++ [(q2, .inl (cA 0, 8, .inl (fun _ => 0)))])) rfl ?_
  refine cn_putF (pc := 17) (ci := 7) (kf := 4) (ty := .array .int) dX7_init_17 inmX7 tyX7_ok nmX7 rfl (by decide) fwX7_15 rfl rfl (by decide +kernel) rfl rfl (Nat.le_of_ble_eq_true rfl) ?_
  refine cn_ws (ws' := (h0, .inr (7, [.int 0, .int 0, .int 0, .ref q1, .ref q2, .null, .null, .null, .null, .null, .null])) :: ((([]) ++ [(q1, .inl (cA 0, 8, .inl (fun _ => 0)))]) ++ [(q2, .inl (cA 0, 8, .inl (fun _ => 0)))])) rfl ?_
  refine cn_aload_n (pc := 20) (i := 0) 0 dX7_init_20 rfl rfl ?_
  refine cn_bipush (pc := 21) (v := (12 : Int32)) dX7_init_21 (by decide +kernel) ?_
  refine cn_newI (pc := 23) (N := 12) dX7_init_23 ar_int (by decide +kernel) (by decide +kernel) (Nat.le_of_ble_eq_true rfl) ⟨Nat.le_of_ble_eq_true rfl, Nat.le_of_ble_eq_true rfl⟩ (fun q3 => ?_)
  refine cn_num (nc' := 3) (ns' := 28) rfl rfl ?_
  refine cn_ws (ws' := (h0, .inr (7, [.int 0, .int 0, .int 0, .ref q1, .ref q2, .null, .null, .null, .null, .null, .null])) :: (((([]) ++ [(q1, .inl (cA 0, 8, .inl (fun _ => 0)))]) ++ [(q2, .inl (cA 0, 8, .inl (fun _ => 0)))]) ++ [(q3, .inl (cA 0, 12, .inl (fun _ => 0)))])) rfl ?_
  refine cn_putF (pc := 25) (ci := 7) (kf := 5) (ty := .array .int) dX7_init_25 inmX7 tyX7_ok nmX7 rfl (by decide) fwX7_18 rfl rfl (by decide +kernel) rfl rfl (Nat.le_of_ble_eq_true rfl) ?_
  refine cn_ws (ws' := (h0, .inr (7, [.int 0, .int 0, .int 0, .ref q1, .ref q2, .ref q3, .null, .null, .null, .null, .null])) :: (((([]) ++ [(q1, .inl (cA 0, 8, .inl (fun _ => 0)))]) ++ [(q2, .inl (cA 0, 8, .inl (fun _ => 0)))]) ++ [(q3, .inl (cA 0, 12, .inl (fun _ => 0)))])) rfl ?_
  refine cn_aload_n (pc := 28) (i := 0) 0 dX7_init_28 rfl rfl ?_
  refine cn_bipush (pc := 29) (v := (12 : Int32)) dX7_init_29 (by decide +kernel) ?_
  refine cn_newI (pc := 31) (N := 12) dX7_init_31 ar_int (by decide +kernel) (by decide +kernel) (Nat.le_of_ble_eq_true rfl) ⟨Nat.le_of_ble_eq_true rfl, Nat.le_of_ble_eq_true rfl⟩ (fun q4 => ?_)
  refine cn_num (nc' := 4) (ns' := 40) rfl rfl ?_
  refine cn_ws (ws' := (h0, .inr (7, [.int 0, .int 0, .int 0, .ref q1, .ref q2, .ref q3, .null, .null, .null, .null, .null])) :: ((((([]) ++ [(q1, .inl (cA 0, 8, .inl (fun _ => 0)))]) ++ [(q2, .inl (cA 0, 8, .inl (fun _ => 0)))]) ++ [(q3, .inl (cA 0, 12, .inl (fun _ => 0)))]) ++ [(q4, .inl (cA 0, 12, .inl (fun _ => 0)))])) rfl ?_
  refine cn_putF (pc := 33) (ci := 7) (kf := 6) (ty := .array .int) dX7_init_33 inmX7 tyX7_ok nmX7 rfl (by decide) fwX7_21 rfl rfl (by decide +kernel) rfl rfl (Nat.le_of_ble_eq_true rfl) ?_
  refine cn_ws (ws' := (h0, .inr (7, [.int 0, .int 0, .int 0, .ref q1, .ref q2, .ref q3, .ref q4, .null, .null, .null, .null])) :: ((((([]) ++ [(q1, .inl (cA 0, 8, .inl (fun _ => 0)))]) ++ [(q2, .inl (cA 0, 8, .inl (fun _ => 0)))]) ++ [(q3, .inl (cA 0, 12, .inl (fun _ => 0)))]) ++ [(q4, .inl (cA 0, 12, .inl (fun _ => 0)))])) rfl ?_
  refine cn_aload_n (pc := 36) (i := 0) 0 dX7_init_36 rfl rfl ?_
  refine cn_bipush (pc := 37) (v := (12 : Int32)) dX7_init_37 (by decide +kernel) ?_
  refine cn_newI (pc := 39) (N := 12) dX7_init_39 ar_int (by decide +kernel) (by decide +kernel) (Nat.le_of_ble_eq_true rfl) ⟨Nat.le_of_ble_eq_true rfl, Nat.le_of_ble_eq_true rfl⟩ (fun q5 => ?_)
  refine cn_num (nc' := 5) (ns' := 52) rfl rfl ?_
  refine cn_ws (ws' := (h0, .inr (7, [.int 0, .int 0, .int 0, .ref q1, .ref q2, .ref q3, .ref q4, .null, .null, .null, .null])) :: (((((([]) ++ [(q1, .inl (cA 0, 8, .inl (fun _ => 0)))]) ++ [(q2, .inl (cA 0, 8, .inl (fun _ => 0)))]) ++ [(q3, .inl (cA 0, 12, .inl (fun _ => 0)))]) ++ [(q4, .inl (cA 0, 12, .inl (fun _ => 0)))]) ++ [(q5, .inl (cA 0, 12, .inl (fun _ => 0)))])) rfl ?_
  refine cn_putF (pc := 41) (ci := 7) (kf := 7) (ty := .array .int) dX7_init_41 inmX7 tyX7_ok nmX7 rfl (by decide) fwX7_24 rfl rfl (by decide +kernel) rfl rfl (Nat.le_of_ble_eq_true rfl) ?_
  refine cn_ws (ws' := (h0, .inr (7, [.int 0, .int 0, .int 0, .ref q1, .ref q2, .ref q3, .ref q4, .ref q5, .null, .null, .null])) :: (((((([]) ++ [(q1, .inl (cA 0, 8, .inl (fun _ => 0)))]) ++ [(q2, .inl (cA 0, 8, .inl (fun _ => 0)))]) ++ [(q3, .inl (cA 0, 12, .inl (fun _ => 0)))]) ++ [(q4, .inl (cA 0, 12, .inl (fun _ => 0)))]) ++ [(q5, .inl (cA 0, 12, .inl (fun _ => 0)))])) rfl ?_
  refine cn_aload_n (pc := 44) (i := 0) 0 dX7_init_44 rfl rfl ?_
  refine cn_bipush (pc := 45) (v := (12 : Int32)) dX7_init_45 (by decide +kernel) ?_
  refine cn_newI (pc := 47) (N := 12) dX7_init_47 ar_int (by decide +kernel) (by decide +kernel) (Nat.le_of_ble_eq_true rfl) ⟨Nat.le_of_ble_eq_true rfl, Nat.le_of_ble_eq_true rfl⟩ (fun q6 => ?_)
  refine cn_num (nc' := 6) (ns' := 64) rfl rfl ?_
  refine cn_ws (ws' := (h0, .inr (7, [.int 0, .int 0, .int 0, .ref q1, .ref q2, .ref q3, .ref q4, .ref q5, .null, .null, .null])) :: ((((((([]) ++ [(q1, .inl (cA 0, 8, .inl (fun _ => 0)))]) ++ [(q2, .inl (cA 0, 8, .inl (fun _ => 0)))]) ++ [(q3, .inl (cA 0, 12, .inl (fun _ => 0)))]) ++ [(q4, .inl (cA 0, 12, .inl (fun _ => 0)))]) ++ [(q5, .inl (cA 0, 12, .inl (fun _ => 0)))]) ++ [(q6, .inl (cA 0, 12, .inl (fun _ => 0)))])) rfl ?_
  refine cn_putF (pc := 49) (ci := 7) (kf := 8) (ty := .array .int) dX7_init_49 inmX7 tyX7_ok nmX7 rfl (by decide) fwX7_27 rfl rfl (by decide +kernel) rfl rfl (Nat.le_of_ble_eq_true rfl) ?_
  refine cn_ws (ws' := (h0, .inr (7, [.int 0, .int 0, .int 0, .ref q1, .ref q2, .ref q3, .ref q4, .ref q5, .ref q6, .null, .null])) :: ((((((([]) ++ [(q1, .inl (cA 0, 8, .inl (fun _ => 0)))]) ++ [(q2, .inl (cA 0, 8, .inl (fun _ => 0)))]) ++ [(q3, .inl (cA 0, 12, .inl (fun _ => 0)))]) ++ [(q4, .inl (cA 0, 12, .inl (fun _ => 0)))]) ++ [(q5, .inl (cA 0, 12, .inl (fun _ => 0)))]) ++ [(q6, .inl (cA 0, 12, .inl (fun _ => 0)))])) rfl ?_
  refine cn_aload_n (pc := 52) (i := 0) 0 dX7_init_52 rfl rfl ?_
  refine cn_bipush (pc := 53) (v := (12 : Int32)) dX7_init_53 (by decide +kernel) ?_
  refine cn_newI (pc := 55) (N := 12) dX7_init_55 ar_int (by decide +kernel) (by decide +kernel) (Nat.le_of_ble_eq_true rfl) ⟨Nat.le_of_ble_eq_true rfl, Nat.le_of_ble_eq_true rfl⟩ (fun q7 => ?_)
  refine cn_num (nc' := 7) (ns' := 76) rfl rfl ?_
  refine cn_ws (ws' := (h0, .inr (7, [.int 0, .int 0, .int 0, .ref q1, .ref q2, .ref q3, .ref q4, .ref q5, .ref q6, .null, .null])) :: (((((((([]) ++ [(q1, .inl (cA 0, 8, .inl (fun _ => 0)))]) ++ [(q2, .inl (cA 0, 8, .inl (fun _ => 0)))]) ++ [(q3, .inl (cA 0, 12, .inl (fun _ => 0)))]) ++ [(q4, .inl (cA 0, 12, .inl (fun _ => 0)))]) ++ [(q5, .inl (cA 0, 12, .inl (fun _ => 0)))]) ++ [(q6, .inl (cA 0, 12, .inl (fun _ => 0)))]) ++ [(q7, .inl (cA 0, 12, .inl (fun _ => 0)))])) rfl ?_
  refine cn_putF (pc := 57) (ci := 7) (kf := 9) (ty := .array .int) dX7_init_57 inmX7 tyX7_ok nmX7 rfl (by decide) fwX7_30 rfl rfl (by decide +kernel) rfl rfl (Nat.le_of_ble_eq_true rfl) ?_
  refine cn_ws (ws' := (h0, .inr (7, [.int 0, .int 0, .int 0, .ref q1, .ref q2, .ref q3, .ref q4, .ref q5, .ref q6, .ref q7, .null])) :: (((((((([]) ++ [(q1, .inl (cA 0, 8, .inl (fun _ => 0)))]) ++ [(q2, .inl (cA 0, 8, .inl (fun _ => 0)))]) ++ [(q3, .inl (cA 0, 12, .inl (fun _ => 0)))]) ++ [(q4, .inl (cA 0, 12, .inl (fun _ => 0)))]) ++ [(q5, .inl (cA 0, 12, .inl (fun _ => 0)))]) ++ [(q6, .inl (cA 0, 12, .inl (fun _ => 0)))]) ++ [(q7, .inl (cA 0, 12, .inl (fun _ => 0)))])) rfl ?_
  refine cn_aload_n (pc := 60) (i := 0) 0 dX7_init_60 rfl rfl ?_
  refine cn_bipush (pc := 61) (v := (12 : Int32)) dX7_init_61 (by decide +kernel) ?_
  refine cn_newI (pc := 63) (N := 12) dX7_init_63 ar_int (by decide +kernel) (by decide +kernel) (Nat.le_of_ble_eq_true rfl) ⟨Nat.le_of_ble_eq_true rfl, Nat.le_of_ble_eq_true rfl⟩ (fun q8 => ?_)
  refine cn_num (nc' := 8) (ns' := 88) rfl rfl ?_
  refine cn_ws (ws' := (h0, .inr (7, [.int 0, .int 0, .int 0, .ref q1, .ref q2, .ref q3, .ref q4, .ref q5, .ref q6, .ref q7, .null])) :: ((((((((([]) ++ [(q1, .inl (cA 0, 8, .inl (fun _ => 0)))]) ++ [(q2, .inl (cA 0, 8, .inl (fun _ => 0)))]) ++ [(q3, .inl (cA 0, 12, .inl (fun _ => 0)))]) ++ [(q4, .inl (cA 0, 12, .inl (fun _ => 0)))]) ++ [(q5, .inl (cA 0, 12, .inl (fun _ => 0)))]) ++ [(q6, .inl (cA 0, 12, .inl (fun _ => 0)))]) ++ [(q7, .inl (cA 0, 12, .inl (fun _ => 0)))]) ++ [(q8, .inl (cA 0, 12, .inl (fun _ => 0)))])) rfl ?_
  refine cn_putF (pc := 65) (ci := 7) (kf := 10) (ty := .array .int) dX7_init_65 inmX7 tyX7_ok nmX7 rfl (by decide) fwX7_33 rfl rfl (by decide +kernel) rfl rfl (Nat.le_of_ble_eq_true rfl) ?_
  refine cn_ws (ws' := (h0, .inr (7, [.int 0, .int 0, .int 0, .ref q1, .ref q2, .ref q3, .ref q4, .ref q5, .ref q6, .ref q7, .ref q8])) :: ((((((((([]) ++ [(q1, .inl (cA 0, 8, .inl (fun _ => 0)))]) ++ [(q2, .inl (cA 0, 8, .inl (fun _ => 0)))]) ++ [(q3, .inl (cA 0, 12, .inl (fun _ => 0)))]) ++ [(q4, .inl (cA 0, 12, .inl (fun _ => 0)))]) ++ [(q5, .inl (cA 0, 12, .inl (fun _ => 0)))]) ++ [(q6, .inl (cA 0, 12, .inl (fun _ => 0)))]) ++ [(q7, .inl (cA 0, 12, .inl (fun _ => 0)))]) ++ [(q8, .inl (cA 0, 12, .inl (fun _ => 0)))])) rfl ?_
  refine cn_return (pc := 68) dX7_init_68 rfl ?_ rfl rfl
  exact ⟨fun i => [q1, q2, q3, q4, q5, q6, q7, q8].getD i 0, rfl⟩
def sg_X5 (cA : Nat → ClassId) (h0 : Nat) (u : Nat → Nat) (r2 : Nat → Nat) : va_W := (h0, .inr (5, [.ref (u 0), .ref (u 1), .ref (u 2)])) :: ((((([]) ++ [((u 0), .inl (cA 4, 8, .inr (.inr (.inr (.inr (fun i => if i < 8 then some (r2 i) else none))))))]) ++ (List.range 8).map (fun i => (r2 i, .inl (cA 0, (40, .inl (fun _ => 0)))))) ++ [((u 1), .inl (cA 0, 8, .inl (fun j => if j < 8 then (-1 : Int32) else 0)))]) ++ [((u 2), .inl (cA 0, 8, .inl (fun _ => 0)))])
abbrev jX5 : mv_Y := (cX5_init, 1, RX5, none, { frames := 1, cells := 11, slots := 344, locals := 23 })
set_option maxRecDepth 100000 in
set_option maxHeartbeats 4000000 in
theorem ccX5 (l : Launch) (D : va_G) (cA : Nat → ClassId) (h0 : Nat) : cn_C l D cA yX5_init jX5 h0 (.inr (5, [.null, .null, .null])) [] 11 344 (fun ws => ∃ u r2 : Nat → Nat, ws = sg_X5 cA h0 u r2) := by
  refine cn_C.ofV (ls := [(0, .ref h0)]) (by decide) rfl rfl (Nat.le_of_ble_eq_true rfl) rfl ?_
  intro x A hxl
  subst hxl
  refine cn_aload_n (pc := 0) (i := 0) 0 dX5_init_0 rfl rfl ?_
  refine cn_obj (pc := 1) dX5_init_1 mwX5_1 ⟨obj_i, obj_c⟩ ⟨Nat.le_of_ble_eq_true rfl, Nat.le_of_ble_eq_true rfl⟩ ?_
  refine cn_aload_n (pc := 4) (i := 0) 0 dX5_init_4 rfl rfl ?_
  refine cn_bipush (pc := 5) (v := (8 : Int32)) dX5_init_5 (by decide +kernel) ?_
  refine cn_bipush (pc := 7) (v := (40 : Int32)) dX5_init_7 (by decide +kernel) ?_
  refine cn_mna (pc := 9) (to := 4) (ti := 0) (ty := .int) (N := 8) (K := 40) (z := (40, .inl (fun _ => 0))) dX5_init_9 lkX5_9 (by decide +kernel) ar_int (fun U h => h.2.2.2.1) rfl (fun U h => (h.1.2 0 _ rfl).2) (by decide +kernel) (by decide +kernel) (by decide +kernel) (by decide +kernel) (by decide +kernel) (by decide +kernel) (by decide +kernel) rfl rfl (fun c => cn_innerint c _) ⟨Nat.le_of_ble_eq_true rfl, Nat.le_of_ble_eq_true rfl⟩ (fun q1 r2 => ?_)
  refine cn_num (nc' := 9) (ns' := 328) rfl rfl ?_
  refine cn_ws (ws' := (h0, .inr (5, [.null, .null, .null])) :: ((([]) ++ [(q1, .inl (cA 4, 8, .inr (.inr (.inr (.inr (fun i => if i < 8 then some (r2 i) else none))))))]) ++ (List.range 8).map (fun i => (r2 i, .inl (cA 0, (40, .inl (fun _ => 0))))))) rfl ?_
  refine cn_putF (pc := 13) (ci := 5) (kf := 0) (ty := .array (.array .int)) dX5_init_13 inmX5 tyX5_ok nmX5 rfl (by decide) fwX5_11 rfl rfl (by decide +kernel) rfl rfl (Nat.le_of_ble_eq_true rfl) ?_
  refine cn_ws (ws' := (h0, .inr (5, [.ref q1, .null, .null])) :: ((([]) ++ [(q1, .inl (cA 4, 8, .inr (.inr (.inr (.inr (fun i => if i < 8 then some (r2 i) else none))))))]) ++ (List.range 8).map (fun i => (r2 i, .inl (cA 0, (40, .inl (fun _ => 0))))))) rfl ?_
  refine cn_aload_n (pc := 16) (i := 0) 0 dX5_init_16 rfl rfl ?_
  refine cn_bipush (pc := 17) (v := (8 : Int32)) dX5_init_17 (by decide +kernel) ?_
  refine cn_newI (pc := 19) (N := 8) dX5_init_19 ar_int (by decide +kernel) (by decide +kernel) (Nat.le_of_ble_eq_true rfl) ⟨Nat.le_of_ble_eq_true rfl, Nat.le_of_ble_eq_true rfl⟩ (fun q3 => ?_)
  refine cn_num (nc' := 10) (ns' := 336) rfl rfl ?_
  refine cn_ws (ws' := (h0, .inr (5, [.ref q1, .null, .null])) :: (((([]) ++ [(q1, .inl (cA 4, 8, .inr (.inr (.inr (.inr (fun i => if i < 8 then some (r2 i) else none))))))]) ++ (List.range 8).map (fun i => (r2 i, .inl (cA 0, (40, .inl (fun _ => 0)))))) ++ [(q3, .inl (cA 0, 8, .inl (fun _ => 0)))])) rfl ?_
  refine cn_putF (pc := 21) (ci := 5) (kf := 1) (ty := .array .int) dX5_init_21 inmX5 tyX5_ok nmX5 rfl (by decide) fwX5_14 rfl rfl (by decide +kernel) rfl rfl (Nat.le_of_ble_eq_true rfl) ?_
  refine cn_ws (ws' := (h0, .inr (5, [.ref q1, .ref q3, .null])) :: (((([]) ++ [(q1, .inl (cA 4, 8, .inr (.inr (.inr (.inr (fun i => if i < 8 then some (r2 i) else none))))))]) ++ (List.range 8).map (fun i => (r2 i, .inl (cA 0, (40, .inl (fun _ => 0)))))) ++ [(q3, .inl (cA 0, 8, .inl (fun _ => 0)))])) rfl ?_
  refine cn_aload_n (pc := 24) (i := 0) 0 dX5_init_24 rfl rfl ?_
  refine cn_bipush (pc := 25) (v := (8 : Int32)) dX5_init_25 (by decide +kernel) ?_
  refine cn_newI (pc := 27) (N := 8) dX5_init_27 ar_int (by decide +kernel) (by decide +kernel) (Nat.le_of_ble_eq_true rfl) ⟨Nat.le_of_ble_eq_true rfl, Nat.le_of_ble_eq_true rfl⟩ (fun q4 => ?_)
  refine cn_num (nc' := 11) (ns' := 344) rfl rfl ?_
  refine cn_ws (ws' := (h0, .inr (5, [.ref q1, .ref q3, .null])) :: ((((([]) ++ [(q1, .inl (cA 4, 8, .inr (.inr (.inr (.inr (fun i => if i < 8 then some (r2 i) else none))))))]) ++ (List.range 8).map (fun i => (r2 i, .inl (cA 0, (40, .inl (fun _ => 0)))))) ++ [(q3, .inl (cA 0, 8, .inl (fun _ => 0)))]) ++ [(q4, .inl (cA 0, 8, .inl (fun _ => 0)))])) rfl ?_
  refine cn_putF (pc := 29) (ci := 5) (kf := 2) (ty := .array .int) dX5_init_29 inmX5 tyX5_ok nmX5 rfl (by decide) fwX5_18 rfl rfl (by decide +kernel) rfl rfl (Nat.le_of_ble_eq_true rfl) ?_
  refine cn_ws (ws' := (h0, .inr (5, [.ref q1, .ref q3, .ref q4])) :: ((((([]) ++ [(q1, .inl (cA 4, 8, .inr (.inr (.inr (.inr (fun i => if i < 8 then some (r2 i) else none))))))]) ++ (List.range 8).map (fun i => (r2 i, .inl (cA 0, (40, .inl (fun _ => 0)))))) ++ [(q3, .inl (cA 0, 8, .inl (fun _ => 0)))]) ++ [(q4, .inl (cA 0, 8, .inl (fun _ => 0)))])) rfl ?_
  refine cn_aload_n (pc := 32) (i := 0) 0 dX5_init_32 rfl rfl ?_
  refine cn_getf (pc := 33) (ci := 5) (kf := 1) (v := .ref q3) dX5_init_33 inmX5 rfl (by decide) fwX5_14 rfl ?_
  refine cn_iconst (pc := 36) (v := (-1 : Int32)) dX5_init_36 (by decide +kernel) ?_
  refine cn_fill (pc := 37) (p := 10) dX5_init_37 mwX5_21 ⟨Nat.le_of_ble_eq_true rfl, Nat.le_of_ble_eq_true rfl⟩ rfl (by decide) (Nat.le_of_ble_eq_true rfl) ⟨Nat.le_of_ble_eq_true rfl, Nat.le_of_ble_eq_true rfl⟩ ?_
  refine cn_ws (ws' := (h0, .inr (5, [.ref q1, .ref q3, .ref q4])) :: ((((([]) ++ [(q1, .inl (cA 4, 8, .inr (.inr (.inr (.inr (fun i => if i < 8 then some (r2 i) else none))))))]) ++ (List.range 8).map (fun i => (r2 i, .inl (cA 0, (40, .inl (fun _ => 0)))))) ++ [(q3, .inl (cA 0, 8, .inl (fun j => if j < 8 then (-1 : Int32) else 0)))]) ++ [(q4, .inl (cA 0, 8, .inl (fun _ => 0)))])) rfl ?_
  refine cn_return (pc := 40) dX5_init_40 rfl ?_ rfl rfl
  exact ⟨fun i => [q1, q3, q4].getD i 0, r2, rfl⟩
def sg_X4 (cA : Nat → ClassId) (h0 : Nat) (u : Nat → Nat) (u3 : Nat → Nat) : va_W := (h0, .inr (4, [.ref (u 0), .int 0, .ref (u 1), .int 0, .int 0])) :: ((([]) ++ [((u 0), .inl (cA 0, 140, .inl (fun _ => 0)))]) ++ sg_X7 cA (u 1) u3)
abbrev jX4 : mv_Y := (cX4_init, 1, RX4, none, { frames := 2, cells := 10, slots := 239, locals := 40 })
set_option maxRecDepth 100000 in
set_option maxHeartbeats 4000000 in
theorem ccX4 (l : Launch) (D : va_G) (cA : Nat → ClassId) (h0 : Nat) : cn_C l D cA yX4_init jX4 h0 (.inr (4, [.null, .int 0, .null, .int 0, .int 0])) [] 10 239 (fun ws => ∃ u u3 : Nat → Nat, ws = sg_X4 cA h0 u u3) := by
  refine cn_C.ofV (ls := [(0, .ref h0)]) (by decide) rfl rfl (Nat.le_of_ble_eq_true rfl) rfl ?_
  intro x A hxl
  subst hxl
  refine cn_aload_n (pc := 0) (i := 0) 0 dX4_init_0 rfl rfl ?_
  refine cn_obj (pc := 1) dX4_init_1 mwX4_3 ⟨obj_i, obj_c⟩ ⟨Nat.le_of_ble_eq_true rfl, Nat.le_of_ble_eq_true rfl⟩ ?_
  refine cn_aload_n (pc := 4) (i := 0) 0 dX4_init_4 rfl rfl ?_
  refine cn_sipush (pc := 5) (v := (140 : Int32)) dX4_init_5 (by decide +kernel) ?_
  refine cn_newI (pc := 8) (N := 140) dX4_init_8 ar_int (by decide +kernel) (by decide +kernel) (Nat.le_of_ble_eq_true rfl) ⟨Nat.le_of_ble_eq_true rfl, Nat.le_of_ble_eq_true rfl⟩ (fun q1 => ?_)
  refine cn_num (nc' := 1) (ns' := 140) rfl rfl ?_
  refine cn_ws (ws' := (h0, .inr (4, [.null, .int 0, .null, .int 0, .int 0])) :: (([]) ++ [(q1, .inl (cA 0, 140, .inl (fun _ => 0)))])) rfl ?_
  refine cn_putF (pc := 10) (ci := 4) (kf := 0) (ty := .array .int) dX4_init_10 inmX4 tyX4_ok nmX4 rfl (by decide) fwX4_11 rfl rfl (by decide +kernel) rfl rfl (Nat.le_of_ble_eq_true rfl) ?_
  refine cn_ws (ws' := (h0, .inr (4, [.ref q1, .int 0, .null, .int 0, .int 0])) :: (([]) ++ [(q1, .inl (cA 0, 140, .inl (fun _ => 0)))])) rfl ?_
  refine cn_aload_n (pc := 13) (i := 0) 0 dX4_init_13 rfl rfl ?_
  refine cn_new (pc := 14) (ci := 7) (N := 11) (fs := [.int 0, .int 0, .int 0, .null, .null, .null, .null, .null, .null, .null, .null]) dX4_init_14 inmX7 tyX7_ok lkX4_15 inX7 nwX7 rfl (by decide +kernel) ⟨Nat.le_of_ble_eq_true rfl, Nat.le_of_ble_eq_true rfl⟩ (fun q2 => ?_)
  refine cn_num (nc' := 2) (ns' := 151) rfl rfl ?_
  refine cn_ws (ws' := (h0, .inr (4, [.ref q1, .int 0, .null, .int 0, .int 0])) :: ((([]) ++ [(q1, .inl (cA 0, 140, .inl (fun _ => 0)))]) ++ [(q2, .inr (7, [.int 0, .int 0, .int 0, .null, .null, .null, .null, .null, .null, .null, .null]))])) rfl ?_
  refine cn_dup (pc := 17) dX4_init_17 rfl ?_
  refine cn_call (n := 0) (nc := 2) (ns := 151) (y := jX4) (q := q2) (e0 := .inr (7, [.int 0, .int 0, .int 0, .null, .null, .null, .null, .null, .null, .null, .null])) (pc := 18) (As := []) (st := [.ref q2, .ref h0]) (W0 := (h0, .inr (4, [.ref q1, .int 0, .null, .int 0, .int 0])) :: (([]) ++ [(q1, .inl (cA 0, 140, .inl (fun _ => 0)))])) (host := "WantedTypes") dX4_init_18 (List.mem_of_getElem? mnX4_17) rfl cwX7_init nwX7 ⟨by decide +kernel, by decide +kernel, by decide +kernel⟩ iwX7_init rfl rfl rfl (by exact ⟨Nat.le_of_ble_eq_true rfl, Nat.le_of_ble_eq_true rfl⟩) (by exact ⟨Nat.le_of_ble_eq_true rfl, Nat.le_of_ble_eq_true rfl⟩) rfl (by exact Nat.le_of_ble_eq_true rfl) (ccX7 x.2.1 D cA q2) ?_
  rintro _ ⟨u3, rfl⟩
  refine cn_num (nc' := 10) (ns' := 239) rfl rfl ?_
  refine cn_ws (ws' := (h0, .inr (4, [.ref q1, .int 0, .null, .int 0, .int 0])) :: ((([]) ++ [(q1, .inl (cA 0, 140, .inl (fun _ => 0)))]) ++ sg_X7 cA q2 u3)) rfl ?_
  refine cn_putF (pc := 21) (ci := 4) (kf := 2) (ty := .object "WantedTypes$World") dX4_init_21 inmX4 tyX4_ok nmX4 rfl (by decide) fwX4_18 rfl rfl (by decide +kernel) rfl rfl (Nat.le_of_ble_eq_true rfl) ?_
  refine cn_ws (ws' := (h0, .inr (4, [.ref q1, .int 0, .ref q2, .int 0, .int 0])) :: ((([]) ++ [(q1, .inl (cA 0, 140, .inl (fun _ => 0)))]) ++ sg_X7 cA q2 u3)) rfl ?_
  refine cn_return (pc := 24) dX4_init_24 rfl ?_ rfl rfl
  exact ⟨fun i => [q1, q2].getD i 0, u3, rfl⟩
def sg_X0 (cA : Nat → ClassId) (h0 : Nat) (u : Nat → Nat) : va_W := (h0, .inr (0, [.ref (u 0), .ref (u 1), .ref (u 2), .int 0])) :: (((([]) ++ [((u 0), .inl (cA 0, 24, .inl (fun _ => 0)))]) ++ [((u 1), .inl (cA 0, 24, .inl (fun _ => 0)))]) ++ [((u 2), .inl (cA 0, 24, .inl (fun _ => 0)))])
abbrev jX0 : mv_Y := (cX0_init, 1, RX0, none, { frames := 1, cells := 3, slots := 72, locals := 20 })
set_option maxRecDepth 100000 in
set_option maxHeartbeats 4000000 in
theorem ccX0 (l : Launch) (D : va_G) (cA : Nat → ClassId) (h0 : Nat) : cn_C l D cA yX0_init jX0 h0 (.inr (0, [.null, .null, .null, .int 0])) [] 3 72 (fun ws => ∃ u : Nat → Nat, ws = sg_X0 cA h0 u) := by
  refine cn_C.ofV (ls := [(0, .ref h0)]) (by decide) rfl rfl (Nat.le_of_ble_eq_true rfl) rfl ?_
  intro x A hxl
  subst hxl
  refine cn_aload_n (pc := 0) (i := 0) 0 dX0_init_0 rfl rfl ?_
  refine cn_obj (pc := 1) dX0_init_1 mwX0_1 ⟨obj_i, obj_c⟩ ⟨Nat.le_of_ble_eq_true rfl, Nat.le_of_ble_eq_true rfl⟩ ?_
  refine cn_aload_n (pc := 4) (i := 0) 0 dX0_init_4 rfl rfl ?_
  refine cn_bipush (pc := 5) (v := (24 : Int32)) dX0_init_5 (by decide +kernel) ?_
  refine cn_newI (pc := 7) (N := 24) dX0_init_7 ar_int (by decide +kernel) (by decide +kernel) (Nat.le_of_ble_eq_true rfl) ⟨Nat.le_of_ble_eq_true rfl, Nat.le_of_ble_eq_true rfl⟩ (fun q1 => ?_)
  refine cn_num (nc' := 1) (ns' := 24) rfl rfl ?_
  refine cn_ws (ws' := (h0, .inr (0, [.null, .null, .null, .int 0])) :: (([]) ++ [(q1, .inl (cA 0, 24, .inl (fun _ => 0)))])) rfl ?_
  refine cn_putF (pc := 9) (ci := 0) (kf := 0) (ty := .array .int) dX0_init_9 inmX0 tyX0_ok nmX0 rfl (by decide) fwX0_9 rfl rfl (by decide +kernel) rfl rfl (Nat.le_of_ble_eq_true rfl) ?_
  refine cn_ws (ws' := (h0, .inr (0, [.ref q1, .null, .null, .int 0])) :: (([]) ++ [(q1, .inl (cA 0, 24, .inl (fun _ => 0)))])) rfl ?_
  refine cn_aload_n (pc := 12) (i := 0) 0 dX0_init_12 rfl rfl ?_
  refine cn_bipush (pc := 13) (v := (24 : Int32)) dX0_init_13 (by decide +kernel) ?_
  refine cn_newI (pc := 15) (N := 24) dX0_init_15 ar_int (by decide +kernel) (by decide +kernel) (Nat.le_of_ble_eq_true rfl) ⟨Nat.le_of_ble_eq_true rfl, Nat.le_of_ble_eq_true rfl⟩ (fun q2 => ?_)
  refine cn_num (nc' := 2) (ns' := 48) rfl rfl ?_
  refine cn_ws (ws' := (h0, .inr (0, [.ref q1, .null, .null, .int 0])) :: ((([]) ++ [(q1, .inl (cA 0, 24, .inl (fun _ => 0)))]) ++ [(q2, .inl (cA 0, 24, .inl (fun _ => 0)))])) rfl ?_
  refine cn_putF (pc := 17) (ci := 0) (kf := 1) (ty := .array .int) dX0_init_17 inmX0 tyX0_ok nmX0 rfl (by decide) fwX0_13 rfl rfl (by decide +kernel) rfl rfl (Nat.le_of_ble_eq_true rfl) ?_
  refine cn_ws (ws' := (h0, .inr (0, [.ref q1, .ref q2, .null, .int 0])) :: ((([]) ++ [(q1, .inl (cA 0, 24, .inl (fun _ => 0)))]) ++ [(q2, .inl (cA 0, 24, .inl (fun _ => 0)))])) rfl ?_
  refine cn_aload_n (pc := 20) (i := 0) 0 dX0_init_20 rfl rfl ?_
  refine cn_bipush (pc := 21) (v := (24 : Int32)) dX0_init_21 (by decide +kernel) ?_
  refine cn_newI (pc := 23) (N := 24) dX0_init_23 ar_int (by decide +kernel) (by decide +kernel) (Nat.le_of_ble_eq_true rfl) ⟨Nat.le_of_ble_eq_true rfl, Nat.le_of_ble_eq_true rfl⟩ (fun q3 => ?_)
  refine cn_num (nc' := 3) (ns' := 72) rfl rfl ?_
  refine cn_ws (ws' := (h0, .inr (0, [.ref q1, .ref q2, .null, .int 0])) :: (((([]) ++ [(q1, .inl (cA 0, 24, .inl (fun _ => 0)))]) ++ [(q2, .inl (cA 0, 24, .inl (fun _ => 0)))]) ++ [(q3, .inl (cA 0, 24, .inl (fun _ => 0)))])) rfl ?_
  refine cn_putF (pc := 25) (ci := 0) (kf := 2) (ty := .array .int) dX0_init_25 inmX0 tyX0_ok nmX0 rfl (by decide) fwX0_16 rfl rfl (by decide +kernel) rfl rfl (Nat.le_of_ble_eq_true rfl) ?_
  refine cn_ws (ws' := (h0, .inr (0, [.ref q1, .ref q2, .ref q3, .int 0])) :: (((([]) ++ [(q1, .inl (cA 0, 24, .inl (fun _ => 0)))]) ++ [(q2, .inl (cA 0, 24, .inl (fun _ => 0)))]) ++ [(q3, .inl (cA 0, 24, .inl (fun _ => 0)))])) rfl ?_
  refine cn_return (pc := 28) dX0_init_28 rfl ?_ rfl rfl
  exact ⟨fun i => [q1, q2, q3].getD i 0, rfl⟩
def sg_X3 (cA : Nat → ClassId) (h0 : Nat) (wa : Nat) (u : Nat → Nat) : va_W := (h0, .inr (3, [.ref wa, .ref (u 0)])) :: (([]) ++ [((u 0), .inl (cA 0, 8, .inl (fun _ => 0)))])
abbrev jX3 : mv_Y := (cX3_init, 2, RX3, none, { frames := 1, cells := 1, slots := 8, locals := 20 })
set_option maxRecDepth 100000 in
set_option maxHeartbeats 4000000 in
theorem ccX3 (l : Launch) (D : va_G) (cA : Nat → ClassId) (h0 : Nat) (wa : Nat) : cn_C l D cA yX3_init jX3 h0 (.inr (3, [.null, .null])) [.ref wa] 1 8 (fun ws => ∃ u : Nat → Nat, ws = sg_X3 cA h0 wa u) := by
  refine cn_C.ofV (ls := [(0, .ref h0), (1, .ref wa)]) (by decide) rfl rfl (Nat.le_of_ble_eq_true rfl) rfl ?_
  intro x A hxl
  subst hxl
  refine cn_aload_n (pc := 0) (i := 0) 0 dX3_init_0 rfl rfl ?_
  refine cn_obj (pc := 1) dX3_init_1 mwX3_3 ⟨obj_i, obj_c⟩ ⟨Nat.le_of_ble_eq_true rfl, Nat.le_of_ble_eq_true rfl⟩ ?_
  refine cn_aload_n (pc := 4) (i := 0) 0 dX3_init_4 rfl rfl ?_
  refine cn_bipush (pc := 5) (v := (8 : Int32)) dX3_init_5 (by decide +kernel) ?_
  refine cn_newI (pc := 7) (N := 8) dX3_init_7 ar_int (by decide +kernel) (by decide +kernel) (Nat.le_of_ble_eq_true rfl) ⟨Nat.le_of_ble_eq_true rfl, Nat.le_of_ble_eq_true rfl⟩ (fun q1 => ?_)
  refine cn_num (nc' := 1) (ns' := 8) rfl rfl ?_
  refine cn_ws (ws' := (h0, .inr (3, [.null, .null])) :: (([]) ++ [(q1, .inl (cA 0, 8, .inl (fun _ => 0)))])) rfl ?_
  refine cn_putF (pc := 9) (ci := 3) (kf := 1) (ty := .array .int) dX3_init_9 inmX3 tyX3_ok nmX3 rfl (by decide) fwX3_9 rfl rfl (by decide +kernel) rfl rfl (Nat.le_of_ble_eq_true rfl) ?_
  refine cn_ws (ws' := (h0, .inr (3, [.null, .ref q1])) :: (([]) ++ [(q1, .inl (cA 0, 8, .inl (fun _ => 0)))])) rfl ?_
  refine cn_aload_n (pc := 12) (i := 0) 0 dX3_init_12 rfl rfl ?_
  refine cn_aload_n (pc := 13) (i := 1) 1 dX3_init_13 rfl rfl ?_
  refine cn_putF (pc := 14) (ci := 3) (kf := 0) (ty := .object "WantedTypes$World") dX3_init_14 inmX3 tyX3_ok nmX3 rfl (by decide) fwX3_15 rfl rfl (by decide +kernel) rfl rfl (Nat.le_of_ble_eq_true rfl) ?_
  refine cn_ws (ws' := (h0, .inr (3, [.ref wa, .ref q1])) :: (([]) ++ [(q1, .inl (cA 0, 8, .inl (fun _ => 0)))])) rfl ?_
  refine cn_return (pc := 17) dX3_init_17 rfl ?_ rfl rfl
  exact ⟨fun i => [q1].getD i 0, rfl⟩
