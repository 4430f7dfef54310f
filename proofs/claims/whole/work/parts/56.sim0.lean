/-! AT THE START -/
theorem sim0_rows : ∀ r, r < 8 → M0M.1 3 r = -1 := by
  intro r hr
  rcases (show r = 0 ∨ r = 1 ∨ r = 2 ∨ r = 3 ∨ r = 4 ∨ r = 5 ∨ r = 6 ∨ r = 7 by omega) with rfl | rfl | rfl | rfl | rfl | rfl | rfl | rfl <;> decide +kernel
theorem sim0_M {i : Nat} (h : i ≠ 3) (j : Nat) : M0M.1 i j = 0 := by
  show (if i = 3 then _ else fun _ => (0 : Int32)) j = 0
  rw [if_neg h]
theorem sim0_X {i : Nat} (h : i ≠ 39) (j : Nat) : M0X.1 i j = 0 := by
  show (if i = 39 then _ else (0 : Int32)) = 0
  rw [if_neg h]
theorem sim0_L {i : Nat} (h : i ≠ 82) (j : Nat) : M0X.2 i j = 0 := by
  show (if i = 82 then _ else fun _ => (0 : Int64)) j = 0
  rw [if_neg h]
theorem sim0 : Sim M0X M0M := by
  refine ⟨fun _ => 0, ⟨⟨by decide, by decide, by decide, by decide, fun t ht => absurd ht (Nat.not_lt_zero _), fun k hk => absurd hk (Nat.not_lt_zero _)⟩, ⟨?_, ?_, ?_, fun t ht => absurd ht (Nat.not_lt_zero _), fun k hk => absurd hk (Nat.not_lt_zero _)⟩, fun j hj => ?_, fun r hr => Or.inl ⟨?_, sim0_rows r hr⟩, ⟨0, by decide, ?_, ?_, fun j hj => absurd hj (by omega)⟩, ⟨0, by decide, ?_, ?_, fun j hj => absurd hj (by omega)⟩, ?_, ?_, Or.inl ⟨?_, ?_⟩, Or.inl ⟨?_, ?_⟩, fun _ _ => 0, 0, by decide, rfl, ?_, ?_, fun i hi => absurd hi (by omega)⟩, ⟨fun t ht => ?_, fun k hk => ?_, fun p hp => ?_⟩, Or.inl ?_⟩
  · rw [sim0_X (by decide), nI_0]
  · rw [sim0_X (by decide), nI_0]
  · rw [sim0_X (by decide), nI_0]
  · rw [sim0_M (by decide), nI_0]
  · show (if 39 = 39 then (if r < 8 then (-1 : Int32) else 0) else 0) = -1
    rw [if_pos rfl, if_pos hr]
  · rw [sim0_X (by decide), nI_0]
  · rw [sim0_M (by decide), nI_0]
  · rw [sim0_X (by decide), nI_0]
  · rw [sim0_M (by decide), nI_0]
  · rw [sim0_X (by decide), sim0_M (by decide)]
  · rw [sim0_X (by decide), sim0_M (by decide)]
  · exact sim0_X (by decide) 0
  · exact sim0_M (by decide) 0
  · exact sim0_X (by decide) 0
  · exact sim0_M (by decide) 1
  · rw [sim0_X (by decide), nI_0]
  · rw [sim0_M (by decide), nI_0]
  · exact sim0_L (by omega) 0
  · exact sim0_L (by omega) 0
  · show (if 82 = 82 then vp_updL (fun _ => 0) (0 : Int32).toNatClampNeg (1 : Int64) else fun _ => 0) p = _
    rw [if_pos rfl, cl_0]
    by_cases e : p = 0
    · subst e; rw [pk_uLs, if_pos rfl]; rfl
    · rw [pk_uLn e, if_neg e]; rfl
  · exact sim0_X (by decide) 1
