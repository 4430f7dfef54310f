def M0M : mv_M := (fun i => if i = 3 then (upd (upd (upd (upd (upd (upd (upd (upd (fun _ => 0) (0 : Int32).toNatClampNeg (-1 : Int32)) (1 : Int32).toNatClampNeg (-1 : Int32)) (2 : Int32).toNatClampNeg (-1 : Int32)) (3 : Int32).toNatClampNeg (-1 : Int32)) (4 : Int32).toNatClampNeg (-1 : Int32)) (5 : Int32).toNatClampNeg (-1 : Int32)) (6 : Int32).toNatClampNeg (-1 : Int32)) (7 : Int32).toNatClampNeg (-1 : Int32)) else fun _ => 0, fun _ _ => 0)
theorem pl9_inj : ∀ i : Nat, i < 13 → ∀ j : Nat, j < 13 → ([0, 1, 2, 3, 4, 5, 6, 7, 8, 9, 10, 11, 12] : List Nat).getD i 0 = ([0, 1, 2, 3, 4, 5, 6, 7, 8, 9, 10, 11, 12] : List Nat).getD j 0 → i = j := by decide +kernel
set_option maxRecDepth 100000 in
set_option maxHeartbeats 4000000 in
theorem finX9 (cA : Nat → ClassId) (h0 q1 q2 q3 q4 q5 q6 q7 q8 q9 q10 q11 q12 : Nat) : (fun ws => ∃ ad : Nat → Nat, ad 0 = h0 ∧ cn_fin cA ad LM M0M ws) ((h0, .inr (9, [.ref q1, .int 0, .ref q2, .int 0, .int 0, .int 0, .ref q3, .ref q4, .ref q5, .ref q6, .int 0, .int 0, .int 0, .ref q7, .ref q8, .int 0, .ref q9, .ref q10, .int 0, .int 0, .ref q11, .ref q12, .int 0])) :: ((((((((((((([]) ++ [(q1, .inl (cA 0, 2324, .inl (fun _ => 0)))]) ++ [(q2, .inl (cA 0, 140, .inl (fun _ => 0)))]) ++ [(q3, .inl (cA 0, 8, .inl (upd (upd (upd (upd (upd (upd (upd (upd (fun _ => 0) (0 : Int32).toNatClampNeg (-1 : Int32)) (1 : Int32).toNatClampNeg (-1 : Int32)) (2 : Int32).toNatClampNeg (-1 : Int32)) (3 : Int32).toNatClampNeg (-1 : Int32)) (4 : Int32).toNatClampNeg (-1 : Int32)) (5 : Int32).toNatClampNeg (-1 : Int32)) (6 : Int32).toNatClampNeg (-1 : Int32)) (7 : Int32).toNatClampNeg (-1 : Int32))))]) ++ [(q4, .inl (cA 0, 8, .inl (fun _ => 0)))]) ++ [(q5, .inl (cA 0, 320, .inl (fun _ => 0)))]) ++ [(q6, .inl (cA 0, 40, .inl (fun _ => 0)))]) ++ [(q7, .inl (cA 1, 200, .inr (.inl (fun _ => 0))))]) ++ [(q8, .inl (cA 0, 64, .inl (fun _ => 0)))]) ++ [(q9, .inl (cA 1, 1650, .inr (.inl (fun _ => 0))))]) ++ [(q10, .inl (cA 0, 64, .inl (fun _ => 0)))]) ++ [(q11, .inl (cA 2, 2, .inl (fun _ => 0)))]) ++ [(q12, .inl (cA 0, 16, .inl (fun _ => 0)))])) := by
  refine ⟨fun i => [h0, q1, q2, q3, q4, q5, q6, q7, q8, q9, q10, q11, q12].getD i 0, rfl, fun i => [0, 1, 2, 3, 4, 5, 6, 7, 8, 9, 10, 11, 12].getD i 0, fun i j hi hj => pl9_inj i hi j hj, ?_⟩
  have key : cn_allP (fun i c => ∃ e : va_E, ((h0, .inr (9, [.ref q1, .int 0, .ref q2, .int 0, .int 0, .int 0, .ref q3, .ref q4, .ref q5, .ref q6, .int 0, .int 0, .int 0, .ref q7, .ref q8, .int 0, .ref q9, .ref q10, .int 0, .int 0, .ref q11, .ref q12, .int 0])) :: ((((((((((((([]) ++ [(q1, .inl (cA 0, 2324, .inl (fun _ => 0)))]) ++ [(q2, .inl (cA 0, 140, .inl (fun _ => 0)))]) ++ [(q3, .inl (cA 0, 8, .inl (upd (upd (upd (upd (upd (upd (upd (upd (fun _ => 0) (0 : Int32).toNatClampNeg (-1 : Int32)) (1 : Int32).toNatClampNeg (-1 : Int32)) (2 : Int32).toNatClampNeg (-1 : Int32)) (3 : Int32).toNatClampNeg (-1 : Int32)) (4 : Int32).toNatClampNeg (-1 : Int32)) (5 : Int32).toNatClampNeg (-1 : Int32)) (6 : Int32).toNatClampNeg (-1 : Int32)) (7 : Int32).toNatClampNeg (-1 : Int32))))]) ++ [(q4, .inl (cA 0, 8, .inl (fun _ => 0)))]) ++ [(q5, .inl (cA 0, 320, .inl (fun _ => 0)))]) ++ [(q6, .inl (cA 0, 40, .inl (fun _ => 0)))]) ++ [(q7, .inl (cA 1, 200, .inr (.inl (fun _ => 0))))]) ++ [(q8, .inl (cA 0, 64, .inl (fun _ => 0)))]) ++ [(q9, .inl (cA 1, 1650, .inr (.inl (fun _ => 0))))]) ++ [(q10, .inl (cA 0, 64, .inl (fun _ => 0)))]) ++ [(q11, .inl (cA 2, 2, .inl (fun _ => 0)))]) ++ [(q12, .inl (cA 0, 16, .inl (fun _ => 0)))]))[([0, 1, 2, 3, 4, 5, 6, 7, 8, 9, 10, 11, 12] : List Nat).getD i 0]? = some (([h0, q1, q2, q3, q4, q5, q6, q7, q8, q9, q10, q11, q12] : List Nat).getD i 0, e) ∧ ∀ (D : va_G) (H : Heap), va_at D vwCl (([h0, q1, q2, q3, q4, q5, q6, q7, q8, q9, q10, q11, q12] : List Nat).getD i 0, e) H → va_at D vwCl (([h0, q1, q2, q3, q4, q5, q6, q7, q8, q9, q10, q11, q12] : List Nat).getD i 0, mv_cell cA (fun i => ([h0, q1, q2, q3, q4, q5, q6, q7, q8, q9, q10, q11, q12] : List Nat).getD i 0) M0M i c) H) 0 LM := by
    refine ⟨⟨_, rfl, fun _ _ h => cn_objat rfl h⟩, ?_⟩
    refine ⟨⟨_, rfl, fun _ _ h => h⟩, ?_⟩
    refine ⟨⟨_, rfl, fun _ _ h => h⟩, ?_⟩
    refine ⟨⟨_, rfl, fun _ _ h => h⟩, ?_⟩
    refine ⟨⟨_, rfl, fun _ _ h => h⟩, ?_⟩
    refine ⟨⟨_, rfl, fun _ _ h => h⟩, ?_⟩
    refine ⟨⟨_, rfl, fun _ _ h => h⟩, ?_⟩
    refine ⟨⟨_, rfl, fun _ _ h => h⟩, ?_⟩
    refine ⟨⟨_, rfl, fun _ _ h => h⟩, ?_⟩
    refine ⟨⟨_, rfl, fun _ _ h => h⟩, ?_⟩
    refine ⟨⟨_, rfl, fun _ _ h => h⟩, ?_⟩
    refine ⟨⟨_, rfl, fun _ _ h => h⟩, ?_⟩
    refine ⟨⟨_, rfl, fun _ _ h => h⟩, ?_⟩
    exact trivial
  intro i c hc
  have := cn_allP_get _ 0 key i c hc
  rw [Nat.zero_add] at this
  exact this
