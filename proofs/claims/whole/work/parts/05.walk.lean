/-! THE WALK OVER A FIXED WORLD: all cells are made, only numbers change. Memory: cell number, slot. -/
abbrev mv_M : Type := (Nat → Nat → Int32) × (Nat → Nat → Int64)
def mv_wI (M : mv_M) (a k : Nat) (v : Int32) : mv_M := (fun i => if i = a then upd (M.1 a) k v else M.1 i, M.2)
def mv_wL (M : mv_M) (a k : Nat) (v : Int64) : mv_M := (M.1, fun i => if i = a then vp_updL (M.2 a) k v else M.2 i)
def mv_wA (M : mv_M) (a : Nat) (f : Nat → Int32) : mv_M := (fun i => if i = a then f else M.1 i, M.2)
/-- a cell's shape: (0, number of its kind, fields: 0 int, 1 long, j + 2 the cell j), (1 int row, 2 long row, 3 row of truth values, length, []), (4 .. rows of cells, length, the cells) -/
abbrev mv_L : Type := Nat × Nat × List Nat
def mv_fv (ad : Nat → Nat) (M : mv_M) (i k f : Nat) : Value := match f with
  | 0 => .int (M.1 i k)
  | 1 => .long (M.2 i k)
  | j + 2 => .ref (ad j)
def mv_cell (cA : Nat → ClassId) (ad : Nat → Nat) (M : mv_M) (i : Nat) (c : mv_L) : va_E := match c.1 with
  | 0 => .inr (c.2.1, c.2.2.mapIdx (fun k f => mv_fv ad M i k f))
  | 1 => .inl (cA 0, c.2.1, .inl (M.1 i))
  | 2 => .inl (cA 1, c.2.1, .inr (.inl (M.2 i)))
  | 3 => .inl (cA 2, c.2.1, .inl (M.1 i))
  | 4 => .inl (cA 3, c.2.1, .inr (.inr (.inr (.inr (fun j => (c.2.2[j]?).map ad)))))
  | 5 => .inl (cA 4, c.2.1, .inr (.inr (.inr (.inr (fun j => (c.2.2[j]?).map ad)))))
  | _ => .inl (cA 5, c.2.1, .inr (.inr (.inr (.inr (fun j => (c.2.2[j]?).map ad)))))
/-- kinds' numbers, row kinds' numbers, addresses, shapes -/
abbrev mv_S : Type := va_G × (Nat → ClassId) × (Nat → Nat) × List mv_L
def mv_ws (k : mv_S) (M : mv_M) : va_W := k.2.2.2.mapIdx (fun i c => (k.2.2.1 i, mv_cell k.2.1 k.2.2.1 M i c))
theorem mv_ws_at {k : mv_S} {M : mv_M} {i : Nat} {c : mv_L} (h : k.2.2.2[i]? = some c) : (mv_ws k M)[i]? = some (k.2.2.1 i, mv_cell k.2.1 k.2.2.1 M i c) := by
  unfold mv_ws
  rw [List.getElem?_mapIdx, h]
  rfl
theorem mv_ws_get {k : mv_S} {M : mv_M} {i : Nat} {q : Nat × va_E} (h : (mv_ws k M)[i]? = some q) : ∃ c, k.2.2.2[i]? = some c ∧ q = (k.2.2.1 i, mv_cell k.2.1 k.2.2.1 M i c) := by
  unfold mv_ws at h
  rw [List.getElem?_mapIdx] at h
  cases hc : k.2.2.2[i]? with
  | none => rw [hc] at h; cases h
  | some c => rw [hc] at h; exact ⟨c, rfl, (Option.some.inj h).symm⟩
theorem mv_ws_set {k : mv_S} {M M' : mv_M} {i : Nat} {c : mv_L} {e : va_E} (h : k.2.2.2[i]? = some c) (he : e = mv_cell k.2.1 k.2.2.1 M' i c) (ho : ∀ j, j ≠ i → ∀ c', mv_cell k.2.1 k.2.2.1 M' j c' = mv_cell k.2.1 k.2.2.1 M j c') : (mv_ws k M).set i (k.2.2.1 i, e) = mv_ws k M' := by
  apply List.ext_getElem?
  intro j
  by_cases hj : j = i
  · subst hj
    rw [mv_ws_at h, List.getElem?_set_self (List.getElem?_eq_some_iff.mp (mv_ws_at (M := M) h)).1, he]
  · rw [List.getElem?_set_ne (Ne.symm hj)]
    unfold mv_ws
    rw [List.getElem?_mapIdx, List.getElem?_mapIdx]
    cases k.2.2.2[j]? with
    | none => rfl
    | some c' => exact congrArg some (congrArg (Prod.mk _) (ho j hj c').symm)
def mv_DD (k : mv_S) : Prop := ∀ i j : Nat, i < k.2.2.2.length → j < k.2.2.2.length → k.2.2.1 i = k.2.2.1 j → i = j
def mv_A (k : mv_S) : Nat → Prop := fun q => ∃ i, i < k.2.2.2.length ∧ q = k.2.2.1 i
theorem mv_ws_D {k : mv_S} (M : mv_M) (h : mv_DD k) : va_D (mv_A k) (mv_ws k M) := by
  refine ⟨fun i j p q hp hq hpq => ?_, fun i q hq => ?_⟩
  · obtain ⟨c, h1, rfl⟩ := mv_ws_get hp
    obtain ⟨c', h2, rfl⟩ := mv_ws_get hq
    exact h i j (List.getElem?_eq_some_iff.mp h1).1 (List.getElem?_eq_some_iff.mp h2).1 hpq
  · obtain ⟨c, h1, rfl⟩ := mv_ws_get hq
    exact ⟨i, (List.getElem?_eq_some_iff.mp h1).1, rfl⟩
abbrev mv_tys (cA : Nat → ClassId) : List (ClassId × FieldType) := [(cA 0, .int), (cA 1, .long), (cA 2, .boolean), (cA 3, .object RX7), (cA 4, .array .int), (cA 5, .array .long)]
/-- what the tables say at a state -/
def mv_SP (k : mv_S) (U : State) : Prop := va_K k.1 vwCl (mv_tys k.2.1) U ∧ (∀ w ∈ mv_nw, va_Nw w U) ∧ mv_DD k
theorem mv_nw_kind : ∀ w ∈ mv_nw, (∃ a i b n d h, w = Cond.fieldLinkNest a i b n d h) ∨ ∃ a i x h, w = Cond.methodLinkNest a i x h := by
  unfold mv_nw
  repeat' refine List.forall_mem_cons.mpr ⟨?_, ?_⟩
  all_goals first | exact Or.inl ⟨_, _, _, _, _, _, rfl⟩ | exact Or.inr ⟨_, _, _, _, rfl⟩ | exact fun _ h => absurd h List.not_mem_nil
theorem mv_SP.warm {k : mv_S} {s U : State} (hW : s.WarmedH U.vm) (h : mv_SP k s) : mv_SP k U := by
  refine ⟨va_K.moved hW.alike h.1, fun w hw => ?_, h.2.2⟩
  have hz := h.2.1 w hw
  rcases mv_nw_kind w hw with ⟨a, i, b, n, d, hh, rfl⟩ | ⟨a, i, x, hh, rfl⟩
  · exact va_Nw.warmF hW hz
  · exact va_Nw.warmM hW hz
/-- one invocation: program, launch, env, room, state, method, args, below, method's record, code -/
abbrev mv_X : Type := Program × Launch × Env × Room × State × MethodId × Array Value × List Frame × Method × Code
/-- a method: bytes, locals, its owner's name, what it returns, its room -/
abbrev mv_Y : Type := ByteArray × Nat × String × Option FieldType × Room
def mv_w (yn : MethodName) (y : mv_Y) : List Cond := Cond.code yn y.1 y.2.1 y.2.2.2.1 :: mv_all
def mv_G (x : mv_X) (k : mv_S) (y : mv_Y) : Prop :=
  x.1.tables.exec = Jvm.exec ∧ x.2.2.2.2.2.2.2.2.2.code = y.1 ∧ x.2.2.2.2.2.2.2.2.2.maxLocals = y.2.1 ∧ x.2.2.2.2.1.vm.findClass y.2.2.1 = some x.2.2.2.2.2.1.cls ∧ (∀ w ∈ mv_all, w.before x.2.2.2.2.2.2.1 x.2.2.2.2.1 = true) ∧ x.2.2.2.2.2.2.2.2.1.sig.returnType = y.2.2.2.1 ∧ x.2.2.2.2.2.2.2.2.1.locks = false ∧ x.2.2.2.1 = y.2.2.2.2 ∧ mv_SP k x.2.2.2.2.1
def mv_Q (k : mv_S) (rM : Option Value × mv_M) : Array Value → State → Outcome → State → Prop := fun _ st o t => (o = .returned rM.1 ∧ va_P k.1 vwCl (mv_ws k rM.2) t.heap) ∧ va_F (mv_A k) st t
abbrev mv_WW (x : mv_X) (k : mv_S) (rM : Option Value × mv_M) (H : Heap) (locs : List Loc) (g : JFrame) : Prop :=
  W x.1 x.2.1 x.2.2.1 x.2.2.2.1 x.2.2.2.2.1 x.2.2.2.2.2.1 x.2.2.2.2.2.2.1 x.2.2.2.2.2.2.2.1 x.2.2.2.2.2.2.2.2.1 x.2.2.2.2.2.2.2.2.2 H locs 0 0 (MQ x.2.2.2.2.2.2.2.1 (mv_Q k rM) x.2.2.2.2.2.2.1 x.2.2.2.2.1 0 0 (mv_A k)) g
/-- from here on the method returns what G says, if G says something -/
def mv_V {α : Type} (x : mv_X) (k : mv_S) (y : mv_Y) (ρ : α → Option Value × mv_M) (pc : Nat) (ls : List (Nat × Value)) (st : List Value) (M : mv_M) (G : Option α) : Prop :=
  mv_G x k y → ∀ r, G = some r → ∀ (H : Heap) (locs : List Loc) (lsA : Array Slot), va_P k.1 vwCl (mv_ws k M) H → va_S (mv_A k) x.2.2.2.2.1.heap H locs → lv_has lsA y.2.1 ls → mv_WW x k (ρ r) H locs (F0 x.2.2.2.2.2.1 pc lsA st)
def mv_C {α : Type} (l : Launch) (k : mv_S) (yn : MethodName) (y : mv_Y) (ρ : α → Option Value × mv_M) (args : List Value) (M : mv_M) (G : Option α) : Prop :=
  ∀ r, G = some r → Met l yn (mv_w yn y) y.2.2.2.2 (va_Pc args (fun U => va_P k.1 vwCl (mv_ws k M) U.heap ∧ mv_SP k U)) (mv_Q k (ρ r)) 0 0 (mv_A k)
theorem mv_C.ofV {α : Type} {l : Launch} {k : mv_S} {yn : MethodName} {y : mv_Y} {ρ : α → Option Value × mv_M} {args : List Value} {ls : List (Nat × Value)} {M : mv_M} {G : Option α} (hp : plainName yn.cls = true) (ho : yn.cls = y.2.2.1) (hn : (lg_sl args).length ≤ y.2.1) (hl : lv_args 0 args = ls)
    (kk : ∀ x : mv_X, x.2.1 = l → mv_V x k y ρ 0 ls [] M G) : mv_C l k yn y ρ args M G := by
  intro r hr
  refine Met.ofW (cc := y.1) (maxL := y.2.1) (ret := y.2.2.2.1) hp rfl ?_
  intro p e s m args' below meth c s₁ B hml hv
  obtain ⟨rfl, hP, hSP⟩ := hv
  have hts := atoms_spec (ws := mv_w yn y) B.pre
  have hown : s.vm.findClass yn.cls = some m.cls := findClass_of_methodNamed B.named
  rw [lg_entry_eq]
  have h := kk (p, l, e, (headSpec (mv_w yn y) y.2.2.2.2).room, s, m, args.toArray, below, meth, c) rfl ⟨B.exec, B.bytes, hml, ho ▸ hown, fun w hw => hts w (List.mem_cons_of_mem _ hw), B.returns, B.notSynchronized, rfl, hSP⟩ r hr s.heap [] _ hP va_S.rf (hl ▸ lv_entry args hn)
  exact h
def mv_ri (r : Int32 × mv_M) : Option Value × mv_M := (some (.int r.1), r.2)
def mv_rl (r : Int64 × mv_M) : Option Value × mv_M := (some (.long r.1), r.2)
def mv_rv (r : mv_M) : Option Value × mv_M := (none, r)
/-! the words of the walk: naming, guards, loops -/
def mv_let {α β : Type} (v : α) (g : α → β) : β := g v
def mv_ob {α : Type} (i : Int32) (n : Nat) (G : Option α) : Option α := if i < 0 ∨ n ≤ i.toNatClampNeg then none else G
def mv_nz {α : Type} (i : Int32) (G : Option α) : Option α := if i = 0 then none else G
def mv_nzl {α : Type} (i : Int64) (G : Option α) : Option α := if i = 0 then none else G
def mv_bi {α : Type} (G : Option (Int32 × mv_M)) (g : Int32 → mv_M → Option α) : Option α := G.bind fun q => g q.1 q.2
def mv_bl {α : Type} (G : Option (Int64 × mv_M)) (g : Int64 → mv_M → Option α) : Option α := G.bind fun q => g q.1 q.2
def mv_bv {α : Type} (G : Option mv_M) (g : mv_M → Option α) : Option α := G.bind g
def mv_lp {σ α : Type} (B : (σ → Option α) → σ → Option α) : Nat → σ → Option α
  | 0, _ => none
  | n + 1, s => B (mv_lp B n) s
theorem mv_lp_ind {σ α : Type} {B : (σ → Option α) → σ → Option α} (P : σ → Option α → Prop) (hz : ∀ s, P s none) (hs : ∀ f : σ → Option α, (∀ s, P s (f s)) → ∀ s, P s (B f s)) : ∀ n s, P s (mv_lp B n s)
  | 0, s => hz s
  | n + 1, s => hs (mv_lp B n) (mv_lp_ind P hz hs n) s
section MV
variable {α : Type} {x : mv_X} {k : mv_S} {y : mv_Y} {ρ : α → Option Value × mv_M} {pc : Nat} {ls : List (Nat × Value)} {st : List Value} {M : mv_M} {G : Option α}
theorem mv_none : mv_V x k y ρ pc ls st M (none : Option α) := fun _ r hr => by cases hr
theorem mv_sub (ks : List Nat) {ls' : List (Nat × Value)} (h : lv_pick ls ks = ls') (kk : mv_V x k y ρ pc ls' st M G) : mv_V x k y ρ pc ls st M G :=
  fun hg r hr H locs lsA hP hS hl => kk hg r hr H locs lsA hP hS (lv_sub hl ks h)
theorem mv_eqv {G' : Option α} {st' : List Value} {pc' : Nat} (e1 : pc = pc') (e2 : st = st') (e3 : G = G') (kk : mv_V x k y ρ pc' ls st' M G') : mv_V x k y ρ pc ls st M G := by subst e1; subst e2; subst e3; exact kk
theorem mv_jp {σ : Type} {pj : Nat} {lj : σ → List (Nat × Value)} {sj : σ → List Value} {Mj : σ → mv_M} {F : σ → Option α} {g : (σ → Option α) → Option α} (hF : ∀ s, mv_V x k y ρ pj (lj s) (sj s) (Mj s) (F s)) (hg : ∀ f : σ → Option α, (∀ s, mv_V x k y ρ pj (lj s) (sj s) (Mj s) (f s)) → mv_V x k y ρ pc ls st M (g f)) : mv_V x k y ρ pc ls st M (mv_let F g) := hg F hF
theorem mv_loop {σ : Type} {lj : σ → List (Nat × Value)} {Mj : σ → mv_M} {B : (σ → Option α) → σ → Option α} (hs : ∀ f : σ → Option α, (∀ s, mv_V x k y ρ pc (lj s) [] (Mj s) (f s)) → ∀ s, mv_V x k y ρ pc (lj s) [] (Mj s) (B f s)) (n : Nat) (s : σ) : mv_V x k y ρ pc (lj s) [] (Mj s) (mv_lp B n s) :=
  mv_lp_ind (fun s G => mv_V x k y ρ pc (lj s) [] (Mj s) G) (fun _ => mv_none) hs n s
/-! one row an instruction -/
theorem mv_iload_n {n : Fin 4} {i : Nat} {v : Int32} (j : Nat) (h : decode y.1 pc = .ok (.iload_n n, 1)) (hi : (n : Nat) = i) (hj : ls[j]? = some (i, .int v)) (kk : mv_V x k y ρ (pc + 1) ls (.int v :: st) M G) : mv_V x k y ρ pc ls st M G :=
  fun hg r hr H locs lsA hP hS hl => lv_iload_n hg.1 hg.2.1 h hi (lv_at hl j hj) (kk hg r hr H locs lsA hP hS hl)
theorem mv_iload {i : Nat} {v : Int32} (j : Nat) (h : decode y.1 pc = .ok (.iload i, 2)) (hj : ls[j]? = some (i, .int v)) (kk : mv_V x k y ρ (pc + 2) ls (.int v :: st) M G) : mv_V x k y ρ pc ls st M G :=
  fun hg r hr H locs lsA hP hS hl => lv_iload hg.1 hg.2.1 h (lv_at hl j hj) (kk hg r hr H locs lsA hP hS hl)
theorem mv_lload_n {n : Fin 4} {i : Nat} {v : Int64} (j : Nat) (h : decode y.1 pc = .ok (.lload_n n, 1)) (hi : (n : Nat) = i) (hj : ls[j]? = some (i, .long v)) (kk : mv_V x k y ρ (pc + 1) ls (.long v :: st) M G) : mv_V x k y ρ pc ls st M G :=
  fun hg r hr H locs lsA hP hS hl => lv_lload_n hg.1 hg.2.1 h hi (lv_at hl j hj) (kk hg r hr H locs lsA hP hS hl)
theorem mv_lload {i : Nat} {v : Int64} (j : Nat) (h : decode y.1 pc = .ok (.lload i, 2)) (hj : ls[j]? = some (i, .long v)) (kk : mv_V x k y ρ (pc + 2) ls (.long v :: st) M G) : mv_V x k y ρ pc ls st M G :=
  fun hg r hr H locs lsA hP hS hl => lv_lload hg.1 hg.2.1 h (lv_at hl j hj) (kk hg r hr H locs lsA hP hS hl)
theorem mv_aload_n {n : Fin 4} {i : Nat} {v : Nat} (j : Nat) (h : decode y.1 pc = .ok (.aload_n n, 1)) (hi : (n : Nat) = i) (hj : ls[j]? = some (i, .ref v)) (kk : mv_V x k y ρ (pc + 1) ls (.ref v :: st) M G) : mv_V x k y ρ pc ls st M G :=
  fun hg r hr H locs lsA hP hS hl => lv_aload_n hg.1 hg.2.1 h hi (lv_at hl j hj) (kk hg r hr H locs lsA hP hS hl)
theorem mv_aload {i : Nat} {v : Nat} (j : Nat) (h : decode y.1 pc = .ok (.aload i, 2)) (hj : ls[j]? = some (i, .ref v)) (kk : mv_V x k y ρ (pc + 2) ls (.ref v :: st) M G) : mv_V x k y ρ pc ls st M G :=
  fun hg r hr H locs lsA hP hS hl => lv_aload hg.1 hg.2.1 h (lv_at hl j hj) (kk hg r hr H locs lsA hP hS hl)
/-- what is kept of the locals when one slot is written -/
def mv_cut (i : Nat) (l : List (Nat × Value)) : List (Nat × Value) := l.filter (fun q => !(q.1 == i) && !(q.1 + 1 == i && q.2.category == 2))
def mv_cutl (i : Nat) (l : List (Nat × Value)) : List (Nat × Value) := l.filter (fun q => !(q.1 == i) && (!(q.1 == i + 1) && !(q.1 + 1 == i && q.2.category == 2)))
theorem mv_istore_n {n : Fin 4} {i : Nat} {v : Int32} {ls' : List (Nat × Value)} {g : Int32 → Option α} (h : decode y.1 pc = .ok (.istore_n n, 1)) (hi : (n : Nat) = i) (hn : i < y.2.1) (hl' : mv_cut i ls = ls') (kk : ∀ v : Int32, mv_V x k y ρ (pc + 1) ((i, .int v) :: ls') st M (g v)) : mv_V x k y ρ pc ls (.int v :: st) M (mv_let v g) :=
  fun hg r hr H locs lsA hP hS hl => lv_istore_n hg.1 hg.2.1 h hi hl hn (congrArg _ hl') (fun lsB hB => kk v hg r hr H locs lsB hP hS hB)
theorem mv_istore {i : Nat} {v : Int32} {ls' : List (Nat × Value)} {g : Int32 → Option α} (h : decode y.1 pc = .ok (.istore i, 2)) (hn : i < y.2.1) (hl' : mv_cut i ls = ls') (kk : ∀ v : Int32, mv_V x k y ρ (pc + 2) ((i, .int v) :: ls') st M (g v)) : mv_V x k y ρ pc ls (.int v :: st) M (mv_let v g) :=
  fun hg r hr H locs lsA hP hS hl => lv_istore hg.1 hg.2.1 h hl hn (congrArg _ hl') (fun lsB hB => kk v hg r hr H locs lsB hP hS hB)
theorem mv_lstore_n {n : Fin 4} {i : Nat} {v : Int64} {ls' : List (Nat × Value)} {g : Int64 → Option α} (h : decode y.1 pc = .ok (.lstore_n n, 1)) (hi : (n : Nat) = i) (hn : i + 1 < y.2.1) (hl' : mv_cutl i ls = ls') (kk : ∀ v : Int64, mv_V x k y ρ (pc + 1) ((i, .long v) :: ls') st M (g v)) : mv_V x k y ρ pc ls (.long v :: st) M (mv_let v g) :=
  fun hg r hr H locs lsA hP hS hl => lv_lstore_n hg.1 hg.2.1 h hi hl hn (congrArg _ hl') (fun lsB hB => kk v hg r hr H locs lsB hP hS hB)
theorem mv_lstore {i : Nat} {v : Int64} {ls' : List (Nat × Value)} {g : Int64 → Option α} (h : decode y.1 pc = .ok (.lstore i, 2)) (hn : i + 1 < y.2.1) (hl' : mv_cutl i ls = ls') (kk : ∀ v : Int64, mv_V x k y ρ (pc + 2) ((i, .long v) :: ls') st M (g v)) : mv_V x k y ρ pc ls (.long v :: st) M (mv_let v g) :=
  fun hg r hr H locs lsA hP hS hl => lv_lstore hg.1 hg.2.1 h hl hn (congrArg _ hl') (fun lsB hB => kk v hg r hr H locs lsB hP hS hB)
theorem mv_astore_n {n : Fin 4} {i a : Nat} {ls' : List (Nat × Value)} (h : decode y.1 pc = .ok (.astore_n n, 1)) (hi : (n : Nat) = i) (hn : i < y.2.1) (hl' : mv_cut i ls = ls') (kk : mv_V x k y ρ (pc + 1) ((i, .ref a) :: ls') st M G) : mv_V x k y ρ pc ls (.ref a :: st) M G :=
  fun hg r hr H locs lsA hP hS hl => lv_astore_n hg.1 hg.2.1 h hi hl hn (congrArg _ hl') (fun lsB hB => kk hg r hr H locs lsB hP hS hB)
theorem mv_astore {i a : Nat} {ls' : List (Nat × Value)} (h : decode y.1 pc = .ok (.astore i, 2)) (hn : i < y.2.1) (hl' : mv_cut i ls = ls') (kk : mv_V x k y ρ (pc + 2) ((i, .ref a) :: ls') st M G) : mv_V x k y ρ pc ls (.ref a :: st) M G :=
  fun hg r hr H locs lsA hP hS hl => lv_astore hg.1 hg.2.1 h hl hn (congrArg _ hl') (fun lsB hB => kk hg r hr H locs lsB hP hS hB)
theorem mv_iinc {i : Nat} {n : Int} {v d : Int32} {ls' : List (Nat × Value)} {g : Int32 → Option α} (j : Nat) (h : decode y.1 pc = .ok (.iinc i n, 3)) (hj : ls[j]? = some (i, .int v)) (hd : Int32.ofInt n = d) (hn : i < y.2.1) (hl' : mv_cut i ls = ls') (kk : ∀ v : Int32, mv_V x k y ρ (pc + 3) ((i, .int v) :: ls') st M (g v)) : mv_V x k y ρ pc ls st M (mv_let (v + d) g) :=
  fun hg r hr H locs lsA hP hS hl => lv_iinc (v := v + d) hg.1 hg.2.1 h hl hj (by rw [hd]) hn (congrArg _ hl') (fun lsB hB => kk (v + d) hg r hr H locs lsB hP hS hB)
theorem mv_iconst {n : Int} {v : Int32} (h : decode y.1 pc = .ok (.iconst n, 1)) (hv : Int32.ofInt n = v) (kk : mv_V x k y ρ (pc + 1) ls (.int v :: st) M G) : mv_V x k y ρ pc ls st M G :=
  fun hg r hr H locs lsA hP hS hl => lv_iconst hg.1 hg.2.1 h hv (kk hg r hr H locs lsA hP hS hl)
theorem mv_lconst {n : Fin 2} {v : Int64} (h : decode y.1 pc = .ok (.lconst n, 1)) (hv : Int64.ofNat (n : Nat) = v) (kk : mv_V x k y ρ (pc + 1) ls (.long v :: st) M G) : mv_V x k y ρ pc ls st M G :=
  fun hg r hr H locs lsA hP hS hl => lv_lconst hg.1 hg.2.1 h hv (kk hg r hr H locs lsA hP hS hl)
theorem mv_bipush {n : Int} {v : Int32} (h : decode y.1 pc = .ok (.bipush n, 2)) (hv : (Int8.ofInt n).toInt32 = v) (kk : mv_V x k y ρ (pc + 2) ls (.int v :: st) M G) : mv_V x k y ρ pc ls st M G :=
  fun hg r hr H locs lsA hP hS hl => lv_bipush hg.1 hg.2.1 h hv (kk hg r hr H locs lsA hP hS hl)
theorem mv_sipush {n : Int} {v : Int32} (h : decode y.1 pc = .ok (.sipush n, 3)) (hv : (Int16.ofInt n).toInt32 = v) (kk : mv_V x k y ρ (pc + 3) ls (.int v :: st) M G) : mv_V x k y ρ pc ls st M G :=
  fun hg r hr H locs lsA hP hS hl => lv_sipush hg.1 hg.2.1 h hv (kk hg r hr H locs lsA hP hS hl)
theorem mv_ldc {n : Nat} {v : Int32} (h : decode y.1 pc = .ok (.ldc n, 2)) (hw : Cond.constant y.2.2.1 n v ∈ mv_all) (kk : mv_V x k y ρ (pc + 2) ls (.int v :: st) M G) : mv_V x k y ρ pc ls st M G :=
  fun hg r hr H locs lsA hP hS hl => lv_ldc hg.1 hg.2.1 hg.2.2.2.1 (hg.2.2.2.2.1 _ hw) h (kk hg r hr H locs lsA hP hS hl)
theorem mv_ldc_w {n : Nat} {v : Int32} (h : decode y.1 pc = .ok (.ldc_w n, 3)) (hw : Cond.constant y.2.2.1 n v ∈ mv_all) (kk : mv_V x k y ρ (pc + 3) ls (.int v :: st) M G) : mv_V x k y ρ pc ls st M G :=
  fun hg r hr H locs lsA hP hS hl => lv_ldcw hg.1 hg.2.1 hg.2.2.2.1 (hg.2.2.2.2.1 _ hw) h (kk hg r hr H locs lsA hP hS hl)
theorem mv_ldc2_w {n : Nat} {v : Int64} (h : decode y.1 pc = .ok (.ldc2_w n, 3)) (hw : Cond.constantLong y.2.2.1 n v ∈ mv_all) (kk : mv_V x k y ρ (pc + 3) ls (.long v :: st) M G) : mv_V x k y ρ pc ls st M G :=
  fun hg r hr H locs lsA hP hS hl => lv_ldc2 hg.1 hg.2.1 hg.2.2.2.1 (hg.2.2.2.2.1 _ hw) h (kk hg r hr H locs lsA hP hS hl)
theorem mv_dup {v : Value} (h : decode y.1 pc = .ok (.dup, 1)) (hv : v.category = 1) (kk : mv_V x k y ρ (pc + 1) ls (v :: v :: st) M G) : mv_V x k y ρ pc ls (v :: st) M G :=
  fun hg r hr H locs lsA hP hS hl => lv_dup hg.1 hg.2.1 h hv (kk hg r hr H locs lsA hP hS hl)
theorem mv_dup2 {v w : Value} (h : decode y.1 pc = .ok (.dup2, 1)) (hv : v.category = 1) (hw : w.category = 1) (kk : mv_V x k y ρ (pc + 1) ls (v :: w :: v :: w :: st) M G) : mv_V x k y ρ pc ls (v :: w :: st) M G :=
  fun hg r hr H locs lsA hP hS hl => lv_dup2_11 hg.1 hg.2.1 h hv hw (kk hg r hr H locs lsA hP hS hl)
theorem mv_pop {v : Value} (h : decode y.1 pc = .ok (.pop, 1)) (hv : v.category = 1) (kk : mv_V x k y ρ (pc + 1) ls st M G) : mv_V x k y ρ pc ls (v :: st) M G :=
  fun hg r hr H locs lsA hP hS hl => lv_pop hg.1 hg.2.1 h hv (kk hg r hr H locs lsA hP hS hl)
theorem mv_iadd {a b : Int32} (h : decode y.1 pc = .ok (.iadd, 1)) (kk : mv_V x k y ρ (pc + 1) ls (.int (a + b) :: st) M G) : mv_V x k y ρ pc ls (.int b :: .int a :: st) M G :=
  fun hg r hr H locs lsA hP hS hl => lv_iadd hg.1 hg.2.1 h (kk hg r hr H locs lsA hP hS hl)
theorem mv_isub {a b : Int32} (h : decode y.1 pc = .ok (.isub, 1)) (kk : mv_V x k y ρ (pc + 1) ls (.int (a - b) :: st) M G) : mv_V x k y ρ pc ls (.int b :: .int a :: st) M G :=
  fun hg r hr H locs lsA hP hS hl => lv_isub hg.1 hg.2.1 h (kk hg r hr H locs lsA hP hS hl)
theorem mv_imul {a b : Int32} (h : decode y.1 pc = .ok (.imul, 1)) (kk : mv_V x k y ρ (pc + 1) ls (.int (a * b) :: st) M G) : mv_V x k y ρ pc ls (.int b :: .int a :: st) M G :=
  fun hg r hr H locs lsA hP hS hl => lv_imul hg.1 hg.2.1 h (kk hg r hr H locs lsA hP hS hl)
theorem mv_iand {a b : Int32} (h : decode y.1 pc = .ok (.iand, 1)) (kk : mv_V x k y ρ (pc + 1) ls (.int (a &&& b) :: st) M G) : mv_V x k y ρ pc ls (.int b :: .int a :: st) M G :=
  fun hg r hr H locs lsA hP hS hl => lv_iand hg.1 hg.2.1 h (kk hg r hr H locs lsA hP hS hl)
theorem mv_ior {a b : Int32} (h : decode y.1 pc = .ok (.ior, 1)) (kk : mv_V x k y ρ (pc + 1) ls (.int (a ||| b) :: st) M G) : mv_V x k y ρ pc ls (.int b :: .int a :: st) M G :=
  fun hg r hr H locs lsA hP hS hl => lv_ior hg.1 hg.2.1 h (kk hg r hr H locs lsA hP hS hl)
theorem mv_ixor {a b : Int32} (h : decode y.1 pc = .ok (.ixor, 1)) (kk : mv_V x k y ρ (pc + 1) ls (.int (a ^^^ b) :: st) M G) : mv_V x k y ρ pc ls (.int b :: .int a :: st) M G :=
  fun hg r hr H locs lsA hP hS hl => lv_ixor hg.1 hg.2.1 h (kk hg r hr H locs lsA hP hS hl)
theorem mv_ishl {a b : Int32} (h : decode y.1 pc = .ok (.ishl, 1)) (kk : mv_V x k y ρ (pc + 1) ls (.int (a <<< (b &&& 31)) :: st) M G) : mv_V x k y ρ pc ls (.int b :: .int a :: st) M G :=
  fun hg r hr H locs lsA hP hS hl => lv_ishl hg.1 hg.2.1 h (kk hg r hr H locs lsA hP hS hl)
theorem mv_ishr {a b : Int32} (h : decode y.1 pc = .ok (.ishr, 1)) (kk : mv_V x k y ρ (pc + 1) ls (.int (a >>> (b &&& 31)) :: st) M G) : mv_V x k y ρ pc ls (.int b :: .int a :: st) M G :=
  fun hg r hr H locs lsA hP hS hl => lv_ishr hg.1 hg.2.1 h (kk hg r hr H locs lsA hP hS hl)
theorem mv_ineg {a : Int32} (h : decode y.1 pc = .ok (.ineg, 1)) (kk : mv_V x k y ρ (pc + 1) ls (.int (-a) :: st) M G) : mv_V x k y ρ pc ls (.int a :: st) M G :=
  fun hg r hr H locs lsA hP hS hl => lv_ineg hg.1 hg.2.1 h (kk hg r hr H locs lsA hP hS hl)
theorem mv_i2b {a : Int32} (h : decode y.1 pc = .ok (.i2b, 1)) (kk : mv_V x k y ρ (pc + 1) ls (.int a.toInt8.toInt32 :: st) M G) : mv_V x k y ρ pc ls (.int a :: st) M G :=
  fun hg r hr H locs lsA hP hS hl => lv_i2b hg.1 hg.2.1 h rfl (kk hg r hr H locs lsA hP hS hl)
theorem mv_i2s {a : Int32} (h : decode y.1 pc = .ok (.i2s, 1)) (kk : mv_V x k y ρ (pc + 1) ls (.int a.toInt16.toInt32 :: st) M G) : mv_V x k y ρ pc ls (.int a :: st) M G :=
  fun hg r hr H locs lsA hP hS hl => lv_i2s hg.1 hg.2.1 h rfl (kk hg r hr H locs lsA hP hS hl)
theorem mv_i2l {a : Int32} (h : decode y.1 pc = .ok (.i2l, 1)) (kk : mv_V x k y ρ (pc + 1) ls (.long a.toInt64 :: st) M G) : mv_V x k y ρ pc ls (.int a :: st) M G :=
  fun hg r hr H locs lsA hP hS hl => lv_i2l hg.1 hg.2.1 h rfl (kk hg r hr H locs lsA hP hS hl)
theorem mv_l2i {a : Int64} (h : decode y.1 pc = .ok (.l2i, 1)) (kk : mv_V x k y ρ (pc + 1) ls (.int a.toInt32 :: st) M G) : mv_V x k y ρ pc ls (.long a :: st) M G :=
  fun hg r hr H locs lsA hP hS hl => lv_l2i hg.1 hg.2.1 h rfl (kk hg r hr H locs lsA hP hS hl)
theorem mv_ladd {a b : Int64} (h : decode y.1 pc = .ok (.ladd, 1)) (kk : mv_V x k y ρ (pc + 1) ls (.long (a + b) :: st) M G) : mv_V x k y ρ pc ls (.long b :: .long a :: st) M G :=
  fun hg r hr H locs lsA hP hS hl => lv_ladd hg.1 hg.2.1 h (kk hg r hr H locs lsA hP hS hl)
theorem mv_lsub {a b : Int64} (h : decode y.1 pc = .ok (.lsub, 1)) (kk : mv_V x k y ρ (pc + 1) ls (.long (a - b) :: st) M G) : mv_V x k y ρ pc ls (.long b :: .long a :: st) M G :=
  fun hg r hr H locs lsA hP hS hl => lv_lsub hg.1 hg.2.1 h (kk hg r hr H locs lsA hP hS hl)
theorem mv_lmul {a b : Int64} (h : decode y.1 pc = .ok (.lmul, 1)) (kk : mv_V x k y ρ (pc + 1) ls (.long (a * b) :: st) M G) : mv_V x k y ρ pc ls (.long b :: .long a :: st) M G :=
  fun hg r hr H locs lsA hP hS hl => lv_lmul hg.1 hg.2.1 h (kk hg r hr H locs lsA hP hS hl)
theorem mv_lcmp {a b : Int64} (h : decode y.1 pc = .ok (.lcmp, 1)) (kk : mv_V x k y ρ (pc + 1) ls (.int (lg_cmp a b) :: st) M G) : mv_V x k y ρ pc ls (.long b :: .long a :: st) M G :=
  fun hg r hr H locs lsA hP hS hl => W.lcmp hg.1 hg.2.1 h (kk hg r hr H locs lsA hP hS hl)
theorem mv_idiv {a b : Int32} (h : decode y.1 pc = .ok (.idiv, 1)) (kk : mv_V x k y ρ (pc + 1) ls (.int (a / b) :: st) M G) : mv_V x k y ρ pc ls (.int b :: .int a :: st) M (mv_nz b G) := by
  intro hg r hr H locs lsA hP hS hl
  unfold mv_nz at hr
  by_cases hb : b = 0
  · rw [if_pos hb] at hr; cases hr
  · rw [if_neg hb] at hr
    exact lv_idiv hg.1 hg.2.1 h hb (kk hg r hr H locs lsA hP hS hl)
theorem mv_lrem {a b : Int64} (h : decode y.1 pc = .ok (.lrem, 1)) (kk : mv_V x k y ρ (pc + 1) ls (.long (a - a / b * b) :: st) M G) : mv_V x k y ρ pc ls (.long b :: .long a :: st) M (mv_nzl b G) := by
  intro hg r hr H locs lsA hP hS hl
  unfold mv_nzl at hr
  by_cases hb : b = 0
  · rw [if_pos hb] at hr; cases hr
  · rw [if_neg hb] at hr
    exact lv_lrem hg.1 hg.2.1 h hb (kk hg r hr H locs lsA hP hS hl)
theorem mv_goto {off : Int} {tgt : Nat} (h : decode y.1 pc = .ok (.goto off, 3)) (ht : (pc : Int) + off = (tgt : Int)) (kk : mv_V x k y ρ tgt ls st M G) : mv_V x k y ρ pc ls st M G :=
  fun hg r hr H locs lsA hP hS hl => lv_goto hg.1 hg.2.1 h ht (kk hg r hr H locs lsA hP hS hl)
theorem mv_icmp_eq {a b : Int32} {off : Int} {tgt : Nat} {G1 G2 : Option α} (h : decode y.1 pc = .ok (.if_icmp .eq off, 3)) (ht : (pc : Int) + off = (tgt : Int)) (kt : mv_V x k y ρ tgt ls st M G1) (kf : mv_V x k y ρ (pc + 3) ls st M G2) : mv_V x k y ρ pc ls (.int b :: .int a :: st) M (if a = b then G1 else G2) :=
  fun hg r hr H locs lsA hP hS hl => lv_icmp_eq hg.1 hg.2.1 h ht (fun hc => kt hg r (by rw [if_pos hc] at hr; exact hr) H locs lsA hP hS hl) (fun hc => kf hg r (by rw [if_neg hc] at hr; exact hr) H locs lsA hP hS hl)
theorem mv_if_eq {a : Int32} {off : Int} {tgt : Nat} {G1 G2 : Option α} (h : decode y.1 pc = .ok (.ifCond .eq off, 3)) (ht : (pc : Int) + off = (tgt : Int)) (kt : mv_V x k y ρ tgt ls st M G1) (kf : mv_V x k y ρ (pc + 3) ls st M G2) : mv_V x k y ρ pc ls (.int a :: st) M (if a = 0 then G1 else G2) :=
  fun hg r hr H locs lsA hP hS hl => lv_if_eq hg.1 hg.2.1 h ht (fun hc => kt hg r (by rw [if_pos hc] at hr; exact hr) H locs lsA hP hS hl) (fun hc => kf hg r (by rw [if_neg hc] at hr; exact hr) H locs lsA hP hS hl)
theorem mv_icmp_ne {a b : Int32} {off : Int} {tgt : Nat} {G1 G2 : Option α} (h : decode y.1 pc = .ok (.if_icmp .ne off, 3)) (ht : (pc : Int) + off = (tgt : Int)) (kt : mv_V x k y ρ tgt ls st M G1) (kf : mv_V x k y ρ (pc + 3) ls st M G2) : mv_V x k y ρ pc ls (.int b :: .int a :: st) M (if a = b then G2 else G1) :=
  fun hg r hr H locs lsA hP hS hl => lv_icmp_ne hg.1 hg.2.1 h ht (fun hc => kt hg r (by rw [if_neg hc] at hr; exact hr) H locs lsA hP hS hl) (fun hc => kf hg r (by rw [if_pos hc] at hr; exact hr) H locs lsA hP hS hl)
theorem mv_if_ne {a : Int32} {off : Int} {tgt : Nat} {G1 G2 : Option α} (h : decode y.1 pc = .ok (.ifCond .ne off, 3)) (ht : (pc : Int) + off = (tgt : Int)) (kt : mv_V x k y ρ tgt ls st M G1) (kf : mv_V x k y ρ (pc + 3) ls st M G2) : mv_V x k y ρ pc ls (.int a :: st) M (if a = 0 then G2 else G1) :=
  fun hg r hr H locs lsA hP hS hl => lv_if_ne hg.1 hg.2.1 h ht (fun hc => kt hg r (by rw [if_neg hc] at hr; exact hr) H locs lsA hP hS hl) (fun hc => kf hg r (by rw [if_pos hc] at hr; exact hr) H locs lsA hP hS hl)
theorem mv_icmp_lt {a b : Int32} {off : Int} {tgt : Nat} {G1 G2 : Option α} (h : decode y.1 pc = .ok (.if_icmp .lt off, 3)) (ht : (pc : Int) + off = (tgt : Int)) (kt : mv_V x k y ρ tgt ls st M G1) (kf : mv_V x k y ρ (pc + 3) ls st M G2) : mv_V x k y ρ pc ls (.int b :: .int a :: st) M (if a < b then G1 else G2) :=
  fun hg r hr H locs lsA hP hS hl => lv_icmp_lt hg.1 hg.2.1 h ht (fun hc => kt hg r (by rw [if_pos hc] at hr; exact hr) H locs lsA hP hS hl) (fun hc => kf hg r (by rw [if_neg hc] at hr; exact hr) H locs lsA hP hS hl)
theorem mv_if_lt {a : Int32} {off : Int} {tgt : Nat} {G1 G2 : Option α} (h : decode y.1 pc = .ok (.ifCond .lt off, 3)) (ht : (pc : Int) + off = (tgt : Int)) (kt : mv_V x k y ρ tgt ls st M G1) (kf : mv_V x k y ρ (pc + 3) ls st M G2) : mv_V x k y ρ pc ls (.int a :: st) M (if a < 0 then G1 else G2) :=
  fun hg r hr H locs lsA hP hS hl => lv_if_lt hg.1 hg.2.1 h ht (fun hc => kt hg r (by rw [if_pos hc] at hr; exact hr) H locs lsA hP hS hl) (fun hc => kf hg r (by rw [if_neg hc] at hr; exact hr) H locs lsA hP hS hl)
theorem mv_icmp_ge {a b : Int32} {off : Int} {tgt : Nat} {G1 G2 : Option α} (h : decode y.1 pc = .ok (.if_icmp .ge off, 3)) (ht : (pc : Int) + off = (tgt : Int)) (kt : mv_V x k y ρ tgt ls st M G1) (kf : mv_V x k y ρ (pc + 3) ls st M G2) : mv_V x k y ρ pc ls (.int b :: .int a :: st) M (if b ≤ a then G1 else G2) :=
  fun hg r hr H locs lsA hP hS hl => lv_icmp_ge hg.1 hg.2.1 h ht (fun hc => kt hg r (by rw [if_pos hc] at hr; exact hr) H locs lsA hP hS hl) (fun hc => kf hg r (by rw [if_neg hc] at hr; exact hr) H locs lsA hP hS hl)
theorem mv_if_ge {a : Int32} {off : Int} {tgt : Nat} {G1 G2 : Option α} (h : decode y.1 pc = .ok (.ifCond .ge off, 3)) (ht : (pc : Int) + off = (tgt : Int)) (kt : mv_V x k y ρ tgt ls st M G1) (kf : mv_V x k y ρ (pc + 3) ls st M G2) : mv_V x k y ρ pc ls (.int a :: st) M (if 0 ≤ a then G1 else G2) :=
  fun hg r hr H locs lsA hP hS hl => lv_if_ge hg.1 hg.2.1 h ht (fun hc => kt hg r (by rw [if_pos hc] at hr; exact hr) H locs lsA hP hS hl) (fun hc => kf hg r (by rw [if_neg hc] at hr; exact hr) H locs lsA hP hS hl)
theorem mv_icmp_gt {a b : Int32} {off : Int} {tgt : Nat} {G1 G2 : Option α} (h : decode y.1 pc = .ok (.if_icmp .gt off, 3)) (ht : (pc : Int) + off = (tgt : Int)) (kt : mv_V x k y ρ tgt ls st M G1) (kf : mv_V x k y ρ (pc + 3) ls st M G2) : mv_V x k y ρ pc ls (.int b :: .int a :: st) M (if b < a then G1 else G2) :=
  fun hg r hr H locs lsA hP hS hl => lv_icmp_gt hg.1 hg.2.1 h ht (fun hc => kt hg r (by rw [if_pos hc] at hr; exact hr) H locs lsA hP hS hl) (fun hc => kf hg r (by rw [if_neg hc] at hr; exact hr) H locs lsA hP hS hl)
theorem mv_if_gt {a : Int32} {off : Int} {tgt : Nat} {G1 G2 : Option α} (h : decode y.1 pc = .ok (.ifCond .gt off, 3)) (ht : (pc : Int) + off = (tgt : Int)) (kt : mv_V x k y ρ tgt ls st M G1) (kf : mv_V x k y ρ (pc + 3) ls st M G2) : mv_V x k y ρ pc ls (.int a :: st) M (if 0 < a then G1 else G2) :=
  fun hg r hr H locs lsA hP hS hl => lv_if_gt hg.1 hg.2.1 h ht (fun hc => kt hg r (by rw [if_pos hc] at hr; exact hr) H locs lsA hP hS hl) (fun hc => kf hg r (by rw [if_neg hc] at hr; exact hr) H locs lsA hP hS hl)
theorem mv_icmp_le {a b : Int32} {off : Int} {tgt : Nat} {G1 G2 : Option α} (h : decode y.1 pc = .ok (.if_icmp .le off, 3)) (ht : (pc : Int) + off = (tgt : Int)) (kt : mv_V x k y ρ tgt ls st M G1) (kf : mv_V x k y ρ (pc + 3) ls st M G2) : mv_V x k y ρ pc ls (.int b :: .int a :: st) M (if a ≤ b then G1 else G2) :=
  fun hg r hr H locs lsA hP hS hl => lv_icmp_le hg.1 hg.2.1 h ht (fun hc => kt hg r (by rw [if_pos hc] at hr; exact hr) H locs lsA hP hS hl) (fun hc => kf hg r (by rw [if_neg hc] at hr; exact hr) H locs lsA hP hS hl)
theorem mv_if_le {a : Int32} {off : Int} {tgt : Nat} {G1 G2 : Option α} (h : decode y.1 pc = .ok (.ifCond .le off, 3)) (ht : (pc : Int) + off = (tgt : Int)) (kt : mv_V x k y ρ tgt ls st M G1) (kf : mv_V x k y ρ (pc + 3) ls st M G2) : mv_V x k y ρ pc ls (.int a :: st) M (if a ≤ 0 then G1 else G2) :=
  fun hg r hr H locs lsA hP hS hl => lv_if_le hg.1 hg.2.1 h ht (fun hc => kt hg r (by rw [if_pos hc] at hr; exact hr) H locs lsA hP hS hl) (fun hc => kf hg r (by rw [if_neg hc] at hr; exact hr) H locs lsA hP hS hl)
/-! switches: a case, the rest -/
theorem mv_swc {dflt lo hi : Int} {offs : Array Int} {len : Nat} {a v : Int32} {off : Int} {tgt : Nat} {G1 G2 : Option α} (h : decode y.1 pc = .ok (.tableswitch dflt lo hi offs, len)) (h1 : ¬ v.toInt < lo) (h2 : ¬ hi < v.toInt) (ho : offs[(v.toInt - lo).toNat]? = some off) (ht : (pc : Int) + off = (tgt : Int))
    (kt : mv_V x k y ρ tgt ls st M G1) (kf : ¬ a = v → mv_V x k y ρ pc ls (.int a :: st) M G2) : mv_V x k y ρ pc ls (.int a :: st) M (if a = v then G1 else G2) := by
  intro hg r hr H locs lsA hP hS hl
  by_cases hv : a = v
  · subst hv
    rw [if_pos rfl] at hr
    exact lv_tableIn hg.1 hg.2.1 h h1 h2 ho ht (kt hg r hr H locs lsA hP hS hl)
  · rw [if_neg hv] at hr
    exact kf hv hg r hr H locs lsA hP hS hl
theorem mv_swd {dflt lo hi : Int} {offs : Array Int} {len : Nat} {a : Int32} {tgt : Nat} (h : decode y.1 pc = .ok (.tableswitch dflt lo hi offs, len)) (ha : a.toInt < lo ∨ hi < a.toInt) (ht : (pc : Int) + dflt = (tgt : Int)) (kk : mv_V x k y ρ tgt ls st M G) : mv_V x k y ρ pc ls (.int a :: st) M G :=
  fun hg r hr H locs lsA hP hS hl => lv_tableOut hg.1 hg.2.1 h ha ht (kk hg r hr H locs lsA hP hS hl)
theorem mv_lkc {dflt : Int} {ps : Array (Int × Int)} {len : Nat} {a v : Int32} {off : Int} {tgt : Nat} {G1 G2 : Option α} (h : decode y.1 pc = .ok (.lookupswitch dflt ps, len)) (hp : (ps.toList.zip (ps.toList.drop 1)).all (fun (a, next) => a.1 < next.1) = true) (ho : Op.lookupswitch.offset ps.toList dflt v.toInt = off) (ht : (pc : Int) + off = (tgt : Int))
    (kt : mv_V x k y ρ tgt ls st M G1) (kf : ¬ a = v → mv_V x k y ρ pc ls (.int a :: st) M G2) : mv_V x k y ρ pc ls (.int a :: st) M (if a = v then G1 else G2) := by
  intro hg r hr H locs lsA hP hS hl
  by_cases hv : a = v
  · subst hv
    rw [if_pos rfl] at hr
    exact lv_lookup hg.1 hg.2.1 h hp ho ht (kt hg r hr H locs lsA hP hS hl)
  · rw [if_neg hv] at hr
    exact kf hv hg r hr H locs lsA hP hS hl
theorem mv_lkd {dflt : Int} {ps : Array (Int × Int)} {len : Nat} {a : Int32} {tgt : Nat} (h : decode y.1 pc = .ok (.lookupswitch dflt ps, len)) (hp : (ps.toList.zip (ps.toList.drop 1)).all (fun (a, next) => a.1 < next.1) = true) (ho : Op.lookupswitch.offset ps.toList dflt a.toInt = dflt) (ht : (pc : Int) + dflt = (tgt : Int)) (kk : mv_V x k y ρ tgt ls st M G) : mv_V x k y ρ pc ls (.int a :: st) M G :=
  fun hg r hr H locs lsA hP hS hl => lv_lookup hg.1 hg.2.1 h hp ho ht (kk hg r hr H locs lsA hP hS hl)
/-! ends -/
theorem mv_q {rM : Option Value × mv_M} {H : Heap} {locs : List Loc} {s t : State} {a : Array Value} (hP : va_P k.1 vwCl (mv_ws k rM.2) H) (hS : va_S (mv_A k) s.heap H locs) (ht : t.heap = H) : mv_Q k rM a s (.returned rM.1) t := ⟨⟨rfl, by rw [ht]; exact hP⟩, hS.F ht⟩
theorem mv_ireturn {a : Int32} (h : decode y.1 pc = .ok (.ireturn, 1)) (hr : y.2.2.2.1 = some .int) : mv_V x k y mv_ri pc ls [.int a] M (some (a, M)) := by
  intro hg r hr' H locs lsA hP hS hl
  cases hr'
  exact W.iret hg.1 hg.2.1 (hg.2.2.2.2.2.1.trans hr) (fun t ht _ => mv_q (rM := mv_ri (a, M)) hP hS ht) hS.2.2 h (hlocks := hg.2.2.2.2.2.2.1)
/-- a truth value -/
def mv_b1 {α : Type} (a : Int32) (G : Option α) : Option α := if a = 0 ∨ a = 1 then G else none
theorem mv_nb : ∀ a : Int32, a = 0 ∨ a = 1 → narrow .boolean (.int a) = .int a := by
  rintro a (rfl | rfl) <;> decide +kernel
theorem mv_zreturn {a : Int32} (h : decode y.1 pc = .ok (.ireturn, 1)) (hr : y.2.2.2.1 = some .boolean) : mv_V x k y mv_ri pc ls [.int a] M (mv_b1 a (some (a, M))) := by
  intro hg r hr' H locs lsA hP hS hl
  unfold mv_b1 at hr'
  by_cases hb : a = 0 ∨ a = 1
  · rw [if_pos hb] at hr'
    cases hr'
    exact W.zret hg.1 hg.2.1 (hg.2.2.2.2.2.1.trans hr) (mv_nb a hb) (fun t ht _ => mv_q (rM := mv_ri (a, M)) hP hS ht) hS.2.2 h (hlocks := hg.2.2.2.2.2.2.1)
  · rw [if_neg hb] at hr'
    cases hr'
theorem mv_lreturn {a : Int64} (h : decode y.1 pc = .ok (.lreturn, 1)) (hr : y.2.2.2.1 = some .long) : mv_V x k y mv_rl pc ls [.long a] M (some (a, M)) := by
  intro hg r hr' H locs lsA hP hS hl
  cases hr'
  exact W.lret hg.1 hg.2.1 (hg.2.2.2.2.2.1.trans hr) (fun t ht _ => mv_q (rM := mv_rl (a, M)) hP hS ht) hS.2.2 h (hlocks := hg.2.2.2.2.2.2.1)
theorem mv_return (h : decode y.1 pc = .ok (.return_, 1)) (hr : y.2.2.2.1 = none) : mv_V x k y mv_rv pc ls [] M (some M) := by
  intro hg r hr' H locs lsA hP hS hl
  cases hr'
  exact W.vret hg.1 hg.2.1 (hg.2.2.2.2.2.1.trans hr) (fun t ht _ => mv_q (rM := mv_rv M) hP hS ht) hS.2.2 h (hlocks := hg.2.2.2.2.2.2.1)
/-! fields -/
def mv_FL (own : String) (idx ci kf : Nat) : Prop := ∃ (C : String) (T : u_T) (N : Nat), vwCl[ci]? = some (C, T, N) ∧ (∀ w ∈ u_ws C T N, w ∈ mv_all) ∧ kf < N ∧ (Cond.fieldLink own idx (T kf).1 (T kf).2.1 (T kf).2.2.1 ∈ mv_all ∨ ∃ host, Cond.fieldLinkNest own idx (T kf).1 (T kf).2.1 (T kf).2.2.1 host ∈ mv_nw)
theorem mv_get {idx ci kf i f : Nat} {fs : List Nat} (h : decode y.1 pc = .ok (.getfield idx, 3)) (hF : mv_FL y.2.2.1 idx ci kf) (hL : k.2.2.2[i]? = some (0, ci, fs)) (hf : fs[kf]? = some f) (kk : mv_V x k y ρ (pc + 3) ls (mv_fv k.2.2.1 M i kf f :: st) M G) : mv_V x k y ρ pc ls (.ref (k.2.2.1 i) :: st) M G := by
  intro hg r hr H locs lsA hP hS hl
  obtain ⟨C, T, N, hc, hin, hk, hw⟩ := hF
  have he : (mv_ws k M)[i]? = some (k.2.2.1 i, .inr (ci, fs.mapIdx (fun k' f' => mv_fv k.2.2.1 M i k' f'))) := mv_ws_at hL
  have hv : (fs.mapIdx (fun k' f' => mv_fv k.2.2.1 M i k' f'))[kf]? = some (mv_fv k.2.2.1 M i kf f) := by rw [List.getElem?_mapIdx, hf]; rfl
  have hsp := hg.2.2.2.2.2.2.2.2
  rcases hw with hw | ⟨host, hw⟩
  · exact va_get hg.1 hg.2.1 hg.2.2.2.2.1 hin hg.2.2.2.1 hsp.1 hP i he hc kf hk (hg.2.2.2.2.1 _ hw) (fun _ h9 => h9) hv h (kk hg r hr H locs lsA hP hS hl)
  · exact va_getN hg.1 hg.2.1 hg.2.2.2.2.1 hin hg.2.2.2.1 hsp.1 hP i he hc kf hk (va_Nw.use rfl (hsp.2.1 _ hw)) (fun _ h9 => h9) hv h (kk hg r hr H locs lsA hP hS hl)
theorem mv_getI {idx ci kf i : Nat} {fs : List Nat} (h : decode y.1 pc = .ok (.getfield idx, 3)) (hF : mv_FL y.2.2.1 idx ci kf) (hL : k.2.2.2[i]? = some (0, ci, fs)) (hf : fs[kf]? = some 0) (kk : mv_V x k y ρ (pc + 3) ls (.int (M.1 i kf) :: st) M G) : mv_V x k y ρ pc ls (.ref (k.2.2.1 i) :: st) M G := mv_get h hF hL hf kk
theorem mv_getL {idx ci kf i : Nat} {fs : List Nat} (h : decode y.1 pc = .ok (.getfield idx, 3)) (hF : mv_FL y.2.2.1 idx ci kf) (hL : k.2.2.2[i]? = some (0, ci, fs)) (hf : fs[kf]? = some 1) (kk : mv_V x k y ρ (pc + 3) ls (.long (M.2 i kf) :: st) M G) : mv_V x k y ρ pc ls (.ref (k.2.2.1 i) :: st) M G := mv_get h hF hL hf kk
theorem mv_getR {idx ci kf i j : Nat} {fs : List Nat} (h : decode y.1 pc = .ok (.getfield idx, 3)) (hF : mv_FL y.2.2.1 idx ci kf) (hL : k.2.2.2[i]? = some (0, ci, fs)) (hf : fs[kf]? = some (j + 2)) (kk : mv_V x k y ρ (pc + 3) ls (.ref (k.2.2.1 j) :: st) M G) : mv_V x k y ρ pc ls (.ref (k.2.2.1 i) :: st) M G := mv_get h hF hL hf kk
def mv_FP (ci kf : Nat) (ty : FieldType) : Prop := ∃ (C : String) (T : u_T) (N : Nat) (ty0 : Nat → FieldType), vwCl[ci]? = some (C, T, N) ∧ (∀ k, k < N → parseFieldDescriptor (T k).2.2.1 = some (ty0 k)) ∧ (∀ a, a < N → ∀ b, b < N → a ≠ b → (T a).2.1 ≠ (T b).2.1) ∧ (T kf).2.2.2 = false ∧ parseFieldDescriptor (T kf).2.2.1 = some ty
theorem mv_put {idx ci kf i f : Nat} {fs : List Nat} {ty : FieldType} {v : Value} {M' : mv_M} (h : decode y.1 pc = .ok (.putfield idx, 3)) (hF : mv_FL y.2.2.1 idx ci kf) (hT : mv_FP ci kf ty) (hL : k.2.2.2[i]? = some (0, ci, fs)) (hf : fs[kf]? = some f) (hn : narrow ty v = v) (hfit : fits ty v = true)
    (he' : (fs.mapIdx (fun k' f' => mv_fv k.2.2.1 M i k' f')).set kf v = fs.mapIdx (fun k' f' => mv_fv k.2.2.1 M' i k' f')) (ho : ∀ j, j ≠ i → ∀ c', mv_cell k.2.1 k.2.2.1 M' j c' = mv_cell k.2.1 k.2.2.1 M j c') (kk : mv_V x k y ρ (pc + 3) ls st M' G) : mv_V x k y ρ pc ls (v :: .ref (k.2.2.1 i) :: st) M G := by
  intro hg r hr H locs lsA hP hS hl
  obtain ⟨C, T, N, hc, hin, hk, hw⟩ := hF
  obtain ⟨C', T', N', ty0, hc', hty, hnm, hfin, hd⟩ := hT
  have hcc : (C, T, N) = (C', T', N') := Option.some.inj (hc.symm.trans hc')
  cases hcc
  have he : (mv_ws k M)[i]? = some (k.2.2.1 i, .inr (ci, fs.mapIdx (fun k' f' => mv_fv k.2.2.1 M i k' f'))) := mv_ws_at hL
  have hlen : kf < (fs.mapIdx (fun k' f' => mv_fv k.2.2.1 M i k' f')).length := by rw [List.length_mapIdx]; exact (List.getElem?_eq_some_iff.mp hf).1
  have hsp := hg.2.2.2.2.2.2.2.2
  have hset : (mv_ws k M).set i (k.2.2.1 i, .inr (ci, (fs.mapIdx (fun k' f' => mv_fv k.2.2.1 M i k' f')).set kf v)) = mv_ws k M' := mv_ws_set hL (by rw [he']; rfl) ho
  have kk2 : ∀ (H1 : Heap) (locs1 : List Loc), va_P k.1 vwCl ((mv_ws k M).set i (k.2.2.1 i, .inr (ci, (fs.mapIdx (fun k' f' => mv_fv k.2.2.1 M i k' f')).set kf v))) H1 → va_D (mv_A k) ((mv_ws k M).set i (k.2.2.1 i, .inr (ci, (fs.mapIdx (fun k' f' => mv_fv k.2.2.1 M i k' f')).set kf v))) → va_S (mv_A k) x.2.2.2.2.1.heap H1 locs1 → mv_WW x k (ρ r) H1 locs1 (F0 x.2.2.2.2.2.1 (pc + 3) lsA st) := fun H1 locs1 hP1 _ hS1 => kk hg r hr H1 locs1 lsA (by rw [← hset]; exact hP1) hS1 hl
  rcases hw with hw | ⟨host, hw⟩
  · exact va_put hg.1 hg.2.1 hg.2.2.2.2.1 hin ty0 hty hnm hg.2.2.2.1 hsp.1 hP (mv_ws_D M hsp.2.2) hS i he hc kf hk (hg.2.2.2.2.1 _ hw) (fun _ h9 => h9) hfin hd hn hfit hlen h kk2
  · exact va_putN hg.1 hg.2.1 hg.2.2.2.2.1 hin ty0 hty hnm hg.2.2.2.1 hsp.1 hP (mv_ws_D M hsp.2.2) hS i he hc kf hk (va_Nw.use rfl (hsp.2.1 _ hw)) (fun _ h9 => h9) hfin hd hn hfit hlen h kk2
theorem mv_cell_wI {cA : Nat → ClassId} {ad : Nat → Nat} {a kk : Nat} {v : Int32} : ∀ j, j ≠ a → ∀ c', mv_cell cA ad (mv_wI M a kk v) j c' = mv_cell cA ad M j c' := by
  intro j hj c'
  have e : (mv_wI M a kk v).1 j = M.1 j := by unfold mv_wI; exact if_neg hj
  have e2 : (mv_wI M a kk v).2 = M.2 := rfl
  unfold mv_cell mv_fv
  rw [e, e2]
theorem mv_cell_wL {cA : Nat → ClassId} {ad : Nat → Nat} {a kk : Nat} {v : Int64} : ∀ j, j ≠ a → ∀ c', mv_cell cA ad (mv_wL M a kk v) j c' = mv_cell cA ad M j c' := by
  intro j hj c'
  have e : (mv_wL M a kk v).2 j = M.2 j := by unfold mv_wL; exact if_neg hj
  have e2 : (mv_wL M a kk v).1 = M.1 := rfl
  unfold mv_cell mv_fv
  rw [e, e2]
theorem mv_cell_wA {cA : Nat → ClassId} {ad : Nat → Nat} {a : Nat} {f : Nat → Int32} : ∀ j, j ≠ a → ∀ c', mv_cell cA ad (mv_wA M a f) j c' = mv_cell cA ad M j c' := by
  intro j hj c'
  have e : (mv_wA M a f).1 j = M.1 j := by unfold mv_wA; exact if_neg hj
  have e2 : (mv_wA M a f).2 = M.2 := rfl
  unfold mv_cell mv_fv
  rw [e, e2]
theorem mv_wI_a {a kk : Nat} {v : Int32} : (mv_wI M a kk v).1 a = upd (M.1 a) kk v := by unfold mv_wI; exact if_pos rfl
theorem mv_wL_a {a kk : Nat} {v : Int64} : (mv_wL M a kk v).2 a = vp_updL (M.2 a) kk v := by unfold mv_wL; exact if_pos rfl
theorem mv_wA_a {a : Nat} {f : Nat → Int32} : (mv_wA M a f).1 a = f := by unfold mv_wA; exact if_pos rfl
theorem mv_putI {idx ci kf i : Nat} {fs : List Nat} {v : Int32} {g : mv_M → Option α} (h : decode y.1 pc = .ok (.putfield idx, 3)) (hF : mv_FL y.2.2.1 idx ci kf) (hT : mv_FP ci kf .int ∨ (mv_FP ci kf .boolean ∧ (v = 0 ∨ v = 1))) (hL : k.2.2.2[i]? = some (0, ci, fs)) (hf : fs[kf]? = some 0) (kk : ∀ M' : mv_M, mv_V x k y ρ (pc + 3) ls st M' (g M')) : mv_V x k y ρ pc ls (.int v :: .ref (k.2.2.1 i) :: st) M (mv_let (mv_wI M i kf v) g) := by
  have he' : (fs.mapIdx (fun k' f' => mv_fv k.2.2.1 M i k' f')).set kf (.int v) = fs.mapIdx (fun k' f' => mv_fv k.2.2.1 (mv_wI M i kf v) i k' f') := by
    apply List.ext_getElem?
    intro j
    by_cases hj : j = kf
    · subst hj
      rw [List.getElem?_set_self (by rw [List.length_mapIdx]; exact (List.getElem?_eq_some_iff.mp hf).1), List.getElem?_mapIdx, hf]
      show some (Value.int v) = some (Value.int ((mv_wI M i j v).1 i j))
      rw [mv_wI_a]; unfold upd; rw [if_pos rfl]
    · rw [List.getElem?_set_ne (Ne.symm hj), List.getElem?_mapIdx, List.getElem?_mapIdx]
      cases fs[j]? with
      | none => rfl
      | some f =>
        show some (mv_fv _ _ _ _ _) = some (mv_fv _ _ _ _ _)
        unfold mv_fv
        rw [mv_wI_a]; unfold upd; rw [if_neg hj]; rfl
  rcases hT with hT | ⟨hT, hv⟩
  · exact mv_put (ty := .int) h hF hT hL hf rfl rfl he' mv_cell_wI (kk _)
  · exact mv_put (ty := .boolean) h hF hT hL hf (by rcases hv with rfl | rfl <;> rfl) (by rcases hv with rfl | rfl <;> rfl) he' mv_cell_wI (kk _)
theorem mv_putL {idx ci kf i : Nat} {fs : List Nat} {v : Int64} {g : mv_M → Option α} (h : decode y.1 pc = .ok (.putfield idx, 3)) (hF : mv_FL y.2.2.1 idx ci kf) (hT : mv_FP ci kf .long) (hL : k.2.2.2[i]? = some (0, ci, fs)) (hf : fs[kf]? = some 1) (kk : ∀ M' : mv_M, mv_V x k y ρ (pc + 3) ls st M' (g M')) : mv_V x k y ρ pc ls (.long v :: .ref (k.2.2.1 i) :: st) M (mv_let (mv_wL M i kf v) g) := by
  have he' : (fs.mapIdx (fun k' f' => mv_fv k.2.2.1 M i k' f')).set kf (.long v) = fs.mapIdx (fun k' f' => mv_fv k.2.2.1 (mv_wL M i kf v) i k' f') := by
    apply List.ext_getElem?
    intro j
    by_cases hj : j = kf
    · subst hj
      rw [List.getElem?_set_self (by rw [List.length_mapIdx]; exact (List.getElem?_eq_some_iff.mp hf).1), List.getElem?_mapIdx, hf]
      show some (Value.long v) = some (Value.long ((mv_wL M i j v).2 i j))
      rw [mv_wL_a]; unfold vp_updL; rw [if_pos rfl]
    · rw [List.getElem?_set_ne (Ne.symm hj), List.getElem?_mapIdx, List.getElem?_mapIdx]
      cases fs[j]? with
      | none => rfl
      | some f =>
        show some (mv_fv _ _ _ _ _) = some (mv_fv _ _ _ _ _)
        unfold mv_fv
        rw [mv_wL_a]; unfold vp_updL; rw [if_neg hj]; rfl
  exact mv_put (ty := .long) h hF hT hL hf rfl rfl he' mv_cell_wL (kk _)
/-! rows of numbers -/
theorem mv_in {i : Int32} {n : Nat} {r : α} (h : mv_ob i n G = some r) : vp_in i n ∧ G = some r := by
  unfold mv_ob at h
  by_cases hc : i < 0 ∨ n ≤ i.toNatClampNeg
  · rw [if_pos hc] at h; cases h
  · rw [if_neg hc] at h; exact ⟨hc, h⟩
theorem mv_iald {i n : Nat} {j : Int32} {fs : List Nat} (h : decode y.1 pc = .ok (.iaload, 1)) (hL : k.2.2.2[i]? = some (1, n, fs)) (kk : mv_V x k y ρ (pc + 1) ls (.int (M.1 i j.toNatClampNeg) :: st) M G) : mv_V x k y ρ pc ls (.int j :: .ref (k.2.2.1 i) :: st) M (mv_ob j n G) := by
  intro hg r hr H locs lsA hP hS hl
  obtain ⟨hin, hr⟩ := mv_in hr
  exact va_iald hg.1 hg.2.1 hg.2.2.2.2.2.2.2.2.1 hP i 0 (mv_ws_at hL) rfl hin h (kk hg r hr H locs lsA hP hS hl)
theorem mv_zald {i n : Nat} {j : Int32} {fs : List Nat} (h : decode y.1 pc = .ok (.baload, 1)) (hL : k.2.2.2[i]? = some (3, n, fs)) (kk : mv_V x k y ρ (pc + 1) ls (.int (M.1 i j.toNatClampNeg) :: st) M G) : mv_V x k y ρ pc ls (.int j :: .ref (k.2.2.1 i) :: st) M (mv_ob j n G) := by
  intro hg r hr H locs lsA hP hS hl
  obtain ⟨hin, hr⟩ := mv_in hr
  exact va_zald hg.1 hg.2.1 hg.2.2.2.2.2.2.2.2.1 hP i 2 (mv_ws_at hL) rfl hin h (kk hg r hr H locs lsA hP hS hl)
theorem mv_lald {i n : Nat} {j : Int32} {fs : List Nat} (h : decode y.1 pc = .ok (.laload, 1)) (hL : k.2.2.2[i]? = some (2, n, fs)) (kk : mv_V x k y ρ (pc + 1) ls (.long (M.2 i j.toNatClampNeg) :: st) M G) : mv_V x k y ρ pc ls (.int j :: .ref (k.2.2.1 i) :: st) M (mv_ob j n G) := by
  intro hg r hr H locs lsA hP hS hl
  obtain ⟨hin, hr⟩ := mv_in hr
  exact va_lald hg.1 hg.2.1 hg.2.2.2.2.2.2.2.2.1 hP i 1 (mv_ws_at hL) rfl hin h (kk hg r hr H locs lsA hP hS hl)
theorem mv_iast {i n : Nat} {j v : Int32} {fs : List Nat} {g : mv_M → Option α} (h : decode y.1 pc = .ok (.iastore, 1)) (hL : k.2.2.2[i]? = some (1, n, fs)) (kk : ∀ M' : mv_M, mv_V x k y ρ (pc + 1) ls st M' (g M')) : mv_V x k y ρ pc ls (.int v :: .int j :: .ref (k.2.2.1 i) :: st) M (mv_ob j n (mv_let (mv_wI M i j.toNatClampNeg v) g)) := by
  intro hg r hr H locs lsA hP hS hl
  obtain ⟨hin, hr⟩ := mv_in hr
  have hsp := hg.2.2.2.2.2.2.2.2
  have hset : (mv_ws k M).set i (k.2.2.1 i, .inl (k.2.1 0, n, .inl (upd (M.1 i) j.toNatClampNeg v))) = mv_ws k (mv_wI M i j.toNatClampNeg v) := mv_ws_set hL (by show _ = (Sum.inl (k.2.1 0, n, Sum.inl ((mv_wI M i j.toNatClampNeg v).1 i)) : va_E); rw [mv_wI_a]) mv_cell_wI
  exact va_iast hg.1 hg.2.1 hsp.1 hP (mv_ws_D M hsp.2.2) hS i 0 (mv_ws_at hL) rfl hin h (fun H1 locs1 hP1 _ hS1 => kk _ hg r hr H1 locs1 lsA (by rw [← hset]; exact hP1) hS1 hl)
theorem mv_zast {i n : Nat} {j v : Int32} {fs : List Nat} {g : mv_M → Option α} (h : decode y.1 pc = .ok (.bastore, 1)) (hL : k.2.2.2[i]? = some (3, n, fs)) (hv : v = 0 ∨ v = 1) (kk : ∀ M' : mv_M, mv_V x k y ρ (pc + 1) ls st M' (g M')) : mv_V x k y ρ pc ls (.int v :: .int j :: .ref (k.2.2.1 i) :: st) M (mv_ob j n (mv_let (mv_wI M i j.toNatClampNeg v) g)) := by
  intro hg r hr H locs lsA hP hS hl
  obtain ⟨hin, hr⟩ := mv_in hr
  have hsp := hg.2.2.2.2.2.2.2.2
  have hnar : vp_nar .boolean v = v := by rcases hv with rfl | rfl <;> decide +kernel
  have hset : (mv_ws k M).set i (k.2.2.1 i, .inl (k.2.1 2, n, .inl (upd (M.1 i) j.toNatClampNeg (vp_nar .boolean v)))) = mv_ws k (mv_wI M i j.toNatClampNeg v) := mv_ws_set hL (by show _ = (Sum.inl (k.2.1 2, n, Sum.inl ((mv_wI M i j.toNatClampNeg v).1 i)) : va_E); rw [mv_wI_a, hnar]) mv_cell_wI
  exact va_zast hg.1 hg.2.1 hsp.1 hP (mv_ws_D M hsp.2.2) hS i 2 (mv_ws_at hL) rfl hin h (fun H1 locs1 hP1 _ hS1 => kk _ hg r hr H1 locs1 lsA (by rw [← hset]; exact hP1) hS1 hl)
theorem mv_last {i n : Nat} {j : Int32} {v : Int64} {fs : List Nat} {g : mv_M → Option α} (h : decode y.1 pc = .ok (.lastore, 1)) (hL : k.2.2.2[i]? = some (2, n, fs)) (kk : ∀ M' : mv_M, mv_V x k y ρ (pc + 1) ls st M' (g M')) : mv_V x k y ρ pc ls (.long v :: .int j :: .ref (k.2.2.1 i) :: st) M (mv_ob j n (mv_let (mv_wL M i j.toNatClampNeg v) g)) := by
  intro hg r hr H locs lsA hP hS hl
  obtain ⟨hin, hr⟩ := mv_in hr
  have hsp := hg.2.2.2.2.2.2.2.2
  have hset : (mv_ws k M).set i (k.2.2.1 i, .inl (k.2.1 1, n, .inr (.inl (vp_updL (M.2 i) j.toNatClampNeg v)))) = mv_ws k (mv_wL M i j.toNatClampNeg v) := mv_ws_set hL (by show _ = (Sum.inl (k.2.1 1, n, Sum.inr (Sum.inl ((mv_wL M i j.toNatClampNeg v).2 i))) : va_E); rw [mv_wL_a]) mv_cell_wL
  exact va_last hg.1 hg.2.1 hsp.1 hP (mv_ws_D M hsp.2.2) hS i 1 (mv_ws_at hL) rfl hin h (fun H1 locs1 hP1 _ hS1 => kk _ hg r hr H1 locs1 lsA (by rw [← hset]; exact hP1) hS1 hl)
theorem mv_alen {i n t : Nat} {v : Int32} {fs : List Nat} (h : decode y.1 pc = .ok (.arraylength, 1)) (hL : k.2.2.2[i]? = some (1, n, fs)) (hv : Int32.ofNat n = v) (kk : mv_V x k y ρ (pc + 1) ls (.int v :: st) M G) : mv_V x k y ρ pc ls (.ref (k.2.2.1 i) :: st) M G :=
  fun hg r hr H locs lsA hP hS hl => va_alen hg.1 hg.2.1 hg.2.2.2.2.2.2.2.2.1 hP i 0 (mv_ws_at hL) rfl hv h (kk hg r hr H locs lsA hP hS hl)
/-- a row out of a row of rows, or of cells -/
theorem mv_aald {i n b t : Nat} {j : Int32} {fs : List Nat} (h : decode y.1 pc = .ok (.aaload, 1)) (hL : k.2.2.2[i]? = some (t + 4, n, fs)) (ht : t < 3) (hb : ∀ q : Nat, q < n → fs[q]? = some (b + q)) (kk : j.toNatClampNeg < n → mv_V x k y ρ (pc + 1) ls (.ref (k.2.2.1 (b + j.toNatClampNeg)) :: st) M G) : mv_V x k y ρ pc ls (.int j :: .ref (k.2.2.1 i) :: st) M (mv_ob j n G) := by
  intro hg r hr H locs lsA hP hS hl
  obtain ⟨hin, hr⟩ := mv_in hr
  have hlt : j.toNatClampNeg < n := Nat.not_le.mp fun q => hin (Or.inr q)
  have hK := hg.2.2.2.2.2.2.2.2.1
  have hv : va_rf ((fs[j.toNatClampNeg]?).map k.2.2.1) = .ref (k.2.2.1 (b + j.toNatClampNeg)) := by rw [hb _ hlt]; rfl
  have key : ∀ (cA : ClassId) (ty : FieldType), ty.isReference = true → ArrOfT x.2.2.2.2.1 cA ty → H[k.2.2.1 i]? = some (arrV cA n (fun q => va_rf ((fs[q]?).map k.2.2.1))) → mv_WW x k (ρ r) H locs (F0 x.2.2.2.2.2.1 pc lsA (.int j :: .ref (k.2.2.1 i) :: st)) := fun cA ty hty ha hH =>
    W.aald (v := .ref (k.2.2.1 (b + j.toNatClampNeg))) (ty := ty) hg.1 hg.2.1 hH (ha n _) hty (fun q => by cases q) (by show ¬ (j < 0 ∨ (arrV _ _ _).slots.size ≤ _); rw [arrV_size]; exact hin) (by show (arrV _ _ _).slots[_]? = _; rw [arrV_read _ _ hlt, hv]) rfl rfl h (kk hlt hg r hr H locs lsA hP hS hl)
  rcases (show t = 0 ∨ t = 1 ∨ t = 2 by omega) with rfl | rfl | rfl
  · exact key (k.2.1 3) (.object RX7) rfl (hK.2 3 _ rfl).1 (hP i _ (mv_ws_at hL))
  · exact key (k.2.1 4) (.array .int) rfl (hK.2 4 _ rfl).1 (hP i _ (mv_ws_at hL))
  · exact key (k.2.1 5) (.array .long) rfl (hK.2 5 _ rfl).1 (hP i _ (mv_ws_at hL))
/-! calls -/
theorem mv_after {rM rM' : Option Value × mv_M} {H : Heap} {locs : List Loc} {lsA : Array Slot} {st0 rest : List Value} {a : Array Value}
    (hr : va_Run x.1 x.2.1 x.2.2.1 x.2.2.2.1 x.2.2.2.2.1 x.2.2.2.2.2.1 x.2.2.2.2.2.2.1 x.2.2.2.2.2.2.2.1 x.2.2.2.2.2.2.2.2.1 x.2.2.2.2.2.2.2.2.2 H locs 0 0 0 0 (F0 x.2.2.2.2.2.1 pc lsA st0) rest (mv_Q k rM' a) (mv_A k)) (hS : va_S (mv_A k) x.2.2.2.2.1.heap H locs)
    (kk : ∀ (H1 : Heap) (locs1 : List Loc), va_P k.1 vwCl (mv_ws k rM'.2) H1 → va_S (mv_A k) x.2.2.2.2.1.heap H1 locs1 → mv_WW x k rM H1 locs1 (F0 x.2.2.2.2.2.1 (pc + 3) lsA (rM'.1.toList ++ rest))) : mv_WW x k rM H locs (F0 x.2.2.2.2.2.1 pc lsA st0) := by
  intro T hT X
  obtain ⟨v, st₀, t, T', L, h0, X', hL, e1, e2, ⟨⟨hv, hP⟩, hz, hk⟩, sg⟩ := hr T hT X
  cases hv
  rw [h0] at hz hk
  obtain ⟨t2, a1, b1⟩ := kk T'.heap (locs ++ L) (by rw [e1]; exact hP)
    ⟨Nat.le_trans hS.1 (by rw [e1]; exact hz), fun q h1 h2 => by rw [e1, hk q (Nat.lt_of_lt_of_le h1 hS.1) h2]; exact hS.2.1 q h1 h2, fun q hq => by
      rcases List.mem_append.mp hq with h | h
      · exact hS.2.2 q h
      · exact hL q h⟩ T' rfl X'
  exact ⟨t2, sg t2 a1, b1⟩
theorem mv_blind {args : List Value} : FrameBlind (va_Pc args (fun U => va_P k.1 vwCl (mv_ws k M) U.heap ∧ mv_SP k U)) := fun a U g mk q => by
  obtain ⟨q0, qP, qK, qN, qD⟩ := q
  exact ⟨q0, qP, va_K.moved (u := U) (U := U.calling g mk a) (Vm.Alike.refl U.vm) qK, fun w hw => by
    have hz := qN w hw
    rcases mv_nw_kind w hw with ⟨a1, i1, b1, n1, d1, hh, rfl⟩ | ⟨a1, i1, x1, hh, rfl⟩
    · exact va_Nw.same (u := U) (U := U.calling g mk a) rfl rfl hz
    · exact va_Nw.same (u := U) (U := U.calling g mk a) rfl rfl hz, qD⟩
/-- a method that can be called: its code, its kind is ready, its name's shape -/
def mv_MC (yn : MethodName) (y : mv_Y) (n : Nat) : Prop := Cond.code yn y.1 y.2.1 y.2.2.2.1 ∈ mv_all ∧ Cond.initialized yn.cls ∈ mv_all ∧ (yn.cls ≠ "java/lang/invoke/MethodHandle" ∧ yn.cls ≠ "java/lang/invoke/VarHandle" ∧ (parseMethodDescriptor yn.desc).map (fun d => d.parameters.length) = some n) ∧ y.2.2.2.2.cells = 0 ∧ y.2.2.2.2.slots = 0
def mv_MV (yn : MethodName) (y : mv_Y) (n : Nat) : Prop := mv_MC yn y n ∧ Cond.instanceMethod yn ∈ mv_all ∧ Cond.selects yn.cls yn yn ∈ mv_all
def mv_MS (yn : MethodName) (y : mv_Y) (n : Nat) : Prop := mv_MC yn y n ∧ Cond.static yn ∈ mv_all
def mv_ML (own : String) (idx : Nat) (yn : MethodName) : Prop := Cond.methodLink own idx yn ∈ mv_all ∨ ∃ host, Cond.methodLinkNest own idx yn host ∈ mv_nw
def mv_RR (y yc : mv_Y) : Prop := yc.2.2.2.2.frames + 1 ≤ y.2.2.2.2.frames ∧ 8 + (yc.2.1 + 11) + yc.2.2.2.2.locals ≤ y.2.2.2.2.locals
theorem mv_goodw {yn : MethodName} {y : mv_Y} (h : Cond.code yn y.1 y.2.1 y.2.2.2.1 ∈ mv_all) : GoodIn mv_all (mv_w yn y) := fun w hw => by
  rcases List.mem_cons.mp hw with rfl | hw
  · exact mv_goodS _ h
  · exact mv_goodS _ hw
theorem mv_callV {β : Type} {idx i ci n N : Nat} {T : u_T} {fs : List Nat} {yn : MethodName} {yc : mv_Y} {ρ' : β → Option Value × mv_M} {As : List Value} {G' : Option β} {g : β → Option α} (h : decode y.1 pc = .ok (.invokevirtual idx, 3)) (hl' : mv_ML y.2.2.1 idx yn) (hm : mv_MV yn yc n) (hR : mv_RR y yc) (hL : k.2.2.2[i]? = some (0, ci, fs)) (hcl : vwCl[ci]? = some (yn.cls, T, N)) (hn : As.length = n) (hst : (st.map fun v => v.category).sum ≤ 8)
    (hC : mv_C x.2.1 k yn yc ρ' (.ref (k.2.2.1 i) :: As) M G') (kk : ∀ r', mv_V x k y ρ (pc + 3) ls ((ρ' r').1.toList ++ st) (ρ' r').2 (g r')) : mv_V x k y ρ pc ls (As.reverse ++ .ref (k.2.2.1 i) :: st) M (G'.bind g) := by
  intro hg r hr H locs lsA hP hS hl
  obtain ⟨r', hr', hr⟩ := Option.bind_eq_some_iff.mp hr
  obtain ⟨⟨hc, hi, hd, hz1, hz2⟩, him, hse⟩ := hm
  obtain ⟨hx, hb, hml, hown, hts, hret, hlk, hroom, hsp⟩ := hg
  have hRR : yc.2.2.2.2.frames + 1 ≤ x.2.2.2.1.frames ∧ 8 + (yc.2.1 + 11) + yc.2.2.2.2.locals ≤ x.2.2.2.1.locals := by rw [hroom]; exact hR
  have hp : PreV x.2.2.2.2.1 H yn.cls (k.2.2.1 i) (va_Pc (.ref (k.2.2.1 i) :: As) (fun U => va_P k.1 vwCl (mv_ws k M) U.heap ∧ mv_SP k U)) As :=
    ⟨mv_blind, va_recv hsp.1 hP hcl (mv_ws_at hL), fun U hU hW => ⟨rfl, by rw [hU]; exact hP, hsp.warm hW⟩⟩
  have run : va_Run x.1 x.2.1 x.2.2.1 x.2.2.2.1 x.2.2.2.2.1 x.2.2.2.2.2.1 x.2.2.2.2.2.2.1 x.2.2.2.2.2.2.2.1 x.2.2.2.2.2.2.2.2.1 x.2.2.2.2.2.2.2.2.2 H locs 0 0 0 0 (F0 x.2.2.2.2.2.1 pc lsA (As.reverse ++ .ref (k.2.2.1 i) :: st)) st (mv_Q k (ρ' r') (Value.ref (k.2.2.1 i) :: As).toArray) (mv_A k) := by
    rcases hl' with hl' | ⟨host, hl'⟩
    · exact va_runV (C := yn.cls) ⟨hx, hb, hml, hown, hts⟩ (hC r' hr') ⟨callB_of n hts (mv_goodw hc) rfl hz1 hz2 (hts _ hi) (hts _ hl') hd hRR, hts _ him, hts _ hse⟩ hp rfl hn hl.1 rfl (by show 2 * 0 + _ ≤ 8; omega) h ⟨by omega, by omega⟩
    · exact va_runVN (C := yn.cls) (host := host) ⟨hx, hb, hml, hown, hts⟩ (hC r' hr') ⟨va_cnB n hts (mv_goodw hc) rfl hz1 hz2 (hsp.2.1 _ hl') (hts _ hi) hd hRR, hts _ him, hts _ hse⟩ hp rfl hn hl.1 rfl (by show 2 * 0 + _ ≤ 8; omega) h ⟨by omega, by omega⟩
  exact mv_after run hS (fun H1 locs1 hP1 hS1 => kk r' ⟨hx, hb, hml, hown, hts, hret, hlk, hroom, hsp⟩ r hr H1 locs1 lsA hP1 hS1 hl)
theorem mv_callS {β : Type} {idx n : Nat} {yn : MethodName} {yc : mv_Y} {ρ' : β → Option Value × mv_M} {As : List Value} {G' : Option β} {g : β → Option α} (h : decode y.1 pc = .ok (.invokestatic idx, 3)) (hl' : mv_ML y.2.2.1 idx yn) (hm : mv_MS yn yc n) (hR : mv_RR y yc) (hn : As.length = n) (hst : (st.map fun v => v.category).sum ≤ 8)
    (hC : mv_C x.2.1 k yn yc ρ' As M G') (kk : ∀ r', mv_V x k y ρ (pc + 3) ls ((ρ' r').1.toList ++ st) (ρ' r').2 (g r')) : mv_V x k y ρ pc ls (As.reverse ++ st) M (G'.bind g) := by
  intro hg r hr H locs lsA hP hS hl
  obtain ⟨r', hr', hr⟩ := Option.bind_eq_some_iff.mp hr
  obtain ⟨⟨hc, hi, hd, hz1, hz2⟩, hstat⟩ := hm
  obtain ⟨hx, hb, hml, hown, hts, hret, hlk, hroom, hsp⟩ := hg
  have hRR : yc.2.2.2.2.frames + 1 ≤ x.2.2.2.1.frames ∧ 8 + (yc.2.1 + 11) + yc.2.2.2.2.locals ≤ x.2.2.2.1.locals := by rw [hroom]; exact hR
  have hp : PreS x.2.2.2.2.1 H (va_Pc As (fun U => va_P k.1 vwCl (mv_ws k M) U.heap ∧ mv_SP k U)) As :=
    ⟨mv_blind, fun U hU hW => ⟨rfl, by rw [hU]; exact hP, hsp.warm hW⟩⟩
  have run : va_Run x.1 x.2.1 x.2.2.1 x.2.2.2.1 x.2.2.2.2.1 x.2.2.2.2.2.1 x.2.2.2.2.2.2.1 x.2.2.2.2.2.2.2.1 x.2.2.2.2.2.2.2.2.1 x.2.2.2.2.2.2.2.2.2 H locs 0 0 0 0 (F0 x.2.2.2.2.2.1 pc lsA (As.reverse ++ st)) st (mv_Q k (ρ' r') As.toArray) (mv_A k) := by
    rcases hl' with hl' | ⟨host, hl'⟩
    · exact va_runS ⟨hx, hb, hml, hown, hts⟩ (hC r' hr') ⟨callB_of n hts (mv_goodw hc) rfl hz1 hz2 (hts _ hi) (hts _ hl') hd hRR, hts _ hstat⟩ hp rfl hn hl.1 rfl (by show 2 * 0 + _ ≤ 8; omega) h ⟨by omega, by omega⟩
    · exact va_runSN (host := host) ⟨hx, hb, hml, hown, hts⟩ (hC r' hr') ⟨va_cnB n hts (mv_goodw hc) rfl hz1 hz2 (hsp.2.1 _ hl') (hts _ hi) hd hRR, hts _ hstat, trivial⟩ hp rfl hn hl.1 rfl (by show 2 * 0 + _ ≤ 8; omega) h ⟨by omega, by omega⟩
  exact mv_after run hS (fun H1 locs1 hP1 hS1 => kk r' ⟨hx, hb, hml, hown, hts, hret, hlk, hroom, hsp⟩ r hr H1 locs1 lsA hP1 hS1 hl)
theorem mv_callVi {idx i ci n N : Nat} {T : u_T} {fs : List Nat} {yn : MethodName} {yc : mv_Y} {As : List Value} {G' : Option (Int32 × mv_M)} {g : Int32 → mv_M → Option α} (h : decode y.1 pc = .ok (.invokevirtual idx, 3)) (hl' : mv_ML y.2.2.1 idx yn) (hm : mv_MV yn yc n) (hR : mv_RR y yc) (hL : k.2.2.2[i]? = some (0, ci, fs)) (hcl : vwCl[ci]? = some (yn.cls, T, N)) (hn : As.length = n) (hst : (st.map fun v => v.category).sum ≤ 8)
    (hC : mv_C x.2.1 k yn yc mv_ri (.ref (k.2.2.1 i) :: As) M G') (kk : ∀ (v : Int32) (M : mv_M), mv_V x k y ρ (pc + 3) ls (.int v :: st) M (g v M)) : mv_V x k y ρ pc ls (As.reverse ++ .ref (k.2.2.1 i) :: st) M (mv_bi G' g) := mv_callV h hl' hm hR hL hcl hn hst hC (fun r' => kk r'.1 r'.2)
theorem mv_callVl {idx i ci n N : Nat} {T : u_T} {fs : List Nat} {yn : MethodName} {yc : mv_Y} {As : List Value} {G' : Option (Int64 × mv_M)} {g : Int64 → mv_M → Option α} (h : decode y.1 pc = .ok (.invokevirtual idx, 3)) (hl' : mv_ML y.2.2.1 idx yn) (hm : mv_MV yn yc n) (hR : mv_RR y yc) (hL : k.2.2.2[i]? = some (0, ci, fs)) (hcl : vwCl[ci]? = some (yn.cls, T, N)) (hn : As.length = n) (hst : (st.map fun v => v.category).sum ≤ 8)
    (hC : mv_C x.2.1 k yn yc mv_rl (.ref (k.2.2.1 i) :: As) M G') (kk : ∀ (v : Int64) (M : mv_M), mv_V x k y ρ (pc + 3) ls (.long v :: st) M (g v M)) : mv_V x k y ρ pc ls (As.reverse ++ .ref (k.2.2.1 i) :: st) M (mv_bl G' g) := mv_callV h hl' hm hR hL hcl hn hst hC (fun r' => kk r'.1 r'.2)
theorem mv_callVv {idx i ci n N : Nat} {T : u_T} {fs : List Nat} {yn : MethodName} {yc : mv_Y} {As : List Value} {G' : Option mv_M} {g : mv_M → Option α} (h : decode y.1 pc = .ok (.invokevirtual idx, 3)) (hl' : mv_ML y.2.2.1 idx yn) (hm : mv_MV yn yc n) (hR : mv_RR y yc) (hL : k.2.2.2[i]? = some (0, ci, fs)) (hcl : vwCl[ci]? = some (yn.cls, T, N)) (hn : As.length = n) (hst : (st.map fun v => v.category).sum ≤ 8)
    (hC : mv_C x.2.1 k yn yc mv_rv (.ref (k.2.2.1 i) :: As) M G') (kk : ∀ (M : mv_M), mv_V x k y ρ (pc + 3) ls st M (g M)) : mv_V x k y ρ pc ls (As.reverse ++ .ref (k.2.2.1 i) :: st) M (mv_bv G' g) := mv_callV h hl' hm hR hL hcl hn hst hC (fun r' => kk r')
theorem mv_callSi {idx n : Nat} {yn : MethodName} {yc : mv_Y} {As : List Value} {G' : Option (Int32 × mv_M)} {g : Int32 → mv_M → Option α} (h : decode y.1 pc = .ok (.invokestatic idx, 3)) (hl' : mv_ML y.2.2.1 idx yn) (hm : mv_MS yn yc n) (hR : mv_RR y yc) (hn : As.length = n) (hst : (st.map fun v => v.category).sum ≤ 8)
    (hC : mv_C x.2.1 k yn yc mv_ri As M G') (kk : ∀ (v : Int32) (M : mv_M), mv_V x k y ρ (pc + 3) ls (.int v :: st) M (g v M)) : mv_V x k y ρ pc ls (As.reverse ++ st) M (mv_bi G' g) := mv_callS h hl' hm hR hn hst hC (fun r' => kk r'.1 r'.2)
theorem mv_callSl {idx n : Nat} {yn : MethodName} {yc : mv_Y} {As : List Value} {G' : Option (Int64 × mv_M)} {g : Int64 → mv_M → Option α} (h : decode y.1 pc = .ok (.invokestatic idx, 3)) (hl' : mv_ML y.2.2.1 idx yn) (hm : mv_MS yn yc n) (hR : mv_RR y yc) (hn : As.length = n) (hst : (st.map fun v => v.category).sum ≤ 8)
    (hC : mv_C x.2.1 k yn yc mv_rl As M G') (kk : ∀ (v : Int64) (M : mv_M), mv_V x k y ρ (pc + 3) ls (.long v :: st) M (g v M)) : mv_V x k y ρ pc ls (As.reverse ++ st) M (mv_bl G' g) := mv_callS h hl' hm hR hn hst hC (fun r' => kk r'.1 r'.2)
theorem mv_callSv {idx n : Nat} {yn : MethodName} {yc : mv_Y} {As : List Value} {G' : Option mv_M} {g : mv_M → Option α} (h : decode y.1 pc = .ok (.invokestatic idx, 3)) (hl' : mv_ML y.2.2.1 idx yn) (hm : mv_MS yn yc n) (hR : mv_RR y yc) (hn : As.length = n) (hst : (st.map fun v => v.category).sum ≤ 8)
    (hC : mv_C x.2.1 k yn yc mv_rv As M G') (kk : ∀ (M : mv_M), mv_V x k y ρ (pc + 3) ls st M (g M)) : mv_V x k y ρ pc ls (As.reverse ++ st) M (mv_bv G' g) := mv_callS h hl' hm hR hn hst hC (fun r' => kk r')
theorem mv_max {idx : Nat} {a b : Int32} (h : decode y.1 pc = .ok (.invokestatic idx, 3)) (hl' : Cond.methodLink y.2.2.1 idx Lib.Math.max.name ∈ mv_all) (hw : Cond.static Lib.Math.max.name ∈ mv_all ∧ Cond.initialized "java/lang/Math" ∈ mv_all ∧ Cond.code Lib.Math.max.name Lib.Math.max.code 2 (some .int) ∈ mv_all) (hR : 1 ≤ y.2.2.2.2.frames ∧ (st.map fun v => v.category).sum + 13 ≤ y.2.2.2.2.locals) (kk : mv_V x k y ρ (pc + 3) ls (.int (if a < b then b else a) :: st) M G) : mv_V x k y ρ pc ls (.int b :: .int a :: st) M G := by
  intro hg r hr H locs lsA hP hS hl
  exact va_mmax hg.1 hg.2.1 (hg.2.2.1.trans hl.1.symm) hg.2.2.2.1 (hg.2.2.2.2.1 _ hl') (hg.2.2.2.2.1 _ hw.1) (hg.2.2.2.2.1 _ hw.2.1) (hg.2.2.2.2.1 _ hw.2.2) (by rw [hg.2.2.2.2.2.2.2.1]; exact hR.1) (by rw [hg.2.2.2.2.2.2.2.1]; exact hR.2) (Nat.zero_le _) (Nat.zero_le _) h (kk hg r hr H locs lsA hP hS hl)
theorem mv_minl {idx : Nat} {a b : Int64} (h : decode y.1 pc = .ok (.invokestatic idx, 3)) (hl' : Cond.methodLink y.2.2.1 idx Lib.MathLoose.min_long.x ∈ mv_all) (hw : Cond.static Lib.MathLoose.min_long.x ∈ mv_all ∧ Cond.initialized "java/lang/Math" ∈ mv_all ∧ Cond.code Lib.MathLoose.min_long.x Lib.MathLoose.min_long.code 4 (some .long) ∈ mv_all) (hR : 1 ≤ y.2.2.2.2.frames ∧ (st.map fun v => v.category).sum + 15 ≤ y.2.2.2.2.locals) (kk : mv_V x k y ρ (pc + 3) ls (.long (if b < a then b else a) :: st) M G) : mv_V x k y ρ pc ls (.long b :: .long a :: st) M G := by
  intro hg r hr H locs lsA hP hS hl
  exact va_mmin_long hg.1 hg.2.1 (hg.2.2.1.trans hl.1.symm) hg.2.2.2.1 (hg.2.2.2.2.1 _ hl') (hg.2.2.2.2.1 _ hw.1) (hg.2.2.2.2.1 _ hw.2.1) (hg.2.2.2.2.1 _ hw.2.2) (by rw [hg.2.2.2.2.2.2.2.1]; exact hR.1) (by rw [hg.2.2.2.2.2.2.2.1]; exact hR.2) (Nat.zero_le _) (Nat.zero_le _) h (kk hg r hr H locs lsA hP hS hl)
/-- what arraycopy asks -/
def mv_cp {α : Type} (sp dp n : Int32) (n0 n1 : Nat) (G : Option α) : Option α := if sp < 0 ∨ dp < 0 ∨ n < 0 ∨ n0 < sp.toNatClampNeg + n.toNatClampNeg ∨ n1 < dp.toNatClampNeg + n.toNatClampNeg then none else G
theorem mv_copy {idx i j n0 n1 : Nat} {fs fs' : List Nat} {sp dp n : Int32} {g : mv_M → Option α} (h : decode y.1 pc = .ok (.invokestatic idx, 3)) (hl' : Cond.methodLink y.2.2.1 idx arraycopyName ∈ mv_all) (hL : k.2.2.2[i]? = some (1, n0, fs)) (hL' : k.2.2.2[j]? = some (1, n1, fs')) (hR : 1 ≤ y.2.2.2.2.frames ∧ (st.map fun v => v.category).sum + 18 ≤ y.2.2.2.2.locals) (kk : ∀ M' : mv_M, mv_V x k y ρ (pc + 3) ls st M' (g M')) : mv_V x k y ρ pc ls (.int n :: .int dp :: .ref (k.2.2.1 j) :: .int sp :: .ref (k.2.2.1 i) :: st) M (mv_cp sp dp n n0 n1 (mv_let (mv_wA M j (va_cpy (M.1 i) (M.1 j) sp.toNatClampNeg dp.toNatClampNeg n.toNatClampNeg)) g)) := by
  intro hg r hr H locs lsA hP hS hl
  unfold mv_cp at hr
  by_cases hc : sp < 0 ∨ dp < 0 ∨ n < 0 ∨ n0 < sp.toNatClampNeg + n.toNatClampNeg ∨ n1 < dp.toNatClampNeg + n.toNatClampNeg
  · rw [if_pos hc] at hr; cases hr
  rw [if_neg hc] at hr
  have hsp := hg.2.2.2.2.2.2.2.2
  have h1 : ¬ sp < 0 := fun q => hc (Or.inl q)
  have h2 : ¬ dp < 0 := fun q => hc (Or.inr (Or.inl q))
  have h3 : ¬ n < 0 := fun q => hc (Or.inr (Or.inr (Or.inl q)))
  have h4 : sp.toNatClampNeg + n.toNatClampNeg ≤ n0 := Nat.not_lt.mp fun q => hc (Or.inr (Or.inr (Or.inr (Or.inl q))))
  have h5 : dp.toNatClampNeg + n.toNatClampNeg ≤ n1 := Nat.not_lt.mp fun q => hc (Or.inr (Or.inr (Or.inr (Or.inr q))))
  have hset : (mv_ws k M).set j (k.2.2.1 j, .inl (k.2.1 0, n1, .inl (va_cpy (M.1 i) (M.1 j) sp.toNatClampNeg dp.toNatClampNeg n.toNatClampNeg))) = mv_ws k (mv_wA M j (va_cpy (M.1 i) (M.1 j) sp.toNatClampNeg dp.toNatClampNeg n.toNatClampNeg)) := mv_ws_set hL' (by show _ = (Sum.inl (k.2.1 0, n1, Sum.inl ((mv_wA M j (va_cpy (M.1 i) (M.1 j) sp.toNatClampNeg dp.toNatClampNeg n.toNatClampNeg)).1 j)) : va_E); rw [mv_wA_a]) mv_cell_wA
  exact va_copyi (ty := .int) hg.1 hg.2.1 (hg.2.2.1.trans hl.1.symm) hg.2.2.2.1 (hg.2.2.2.2.1 _ hl') (hg.2.2.2.2.1 _ vwcopy) (hg.2.2.2.2.1 _ swcopy) (hg.2.2.2.2.1 _ nwJ10) hsp.1 hP (mv_ws_D M hsp.2.2) hS i j 0 0 (mv_ws_at hL) (mv_ws_at hL') rfl rfl rfl h1 h2 h3 h4 h5 (fun _ _ => rfl) (by rw [hg.2.2.2.2.2.2.2.1]; exact hR.1) (by rw [hg.2.2.2.2.2.2.2.1]; exact hR.2) h (fun H1 locs1 hP1 _ hS1 => kk _ hg r hr H1 locs1 lsA (by rw [← hset]; exact hP1) hS1 hl)
end MV
