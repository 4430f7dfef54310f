/-! MAKING THE WORLDS: constructors. The cells as a list of the kit's; what is made comes behind. -/
def cn_AOA (t : FieldType) (U : State) : Prop := (Cond.arrayOver (.array t)).before #[] U = true
theorem cn_AOA.moved {t : FieldType} {u U : State} (hvm : u.vm.Alike U.vm) (h : cn_AOA t u) : cn_AOA t U := by
  obtain ⟨comp, c, k, h1, h2, h3, h4, h5⟩ := arrayOverA_spec h
  obtain ⟨k', hk', he⟩ := hvm.2.2 _ _ h3
  have hb : U.vm.bare = u.vm.bare := by first | exact hvm.bare_eq | exact hvm.bare_eq.symm
  have e1 := va_idx_bare U.vm comp
  have e2 := va_idx_bare u.vm comp
  rw [hb] at e1
  have hi : (U.vm.classes.findIdx? fun (x : Class) => match x.kind with | .array component _ => component == comp | _ => false) = some c := e1.symm.trans (e2.trans h2)
  have hkind : k'.kind = .array comp (.array t) := by rw [he]; exact h4
  have f1 : U.vm.findClass (FieldType.array t).toString = some comp := by rw [hvm.findClass]; exact h1
  have f2 : U.vm.findClass ("[" ++ (FieldType.array t).toString) = some c := by rw [hvm.findClass]; exact h5
  unfold cn_AOA Cond.before Cond.holds
  simp only [Cond.value]
  rw [f1, Option.bind_some]
  refine (congrArg (fun o : Option Nat => (o.bind (fun c => (U.vm.classes[c]?).map fun (k : Class) => match k.kind with | .array _ ty => decide (ty = FieldType.array t) && decide (U.vm.findClass ("[" ++ (FieldType.array t).toString) = some c) | _ => false) == some true)) hi).trans ?_
  simp [hk', hkind, f2]
def cn_SP (D : va_G) (cA : Nat → ClassId) (U : State) : Prop := va_K D vwCl (mv_tys cA) U ∧ (∀ w ∈ mv_nw, va_Nw w U) ∧ va_AO RX7 U ∧ cn_AOA .int U ∧ cn_AOA .long U
theorem cn_SP.warm {D : va_G} {cA : Nat → ClassId} {s U : State} (hW : s.WarmedH U.vm) (h : cn_SP D cA s) : cn_SP D cA U := by
  refine ⟨va_K.moved hW.alike h.1, fun w hw => ?_, va_AO.moved hW.alike h.2.2.1, cn_AOA.moved hW.alike h.2.2.2.1, cn_AOA.moved hW.alike h.2.2.2.2⟩
  have hz := h.2.1 w hw
  rcases mv_nw_kind w hw with ⟨a, i, b, n, d, hh, rfl⟩ | ⟨a, i, x, hh, rfl⟩
  · exact va_Nw.warmF hW hz
  · exact va_Nw.warmM hW hz
def cn_Q (D : va_G) (A : Nat → Prop) (P : va_W → Prop) : Array Value → State → Outcome → State → Prop := fun _ st o t => (o = .returned none ∧ ∃ ws, P ws ∧ va_P D vwCl ws t.heap ∧ va_D A ws) ∧ va_F A st t
def cn_G (x : mv_X) (y : mv_Y) (D : va_G) (cA : Nat → ClassId) : Prop :=
  x.1.tables.exec = Jvm.exec ∧ x.2.2.2.2.2.2.2.2.2.code = y.1 ∧ x.2.2.2.2.2.2.2.2.2.maxLocals = y.2.1 ∧ x.2.2.2.2.1.vm.findClass y.2.2.1 = some x.2.2.2.2.2.1.cls ∧ (∀ w ∈ mv_all, w.before x.2.2.2.2.2.2.1 x.2.2.2.2.1 = true) ∧ x.2.2.2.2.2.2.2.2.1.sig.returnType = y.2.2.2.1 ∧ x.2.2.2.2.2.2.2.2.1.locks = false ∧ x.2.2.2.1 = y.2.2.2.2 ∧ cn_SP D cA x.2.2.2.2.1 ∧ x.2.2.2.2.2.2.2.2.1.name = "<init>"
abbrev cn_WW (x : mv_X) (D : va_G) (A : Nat → Prop) (P : va_W → Prop) (mc ms : Nat) (H : Heap) (locs : List Loc) (nc ns : Nat) (g : JFrame) : Prop :=
  W x.1 x.2.1 x.2.2.1 x.2.2.2.1 x.2.2.2.2.1 x.2.2.2.2.2.1 x.2.2.2.2.2.2.1 x.2.2.2.2.2.2.2.1 x.2.2.2.2.2.2.2.2.1 x.2.2.2.2.2.2.2.2.2 H locs nc ns (MQ x.2.2.2.2.2.2.2.1 (cn_Q D A P) x.2.2.2.2.2.2.1 x.2.2.2.2.1 mc ms A) g
def cn_V (x : mv_X) (y : mv_Y) (D : va_G) (cA : Nat → ClassId) (A : Nat → Prop) (P : va_W → Prop) (mc ms : Nat) (pc : Nat) (ls : List (Nat × Value)) (st : List Value) (ws : va_W) (nc ns : Nat) : Prop :=
  cn_G x y D cA → (∀ q, x.2.2.2.2.1.heap.size ≤ q → A q) → ∀ (H : Heap) (locs : List Loc) (lsA : Array Slot), va_P D vwCl ws H → va_D A ws → va_S A x.2.2.2.2.1.heap H locs → lv_has lsA y.2.1 ls → cn_WW x D A P mc ms H locs nc ns (F0 x.2.2.2.2.2.1 pc lsA st)
def cn_C (l : Launch) (D : va_G) (cA : Nat → ClassId) (yn : MethodName) (y : mv_Y) (h0 : Nat) (e0 : va_E) (As : List Value) (mc ms : Nat) (P : va_W → Prop) : Prop :=
  ∀ sz : Nat, Met l yn (mv_w yn y) y.2.2.2.2 (va_Pc (.ref h0 :: As) (fun U => U.heap.size = sz ∧ va_P D vwCl [(h0, e0)] U.heap ∧ cn_SP D cA U)) (cn_Q D (va_A [(h0, e0)] sz) P) mc ms (va_A [(h0, e0)] sz)
theorem cn_C.ofV {l : Launch} {D : va_G} {cA : Nat → ClassId} {yn : MethodName} {y : mv_Y} {h0 : Nat} {e0 : va_E} {As : List Value} {mc ms : Nat} {P : va_W → Prop} {ls : List (Nat × Value)} (hp : plainName yn.cls = true) (ho : yn.cls = y.2.2.1) (hnm : yn.name = "<init>") (hn : (lg_sl (.ref h0 :: As)).length ≤ y.2.1) (hl : lv_args 0 (.ref h0 :: As) = ls)
    (kk : ∀ (x : mv_X) (A : Nat → Prop), x.2.1 = l → cn_V x y D cA A P mc ms 0 ls [] [(h0, e0)] 0 0) : cn_C l D cA yn y h0 e0 As mc ms P := by
  intro sz
  refine Met.ofW (cc := y.1) (maxL := y.2.1) (ret := y.2.2.2.1) hp rfl ?_
  intro p e s m args' below meth c s₁ B hml hv
  obtain ⟨rfl, hsz, hP, hSP⟩ := hv
  subst hsz
  have hts := atoms_spec (ws := mv_w yn y) B.pre
  have hown : s.vm.findClass yn.cls = some m.cls := findClass_of_methodNamed B.named
  have hin : meth.name = "<init>" := (name_of_methodNamed B.named B.method).1.trans hnm
  rw [lg_entry_eq]
  have hD : va_D (va_A [(h0, e0)] s.heap.size) [(h0, e0)] := by
    refine va_D.self (A := fun _ => True) ⟨fun i j p q hi hj _ => ?_, fun _ _ _ => trivial⟩
    have h1 : i < 1 := (List.getElem?_eq_some_iff.mp hi).1
    have h2 : j < 1 := (List.getElem?_eq_some_iff.mp hj).1
    omega
  have h := kk (p, l, e, (headSpec (mv_w yn y) y.2.2.2.2).room, s, m, (Value.ref h0 :: As).toArray, below, meth, c) (va_A [(h0, e0)] s.heap.size) rfl ⟨B.exec, B.bytes, hml, ho ▸ hown, fun w hw => hts w (List.mem_cons_of_mem _ hw), B.returns, B.notSynchronized, rfl, hSP, hin⟩ (fun q h => Or.inr h) s.heap [] _ hP hD va_S.rf (hl ▸ lv_entry (.ref h0 :: As) hn)
  exact h
section CN
variable {x : mv_X} {y : mv_Y} {D : va_G} {cA : Nat → ClassId} {A : Nat → Prop} {P : va_W → Prop} {mc ms : Nat} {pc : Nat} {ls : List (Nat × Value)} {st : List Value} {ws : va_W} {nc ns : Nat}
theorem cn_ws {ws' : va_W} (h : ws = ws') (kk : cn_V x y D cA A P mc ms pc ls st ws' nc ns) : cn_V x y D cA A P mc ms pc ls st ws nc ns := h ▸ kk
theorem cn_num {nc' ns' : Nat} (h1 : nc = nc') (h2 : ns = ns') (kk : cn_V x y D cA A P mc ms pc ls st ws nc' ns') : cn_V x y D cA A P mc ms pc ls st ws nc ns := by subst h1; subst h2; exact kk
theorem cn_aload_n {n : Fin 4} {i v : Nat} (j : Nat) (h : decode y.1 pc = .ok (.aload_n n, 1)) (hi : (n : Nat) = i) (hj : ls[j]? = some (i, .ref v)) (kk : cn_V x y D cA A P mc ms (pc + 1) ls (.ref v :: st) ws nc ns) : cn_V x y D cA A P mc ms pc ls st ws nc ns :=
  fun hg hA H locs lsA hP hD hS hl => lv_aload_n hg.1 hg.2.1 h hi (lv_at hl j hj) (kk hg hA H locs lsA hP hD hS hl)
theorem cn_iload_n {n : Fin 4} {i : Nat} {v : Int32} (j : Nat) (h : decode y.1 pc = .ok (.iload_n n, 1)) (hi : (n : Nat) = i) (hj : ls[j]? = some (i, .int v)) (kk : cn_V x y D cA A P mc ms (pc + 1) ls (.int v :: st) ws nc ns) : cn_V x y D cA A P mc ms pc ls st ws nc ns :=
  fun hg hA H locs lsA hP hD hS hl => lv_iload_n hg.1 hg.2.1 h hi (lv_at hl j hj) (kk hg hA H locs lsA hP hD hS hl)
theorem cn_istore_n {n : Fin 4} {i : Nat} {v : Int32} {ls' : List (Nat × Value)} (h : decode y.1 pc = .ok (.istore_n n, 1)) (hi : (n : Nat) = i) (hn : i < y.2.1) (hl' : mv_cut i ls = ls') (kk : cn_V x y D cA A P mc ms (pc + 1) ((i, .int v) :: ls') st ws nc ns) : cn_V x y D cA A P mc ms pc ls (.int v :: st) ws nc ns :=
  fun hg hA H locs lsA hP hD hS hl => lv_istore_n hg.1 hg.2.1 h hi hl hn (congrArg _ hl') (fun lsB hB => kk hg hA H locs lsB hP hD hS hB)
theorem cn_iinc {i : Nat} {n : Int} {v w : Int32} {ls' : List (Nat × Value)} (j : Nat) (h : decode y.1 pc = .ok (.iinc i n, 3)) (hj : ls[j]? = some (i, .int v)) (hd : v + Int32.ofInt n = w) (hn : i < y.2.1) (hl' : mv_cut i ls = ls') (kk : cn_V x y D cA A P mc ms (pc + 3) ((i, .int w) :: ls') st ws nc ns) : cn_V x y D cA A P mc ms pc ls st ws nc ns :=
  fun hg hA H locs lsA hP hD hS hl => lv_iinc hg.1 hg.2.1 h hl hj hd hn (congrArg _ hl') (fun lsB hB => kk hg hA H locs lsB hP hD hS hB)
theorem cn_iconst {n : Int} {v : Int32} (h : decode y.1 pc = .ok (.iconst n, 1)) (hv : Int32.ofInt n = v) (kk : cn_V x y D cA A P mc ms (pc + 1) ls (.int v :: st) ws nc ns) : cn_V x y D cA A P mc ms pc ls st ws nc ns :=
  fun hg hA H locs lsA hP hD hS hl => lv_iconst hg.1 hg.2.1 h hv (kk hg hA H locs lsA hP hD hS hl)
theorem cn_lconst {n : Fin 2} {v : Int64} (h : decode y.1 pc = .ok (.lconst n, 1)) (hv : Int64.ofNat (n : Nat) = v) (kk : cn_V x y D cA A P mc ms (pc + 1) ls (.long v :: st) ws nc ns) : cn_V x y D cA A P mc ms pc ls st ws nc ns :=
  fun hg hA H locs lsA hP hD hS hl => lv_lconst hg.1 hg.2.1 h hv (kk hg hA H locs lsA hP hD hS hl)
theorem cn_bipush {n : Int} {v : Int32} (h : decode y.1 pc = .ok (.bipush n, 2)) (hv : (Int8.ofInt n).toInt32 = v) (kk : cn_V x y D cA A P mc ms (pc + 2) ls (.int v :: st) ws nc ns) : cn_V x y D cA A P mc ms pc ls st ws nc ns :=
  fun hg hA H locs lsA hP hD hS hl => lv_bipush hg.1 hg.2.1 h hv (kk hg hA H locs lsA hP hD hS hl)
theorem cn_sipush {n : Int} {v : Int32} (h : decode y.1 pc = .ok (.sipush n, 3)) (hv : (Int16.ofInt n).toInt32 = v) (kk : cn_V x y D cA A P mc ms (pc + 3) ls (.int v :: st) ws nc ns) : cn_V x y D cA A P mc ms pc ls st ws nc ns :=
  fun hg hA H locs lsA hP hD hS hl => lv_sipush hg.1 hg.2.1 h hv (kk hg hA H locs lsA hP hD hS hl)
theorem cn_dup {v : Value} (h : decode y.1 pc = .ok (.dup, 1)) (hv : v.category = 1) (kk : cn_V x y D cA A P mc ms (pc + 1) ls (v :: v :: st) ws nc ns) : cn_V x y D cA A P mc ms pc ls (v :: st) ws nc ns :=
  fun hg hA H locs lsA hP hD hS hl => lv_dup hg.1 hg.2.1 h hv (kk hg hA H locs lsA hP hD hS hl)
theorem cn_goto {off : Int} {tgt : Nat} (h : decode y.1 pc = .ok (.goto off, 3)) (ht : (pc : Int) + off = (tgt : Int)) (kk : cn_V x y D cA A P mc ms tgt ls st ws nc ns) : cn_V x y D cA A P mc ms pc ls st ws nc ns :=
  fun hg hA H locs lsA hP hD hS hl => lv_goto hg.1 hg.2.1 h ht (kk hg hA H locs lsA hP hD hS hl)
theorem cn_get {a b : Int32} {off : Int} {tgt : Nat} (h : decode y.1 pc = .ok (.if_icmp .ge off, 3)) (ht : (pc : Int) + off = (tgt : Int)) (hc : b ≤ a) (kk : cn_V x y D cA A P mc ms tgt ls st ws nc ns) : cn_V x y D cA A P mc ms pc ls (.int b :: .int a :: st) ws nc ns :=
  fun hg hA H locs lsA hP hD hS hl => lv_icmp_ge hg.1 hg.2.1 h ht (fun _ => kk hg hA H locs lsA hP hD hS hl) (fun hn => absurd hc hn)
theorem cn_gef {a b : Int32} {off : Int} {tgt : Nat} (h : decode y.1 pc = .ok (.if_icmp .ge off, 3)) (ht : (pc : Int) + off = (tgt : Int)) (hc : ¬ b ≤ a) (kk : cn_V x y D cA A P mc ms (pc + 3) ls st ws nc ns) : cn_V x y D cA A P mc ms pc ls (.int b :: .int a :: st) ws nc ns :=
  fun hg hA H locs lsA hP hD hS hl => lv_icmp_ge hg.1 hg.2.1 h ht (fun hn => absurd hn hc) (fun _ => kk hg hA H locs lsA hP hD hS hl)
theorem cn_obj {idx a : Nat} (h : decode y.1 pc = .ok (.invokespecial idx, 3)) (hw : Cond.methodLink y.2.2.1 idx Lib.objectInit ∈ mv_all) (hw2 : Cond.instanceMethod Lib.objectInit ∈ mv_all ∧ Cond.code Lib.objectInit ⟨#[0xb1]⟩ 1 none ∈ mv_all) (hR : 1 ≤ y.2.2.2.2.frames ∧ (st.map fun v => v.category).sum + 12 ≤ y.2.2.2.2.locals) (kk : cn_V x y D cA A P mc ms (pc + 3) ls st ws nc ns) : cn_V x y D cA A P mc ms pc ls (.ref a :: st) ws nc ns := by
  intro hg hA H locs lsA hP hD hS hl
  exact W.objInit hg.1 hg.2.1 hg.2.2.2.1 (hg.2.2.2.2.1 _ hw) (hg.2.2.2.2.1 _ hw2.1) (hg.2.2.2.2.1 _ hw2.2) rfl (hl.1.trans hg.2.2.1.symm) rfl h (by rw [hg.2.2.2.2.2.2.2.1]; exact hR.1) (by rw [hg.2.2.2.2.2.2.2.1]; show 2 * 0 + _ + 12 ≤ _; have := hR.2; omega) (kk hg hA H locs lsA hP hD hS hl)
theorem cn_new {idx ci N : Nat} {C : String} {T : u_T} {ty : Nat → FieldType} {fs : List Value} (h : decode y.1 pc = .ok (.new idx, 3)) (hin : ∀ w ∈ u_ws C T N, w ∈ mv_all) (hty : ∀ k, k < N → parseFieldDescriptor (T k).2.2.1 = some (ty k)) (h1 : Cond.classLink y.2.2.1 idx C ∈ mv_all) (h2 : Cond.instantiable C N ∈ mv_all) (h3 : Cond.initialized C ∈ mv_all) (hc : vwCl[ci]? = some (C, T, N)) (hfs : ∀ j, j < N → defaultValue (ty j) = vp_V fs j) (hR : nc + 1 ≤ y.2.2.2.2.cells ∧ ns + N ≤ y.2.2.2.2.slots) (kk : ∀ q : Nat, cn_V x y D cA A P mc ms (pc + 3) ls (.ref q :: st) (ws ++ [(q, .inr (ci, fs))]) (nc + 1) (ns + N)) : cn_V x y D cA A P mc ms pc ls st ws nc ns := by
  intro hg hA H locs lsA hP hD hS hl
  have hr := hg.2.2.2.2.2.2.2.1
  exact va_new hg.1 hg.2.1 hg.2.2.2.2.1 hin ty hty hg.2.2.2.1 (hg.2.2.2.2.1 _ h1) (hg.2.2.2.2.1 _ h2) (hg.2.2.2.2.1 _ h3) hg.2.2.2.2.2.2.2.2.1.1 hP hD hS hA hc hfs (by rw [hr]; exact hR.1) (by rw [hr]; exact hR.2) h (fun q H1 hP1 hD1 hS1 => kk q hg hA H1 locs lsA hP1 hD1 hS1 hl)
theorem cn_same {s : State} {tys : List (ClassId × FieldType)} {c c' : ClassId} {ty : FieldType} (t : Nat) (hK : va_K D vwCl tys s) (h1 : tys[t]? = some (c, ty)) (h2 : ∃ t' : Nat, tys[t']? = some (c', ty)) (hp : ∀ C, ty ≠ .object C) : c' = c := by
  obtain ⟨t', h2⟩ := h2
  have e1 := (hK.2 t _ h1).2
  have e2 := (hK.2 t' _ h2).2
  cases ty with
  | object C => exact absurd rfl (hp C)
  | _ => exact Option.some.inj (e2.symm.trans e1)
theorem cn_newI {n : Int32} {N : Nat} (h : decode y.1 pc = .ok (.newarray .int, 2)) (hw : Cond.arrayClass .int ∈ mv_all) (hn : ¬ n < 0) (hN : n.toNatClampNeg = N) (hb : N * 4 ≤ 536870912) (hR : nc + 1 ≤ y.2.2.2.2.cells ∧ ns + N ≤ y.2.2.2.2.slots) (kk : ∀ q : Nat, cn_V x y D cA A P mc ms (pc + 2) ls (.ref q :: st) (ws ++ [(q, .inl (cA 0, N, .inl (fun _ => 0)))]) (nc + 1) (ns + N)) : cn_V x y D cA A P mc ms pc ls (.int n :: st) ws nc ns := by
  intro hg hA H locs lsA hP hD hS hl
  have hr := hg.2.2.2.2.2.2.2.1
  refine va_newa (atype := .int) (ty := .int) (a0 := (N, .inl (fun _ => 0))) hg.1 hg.2.1 (hg.2.2.2.2.1 _ hw) rfl hg.2.2.2.2.2.2.2.2.1.1 hP hD hS hA (fun _ => rfl) hn hN hb (by rw [hr]; exact hR.1) (by rw [hr]; exact hR.2) h (fun q c' H1 hK1 hP1 hD1 hS1 => ?_)
  have e : c' = cA 0 := cn_same 0 hK1 rfl ⟨6, rfl⟩ (fun C h => by cases h)
  subst e
  exact kk q hg hA H1 locs lsA hP1 hD1 hS1 hl
theorem cn_newL {n : Int32} {N : Nat} (h : decode y.1 pc = .ok (.newarray .long, 2)) (hw : Cond.arrayClass .long ∈ mv_all) (hn : ¬ n < 0) (hN : n.toNatClampNeg = N) (hb : N * 8 ≤ 536870912) (hR : nc + 1 ≤ y.2.2.2.2.cells ∧ ns + N ≤ y.2.2.2.2.slots) (kk : ∀ q : Nat, cn_V x y D cA A P mc ms (pc + 2) ls (.ref q :: st) (ws ++ [(q, .inl (cA 1, N, .inr (.inl (fun _ => 0))))]) (nc + 1) (ns + N)) : cn_V x y D cA A P mc ms pc ls (.int n :: st) ws nc ns := by
  intro hg hA H locs lsA hP hD hS hl
  have hr := hg.2.2.2.2.2.2.2.1
  refine va_newa (atype := .long) (ty := .long) (a0 := (N, .inr (.inl (fun _ => 0)))) hg.1 hg.2.1 (hg.2.2.2.2.1 _ hw) rfl hg.2.2.2.2.2.2.2.2.1.1 hP hD hS hA (fun _ => rfl) hn hN hb (by rw [hr]; exact hR.1) (by rw [hr]; exact hR.2) h (fun q c' H1 hK1 hP1 hD1 hS1 => ?_)
  have e : c' = cA 1 := cn_same 1 hK1 rfl ⟨6, rfl⟩ (fun C h => by cases h)
  subst e
  exact kk q hg hA H1 locs lsA hP1 hD1 hS1 hl
theorem cn_newZ {n : Int32} {N : Nat} (h : decode y.1 pc = .ok (.newarray .boolean, 2)) (hw : Cond.arrayClass .boolean ∈ mv_all) (hn : ¬ n < 0) (hN : n.toNatClampNeg = N) (hb : N * 1 ≤ 536870912) (hR : nc + 1 ≤ y.2.2.2.2.cells ∧ ns + N ≤ y.2.2.2.2.slots) (kk : ∀ q : Nat, cn_V x y D cA A P mc ms (pc + 2) ls (.ref q :: st) (ws ++ [(q, .inl (cA 2, N, .inl (fun _ => 0)))]) (nc + 1) (ns + N)) : cn_V x y D cA A P mc ms pc ls (.int n :: st) ws nc ns := by
  intro hg hA H locs lsA hP hD hS hl
  have hr := hg.2.2.2.2.2.2.2.1
  refine va_newa (atype := .boolean) (ty := .boolean) (a0 := (N, .inl (fun _ => 0))) hg.1 hg.2.1 (hg.2.2.2.2.1 _ hw) rfl hg.2.2.2.2.2.2.2.2.1.1 hP hD hS hA (fun _ => rfl) hn hN hb (by rw [hr]; exact hR.1) (by rw [hr]; exact hR.2) h (fun q c' H1 hK1 hP1 hD1 hS1 => ?_)
  have e : c' = cA 2 := cn_same 2 hK1 rfl ⟨6, rfl⟩ (fun C h => by cases h)
  subst e
  exact kk q hg hA H1 locs lsA hP1 hD1 hS1 hl
theorem cn_newQ {idx : Nat} {n : Int32} {N : Nat} (h : decode y.1 pc = .ok (.anewarray idx, 3)) (hw : Cond.classLink y.2.2.1 idx RX7 ∈ mv_all) (hn : ¬ n < 0) (hN : n.toNatClampNeg = N) (hb : N * 4 ≤ 536870912) (hR : nc + 1 ≤ y.2.2.2.2.cells ∧ ns + N ≤ y.2.2.2.2.slots) (kk : ∀ q : Nat, cn_V x y D cA A P mc ms (pc + 3) ls (.ref q :: st) (ws ++ [(q, .inl (cA 3, N, .inr (.inr (.inr (.inr (fun _ => none))))))]) (nc + 1) (ns + N)) : cn_V x y D cA A P mc ms pc ls (.int n :: st) ws nc ns := by
  intro hg hA H locs lsA hP hD hS hl
  have hr := hg.2.2.2.2.2.2.2.1
  have hsp := hg.2.2.2.2.2.2.2.2.1
  refine va_newq hg.1 hg.2.1 hg.2.2.2.1 (hg.2.2.2.2.1 _ hw) hsp.2.2.1 hsp.1 hP hD hS hA hn hN hb (by rw [hr]; exact hR.1) (by rw [hr]; exact hR.2) h (fun q c' H1 hK1 hP1 hD1 hS1 => ?_)
  have e : c' = cA 3 := by
    obtain ⟨kA, comp, -, -, -, e1⟩ := (hK1.2 3 _ rfl).2
    obtain ⟨kA', comp', -, -, -, e2⟩ := (hK1.2 6 _ rfl).2
    exact Option.some.inj (e2.symm.trans e1)
  subst e
  exact kk q hg hA H1 locs lsA hP1 hD1 hS1 hl
theorem cn_putF {idx ci kf N a : Nat} {C : String} {T : u_T} {ty0 : Nat → FieldType} {ty : FieldType} {fs : List Value} {v : Value} {W0 : va_W} (h : decode y.1 pc = .ok (.putfield idx, 3)) (hin : ∀ w ∈ u_ws C T N, w ∈ mv_all) (hty : ∀ k, k < N → parseFieldDescriptor (T k).2.2.1 = some (ty0 k)) (hnm : ∀ a, a < N → ∀ b, b < N → a ≠ b → (T a).2.1 ≠ (T b).2.1) (hc : vwCl[ci]? = some (C, T, N)) (hk : kf < N) (hw : Cond.fieldLink y.2.2.1 idx (T kf).1 (T kf).2.1 (T kf).2.2.1 ∈ mv_all) (hfin : (T kf).2.2.2 = true) (hdecl : (T kf).1 = y.2.2.1) (hd : parseFieldDescriptor (T kf).2.2.1 = some ty) (hn : narrow ty v = v) (hfit : fits ty v = true) (hl' : kf < fs.length)
    (kk : cn_V x y D cA A P mc ms (pc + 3) ls st ((a, .inr (ci, fs.set kf v)) :: W0) nc ns) : cn_V x y D cA A P mc ms pc ls (v :: .ref a :: st) ((a, .inr (ci, fs)) :: W0) nc ns := by
  intro hg hA H locs lsA hP hD hS hl
  exact va_putF hg.1 hg.2.1 hg.2.2.2.2.1 hin ty0 hty hnm hg.2.2.2.1 hg.2.2.2.2.2.2.2.2.1.1 hP hD hS 0 rfl hc kf hk (hg.2.2.2.2.1 _ hw) (fun _ h9 => h9) hfin hg.2.2.2.2.2.2.2.2.2 hdecl hd hn hfit hl' h (fun H1 locs1 hP1 hD1 hS1 => kk hg hA H1 locs1 lsA hP1 hD1 hS1 hl)
theorem cn_getf {idx ci kf N a : Nat} {C : String} {T : u_T} {fs : List Value} {v : Value} {W0 : va_W} (h : decode y.1 pc = .ok (.getfield idx, 3)) (hin : ∀ w ∈ u_ws C T N, w ∈ mv_all) (hc : vwCl[ci]? = some (C, T, N)) (hk : kf < N) (hw : Cond.fieldLink y.2.2.1 idx (T kf).1 (T kf).2.1 (T kf).2.2.1 ∈ mv_all) (hv : fs[kf]? = some v) (kk : cn_V x y D cA A P mc ms (pc + 3) ls (v :: st) ((a, .inr (ci, fs)) :: W0) nc ns) : cn_V x y D cA A P mc ms pc ls (.ref a :: st) ((a, .inr (ci, fs)) :: W0) nc ns := by
  intro hg hA H locs lsA hP hD hS hl
  exact va_get hg.1 hg.2.1 hg.2.2.2.2.1 hin hg.2.2.2.1 hg.2.2.2.2.2.2.2.2.1.1 hP 0 rfl hc kf hk (hg.2.2.2.2.1 _ hw) (fun _ h9 => h9) hv h (kk hg hA H locs lsA hP hD hS hl)
theorem cn_iast {a p n : Nat} {f : Nat → Int32} {j v : Int32} (h : decode y.1 pc = .ok (.iastore, 1)) (hp : ws[p]? = some (a, .inl (cA 0, n, .inl f))) (hin : vp_in j n) (kk : cn_V x y D cA A P mc ms (pc + 1) ls st (ws.set p (a, .inl (cA 0, n, .inl (upd f j.toNatClampNeg v)))) nc ns) : cn_V x y D cA A P mc ms pc ls (.int v :: .int j :: .ref a :: st) ws nc ns :=
  fun hg hA H locs lsA hP hD hS hl => va_iast hg.1 hg.2.1 hg.2.2.2.2.2.2.2.2.1.1 hP hD hS p 0 hp rfl hin h (fun H1 locs1 hP1 hD1 hS1 => kk hg hA H1 locs1 lsA hP1 hD1 hS1 hl)
theorem cn_last {a p n : Nat} {f : Nat → Int64} {j : Int32} {v : Int64} (h : decode y.1 pc = .ok (.lastore, 1)) (hp : ws[p]? = some (a, .inl (cA 1, n, .inr (.inl f)))) (hin : vp_in j n) (kk : cn_V x y D cA A P mc ms (pc + 1) ls st (ws.set p (a, .inl (cA 1, n, .inr (.inl (vp_updL f j.toNatClampNeg v))))) nc ns) : cn_V x y D cA A P mc ms pc ls (.long v :: .int j :: .ref a :: st) ws nc ns :=
  fun hg hA H locs lsA hP hD hS hl => va_last hg.1 hg.2.1 hg.2.2.2.2.2.2.2.2.1.1 hP hD hS p 1 hp rfl hin h (fun H1 locs1 hP1 hD1 hS1 => kk hg hA H1 locs1 lsA hP1 hD1 hS1 hl)
/-- a row of longs out of a row of rows -/
theorem cn_aald {a p n b : Nat} {f : Nat → Option Nat} {j : Int32} (h : decode y.1 pc = .ok (.aaload, 1)) (hp : ws[p]? = some (a, .inl (cA 5, n, .inr (.inr (.inr (.inr f)))))) (hin : vp_in j n) (hb : f j.toNatClampNeg = some b) (kk : cn_V x y D cA A P mc ms (pc + 1) ls (.ref b :: st) ws nc ns) : cn_V x y D cA A P mc ms pc ls (.int j :: .ref a :: st) ws nc ns := by
  intro hg hA H locs lsA hP hD hS hl
  have hlt : j.toNatClampNeg < n := Nat.not_le.mp fun q => hin (Or.inr q)
  exact W.aald (v := .ref b) (ty := .array .long) hg.1 hg.2.1 (hP p _ hp) ((hg.2.2.2.2.2.2.2.2.1.1.2 5 _ rfl).1 n _) rfl (fun q => by cases q) (by show ¬ (j < 0 ∨ (arrV _ _ _).slots.size ≤ _); rw [arrV_size]; exact hin) (by show (arrV _ _ _).slots[_]? = _; rw [arrV_read _ _ hlt, hb]; rfl) rfl rfl h (kk hg hA H locs lsA hP hD hS hl)
theorem cn_astq {a p n v qk ci : Nat} {vs : List Value} {T : u_T} {N : Nat} {f : Nat → Option Nat} {j : Int32} (h : decode y.1 pc = .ok (.aastore, 1)) (hp : ws[p]? = some (a, .inl (cA 3, n, .inr (.inr (.inr (.inr f)))))) (hv : ws[qk]? = some (v, .inr (ci, vs))) (hc : vwCl[ci]? = some (RX7, T, N)) (hin : vp_in j n) (kk : cn_V x y D cA A P mc ms (pc + 1) ls st (ws.set p (a, .inl (cA 3, n, .inr (.inr (.inr (.inr (va_up f j.toNatClampNeg (some v)))))))) nc ns) : cn_V x y D cA A P mc ms pc ls (.ref v :: .int j :: .ref a :: st) ws nc ns :=
  fun hg hA H locs lsA hP hD hS hl => va_astq (r := (RX7, T, N)) hg.1 hg.2.1 hg.2.2.2.2.2.2.2.2.1.1 hP hD hS p 3 qk ci hp rfl hv hc hin h (fun H1 locs1 hP1 hD1 hS1 => kk hg hA H1 locs1 lsA hP1 hD1 hS1 hl)
theorem cn_return (h : decode y.1 pc = .ok (.return_, 1)) (hr : y.2.2.2.1 = none) (hq : P ws) (h1 : nc = mc) (h2 : ns = ms) : cn_V x y D cA A P mc ms pc ls [] ws nc ns := by
  subst h1; subst h2
  intro hg hA H locs lsA hP hD hS hl
  exact W.vret hg.1 hg.2.1 (hg.2.2.2.2.2.1.trans hr) (fun t ht _ => ⟨⟨rfl, ws, hq, by rw [ht]; exact hP, hD⟩, hS.F ht⟩) hS.2.2 h (hlocks := hg.2.2.2.2.2.2.1)
end CN
