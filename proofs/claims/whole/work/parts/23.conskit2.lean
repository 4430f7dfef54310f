section CN2
variable {x : mv_X} {y : mv_Y} {D : va_G} {cA : Nat → ClassId} {A : Nat → Prop} {P : va_W → Prop} {mc ms : Nat} {pc : Nat} {ls : List (Nat × Value)} {st : List Value} {ws : va_W} {nc ns : Nat}
theorem cn_pool {f : Nat → va_E} {e : va_E} (N : Nat) (r : Nat → Nat) : va_pl ([] ++ (List.range N).map r) (vr_up f ((List.range N).map r) e) = (List.range N).map (fun i => (r i, e)) := by
  unfold va_pl
  rw [List.nil_append, List.map_map]
  apply List.map_congr_left
  intro i hi
  show (r i, vr_up f ((List.range N).map r) e (r i)) = (r i, e)
  rw [vr_up_in (List.mem_map.mpr ⟨i, hi, rfl⟩)]
/-- new T[N][K] of numbers: its outer row's kind to, the inner rows' ti -/
theorem cn_mna {idx to ti : Nat} {ty : FieldType} {n k : Int32} {N K : Nat} {z : vp_A} {cs : String} (h : decode y.1 pc = .ok (.multianewarray idx 2, 4)) (hw : Cond.classLink y.2.2.1 idx cs ∈ mv_all) (hcs : "[" ++ (FieldType.array ty).toString = cs) (hw2 : Cond.arrayClass ty ∈ mv_all) (hAO : ∀ U, cn_SP D cA U → cn_AOA ty U) (ho : (mv_tys cA)[to]? = some (cA to, .array ty)) (hi : ∀ U, cn_SP D cA U → U.vm.findClass (FieldType.array ty).toString = some (cA ti)) (hn : ¬ n < 0) (hk : ¬ k < 0) (hN : n.toNatClampNeg = N) (hK : k.toNatClampNeg = K)
    (hb1 : N * 4 ≤ 536870912) (hb2 : K * componentBytes ty ≤ 536870912) (hb3 : K ≤ 536870912) (hdf : fits ty (defaultValue ty) = true) (hdd : (defaultValue ty).isDefault = true) (hz : ∀ c : ClassId, Jvm.Free.Multi.innerC c K (defaultValue ty) = vp_cell c z) (hR : nc + (1 + N) ≤ y.2.2.2.2.cells ∧ ns + (N + N * K) ≤ y.2.2.2.2.slots)
    (kk : ∀ (q : Nat) (r : Nat → Nat), cn_V x y D cA A P mc ms (pc + 4) ls (.ref q :: st) ((ws ++ [(q, .inl (cA to, N, .inr (.inr (.inr (.inr (fun i => if i < N then some (r i) else none))))))]) ++ (List.range N).map (fun i => (r i, .inl (cA ti, z)))) (nc + 1 + N) (ns + N + N * K)) : cn_V x y D cA A P mc ms pc ls (.int k :: .int n :: st) ws nc ns := by
  intro hg hA H locs lsA hP hD hS hl
  have hr := hg.2.2.2.2.2.2.2.1
  have hsp := hg.2.2.2.2.2.2.2.2.1
  have hw' : (Cond.classLink y.2.2.1 idx ("[" ++ (FieldType.array ty).toString)).before x.2.2.2.2.2.2.1 x.2.2.2.2.1 = true := by rw [hcs]; exact hg.2.2.2.2.1 _ hw
  refine va_mna (X := ws) (L := []) (f := fun _ => .inr (0, [])) (z := z) hg.1 hg.2.1 hg.2.2.2.1 hw' (hAO _ hsp) (hg.2.2.2.2.1 _ hw2) (hi _ hsp) hsp.1 (by show va_P D vwCl (ws ++ []) H; rw [List.append_nil]; exact hP) (by show va_D A (ws ++ []); rw [List.append_nil]; exact hD) hS hA hn hk hN hK hb1 hb2 hb3 hdf hdd (by rw [hr]; exact hR.1) (by rw [hr]; exact hR.2) hz h (fun q r c' H1 _ _ hK1 hP1 hD1 hS1 => ?_)
  have e : c' = cA to := by
    have h1 : (mv_tys cA ++ [(c', FieldType.array ty)])[to]? = some (cA to, .array ty) := by
      rw [List.getElem?_append_left (List.getElem?_eq_some_iff.mp ho).1]; exact ho
    exact cn_same to hK1 h1 ⟨6, rfl⟩ (fun C h => by cases h)
  subst e
  rw [cn_pool N r] at hP1 hD1
  exact kk q r hg hA H1 locs lsA hP1 hD1 hS1 hl
theorem cn_join {A0 : Nat → Prop} {W0 w1 : va_W} {q : Nat} {e : va_E} {H H1 : Heap} (hP : va_P D vwCl (W0 ++ [(q, e)]) H) (hD : va_D A0 (W0 ++ [(q, e)])) (hk : ∀ a : Nat, a < H.size → ¬ va_A [(q, e)] H.size a → H1[a]? = H[a]?) (hF : ∀ a, va_A [(q, e)] H.size a → A0 a) (hP1 : va_P D vwCl w1 H1) (hD1 : va_D (va_A [(q, e)] H.size) w1) : va_P D vwCl (W0 ++ w1) H1 ∧ va_D A0 (W0 ++ w1) := by
  have hlast : (W0 ++ [(q, e)])[W0.length]? = some (q, e) := by rw [List.getElem?_append_right (Nat.le_refl _), Nat.sub_self]; rfl
  have hW : ∀ (k : Nat) (p : Nat × va_E), W0[k]? = some p → (W0 ++ [(q, e)])[k]? = some p := fun k p h => by rw [List.getElem?_append_left (List.getElem?_eq_some_iff.mp h).1]; exact h
  have apart : ∀ (k : Nat) (p : Nat × va_E), W0[k]? = some p → p.1 < H.size ∧ ¬ va_A [(q, e)] H.size p.1 := by
    intro k p h
    have hl := (hP k p (hW k p h)).lt
    refine ⟨hl, fun ha => ?_⟩
    rcases ha with ⟨k2, e2, h2⟩ | h2
    · have hk2 : k2 < 1 := (List.getElem?_eq_some_iff.mp h2).1
      rw [show k2 = 0 by omega] at h2
      have h3 : (q, e) = (p.1, e2) := Option.some.inj h2
      have hq : p.1 = q := (congrArg Prod.fst h3).symm
      have := hD.1 k W0.length p (q, e) (hW k p h) hlast hq
      have := (List.getElem?_eq_some_iff.mp h).1
      omega
    · omega
  refine ⟨va_P.app (fun k p h => (hP k p (hW k p h)).kept (hk p.1 (apart k p h).1 (apart k p h).2)) hP1, va_D.app ⟨fun i j p p' hi hj e => hD.1 i j p p' (hW i p hi) (hW j p' hj) e, fun k p h => hD.2 k p (hW k p h)⟩ (hD1.weaken (fun k p _ h => hF p.1 h)) (fun i j p p' hi hj e => ?_)⟩
  exact (apart i p hi).2 (by rw [e]; exact hD1.2 j p' hj)
theorem cn_call {idx q n mc' ms' : Nat} {W0 : va_W} {e0 : va_E} {As : List Value} {yn : MethodName} {yc : mv_Y} {host : String} {P' : va_W → Prop} (h : decode y.1 pc = .ok (.invokespecial idx, 3)) (hl' : Cond.methodLinkNest y.2.2.1 idx yn host ∈ mv_nw) (hret : yc.2.2.2.1 = none) (hc : Cond.code yn yc.1 yc.2.1 yc.2.2.2.1 ∈ mv_all) (hi : Cond.initialized yn.cls ∈ mv_all) (hd : yn.cls ≠ "java/lang/invoke/MethodHandle" ∧ yn.cls ≠ "java/lang/invoke/VarHandle" ∧ (parseMethodDescriptor yn.desc).map (fun d => d.parameters.length) = some n) (him : Cond.instanceMethod yn ∈ mv_all) (hnm : yn.name = "<init>") (hrc : yc.2.2.2.2.cells = mc') (hrs : yc.2.2.2.2.slots = ms') (hR : mv_RR y yc) (hf : nc + mc' ≤ y.2.2.2.2.cells ∧ ns + ms' ≤ y.2.2.2.2.slots) (hn : As.length = n) (hst : (st.map fun v => v.category).sum ≤ 8)
    (hC : cn_C x.2.1 D cA yn yc q e0 As mc' ms' P') (kk : ∀ w1, P' w1 → cn_V x y D cA A P mc ms (pc + 3) ls st (W0 ++ w1) (nc + mc') (ns + ms')) : cn_V x y D cA A P mc ms pc ls (As.reverse ++ .ref q :: st) (W0 ++ [(q, e0)]) nc ns := by
  intro hg hA H locs lsA hP hD hS hl
  have hg0 := hg
  obtain ⟨hx, hb, hml, hown, hts, hret', hlk, hroom, hsp, hnm'⟩ := hg0
  have hlast : (W0 ++ [(q, e0)])[W0.length]? = some (q, e0) := by rw [List.getElem?_append_right (Nat.le_refl _), Nat.sub_self]; rfl
  have hPc : va_P D vwCl [(q, e0)] H := fun k p hk => by
    have hk1 : k < 1 := (List.getElem?_eq_some_iff.mp hk).1
    rw [show k = 0 by omega] at hk
    cases hk
    exact hP _ _ hlast
  have hRR : yc.2.2.2.2.frames + 1 ≤ x.2.2.2.1.frames ∧ 8 + (yc.2.1 + 11) + yc.2.2.2.2.locals ≤ x.2.2.2.1.locals := by rw [hroom]; exact hR
  have hc' : Cond.code yn yc.1 yc.2.1 none ∈ mv_all := hret ▸ hc
  have hGood : GoodIn mv_all (Cond.code yn yc.1 yc.2.1 none :: mv_all) := by
    have := mv_goodw hc
    unfold mv_w at this
    rw [hret] at this
    exact this
  have hM := hC H.size
  unfold mv_w at hM
  rw [hret] at hM
  have hp : PreS x.2.2.2.2.1 H (va_Pc (.ref q :: As) (fun U => U.heap.size = H.size ∧ va_P D vwCl [(q, e0)] U.heap ∧ cn_SP D cA U)) (.ref q :: As) := by
    refine ⟨fun a U g mk z => ?_, fun U hU hW => ⟨rfl, by rw [hU], by rw [hU]; exact hPc, hsp.warm hW⟩⟩
    obtain ⟨z0, z1, zP, zK, zN, zA, zI, zL⟩ := z
    have hal : U.vm.Alike (U.calling g mk a).vm := Vm.Alike.refl U.vm
    refine ⟨z0, z1, zP, va_K.moved (u := U) (U := U.calling g mk a) hal zK, fun w hw => ?_, va_AO.moved (u := U) (U := U.calling g mk a) hal zA, cn_AOA.moved (u := U) (U := U.calling g mk a) hal zI, cn_AOA.moved (u := U) (U := U.calling g mk a) hal zL⟩
    have hz := zN w hw
    rcases mv_nw_kind w hw with ⟨a1, i1, b1, n1, d1, hh, rfl⟩ | ⟨a1, i1, x1, hh, rfl⟩
    · exact va_Nw.same (u := U) (U := U.calling g mk a) rfl rfl hz
    · exact va_Nw.same (u := U) (U := U.calling g mk a) rfl rfl hz
  have run := va_runIN (l := x.2.1) (e := x.2.2.1) (R := x.2.2.2.1) (below := x.2.2.2.2.2.2.2.1) (meth := x.2.2.2.2.2.2.2.2.1) (locs := locs) (cells := nc) (slots := ns) (g := F0 x.2.2.2.2.2.1 pc lsA (As.reverse ++ .ref q :: st)) (rest := st) (host := host) ⟨hx, hb, hml, hown, hts⟩ hM ⟨va_cnB n hts hGood rfl hrc hrs (hsp.2.1 _ hl') (hts _ hi) hd hRR, hnm, hts _ him⟩ hp rfl hn hl.1 rfl (by show 2 * 0 + _ ≤ 8; omega) h ⟨by rw [hroom]; exact hf.1, by rw [hroom]; exact hf.2⟩
  have hF : ∀ a, va_A [(q, e0)] H.size a → A a := by
    rintro a (⟨k2, e2, h2⟩ | h2)
    · have hk2 : k2 < 1 := (List.getElem?_eq_some_iff.mp h2).1
      rw [show k2 = 0 by omega] at h2
      cases h2
      exact hD.2 _ _ hlast
    · exact hA a (Nat.le_trans hS.1 h2)
  intro T hT X
  obtain ⟨v, st₀, t, T', L, h0, X', hL, e1, e2, ⟨⟨hv, w1, hw1, hP1, hD1⟩, hz, hk⟩, sg⟩ := run T hT X
  cases hv
  rw [h0] at hz hk
  obtain ⟨hPJ, hDJ⟩ := cn_join hP hD (H1 := t.heap) hk hF hP1 hD1
  obtain ⟨t2, a1, b1⟩ := kk w1 hw1 hg hA T'.heap (locs ++ L) lsA (by rw [e1]; exact hPJ) hDJ
    ⟨Nat.le_trans hS.1 (by rw [e1]; exact hz), fun z h1 h2 => by rw [e1, hk z (Nat.lt_of_lt_of_le h1 hS.1) (fun w => h2 (hF z w))]; exact hS.2.1 z h1 h2, fun z hz' => by
      rcases List.mem_append.mp hz' with h | h
      · exact hS.2.2 z h
      · exact hF _ (hL z h)⟩ hl T' rfl X'
  exact ⟨t2, sg t2 a1, b1⟩
/-- Arrays.fill over one row of the cells -/
theorem cn_fill {idx p a n : Nat} {f : Nat → Int32} {v : Int32} (h : decode y.1 pc = .ok (.invokestatic idx, 3)) (hl' : Cond.methodLink y.2.2.1 idx yJ7_fill_53178 ∈ mv_all) (hR : mv_RR y iJ7_fill_53178) (hp : ws[p]? = some (a, .inl (cA 0, n, .inl f))) (hn : n < 2 ^ 31) (hst : (st.map fun v => v.category).sum ≤ 8) (hf : nc ≤ y.2.2.2.2.cells ∧ ns ≤ y.2.2.2.2.slots)
    (kk : cn_V x y D cA A P mc ms (pc + 3) ls st (ws.set p (a, .inl (cA 0, n, .inl (fun j => if j < n then v else f j)))) nc ns) : cn_V x y D cA A P mc ms pc ls (.int v :: .ref a :: st) ws nc ns := by
  intro hg hA H locs lsA hP hD hS hl
  have hg0 := hg
  obtain ⟨hx, hb, hml, hown, hts, hret', hlk, hroom, hsp, hnm'⟩ := hg0
  have hRR : iJ7_fill_53178.2.2.2.2.frames + 1 ≤ x.2.2.2.1.frames ∧ 8 + (iJ7_fill_53178.2.1 + 11) + iJ7_fill_53178.2.2.2.2.locals ≤ x.2.2.2.1.locals := by rw [hroom]; exact hR
  have hsp' : mv_SP (D, cA, fun _ => a, [(1, n, [])]) x.2.2.2.2.1 := ⟨hsp.1, hsp.2.1, fun i j hi hj _ => by
    have h1 : i < 1 := hi
    have h2 : j < 1 := hj
    omega⟩
  have hP' : va_P D vwCl (mv_ws (D, cA, fun _ => a, [(1, n, [])]) (fun _ => f, fun _ _ => 0)) H := fun k q hk => by
    have hk1 : k < 1 := (List.getElem?_eq_some_iff.mp hk).1
    rw [show k = 0 by omega] at hk
    cases hk
    exact hP _ _ hp
  have hC := ctJ7_fillG x.2.1 D cA (fun _ => a) [(1, n, [])] (n + 1) (fun _ => f, fun _ _ => 0) 0 n v rfl
  have hM := hC _ (fill_eq (n + 1) (fun _ => f, fun _ _ => 0) 0 n v (by omega) hn)
  obtain ⟨⟨hco, hi, hd, hz1, hz2⟩, hstat⟩ := smJ7_fill_53178
  have hpre : PreS x.2.2.2.2.1 H (va_Pc [.ref a, .int v] (fun U => va_P D vwCl (mv_ws (D, cA, fun _ => a, [(1, n, [])]) (fun _ => f, fun _ _ => 0)) U.heap ∧ mv_SP (D, cA, fun _ => a, [(1, n, [])]) U)) [.ref a, .int v] := ⟨mv_blind, fun U hU hW => ⟨rfl, by rw [hU]; exact hP', hsp'.warm hW⟩⟩
  have run := va_runS (l := x.2.1) (e := x.2.2.1) (R := x.2.2.2.1) (below := x.2.2.2.2.2.2.2.1) (meth := x.2.2.2.2.2.2.2.2.1) (locs := locs) (cells := nc) (slots := ns) (g := F0 x.2.2.2.2.2.1 pc lsA (.int v :: .ref a :: st)) (rest := st) ⟨hx, hb, hml, hown, hts⟩ hM ⟨callB_of 2 hts (mv_goodw hco) rfl hz1 hz2 (hts _ hi) (hts _ hl') hd hRR, hts _ hstat⟩ hpre rfl rfl hl.1 rfl (by show 2 * 0 + _ ≤ 8; omega) h ⟨by rw [hroom]; exact hf.1, by rw [hroom]; exact hf.2⟩
  have hAa : ∀ q, mv_A (D, cA, fun _ => a, [(1, n, [])]) q → q = a := fun q hq => hq.choose_spec.2
  have hAA : A a := hD.2 p _ hp
  intro T hT X
  obtain ⟨v', st₀, t, T', L, h0, X', hL, e1, e2, ⟨⟨hv, hP1⟩, hz, hk⟩, sg⟩ := run T hT X
  cases hv
  rw [h0] at hz hk
  have hcell : t.heap[a]? = some (vp_cell (cA 0) (n, .inl (fun j => if j < n then v else f j))) := by
    have := hP1 0 _ rfl
    have e : (mv_rv (mv_wA (fun _ => f, fun _ _ => 0) 0 (fun j => if j < n then v else f j))).2.1 0 = (fun j => if j < n then v else f j) := mv_wA_a
    unfold mv_cell at this
    rw [show (fun j => if j < n then v else f j) = (mv_rv (mv_wA (fun _ => f, fun _ _ => 0) 0 (fun j => if j < n then v else f j))).2.1 0 from e.symm]
    exact this
  have hPn : va_P D vwCl (ws.set p (a, .inl (cA 0, n, .inl (fun j => if j < n then v else f j)))) t.heap := by
    have hlp := (List.getElem?_eq_some_iff.mp hp).1
    intro k q hq
    by_cases hkp : k = p
    · subst hkp
      rw [List.getElem?_set_self hlp] at hq
      cases hq
      exact hcell
    · rw [List.getElem?_set_ne (Ne.symm hkp)] at hq
      exact (hP k q hq).kept (hk q.1 (hP k q hq).lt (fun z => hkp (hD.1 k p q _ hq hp (hAa _ z))))
  obtain ⟨t2, a1, b1⟩ := kk hg hA T'.heap (locs ++ L) lsA (by rw [e1]; exact hPn) (hD.set hp)
    ⟨Nat.le_trans hS.1 (by rw [e1]; exact hz), fun z h1 h2 => by rw [e1, hk z (Nat.lt_of_lt_of_le h1 hS.1) (fun w => h2 (by rw [hAa z w]; exact hAA))]; exact hS.2.1 z h1 h2, fun z hz' => by
      rcases List.mem_append.mp hz' with h | h
      · exact hS.2.2 z h
      · rw [hAa _ (hL z h)]; exact hAA⟩ hl T' rfl X'
  exact ⟨t2, sg t2 a1, b1⟩
end CN2
