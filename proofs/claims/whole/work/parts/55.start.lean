/-! FROM THE LAW'S ENTRY: the two objects are made, then the loop -/
theorem st_ao7 : Cond.arrayOver (.object RX7) ∈ lw_tbl := mv_t1 (i := 106) (by decide +kernel)
theorem st_aoi : Cond.arrayOver (.array .int) ∈ lw_tbl := mv_t1 (i := 114) (by decide +kernel)
theorem st_aol : Cond.arrayOver (.array .long) ∈ lw_tbl := mv_t1 (i := 202) (by decide +kernel)
theorem st_known {s : State} {b : Nat} (hts : ∀ w ∈ lw_tbl, w.before #[Value.ref b] s = true) : ∃ (D : va_G) (cA : Nat → ClassId), cn_SP D cA s := by
  have tb : ∀ w ∈ mv_all, w.before #[Value.ref b] s = true := fun w hw => hts w (mv_good w hw).1
  obtain ⟨c0, i0, k0⟩ := u_known (C := RX0) (T := TX0) (N := 4) (n := 4) tb inmX0 (tb _ inX0)
  obtain ⟨c1, i1, k1⟩ := u_known (C := RX1) (T := TX1) (N := 3) (n := 3) tb inmX1 (tb _ inX1)
  obtain ⟨c2, i2, k2⟩ := u_known (C := RX2) (T := TX2) (N := 9) (n := 9) tb inmX2 (tb _ inX2)
  obtain ⟨c3, i3, k3⟩ := u_known (C := RX3) (T := TX3) (N := 2) (n := 2) tb inmX3 (tb _ inX3)
  obtain ⟨c4, i4, k4⟩ := u_known (C := RX4) (T := TX4) (N := 5) (n := 5) tb inmX4 (tb _ inX4)
  obtain ⟨c5, i5, k5⟩ := u_known (C := RX5) (T := TX5) (N := 3) (n := 3) tb inmX5 (tb _ inX5)
  obtain ⟨c6, i6, k6⟩ := u_known (C := RX6) (T := TX6) (N := 5) (n := 5) tb inmX6 (tb _ inX6)
  obtain ⟨c7, i7, k7⟩ := u_known (C := RX7) (T := TX7) (N := 11) (n := 11) tb inmX7 (tb _ inX7)
  obtain ⟨c8, i8, k8⟩ := u_known (C := RX8) (T := TX8) (N := 11) (n := 11) tb inmX8 (tb _ inX8)
  obtain ⟨c9, i9, k9⟩ := u_known (C := RX9) (T := TX9) (N := 23) (n := 23) tb inmX9 (tb _ inX9)
  obtain ⟨a0, ka0, m0, f0, g0, e0⟩ := Cond.arrayClass_spec (tb _ ar_int)
  obtain ⟨a1, ka1, m1, f1, g1, e1⟩ := Cond.arrayClass_spec (tb _ ar_long)
  obtain ⟨a2, ka2, m2, f2, g2, e2⟩ := Cond.arrayClass_spec (tb _ ar_boolean)
  obtain ⟨m3, a3, ka3, n3, -, g3, e3, f3⟩ := Cond.arrayOver_spec (hts _ st_ao7)
  obtain ⟨m4, a4, ka4, n4, -, g4, e4, f4⟩ := arrayOverA_spec (hts _ st_aoi)
  obtain ⟨m5, a5, ka5, n5, -, g5, e5, f5⟩ := arrayOverA_spec (hts _ st_aol)
  have harr : ∀ {a : ClassId} {ka : Class} {mm : ClassId} {ty : FieldType}, s.vm.classes[a]? = some ka → ka.kind = .array mm ty → ArrOfT s a ty := fun h1 h2 N z => ⟨(fun q hq => by cases hq), _, h1, _, h2⟩
  refine ⟨(fun i => [c0, c1, c2, c3, c4, c5, c6, c7, c8, c9].getD i 0, fun i => [i0, i1, i2, i3, i4, i5, i6, i7, i8, i9].getD i i0), fun i => [a0, a1, a2, a3, a4, a5].getD i 0, ⟨fun c q hq => ?_, fun k q hq => ?_⟩, fun w hw => ?_, hts _ st_ao7, hts _ st_aoi, hts _ st_aol⟩
  · have hc : c < 10 := (List.getElem?_eq_some_iff.mp hq).1
    rcases (show c = 0 ∨ c = 1 ∨ c = 2 ∨ c = 3 ∨ c = 4 ∨ c = 5 ∨ c = 6 ∨ c = 7 ∨ c = 8 ∨ c = 9 by omega) with rfl | rfl | rfl | rfl | rfl | rfl | rfl | rfl | rfl | rfl <;> cases hq
    · exact k0
    · exact k1
    · exact k2
    · exact k3
    · exact k4
    · exact k5
    · exact k6
    · exact k7
    · exact k8
    · exact k9
  · have hk : k < 6 := (List.getElem?_eq_some_iff.mp hq).1
    rcases (show k = 0 ∨ k = 1 ∨ k = 2 ∨ k = 3 ∨ k = 4 ∨ k = 5 by omega) with rfl | rfl | rfl | rfl | rfl | rfl <;> cases hq
    · exact ⟨harr g0 e0, f0⟩
    · exact ⟨harr g1 e1, f1⟩
    · exact ⟨harr g2 e2, f2⟩
    · exact ⟨harr g3 e3, ka3, m3, g3, e3, n3, f3⟩
    · exact ⟨harr g4 e4, f4⟩
    · exact ⟨harr g5 e5, f5⟩
  · have h := hts w (mv_nw_in w hw)
    rcases mv_nw_kind w hw with ⟨a, i, b', n, d, hh, rfl⟩ | ⟨a, i, x, hh, rfl⟩
    · exact va_Nw.of rfl h
    · exact va_Nw.of rfl h
/-- a constructor called in the law's frame -/
theorem lw_ctor {p : Program} {l : Launch} {e : Env} {s : State} {m : MethodId} {below : List Frame} {meth : Method} {c : Code} {b L : Nat} {xs : Nat → Int32} (C0 : lw_At p s m meth c b L xs) {D : va_G} {cA : Nat → ClassId} (hsp : cn_SP D cA s) {nc ns pc : Nat} {H : Heap} {locs : List Loc} {lsA : Array Slot} {st : List Value} {W0 : va_W} {q idx mc' ms' : Nat} {e0 : va_E} {yn : MethodName} {yc : mv_Y} {P' : va_W → Prop} {Q : State → Prop}
    (hP : va_P D vwCl (W0 ++ [(q, e0)]) H) (hD : va_D (fun z : Nat => s.heap.size ≤ z) (W0 ++ [(q, e0)])) (hS : va_S (fun z : Nat => s.heap.size ≤ z) s.heap H locs) (hl : lsA.size = 4) (h : decode code pc = .ok (.invokespecial idx, 3)) (hl' : Cond.methodLink RL idx yn ∈ mv_all) (hret : yc.2.2.2.1 = none) (hco : Cond.code yn yc.1 yc.2.1 yc.2.2.2.1 ∈ mv_all) (hi : Cond.initialized yn.cls ∈ mv_all) (hd : yn.cls ≠ "java/lang/invoke/MethodHandle" ∧ yn.cls ≠ "java/lang/invoke/VarHandle" ∧ (parseMethodDescriptor yn.desc).map (fun d => d.parameters.length) = some 0) (him : Cond.instanceMethod yn ∈ mv_all) (hnm : yn.name = "<init>") (hrc : yc.2.2.2.2.cells = mc') (hrs : yc.2.2.2.2.slots = ms') (hR : yc.2.2.2.2.frames + 1 ≤ room_1.frames ∧ 8 + (yc.2.1 + 11) + yc.2.2.2.2.locals ≤ room_1.locals) (hf : nc + mc' ≤ 600000 ∧ ns + ms' ≤ 7302250) (hst : (st.map fun v => v.category).sum ≤ 8)
    (hC : cn_C l D cA yn yc q e0 [] mc' ms' P') (kk : ∀ (w1 : va_W) (H1 : Heap) (locs1 : List Loc), P' w1 → va_P D vwCl (W0 ++ w1) H1 → va_D (fun z : Nat => s.heap.size ≤ z) (W0 ++ w1) → va_S (fun z : Nat => s.heap.size ≤ z) s.heap H1 locs1 → W p l e room_1 s m #[Value.ref b] below meth c H1 locs1 (nc + mc') (ns + ms') Q (F0 m (pc + 3) lsA st)) : W p l e room_1 s m #[Value.ref b] below meth c H locs nc ns Q (F0 m pc lsA (.ref q :: st)) := by
  obtain ⟨hx, hb, hr, hml, hown, hts, hX, hbl, hlocks, hgv⟩ := C0
  have tb : ∀ w ∈ mv_all, w.before #[Value.ref b] s = true := fun w hw => hts w (mv_good w hw).1
  have hlast : (W0 ++ [(q, e0)])[W0.length]? = some (q, e0) := by rw [List.getElem?_append_right (Nat.le_refl _), Nat.sub_self]; rfl
  have hPc : va_P D vwCl [(q, e0)] H := fun k p hk => by
    have hk1 : k < 1 := (List.getElem?_eq_some_iff.mp hk).1
    rw [show k = 0 by omega] at hk
    cases hk
    exact hP _ _ hlast
  have hGood : GoodIn lw_tbl (Cond.code yn yc.1 yc.2.1 none :: mv_all) := by
    have := lw_goodw hco
    unfold mv_w at this
    rw [hret] at this
    exact this
  have hM := hC H.size
  unfold mv_w at hM
  rw [hret] at hM
  have hp : PreS s H (va_Pc [.ref q] (fun U => U.heap.size = H.size ∧ va_P D vwCl [(q, e0)] U.heap ∧ cn_SP D cA U)) [.ref q] := by
    refine ⟨fun a U g mk z => ?_, fun U hU hW => ⟨rfl, by rw [hU], by rw [hU]; exact hPc, hsp.warm hW⟩⟩
    obtain ⟨z0, z1, zP, zK, zN, zA, zI, zL⟩ := z
    have hal : U.vm.Alike (U.calling g mk a).vm := Vm.Alike.refl U.vm
    refine ⟨z0, z1, zP, va_K.moved (u := U) (U := U.calling g mk a) hal zK, fun w hw => ?_, va_AO.moved (u := U) (U := U.calling g mk a) hal zA, cn_AOA.moved (u := U) (U := U.calling g mk a) hal zI, cn_AOA.moved (u := U) (U := U.calling g mk a) hal zL⟩
    have hz := zN w hw
    rcases mv_nw_kind w hw with ⟨a1, i1, b1, n1, d1, hh, rfl⟩ | ⟨a1, i1, x1, hh, rfl⟩
    · exact va_Nw.same (u := U) (U := U.calling g mk a) rfl rfl hz
    · exact va_Nw.same (u := U) (U := U.calling g mk a) rfl rfl hz
  have run := va_runI (l := l) (e := e) (R := room_1) (below := below) (meth := meth) (locs := locs) (cells := nc) (slots := ns) (As := []) (g := F0 m pc lsA (.ref q :: st)) (rest := st) ⟨hx, hb, hml, hown, hts⟩ hM ⟨callB_of 0 hts hGood rfl hrc hrs (tb _ hi) (tb _ hl') hd hR, hnm, tb _ him⟩ hp rfl rfl hl rfl (by show 2 * 0 + _ ≤ 8; omega) h ⟨hf.1, hf.2⟩
  have hF : ∀ a, va_A [(q, e0)] H.size a → s.heap.size ≤ a := by
    rintro a (⟨k2, e2, h2⟩ | h2)
    · have hk2 : k2 < 1 := (List.getElem?_eq_some_iff.mp h2).1
      rw [show k2 = 0 by omega] at h2
      cases h2
      exact hD.2 _ _ hlast
    · exact Nat.le_trans hS.1 h2
  intro T hT X
  obtain ⟨v, st₀, t, T', L', h0, X', hL, e1, e2, ⟨⟨hv, w1, hw1, hP1, hD1⟩, hz, hk⟩, sg⟩ := run T hT X
  cases hv
  rw [h0] at hz hk
  obtain ⟨hPJ, hDJ⟩ := cn_join hP hD (H1 := t.heap) hk hF hP1 hD1
  obtain ⟨t2, a1, b1⟩ := kk w1 T'.heap (locs ++ L') hw1 (by rw [e1]; exact hPJ) hDJ
    ⟨Nat.le_trans hS.1 (by rw [e1]; exact hz), fun z h1 h2 => by rw [e1, hk z (Nat.lt_of_lt_of_le h1 hS.1) (fun w => h2 (hF z w))]; exact hS.2.1 z h1 h2, fun z hz' => by
      rcases List.mem_append.mp hz' with h | h
      · exact hS.2.2 z h
      · exact hF _ (hL z h)⟩ T' rfl X'
  exact ⟨t2, sg t2 a1, b1⟩
set_option maxRecDepth 100000 in
set_option maxHeartbeats 4000000 in
theorem start_open {F : Nat} {Sim : mv_M → mv_M → Prop} (hall : ps_all F Sim) (hSim0 : Sim M0X M0M) {p : Program} {e : Env} {s : State} {m : MethodId} {below : List Frame} {meth : Method} {c : Code} (l : Launch) {b L : Nat} {xs : Nat → Int32} (hL : L ≤ 3072) (C0 : lw_At p s m meth c b L xs) : W p l e room_1 s m #[Value.ref b] below meth c s.heap [] 0 0 (lw_Z below #[Value.ref b] s) (entryFrame m ([Value.ref b] : List Value).toArray 4) := by
  have C1 := C0
  obtain ⟨hx, hb, hr, hml, hown, hts, hX, hbl, hlocks, hgv⟩ := C1
  have tb : ∀ w ∈ mv_all, w.before #[Value.ref b] s = true := fun w hw => hts w (mv_good w hw).1
  obtain ⟨D, cA, hsp⟩ := st_known hts
  have hA : ∀ q : Nat, s.heap.size ≤ q → (fun z : Nat => s.heap.size ≤ z) q := fun _ h => h
  have hS : va_S (fun z : Nat => s.heap.size ≤ z) s.heap s.heap [] := va_S.rf
  have hP : va_P D vwCl [] s.heap := fun k q h => by simp at h
  have hD : va_D (fun z : Nat => s.heap.size ≤ z) [] := ⟨fun i j p q h => by simp at h, fun k q h => by simp at h⟩
  have hl := lv_entry ([.ref b]) (n := 4) (Nat.le_of_ble_eq_true rfl)
  rw [lg_entry_eq]
  generalize (lg_sl ([.ref b]) ++ List.replicate (4 - (lg_sl ([.ref b])).length) Slot.unset).toArray = ls at hl ⊢
  have hl : lv_has ls 4 [(0, .ref b)] := hl
  refine va_new (ci := 8) (fs := [.null, .null, .null, .null, .null, .null, .null, .null, .null, .int 0, .int 0]) (C := RX8) (T := TX8) (N := 11) hx hb tb inmX8 tyX8 tyX8_ok hown (tb _ lkL_7) (tb _ inX8) (tb _ nwX8) hsp.1 hP hD hS hA rfl (by decide +kernel) (Nat.le_of_ble_eq_true rfl) (Nat.le_of_ble_eq_true rfl) dL_law_0 (fun q1 H1 hP1 hD1 hS1 => ?_)
  refine lv_dup hx hb dL_law_3 rfl ?_
  refine lw_ctor (l := l) (W0 := []) (nc := 1) (ns := 11) (pc := 4) C0 hsp hP1 hD1 hS1 hl.1 dL_law_4 mwL_9 rfl cwX8_init nwX8 ⟨by decide +kernel, by decide +kernel, by decide +kernel⟩ iwX8_init rfl rfl rfl ⟨Nat.le_of_ble_eq_true rfl, Nat.le_of_ble_eq_true rfl⟩ ⟨Nat.le_of_ble_eq_true rfl, Nat.le_of_ble_eq_true rfl⟩ (Nat.le_of_ble_eq_true rfl) (ccX8 l D cA q1) ?_
  rintro wX H2 locs2 ⟨adX, hadX, hfX⟩ hP2 hD2 hS2
  have hPX := hfX.P (D := D) (show va_P D vwCl wX H2 from hP2)
  obtain ⟨hDX, hAX⟩ := hfX.D (D := D) (show va_D _ wX from hD2)
  refine lv_astore_n (lv' := [(1, .ref q1), (0, .ref b)]) hx hb dL_law_7 rfl hl (by decide) rfl (fun ls hl => ?_)
  have hDW : va_D (fun z : Nat => s.heap.size ≤ z) (mv_ws (D, cA, adX, LX) M0X) := (mv_ws_D M0X hDX).weaken (fun k q hk _ => by
    obtain ⟨c', h1, rfl⟩ := mv_ws_get hk
    exact hAX k (List.getElem?_eq_some_iff.mp h1).1)
  refine va_new (ci := 9) (fs := [.null, .int 0, .null, .int 0, .int 0, .int 0, .null, .null, .null, .null, .int 0, .int 0, .int 0, .null, .null, .int 0, .null, .null, .int 0, .int 0, .null, .null, .int 0]) (C := RX9) (T := TX9) (N := 23) hx hb tb inmX9 tyX9 tyX9_ok hown (tb _ lkL_10) (tb _ inX9) (tb _ nwX9) hsp.1 hPX hDW hS2 hA rfl (by decide +kernel) (Nat.le_of_ble_eq_true rfl) (Nat.le_of_ble_eq_true rfl) dL_law_8 (fun q2 H3 hP3 hD3 hS3 => ?_)
  refine lv_dup hx hb dL_law_11 rfl ?_
  refine lw_ctor (l := l) (W0 := mv_ws (D, cA, adX, LX) M0X) (pc := 12) C0 hsp hP3 hD3 hS3 hl.1 dL_law_12 mwL_12 rfl cwX9_init nwX9 ⟨by decide +kernel, by decide +kernel, by decide +kernel⟩ iwX9_init rfl rfl rfl ⟨Nat.le_of_ble_eq_true rfl, Nat.le_of_ble_eq_true rfl⟩ ⟨Nat.le_of_ble_eq_true rfl, Nat.le_of_ble_eq_true rfl⟩ (Nat.le_of_ble_eq_true rfl) (ccX9 l D cA q2) ?_
  rintro wM H4 locs4 ⟨adM, hadM, hfM⟩ hP4 hD4 hS4
  have hlen : (mv_ws (D, cA, adX, LX) M0X).length = LX.length := by unfold mv_ws; rw [List.length_mapIdx]
  have hPX4 : va_P D vwCl (mv_ws (D, cA, adX, LX) M0X) H4 := fun k q hk => hP4 k q (by rw [List.getElem?_append_left (List.getElem?_eq_some_iff.mp hk).1]; exact hk)
  have hat : ∀ (k : Nat) (q : Nat × va_E), wM[k]? = some q → (mv_ws (D, cA, adX, LX) M0X ++ wM)[LX.length + k]? = some q := fun k q hk => by
    rw [List.getElem?_append_right (by rw [hlen]; omega), hlen, Nat.add_sub_cancel_left]
    exact hk
  have hPM4 : va_P D vwCl wM H4 := fun k q hk => hP4 _ q (hat k q hk)
  have hDM4 : va_D (fun z : Nat => s.heap.size ≤ z) wM := ⟨fun i j p q hi hj e => by have := hD4.1 _ _ p q (hat i p hi) (hat j q hj) e; omega, fun k q hk => hD4.2 _ q (hat k q hk)⟩
  have hPM := hfM.P (D := D) hPM4
  obtain ⟨hDM, hAM⟩ := hfM.D (D := D) hDM4
  have hap : ∀ i j : Nat, i < LX.length → j < LM.length → adX i ≠ adM j := by
    intro i j hi hj e9
    obtain ⟨pl, -, h⟩ := hfM
    obtain ⟨e1, a1, -⟩ := h j _ (List.getElem?_eq_getElem hj)
    have h1 : (mv_ws (D, cA, adX, LX) M0X)[i]? = some (adX i, mv_cell cA adX M0X i LX[i]) := mv_ws_at (k := (D, cA, adX, LX)) (List.getElem?_eq_getElem hi)
    have h2 : (mv_ws (D, cA, adX, LX) M0X ++ wM)[i]? = some (adX i, mv_cell cA adX M0X i LX[i]) := by rw [List.getElem?_append_left (by rw [hlen]; exact hi)]; exact h1
    have := hD4.1 _ _ _ _ h2 (hat _ _ a1) e9
    omega
  refine lv_astore_n (lv' := [(2, .ref q2), (1, .ref q1), (0, .ref b)]) hx hb dL_law_15 rfl hl (by decide) rfl (fun ls hl => ?_)
  refine lv_iconst (v := 0) hx hb dL_law_16 (by decide +kernel) ?_
  refine lv_istore_n (lv' := [(3, .int 0), (2, .ref q2), (1, .ref q1), (0, .ref b)]) hx hb dL_law_17 rfl hl (by decide) rfl (fun ls hl => ?_)
  have hl : lv_has ls 4 [(0, .ref b), (1, .ref (adX 0)), (2, .ref (adM 0)), (3, .int (nI 0))] := by
    rw [hadX, hadM, nI_0]
    exact lv_sub hl [3, 2, 1, 0] rfl
  have hspX : mv_SP (D, cA, adX, LX) s := ⟨hsp.1, hsp.2.1, hDX⟩
  have hspM : mv_SP (D, cA, adM, LM) s := ⟨hsp.1, hsp.2.1, hDM⟩
  exact lw_loop C0 hall hL (Nat.le_of_ble_eq_true rfl) (Nat.le_of_ble_eq_true rfl) (L + 1) 0 (by omega) (by omega) M0X M0M hSim0 H4 locs4 ls ⟨hPX4, hPM, hap, hAX, hAM, hspX, hspM, hS4⟩ hl
