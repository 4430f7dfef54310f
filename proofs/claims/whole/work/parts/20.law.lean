/-! THE LAW'S LOOP -/
def ps_ok (Sim : mv_M → mv_M → Prop) (g h : mv_M → Option (Int32 × mv_M)) : Prop := ∀ MX MM, Sim MX MM → ∃ (r : Int32) (MX' MM' : mv_M), g MX = some (r, MX') ∧ h MM = some (r, MM') ∧ Sim MX' MM'
/-- the two worlds in one heap -/
def lw_W (kX kM : mv_S) (MX MM : mv_M) (s : State) (H : Heap) (locs : List Loc) : Prop :=
  va_P kX.1 vwCl (mv_ws kX MX) H ∧ va_P kM.1 vwCl (mv_ws kM MM) H ∧ (∀ i j : Nat, i < kX.2.2.2.length → j < kM.2.2.2.length → kX.2.2.1 i ≠ kM.2.2.1 j) ∧ (∀ i : Nat, i < kX.2.2.2.length → s.heap.size ≤ kX.2.2.1 i) ∧ (∀ j : Nat, j < kM.2.2.2.length → s.heap.size ≤ kM.2.2.1 j) ∧ mv_SP kX s ∧ mv_SP kM s ∧ va_S (fun q : Nat => s.heap.size ≤ q) s.heap H locs
section LW
variable {p : Program} {l : Launch} {e : Env} {s : State} {m : MethodId} {below : List Frame} {meth : Method} {c : Code} {b L : Nat} {xs : Nat → Int32} {kX kM : mv_S} {nc ns : Nat} {pc : Nat} {i : Int32} {st : List Value} {MX MM : mv_M}
def lw_L (p : Program) (l : Launch) (e : Env) (s : State) (m : MethodId) (below : List Frame) (meth : Method) (c : Code) (b : Nat) (kX kM : mv_S) (nc ns : Nat) (pc : Nat) (i : Int32) (st : List Value) (MX MM : mv_M) : Prop :=
  ∀ (H : Heap) (locs : List Loc) (lsA : Array Slot), lw_W kX kM MX MM s H locs → lv_has lsA 4 [(0, .ref b), (1, .ref (kX.2.2.1 0)), (2, .ref (kM.2.2.1 0)), (3, .int i)] → W p l e room_1 s m #[Value.ref b] below meth c H locs nc ns (lw_Z below #[Value.ref b] s) (F0 m pc lsA st)
theorem lw_arg (C0 : lw_At p s m meth c b L xs) {j k : Nat} {ki : Int32} (hL : L ≤ 3072) (hi : i = nI j) (hk : j + k < L) (hki : Int32.ofInt k = ki) (hkn : ki = nI k) (d0 : decode code pc = .ok (.aload_n 0, 1)) (d1 : decode code (pc + 1) = .ok (.iload_n 3, 1)) (d2 : decode code (pc + 2) = .ok (.iconst k, 1)) (d3 : decode code (pc + 3) = .ok (.iadd, 1)) (d4 : decode code (pc + 4) = .ok (.iaload, 1))
    (kk : lw_L p l e s m below meth c b kX kM nc ns (pc + 5) i (.int (xs (j + k)) :: st) MX MM) : lw_L p l e s m below meth c b kX kM nc ns pc i st MX MM := by
  intro H locs lsA hW hl
  obtain ⟨hx, hb, hr, hml, hown, hts, hX, hbl, hlocks, hgv⟩ := C0
  have hbA : ¬ (fun q : Nat => s.heap.size ≤ q) b := Nat.not_le.mpr hbl
  refine lv_aload_n hx hb d0 rfl (lv_at hl 0 rfl) ?_
  refine lv_iload_n hx hb d1 rfl (lv_at hl 3 rfl) ?_
  refine lv_iconst hx hb d2 hki ?_
  refine lv_iadd hx hb d3 ?_
  have e1 : i + ki = nI (j + k) := by rw [hi, hkn]; exact nI_add j k
  rw [e1]
  have hin : vp_in (nI (j + k)) L := vp_in_nI hk (by omega)
  refine va_sld hx hb hX hbl hbA hW.2.2.2.2.2.2.2 hin d4 ?_
  rw [nI_clamp (by omega)]
  exact kk H locs lsA hW hl
theorem lw_a1 (C0 : lw_At p s m meth c b L xs) (d0 : decode code pc = .ok (.aload_n 1, 1)) (kk : lw_L p l e s m below meth c b kX kM nc ns (pc + 1) i (.ref (kX.2.2.1 0) :: st) MX MM) : lw_L p l e s m below meth c b kX kM nc ns pc i st MX MM :=
  fun H locs lsA hW hl => lv_aload_n C0.1 C0.2.1 d0 rfl (lv_at hl 1 rfl) (kk H locs lsA hW hl)
theorem lw_a2 (C0 : lw_At p s m meth c b L xs) (d0 : decode code pc = .ok (.aload_n 2, 1)) (kk : lw_L p l e s m below meth c b kX kM nc ns (pc + 1) i (.ref (kM.2.2.1 0) :: st) MX MM) : lw_L p l e s m below meth c b kX kM nc ns pc i st MX MM :=
  fun H locs lsA hW hl => lv_aload_n C0.1 C0.2.1 d0 rfl (lv_at hl 2 rfl) (kk H locs lsA hW hl)
theorem lw_goodw {yn : MethodName} {y : mv_Y} (h : Cond.code yn y.1 y.2.1 y.2.2.2.1 ∈ mv_all) : GoodIn lw_tbl (mv_w yn y) := fun w hw => by
  rcases List.mem_cons.mp hw with rfl | hw
  · exact mv_good _ h
  · exact mv_good _ hw
/-- a call on one of the two worlds, in the law's frame -/
theorem lw_run (C0 : lw_At p s m meth c b L xs) {k : mv_S} {M M' : mv_M} {H : Heap} {locs : List Loc} {lsA : Array Slot} (hP : va_P k.1 vwCl (mv_ws k M) H) (hsp : mv_SP k s) (hl : lsA.size = 4) {idx i0 ci n N : Nat} {T : u_T} {fs : List Nat} {yn : MethodName} {yc : mv_Y} {As : List Value} {r : Int32} (h : decode code pc = .ok (.invokevirtual idx, 3)) (hl' : Cond.methodLink RL idx yn ∈ mv_all) (hm : mv_MV yn yc n) (hR : yc.2.2.2.2.frames + 1 ≤ room_1.frames ∧ 8 + (yc.2.1 + 11) + yc.2.2.2.2.locals ≤ room_1.locals) (hL : k.2.2.2[i0]? = some (0, ci, fs)) (hcl : vwCl[ci]? = some (yn.cls, T, N)) (hn : As.length = n) (hst : (st.map fun v => v.category).sum ≤ 8) (hc : nc ≤ 600000) (hs : ns ≤ 7302250) {G : Option (Int32 × mv_M)}
    (hC : mv_C l k yn yc mv_ri (.ref (k.2.2.1 i0) :: As) M G) (hG : G = some (r, M')) :
    va_Run p l e room_1 s m #[Value.ref b] below meth c H locs nc ns 0 0 (F0 m pc lsA (As.reverse ++ .ref (k.2.2.1 i0) :: st)) st (mv_Q k (mv_ri (r, M')) (Value.ref (k.2.2.1 i0) :: As).toArray) (mv_A k) := by
  obtain ⟨hx, hb, hr, hml, hown, hts, hX, hbl, hlocks, hgv⟩ := C0
  obtain ⟨⟨hco, hi, hd, hz1, hz2⟩, him, hse⟩ := hm
  have tb : ∀ w ∈ mv_all, w.before #[Value.ref b] s = true := fun w hw => hts w (mv_good w hw).1
  have hp : PreV s H yn.cls (k.2.2.1 i0) (va_Pc (.ref (k.2.2.1 i0) :: As) (fun U => va_P k.1 vwCl (mv_ws k M) U.heap ∧ mv_SP k U)) As :=
    ⟨mv_blind, va_recv hsp.1 hP hcl (mv_ws_at hL), fun U hU hW => ⟨rfl, by rw [hU]; exact hP, hsp.warm hW⟩⟩
  exact va_runV (C := yn.cls) ⟨hx, hb, hml, hown, hts⟩ (hC _ hG) ⟨callB_of n hts (lw_goodw hco) rfl hz1 hz2 (tb _ hi) (tb _ hl') hd hR, tb _ him, tb _ hse⟩ hp rfl hn hl rfl (by show 2 * 0 + _ ≤ 8; omega) h ⟨hc, hs⟩
theorem lw_after {k : mv_S} {rM : Option Value × mv_M} {H : Heap} {locs : List Loc} {lsA : Array Slot} {st0 rest : List Value} {a : Array Value} (hA : ∀ i : Nat, i < k.2.2.2.length → s.heap.size ≤ k.2.2.1 i)
    (hr : va_Run p l e room_1 s m #[Value.ref b] below meth c H locs nc ns 0 0 (F0 m pc lsA st0) rest (mv_Q k rM a) (mv_A k)) (hS : va_S (fun q : Nat => s.heap.size ≤ q) s.heap H locs)
    (kk : ∀ (H1 : Heap) (locs1 : List Loc), va_P k.1 vwCl (mv_ws k rM.2) H1 → (∀ q : Nat, q < H.size → ¬ mv_A k q → H1[q]? = H[q]?) → va_S (fun q : Nat => s.heap.size ≤ q) s.heap H1 locs1 → W p l e room_1 s m #[Value.ref b] below meth c H1 locs1 nc ns (lw_Z below #[Value.ref b] s) (F0 m (pc + 3) lsA (rM.1.toList ++ rest))) : W p l e room_1 s m #[Value.ref b] below meth c H locs nc ns (lw_Z below #[Value.ref b] s) (F0 m pc lsA st0) := by
  intro T hT X
  obtain ⟨v, st₀, t, T', L, h0, X', hL, e1, e2, ⟨⟨hv, hP⟩, hz, hk⟩, sg⟩ := hr T hT X
  cases hv
  rw [h0] at hz hk
  have hAq : ∀ q, mv_A k q → s.heap.size ≤ q := fun q ⟨j, hj, e⟩ => by rw [e]; exact hA j hj
  obtain ⟨t2, a1, b1⟩ := kk T'.heap (locs ++ L) (by rw [e1]; exact hP) (fun q h1 h2 => by rw [e1]; exact hk q h1 h2)
    ⟨Nat.le_trans hS.1 (by rw [e1]; exact hz), fun q h1 h2 => by rw [e1, hk q (Nat.lt_of_lt_of_le h1 hS.1) (fun z => h2 (hAq q z))]; exact hS.2.1 q h1 h2, fun q hq => by
      rcases List.mem_append.mp hq with h | h
      · exact hS.2.2 q h
      · exact hAq _ (hL q h)⟩ T' rfl X'
  exact ⟨t2, sg t2 a1, b1⟩
theorem lw_kept {k k' : mv_S} {M : mv_M} {H H1 : Heap} (hP : va_P k.1 vwCl (mv_ws k M) H) (hap : ∀ i j : Nat, i < k.2.2.2.length → j < k'.2.2.2.length → k.2.2.1 i ≠ k'.2.2.1 j) (hk : ∀ q : Nat, q < H.size → ¬ mv_A k' q → H1[q]? = H[q]?) : va_P k.1 vwCl (mv_ws k M) H1 := by
  refine hP.kept (fun j q hj => ?_)
  have hlt := (hP j q hj).lt
  obtain ⟨c', h1, rfl⟩ := mv_ws_get hj
  exact hk _ hlt (fun ⟨j', hj', e⟩ => hap j j' (List.getElem?_eq_some_iff.mp h1).1 hj' e)
theorem lw_cx (C0 : lw_At p s m meth c b L xs) {MX' : mv_M} {idx ci n N : Nat} {T : u_T} {fs : List Nat} {yn : MethodName} {yc : mv_Y} {As : List Value} {r : Int32} (h : decode code pc = .ok (.invokevirtual idx, 3)) (hl' : Cond.methodLink RL idx yn ∈ mv_all) (hm : mv_MV yn yc n) (hR : yc.2.2.2.2.frames + 1 ≤ room_1.frames ∧ 8 + (yc.2.1 + 11) + yc.2.2.2.2.locals ≤ room_1.locals) (hL : kX.2.2.2[0]? = some (0, ci, fs)) (hcl : vwCl[ci]? = some (yn.cls, T, N)) (hn : As.length = n) (hst : (st.map fun v => v.category).sum ≤ 8) (hc : nc ≤ 600000) (hs : ns ≤ 7302250) {G : Option (Int32 × mv_M)}
    (hC : mv_C l kX yn yc mv_ri (.ref (kX.2.2.1 0) :: As) MX G) (hG : G = some (r, MX')) (kk : lw_L p l e s m below meth c b kX kM nc ns (pc + 3) i (.int r :: st) MX' MM) : lw_L p l e s m below meth c b kX kM nc ns pc i (As.reverse ++ .ref (kX.2.2.1 0) :: st) MX MM := by
  intro H locs lsA hW hl
  obtain ⟨hPX, hPM, hap, hAX, hAM, hSX, hSM, hS⟩ := hW
  exact lw_after hAX (lw_run C0 hPX hSX hl.1 h hl' hm hR hL hcl hn hst hc hs hC hG) hS (fun H1 locs1 hP1 hk1 hS1 => kk H1 locs1 lsA ⟨hP1, lw_kept hPM (fun i j hi hj e => hap j i hj hi e.symm) hk1, hap, hAX, hAM, hSX, hSM, hS1⟩ hl)
theorem lw_cm (C0 : lw_At p s m meth c b L xs) {MM' : mv_M} {idx ci n N : Nat} {T : u_T} {fs : List Nat} {yn : MethodName} {yc : mv_Y} {As : List Value} {r : Int32} (h : decode code pc = .ok (.invokevirtual idx, 3)) (hl' : Cond.methodLink RL idx yn ∈ mv_all) (hm : mv_MV yn yc n) (hR : yc.2.2.2.2.frames + 1 ≤ room_1.frames ∧ 8 + (yc.2.1 + 11) + yc.2.2.2.2.locals ≤ room_1.locals) (hL : kM.2.2.2[0]? = some (0, ci, fs)) (hcl : vwCl[ci]? = some (yn.cls, T, N)) (hn : As.length = n) (hst : (st.map fun v => v.category).sum ≤ 8) (hc : nc ≤ 600000) (hs : ns ≤ 7302250) {G : Option (Int32 × mv_M)}
    (hC : mv_C l kM yn yc mv_ri (.ref (kM.2.2.1 0) :: As) MM G) (hG : G = some (r, MM')) (kk : lw_L p l e s m below meth c b kX kM nc ns (pc + 3) i (.int r :: st) MX MM') : lw_L p l e s m below meth c b kX kM nc ns pc i (As.reverse ++ .ref (kM.2.2.1 0) :: st) MX MM := by
  intro H locs lsA hW hl
  obtain ⟨hPX, hPM, hap, hAX, hAM, hSX, hSM, hS⟩ := hW
  exact lw_after hAM (lw_run C0 hPM hSM hl.1 h hl' hm hR hL hcl hn hst hc hs hC hG) hS (fun H1 locs1 hP1 hk1 hS1 => kk H1 locs1 lsA ⟨lw_kept hPX hap hk1, hP1, hap, hAX, hAM, hSX, hSM, hS1⟩ hl)
theorem lw_eqb (C0 : lw_At p s m meth c b L xs) {r : Int32} {off : Int} {tgt : Nat} (h : decode code pc = .ok (.if_icmp .eq off, 3)) (ht : (pc : Int) + off = (tgt : Int)) (kk : lw_L p l e s m below meth c b kX kM nc ns tgt i st MX MM) : lw_L p l e s m below meth c b kX kM nc ns pc i (.int r :: .int r :: st) MX MM :=
  fun H locs lsA hW hl => lv_icmp_eq C0.1 C0.2.1 h ht (fun _ => kk H locs lsA hW hl) (fun hn => absurd rfl hn)

/-- the two sides answer alike, whatever is asked -/
def ps_all (F : Nat) (Sim : mv_M → mv_M → Prop) : Prop :=
  (∀ a1 a2 a3 : Int32, ps_ok Sim (fun M => fX8_row F M a1 a2 a3) (fun M => fX9_row F M a1 a2 a3)) ∧ (∀ a1 a2 a3 : Int32, ps_ok Sim (fun M => fX8_set F M a1 a2 a3) (fun M => fX9_set F M a1 a2 a3)) ∧ (∀ a1 a2 a3 a4 a5 : Int32, ps_ok Sim (fun M => fX8_copy F M a1 a2 a3 a4 a5) (fun M => fX9_copy F M a1 a2 a3 a4 a5)) ∧ (∀ a1 : Int32, ps_ok Sim (fun M => fX8_drop F M a1) (fun M => fX9_drop F M a1)) ∧ (∀ a1 : Int32, ps_ok Sim (fun M => fX8_feed F M a1) (fun M => fX9_feed F M a1)) ∧ (ps_ok Sim (fun M => fX8_world F M) (fun M => fX9_world F M)) ∧ (ps_ok Sim (fun M => fX8_fault F M) (fun M => fX9_fault F M)) ∧ (∀ a1 a2 : Int32, ps_ok Sim (fun M => fX8_hide F M a1 a2) (fun M => fX9_hide F M a1 a2)) ∧ (∀ a1 a2 : Int32, ps_ok Sim (fun M => fX8_cost F M a1 a2) (fun M => fX9_cost F M a1 a2)) ∧ (∀ a1 a2 : Int32, ps_ok Sim (fun M => fX8_above F M a1 a2) (fun M => fX9_above F M a1 a2)) ∧ (ps_ok Sim (fun M => fX8_undo F M) (fun M => fX9_undo F M)) ∧ (∀ a1 a2 : Int32, ps_ok Sim (fun M => fX8_member F M a1 a2) (fun M => fX9_member F M a1 a2)) ∧ (∀ a1 a2 : Int32, ps_ok Sim (fun M => fX8_type F M a1 a2) (fun M => fX9_type F M a1 a2)) ∧ (∀ a1 a2 : Int32, ps_ok Sim (fun M => fX8_many F M a1 a2) (fun M => fX9_many F M a1 a2)) ∧ (∀ a1 : Int32, ps_ok Sim (fun M => fX8_cheapest F M a1) (fun M => fX9_cheapest F M a1)) ∧ (∀ a1 a2 a3 : Int32, ps_ok Sim (fun M => fX8_listed F M a1 a2 a3) (fun M => fX9_listed F M a1 a2 a3)) ∧ (∀ a1 a2 a3 a4 : Int32, ps_ok Sim (fun M => fX8_word F M a1 a2 a3 a4) (fun M => fX9_word F M a1 a2 a3 a4)) ∧ (∀ a1 a2 a3 : Int32, ps_ok Sim (fun M => fX8_place F M a1 a2 a3) (fun M => fX9_place F M a1 a2 a3)) ∧ (ps_ok Sim (fun M => fX8_had F M) (fun M => fX9_had F M)) ∧ (∀ a1 : Int32, ps_ok Sim (fun M => fX8_needed F M a1) (fun M => fX9_needed F M a1)) ∧ (∀ a1 a2 : Int32, ps_ok Sim (fun M => fX8_without F M a1 a2) (fun M => fX9_without F M a1 a2)) ∧ (∀ a1 a2 : Int32, ps_ok Sim (fun M => fX8_share F M a1 a2) (fun M => fX9_share F M a1 a2)) ∧ (∀ a1 a2 a3 a4 : Int32, ps_ok Sim (fun M => fX8_drawn F M a1 a2 a3 a4) (fun M => fX9_drawn F M a1 a2 a3 a4)) ∧ (∀ a1 : Int32, ps_ok Sim (fun M => fX8_image F M a1) (fun M => fX9_image F M a1)) ∧ (∀ a1 : Int32, ps_ok Sim (fun M => fX8_restore F M a1) (fun M => fX9_restore F M a1)) ∧ (∀ a1 : Int32, ps_ok Sim (fun M => fX8_kind F M a1) (fun M => fX9_kind F M a1)) ∧ (∀ a1 a2 : Int32, ps_ok Sim (fun M => fX8_as F M a1 a2) (fun M => fX9_as F M a1 a2)) ∧ (∀ a1 a2 : Int32, ps_ok Sim (fun M => fX8_ask F M a1 a2) (fun M => fX9_ask F M a1 a2)) ∧ (∀ a1 : Int32, ps_ok Sim (fun M => fX8_trace F M a1) (fun M => fX9_trace F M a1)) ∧ (∀ a1 : Int32, ps_ok Sim (fun M => fX8_count F M a1) (fun M => fX9_count F M a1)) ∧ (ps_ok Sim (fun M => fX8_status F M) (fun M => fX9_status F M))
set_option maxRecDepth 100000 in
theorem lw_case0 (C0 : lw_At p s m meth c b L xs) {D : va_G} {cA : Nat → ClassId} {adX adM : Nat → Nat} {F : Nat} {Sim : mv_M → mv_M → Prop} (hL : L ≤ 3072) (hnc : nc ≤ 600000) (hns : ns ≤ 7302250) {j : Nat} (hj : j + 5 < L) (hi : i = nI j) (hSim : Sim MX MM) (hop : ∀ a1 a2 a3 : Int32, ps_ok Sim (fun M => fX8_row F M a1 a2 a3) (fun M => fX9_row F M a1 a2 a3)) (kk : ∀ MX' MM', Sim MX' MM' → lw_L p l e s m below meth c b (D, cA, adX, LX) (D, cA, adM, LM) nc ns 1115 i [] MX' MM') : lw_L p l e s m below meth c b (D, cA, adX, LX) (D, cA, adM, LM) nc ns 172 i [] MX MM := by
  refine lw_a1 (pc := 172) C0 dL_law_172 ?_
  refine lw_arg (pc := 173) (k := 1) (ki := 1) C0 hL hi (by omega) (by decide +kernel) (by decide +kernel) dL_law_173 dL_law_174 dL_law_175 dL_law_176 dL_law_177 ?_
  refine lw_arg (pc := 178) (k := 2) (ki := 2) C0 hL hi (by omega) (by decide +kernel) (by decide +kernel) dL_law_178 dL_law_179 dL_law_180 dL_law_181 dL_law_182 ?_
  refine lw_arg (pc := 183) (k := 3) (ki := 3) C0 hL hi (by omega) (by decide +kernel) (by decide +kernel) dL_law_183 dL_law_184 dL_law_185 dL_law_186 dL_law_187 ?_
  obtain ⟨r, MX', MM', hgX, hgM, hS'⟩ := hop (xs (j + 1)) (xs (j + 2)) (xs (j + 3)) MX MM hSim
  refine lw_cx (pc := 188) (As := [.int (xs (j + 1)), .int (xs (j + 2)), .int (xs (j + 3))]) (st := []) (r := r) (MX' := MX') C0 dL_law_188 mwL_13 vmX8_row ⟨Nat.le_of_ble_eq_true rfl, Nat.le_of_ble_eq_true rfl⟩ lx_0 rfl rfl (Nat.le_of_ble_eq_true rfl) hnc hns (ctX8_row l D cA adX F MX (xs (j + 1)) (xs (j + 2)) (xs (j + 3))) hgX ?_
  refine lw_a2 (pc := 191) C0 dL_law_191 ?_
  refine lw_arg (pc := 192) (k := 1) (ki := 1) C0 hL hi (by omega) (by decide +kernel) (by decide +kernel) dL_law_192 dL_law_193 dL_law_194 dL_law_195 dL_law_196 ?_
  refine lw_arg (pc := 197) (k := 2) (ki := 2) C0 hL hi (by omega) (by decide +kernel) (by decide +kernel) dL_law_197 dL_law_198 dL_law_199 dL_law_200 dL_law_201 ?_
  refine lw_arg (pc := 202) (k := 3) (ki := 3) C0 hL hi (by omega) (by decide +kernel) (by decide +kernel) dL_law_202 dL_law_203 dL_law_204 dL_law_205 dL_law_206 ?_
  refine lw_cm (pc := 207) (As := [.int (xs (j + 1)), .int (xs (j + 2)), .int (xs (j + 3))]) (st := [.int r]) (r := r) (MM' := MM') C0 dL_law_207 mwL_17 vmX9_row ⟨Nat.le_of_ble_eq_true rfl, Nat.le_of_ble_eq_true rfl⟩ lm_0 rfl rfl (Nat.le_of_ble_eq_true rfl) hnc hns (ctX9_row l D cA adM F MM (xs (j + 1)) (xs (j + 2)) (xs (j + 3))) hgM ?_
  refine lw_eqb (pc := 210) (tgt := 1115) C0 dL_law_210 (by decide) ?_
  exact kk MX' MM' hS'
set_option maxRecDepth 100000 in
theorem lw_case1 (C0 : lw_At p s m meth c b L xs) {D : va_G} {cA : Nat → ClassId} {adX adM : Nat → Nat} {F : Nat} {Sim : mv_M → mv_M → Prop} (hL : L ≤ 3072) (hnc : nc ≤ 600000) (hns : ns ≤ 7302250) {j : Nat} (hj : j + 5 < L) (hi : i = nI j) (hSim : Sim MX MM) (hop : ∀ a1 a2 a3 : Int32, ps_ok Sim (fun M => fX8_set F M a1 a2 a3) (fun M => fX9_set F M a1 a2 a3)) (kk : ∀ MX' MM', Sim MX' MM' → lw_L p l e s m below meth c b (D, cA, adX, LX) (D, cA, adM, LM) nc ns 1115 i [] MX' MM') : lw_L p l e s m below meth c b (D, cA, adX, LX) (D, cA, adM, LM) nc ns 215 i [] MX MM := by
  refine lw_a1 (pc := 215) C0 dL_law_215 ?_
  refine lw_arg (pc := 216) (k := 1) (ki := 1) C0 hL hi (by omega) (by decide +kernel) (by decide +kernel) dL_law_216 dL_law_217 dL_law_218 dL_law_219 dL_law_220 ?_
  refine lw_arg (pc := 221) (k := 2) (ki := 2) C0 hL hi (by omega) (by decide +kernel) (by decide +kernel) dL_law_221 dL_law_222 dL_law_223 dL_law_224 dL_law_225 ?_
  refine lw_arg (pc := 226) (k := 3) (ki := 3) C0 hL hi (by omega) (by decide +kernel) (by decide +kernel) dL_law_226 dL_law_227 dL_law_228 dL_law_229 dL_law_230 ?_
  obtain ⟨r, MX', MM', hgX, hgM, hS'⟩ := hop (xs (j + 1)) (xs (j + 2)) (xs (j + 3)) MX MM hSim
  refine lw_cx (pc := 231) (As := [.int (xs (j + 1)), .int (xs (j + 2)), .int (xs (j + 3))]) (st := []) (r := r) (MX' := MX') C0 dL_law_231 mwL_18 vmX8_set ⟨Nat.le_of_ble_eq_true rfl, Nat.le_of_ble_eq_true rfl⟩ lx_0 rfl rfl (Nat.le_of_ble_eq_true rfl) hnc hns (ctX8_set l D cA adX F MX (xs (j + 1)) (xs (j + 2)) (xs (j + 3))) hgX ?_
  refine lw_a2 (pc := 234) C0 dL_law_234 ?_
  refine lw_arg (pc := 235) (k := 1) (ki := 1) C0 hL hi (by omega) (by decide +kernel) (by decide +kernel) dL_law_235 dL_law_236 dL_law_237 dL_law_238 dL_law_239 ?_
  refine lw_arg (pc := 240) (k := 2) (ki := 2) C0 hL hi (by omega) (by decide +kernel) (by decide +kernel) dL_law_240 dL_law_241 dL_law_242 dL_law_243 dL_law_244 ?_
  refine lw_arg (pc := 245) (k := 3) (ki := 3) C0 hL hi (by omega) (by decide +kernel) (by decide +kernel) dL_law_245 dL_law_246 dL_law_247 dL_law_248 dL_law_249 ?_
  refine lw_cm (pc := 250) (As := [.int (xs (j + 1)), .int (xs (j + 2)), .int (xs (j + 3))]) (st := [.int r]) (r := r) (MM' := MM') C0 dL_law_250 mwL_21 vmX9_set ⟨Nat.le_of_ble_eq_true rfl, Nat.le_of_ble_eq_true rfl⟩ lm_0 rfl rfl (Nat.le_of_ble_eq_true rfl) hnc hns (ctX9_set l D cA adM F MM (xs (j + 1)) (xs (j + 2)) (xs (j + 3))) hgM ?_
  refine lw_eqb (pc := 253) (tgt := 1115) C0 dL_law_253 (by decide) ?_
  exact kk MX' MM' hS'
set_option maxRecDepth 100000 in
theorem lw_case2 (C0 : lw_At p s m meth c b L xs) {D : va_G} {cA : Nat → ClassId} {adX adM : Nat → Nat} {F : Nat} {Sim : mv_M → mv_M → Prop} (hL : L ≤ 3072) (hnc : nc ≤ 600000) (hns : ns ≤ 7302250) {j : Nat} (hj : j + 5 < L) (hi : i = nI j) (hSim : Sim MX MM) (hop : ∀ a1 a2 a3 a4 a5 : Int32, ps_ok Sim (fun M => fX8_copy F M a1 a2 a3 a4 a5) (fun M => fX9_copy F M a1 a2 a3 a4 a5)) (kk : ∀ MX' MM', Sim MX' MM' → lw_L p l e s m below meth c b (D, cA, adX, LX) (D, cA, adM, LM) nc ns 1115 i [] MX' MM') : lw_L p l e s m below meth c b (D, cA, adX, LX) (D, cA, adM, LM) nc ns 258 i [] MX MM := by
  refine lw_a1 (pc := 258) C0 dL_law_258 ?_
  refine lw_arg (pc := 259) (k := 1) (ki := 1) C0 hL hi (by omega) (by decide +kernel) (by decide +kernel) dL_law_259 dL_law_260 dL_law_261 dL_law_262 dL_law_263 ?_
  refine lw_arg (pc := 264) (k := 2) (ki := 2) C0 hL hi (by omega) (by decide +kernel) (by decide +kernel) dL_law_264 dL_law_265 dL_law_266 dL_law_267 dL_law_268 ?_
  refine lw_arg (pc := 269) (k := 3) (ki := 3) C0 hL hi (by omega) (by decide +kernel) (by decide +kernel) dL_law_269 dL_law_270 dL_law_271 dL_law_272 dL_law_273 ?_
  refine lw_arg (pc := 274) (k := 4) (ki := 4) C0 hL hi (by omega) (by decide +kernel) (by decide +kernel) dL_law_274 dL_law_275 dL_law_276 dL_law_277 dL_law_278 ?_
  refine lw_arg (pc := 279) (k := 5) (ki := 5) C0 hL hi (by omega) (by decide +kernel) (by decide +kernel) dL_law_279 dL_law_280 dL_law_281 dL_law_282 dL_law_283 ?_
  obtain ⟨r, MX', MM', hgX, hgM, hS'⟩ := hop (xs (j + 1)) (xs (j + 2)) (xs (j + 3)) (xs (j + 4)) (xs (j + 5)) MX MM hSim
  refine lw_cx (pc := 284) (As := [.int (xs (j + 1)), .int (xs (j + 2)), .int (xs (j + 3)), .int (xs (j + 4)), .int (xs (j + 5))]) (st := []) (r := r) (MX' := MX') C0 dL_law_284 mwL_22 vmX8_copy ⟨Nat.le_of_ble_eq_true rfl, Nat.le_of_ble_eq_true rfl⟩ lx_0 rfl rfl (Nat.le_of_ble_eq_true rfl) hnc hns (ctX8_copy l D cA adX F MX (xs (j + 1)) (xs (j + 2)) (xs (j + 3)) (xs (j + 4)) (xs (j + 5))) hgX ?_
  refine lw_a2 (pc := 287) C0 dL_law_287 ?_
  refine lw_arg (pc := 288) (k := 1) (ki := 1) C0 hL hi (by omega) (by decide +kernel) (by decide +kernel) dL_law_288 dL_law_289 dL_law_290 dL_law_291 dL_law_292 ?_
  refine lw_arg (pc := 293) (k := 2) (ki := 2) C0 hL hi (by omega) (by decide +kernel) (by decide +kernel) dL_law_293 dL_law_294 dL_law_295 dL_law_296 dL_law_297 ?_
  refine lw_arg (pc := 298) (k := 3) (ki := 3) C0 hL hi (by omega) (by decide +kernel) (by decide +kernel) dL_law_298 dL_law_299 dL_law_300 dL_law_301 dL_law_302 ?_
  refine lw_arg (pc := 303) (k := 4) (ki := 4) C0 hL hi (by omega) (by decide +kernel) (by decide +kernel) dL_law_303 dL_law_304 dL_law_305 dL_law_306 dL_law_307 ?_
  refine lw_arg (pc := 308) (k := 5) (ki := 5) C0 hL hi (by omega) (by decide +kernel) (by decide +kernel) dL_law_308 dL_law_309 dL_law_310 dL_law_311 dL_law_312 ?_
  refine lw_cm (pc := 313) (As := [.int (xs (j + 1)), .int (xs (j + 2)), .int (xs (j + 3)), .int (xs (j + 4)), .int (xs (j + 5))]) (st := [.int r]) (r := r) (MM' := MM') C0 dL_law_313 mwL_26 vmX9_copy ⟨Nat.le_of_ble_eq_true rfl, Nat.le_of_ble_eq_true rfl⟩ lm_0 rfl rfl (Nat.le_of_ble_eq_true rfl) hnc hns (ctX9_copy l D cA adM F MM (xs (j + 1)) (xs (j + 2)) (xs (j + 3)) (xs (j + 4)) (xs (j + 5))) hgM ?_
  refine lw_eqb (pc := 316) (tgt := 1115) C0 dL_law_316 (by decide) ?_
  exact kk MX' MM' hS'
set_option maxRecDepth 100000 in
theorem lw_case3 (C0 : lw_At p s m meth c b L xs) {D : va_G} {cA : Nat → ClassId} {adX adM : Nat → Nat} {F : Nat} {Sim : mv_M → mv_M → Prop} (hL : L ≤ 3072) (hnc : nc ≤ 600000) (hns : ns ≤ 7302250) {j : Nat} (hj : j + 5 < L) (hi : i = nI j) (hSim : Sim MX MM) (hop : ∀ a1 : Int32, ps_ok Sim (fun M => fX8_drop F M a1) (fun M => fX9_drop F M a1)) (kk : ∀ MX' MM', Sim MX' MM' → lw_L p l e s m below meth c b (D, cA, adX, LX) (D, cA, adM, LM) nc ns 1115 i [] MX' MM') : lw_L p l e s m below meth c b (D, cA, adX, LX) (D, cA, adM, LM) nc ns 321 i [] MX MM := by
  refine lw_a1 (pc := 321) C0 dL_law_321 ?_
  refine lw_arg (pc := 322) (k := 1) (ki := 1) C0 hL hi (by omega) (by decide +kernel) (by decide +kernel) dL_law_322 dL_law_323 dL_law_324 dL_law_325 dL_law_326 ?_
  obtain ⟨r, MX', MM', hgX, hgM, hS'⟩ := hop (xs (j + 1)) MX MM hSim
  refine lw_cx (pc := 327) (As := [.int (xs (j + 1))]) (st := []) (r := r) (MX' := MX') C0 dL_law_327 mwL_27 vmX8_drop ⟨Nat.le_of_ble_eq_true rfl, Nat.le_of_ble_eq_true rfl⟩ lx_0 rfl rfl (Nat.le_of_ble_eq_true rfl) hnc hns (ctX8_drop l D cA adX F MX (xs (j + 1))) hgX ?_
  refine lw_a2 (pc := 330) C0 dL_law_330 ?_
  refine lw_arg (pc := 331) (k := 1) (ki := 1) C0 hL hi (by omega) (by decide +kernel) (by decide +kernel) dL_law_331 dL_law_332 dL_law_333 dL_law_334 dL_law_335 ?_
  refine lw_cm (pc := 336) (As := [.int (xs (j + 1))]) (st := [.int r]) (r := r) (MM' := MM') C0 dL_law_336 mwL_31 vmX9_drop ⟨Nat.le_of_ble_eq_true rfl, Nat.le_of_ble_eq_true rfl⟩ lm_0 rfl rfl (Nat.le_of_ble_eq_true rfl) hnc hns (ctX9_drop l D cA adM F MM (xs (j + 1))) hgM ?_
  refine lw_eqb (pc := 339) (tgt := 1115) C0 dL_law_339 (by decide) ?_
  exact kk MX' MM' hS'
set_option maxRecDepth 100000 in
theorem lw_case4 (C0 : lw_At p s m meth c b L xs) {D : va_G} {cA : Nat → ClassId} {adX adM : Nat → Nat} {F : Nat} {Sim : mv_M → mv_M → Prop} (hL : L ≤ 3072) (hnc : nc ≤ 600000) (hns : ns ≤ 7302250) {j : Nat} (hj : j + 5 < L) (hi : i = nI j) (hSim : Sim MX MM) (hop : ∀ a1 : Int32, ps_ok Sim (fun M => fX8_feed F M a1) (fun M => fX9_feed F M a1)) (kk : ∀ MX' MM', Sim MX' MM' → lw_L p l e s m below meth c b (D, cA, adX, LX) (D, cA, adM, LM) nc ns 1115 i [] MX' MM') : lw_L p l e s m below meth c b (D, cA, adX, LX) (D, cA, adM, LM) nc ns 344 i [] MX MM := by
  refine lw_a1 (pc := 344) C0 dL_law_344 ?_
  refine lw_arg (pc := 345) (k := 1) (ki := 1) C0 hL hi (by omega) (by decide +kernel) (by decide +kernel) dL_law_345 dL_law_346 dL_law_347 dL_law_348 dL_law_349 ?_
  obtain ⟨r, MX', MM', hgX, hgM, hS'⟩ := hop (xs (j + 1)) MX MM hSim
  refine lw_cx (pc := 350) (As := [.int (xs (j + 1))]) (st := []) (r := r) (MX' := MX') C0 dL_law_350 mwL_32 vmX8_feed ⟨Nat.le_of_ble_eq_true rfl, Nat.le_of_ble_eq_true rfl⟩ lx_0 rfl rfl (Nat.le_of_ble_eq_true rfl) hnc hns (ctX8_feed l D cA adX F MX (xs (j + 1))) hgX ?_
  refine lw_a2 (pc := 353) C0 dL_law_353 ?_
  refine lw_arg (pc := 354) (k := 1) (ki := 1) C0 hL hi (by omega) (by decide +kernel) (by decide +kernel) dL_law_354 dL_law_355 dL_law_356 dL_law_357 dL_law_358 ?_
  refine lw_cm (pc := 359) (As := [.int (xs (j + 1))]) (st := [.int r]) (r := r) (MM' := MM') C0 dL_law_359 mwL_35 vmX9_feed ⟨Nat.le_of_ble_eq_true rfl, Nat.le_of_ble_eq_true rfl⟩ lm_0 rfl rfl (Nat.le_of_ble_eq_true rfl) hnc hns (ctX9_feed l D cA adM F MM (xs (j + 1))) hgM ?_
  refine lw_eqb (pc := 362) (tgt := 1115) C0 dL_law_362 (by decide) ?_
  exact kk MX' MM' hS'
set_option maxRecDepth 100000 in
theorem lw_case5 (C0 : lw_At p s m meth c b L xs) {D : va_G} {cA : Nat → ClassId} {adX adM : Nat → Nat} {F : Nat} {Sim : mv_M → mv_M → Prop} (hL : L ≤ 3072) (hnc : nc ≤ 600000) (hns : ns ≤ 7302250) {j : Nat} (hj : j + 5 < L) (hi : i = nI j) (hSim : Sim MX MM) (hop : ps_ok Sim (fun M => fX8_world F M) (fun M => fX9_world F M)) (kk : ∀ MX' MM', Sim MX' MM' → lw_L p l e s m below meth c b (D, cA, adX, LX) (D, cA, adM, LM) nc ns 1115 i [] MX' MM') : lw_L p l e s m below meth c b (D, cA, adX, LX) (D, cA, adM, LM) nc ns 367 i [] MX MM := by
  refine lw_a1 (pc := 367) C0 dL_law_367 ?_
  obtain ⟨r, MX', MM', hgX, hgM, hS'⟩ := hop MX MM hSim
  refine lw_cx (pc := 368) (As := []) (st := []) (r := r) (MX' := MX') C0 dL_law_368 mwL_36 vmX8_world ⟨Nat.le_of_ble_eq_true rfl, Nat.le_of_ble_eq_true rfl⟩ lx_0 rfl rfl (Nat.le_of_ble_eq_true rfl) hnc hns (ctX8_world l D cA adX F MX) hgX ?_
  refine lw_a2 (pc := 371) C0 dL_law_371 ?_
  refine lw_cm (pc := 372) (As := []) (st := [.int r]) (r := r) (MM' := MM') C0 dL_law_372 mwL_40 vmX9_world ⟨Nat.le_of_ble_eq_true rfl, Nat.le_of_ble_eq_true rfl⟩ lm_0 rfl rfl (Nat.le_of_ble_eq_true rfl) hnc hns (ctX9_world l D cA adM F MM) hgM ?_
  refine lw_eqb (pc := 375) (tgt := 1115) C0 dL_law_375 (by decide) ?_
  exact kk MX' MM' hS'
set_option maxRecDepth 100000 in
theorem lw_case6 (C0 : lw_At p s m meth c b L xs) {D : va_G} {cA : Nat → ClassId} {adX adM : Nat → Nat} {F : Nat} {Sim : mv_M → mv_M → Prop} (hL : L ≤ 3072) (hnc : nc ≤ 600000) (hns : ns ≤ 7302250) {j : Nat} (hj : j + 5 < L) (hi : i = nI j) (hSim : Sim MX MM) (hop : ps_ok Sim (fun M => fX8_fault F M) (fun M => fX9_fault F M)) (kk : ∀ MX' MM', Sim MX' MM' → lw_L p l e s m below meth c b (D, cA, adX, LX) (D, cA, adM, LM) nc ns 1115 i [] MX' MM') : lw_L p l e s m below meth c b (D, cA, adX, LX) (D, cA, adM, LM) nc ns 380 i [] MX MM := by
  refine lw_a1 (pc := 380) C0 dL_law_380 ?_
  obtain ⟨r, MX', MM', hgX, hgM, hS'⟩ := hop MX MM hSim
  refine lw_cx (pc := 381) (As := []) (st := []) (r := r) (MX' := MX') C0 dL_law_381 mwL_41 vmX8_fault ⟨Nat.le_of_ble_eq_true rfl, Nat.le_of_ble_eq_true rfl⟩ lx_0 rfl rfl (Nat.le_of_ble_eq_true rfl) hnc hns (ctX8_fault l D cA adX F MX) hgX ?_
  refine lw_a2 (pc := 384) C0 dL_law_384 ?_
  refine lw_cm (pc := 385) (As := []) (st := [.int r]) (r := r) (MM' := MM') C0 dL_law_385 mwL_44 vmX9_fault ⟨Nat.le_of_ble_eq_true rfl, Nat.le_of_ble_eq_true rfl⟩ lm_0 rfl rfl (Nat.le_of_ble_eq_true rfl) hnc hns (ctX9_fault l D cA adM F MM) hgM ?_
  refine lw_eqb (pc := 388) (tgt := 1115) C0 dL_law_388 (by decide) ?_
  exact kk MX' MM' hS'
set_option maxRecDepth 100000 in
theorem lw_case7 (C0 : lw_At p s m meth c b L xs) {D : va_G} {cA : Nat → ClassId} {adX adM : Nat → Nat} {F : Nat} {Sim : mv_M → mv_M → Prop} (hL : L ≤ 3072) (hnc : nc ≤ 600000) (hns : ns ≤ 7302250) {j : Nat} (hj : j + 5 < L) (hi : i = nI j) (hSim : Sim MX MM) (hop : ∀ a1 a2 : Int32, ps_ok Sim (fun M => fX8_hide F M a1 a2) (fun M => fX9_hide F M a1 a2)) (kk : ∀ MX' MM', Sim MX' MM' → lw_L p l e s m below meth c b (D, cA, adX, LX) (D, cA, adM, LM) nc ns 1115 i [] MX' MM') : lw_L p l e s m below meth c b (D, cA, adX, LX) (D, cA, adM, LM) nc ns 393 i [] MX MM := by
  refine lw_a1 (pc := 393) C0 dL_law_393 ?_
  refine lw_arg (pc := 394) (k := 1) (ki := 1) C0 hL hi (by omega) (by decide +kernel) (by decide +kernel) dL_law_394 dL_law_395 dL_law_396 dL_law_397 dL_law_398 ?_
  refine lw_arg (pc := 399) (k := 2) (ki := 2) C0 hL hi (by omega) (by decide +kernel) (by decide +kernel) dL_law_399 dL_law_400 dL_law_401 dL_law_402 dL_law_403 ?_
  obtain ⟨r, MX', MM', hgX, hgM, hS'⟩ := hop (xs (j + 1)) (xs (j + 2)) MX MM hSim
  refine lw_cx (pc := 404) (As := [.int (xs (j + 1)), .int (xs (j + 2))]) (st := []) (r := r) (MX' := MX') C0 dL_law_404 mwL_45 vmX8_hide ⟨Nat.le_of_ble_eq_true rfl, Nat.le_of_ble_eq_true rfl⟩ lx_0 rfl rfl (Nat.le_of_ble_eq_true rfl) hnc hns (ctX8_hide l D cA adX F MX (xs (j + 1)) (xs (j + 2))) hgX ?_
  refine lw_a2 (pc := 407) C0 dL_law_407 ?_
  refine lw_arg (pc := 408) (k := 1) (ki := 1) C0 hL hi (by omega) (by decide +kernel) (by decide +kernel) dL_law_408 dL_law_409 dL_law_410 dL_law_411 dL_law_412 ?_
  refine lw_arg (pc := 413) (k := 2) (ki := 2) C0 hL hi (by omega) (by decide +kernel) (by decide +kernel) dL_law_413 dL_law_414 dL_law_415 dL_law_416 dL_law_417 ?_
  refine lw_cm (pc := 418) (As := [.int (xs (j + 1)), .int (xs (j + 2))]) (st := [.int r]) (r := r) (MM' := MM') C0 dL_law_418 mwL_49 vmX9_hide ⟨Nat.le_of_ble_eq_true rfl, Nat.le_of_ble_eq_true rfl⟩ lm_0 rfl rfl (Nat.le_of_ble_eq_true rfl) hnc hns (ctX9_hide l D cA adM F MM (xs (j + 1)) (xs (j + 2))) hgM ?_
  refine lw_eqb (pc := 421) (tgt := 1115) C0 dL_law_421 (by decide) ?_
  exact kk MX' MM' hS'
set_option maxRecDepth 100000 in
theorem lw_case8 (C0 : lw_At p s m meth c b L xs) {D : va_G} {cA : Nat → ClassId} {adX adM : Nat → Nat} {F : Nat} {Sim : mv_M → mv_M → Prop} (hL : L ≤ 3072) (hnc : nc ≤ 600000) (hns : ns ≤ 7302250) {j : Nat} (hj : j + 5 < L) (hi : i = nI j) (hSim : Sim MX MM) (hop : ∀ a1 a2 : Int32, ps_ok Sim (fun M => fX8_cost F M a1 a2) (fun M => fX9_cost F M a1 a2)) (kk : ∀ MX' MM', Sim MX' MM' → lw_L p l e s m below meth c b (D, cA, adX, LX) (D, cA, adM, LM) nc ns 1115 i [] MX' MM') : lw_L p l e s m below meth c b (D, cA, adX, LX) (D, cA, adM, LM) nc ns 426 i [] MX MM := by
  refine lw_a1 (pc := 426) C0 dL_law_426 ?_
  refine lw_arg (pc := 427) (k := 1) (ki := 1) C0 hL hi (by omega) (by decide +kernel) (by decide +kernel) dL_law_427 dL_law_428 dL_law_429 dL_law_430 dL_law_431 ?_
  refine lw_arg (pc := 432) (k := 2) (ki := 2) C0 hL hi (by omega) (by decide +kernel) (by decide +kernel) dL_law_432 dL_law_433 dL_law_434 dL_law_435 dL_law_436 ?_
  obtain ⟨r, MX', MM', hgX, hgM, hS'⟩ := hop (xs (j + 1)) (xs (j + 2)) MX MM hSim
  refine lw_cx (pc := 437) (As := [.int (xs (j + 1)), .int (xs (j + 2))]) (st := []) (r := r) (MX' := MX') C0 dL_law_437 mwL_50 vmX8_cost ⟨Nat.le_of_ble_eq_true rfl, Nat.le_of_ble_eq_true rfl⟩ lx_0 rfl rfl (Nat.le_of_ble_eq_true rfl) hnc hns (ctX8_cost l D cA adX F MX (xs (j + 1)) (xs (j + 2))) hgX ?_
  refine lw_a2 (pc := 440) C0 dL_law_440 ?_
  refine lw_arg (pc := 441) (k := 1) (ki := 1) C0 hL hi (by omega) (by decide +kernel) (by decide +kernel) dL_law_441 dL_law_442 dL_law_443 dL_law_444 dL_law_445 ?_
  refine lw_arg (pc := 446) (k := 2) (ki := 2) C0 hL hi (by omega) (by decide +kernel) (by decide +kernel) dL_law_446 dL_law_447 dL_law_448 dL_law_449 dL_law_450 ?_
  refine lw_cm (pc := 451) (As := [.int (xs (j + 1)), .int (xs (j + 2))]) (st := [.int r]) (r := r) (MM' := MM') C0 dL_law_451 mwL_53 vmX9_cost ⟨Nat.le_of_ble_eq_true rfl, Nat.le_of_ble_eq_true rfl⟩ lm_0 rfl rfl (Nat.le_of_ble_eq_true rfl) hnc hns (ctX9_cost l D cA adM F MM (xs (j + 1)) (xs (j + 2))) hgM ?_
  refine lw_eqb (pc := 454) (tgt := 1115) C0 dL_law_454 (by decide) ?_
  exact kk MX' MM' hS'
set_option maxRecDepth 100000 in
theorem lw_case9 (C0 : lw_At p s m meth c b L xs) {D : va_G} {cA : Nat → ClassId} {adX adM : Nat → Nat} {F : Nat} {Sim : mv_M → mv_M → Prop} (hL : L ≤ 3072) (hnc : nc ≤ 600000) (hns : ns ≤ 7302250) {j : Nat} (hj : j + 5 < L) (hi : i = nI j) (hSim : Sim MX MM) (hop : ∀ a1 a2 : Int32, ps_ok Sim (fun M => fX8_above F M a1 a2) (fun M => fX9_above F M a1 a2)) (kk : ∀ MX' MM', Sim MX' MM' → lw_L p l e s m below meth c b (D, cA, adX, LX) (D, cA, adM, LM) nc ns 1115 i [] MX' MM') : lw_L p l e s m below meth c b (D, cA, adX, LX) (D, cA, adM, LM) nc ns 459 i [] MX MM := by
  refine lw_a1 (pc := 459) C0 dL_law_459 ?_
  refine lw_arg (pc := 460) (k := 1) (ki := 1) C0 hL hi (by omega) (by decide +kernel) (by decide +kernel) dL_law_460 dL_law_461 dL_law_462 dL_law_463 dL_law_464 ?_
  refine lw_arg (pc := 465) (k := 2) (ki := 2) C0 hL hi (by omega) (by decide +kernel) (by decide +kernel) dL_law_465 dL_law_466 dL_law_467 dL_law_468 dL_law_469 ?_
  obtain ⟨r, MX', MM', hgX, hgM, hS'⟩ := hop (xs (j + 1)) (xs (j + 2)) MX MM hSim
  refine lw_cx (pc := 470) (As := [.int (xs (j + 1)), .int (xs (j + 2))]) (st := []) (r := r) (MX' := MX') C0 dL_law_470 mwL_54 vmX8_above ⟨Nat.le_of_ble_eq_true rfl, Nat.le_of_ble_eq_true rfl⟩ lx_0 rfl rfl (Nat.le_of_ble_eq_true rfl) hnc hns (ctX8_above l D cA adX F MX (xs (j + 1)) (xs (j + 2))) hgX ?_
  refine lw_a2 (pc := 473) C0 dL_law_473 ?_
  refine lw_arg (pc := 474) (k := 1) (ki := 1) C0 hL hi (by omega) (by decide +kernel) (by decide +kernel) dL_law_474 dL_law_475 dL_law_476 dL_law_477 dL_law_478 ?_
  refine lw_arg (pc := 479) (k := 2) (ki := 2) C0 hL hi (by omega) (by decide +kernel) (by decide +kernel) dL_law_479 dL_law_480 dL_law_481 dL_law_482 dL_law_483 ?_
  refine lw_cm (pc := 484) (As := [.int (xs (j + 1)), .int (xs (j + 2))]) (st := [.int r]) (r := r) (MM' := MM') C0 dL_law_484 mwL_57 vmX9_above ⟨Nat.le_of_ble_eq_true rfl, Nat.le_of_ble_eq_true rfl⟩ lm_0 rfl rfl (Nat.le_of_ble_eq_true rfl) hnc hns (ctX9_above l D cA adM F MM (xs (j + 1)) (xs (j + 2))) hgM ?_
  refine lw_eqb (pc := 487) (tgt := 1115) C0 dL_law_487 (by decide) ?_
  exact kk MX' MM' hS'
set_option maxRecDepth 100000 in
theorem lw_case10 (C0 : lw_At p s m meth c b L xs) {D : va_G} {cA : Nat → ClassId} {adX adM : Nat → Nat} {F : Nat} {Sim : mv_M → mv_M → Prop} (hL : L ≤ 3072) (hnc : nc ≤ 600000) (hns : ns ≤ 7302250) {j : Nat} (hj : j + 5 < L) (hi : i = nI j) (hSim : Sim MX MM) (hop : ps_ok Sim (fun M => fX8_undo F M) (fun M => fX9_undo F M)) (kk : ∀ MX' MM', Sim MX' MM' → lw_L p l e s m below meth c b (D, cA, adX, LX) (D, cA, adM, LM) nc ns 1115 i [] MX' MM') : lw_L p l e s m below meth c b (D, cA, adX, LX) (D, cA, adM, LM) nc ns 492 i [] MX MM := by
  refine lw_a1 (pc := 492) C0 dL_law_492 ?_
  obtain ⟨r, MX', MM', hgX, hgM, hS'⟩ := hop MX MM hSim
  refine lw_cx (pc := 493) (As := []) (st := []) (r := r) (MX' := MX') C0 dL_law_493 mwL_58 vmX8_undo ⟨Nat.le_of_ble_eq_true rfl, Nat.le_of_ble_eq_true rfl⟩ lx_0 rfl rfl (Nat.le_of_ble_eq_true rfl) hnc hns (ctX8_undo l D cA adX F MX) hgX ?_
  refine lw_a2 (pc := 496) C0 dL_law_496 ?_
  refine lw_cm (pc := 497) (As := []) (st := [.int r]) (r := r) (MM' := MM') C0 dL_law_497 mwL_61 vmX9_undo ⟨Nat.le_of_ble_eq_true rfl, Nat.le_of_ble_eq_true rfl⟩ lm_0 rfl rfl (Nat.le_of_ble_eq_true rfl) hnc hns (ctX9_undo l D cA adM F MM) hgM ?_
  refine lw_eqb (pc := 500) (tgt := 1115) C0 dL_law_500 (by decide) ?_
  exact kk MX' MM' hS'
set_option maxRecDepth 100000 in
theorem lw_case11 (C0 : lw_At p s m meth c b L xs) {D : va_G} {cA : Nat → ClassId} {adX adM : Nat → Nat} {F : Nat} {Sim : mv_M → mv_M → Prop} (hL : L ≤ 3072) (hnc : nc ≤ 600000) (hns : ns ≤ 7302250) {j : Nat} (hj : j + 5 < L) (hi : i = nI j) (hSim : Sim MX MM) (hop : ∀ a1 a2 : Int32, ps_ok Sim (fun M => fX8_member F M a1 a2) (fun M => fX9_member F M a1 a2)) (kk : ∀ MX' MM', Sim MX' MM' → lw_L p l e s m below meth c b (D, cA, adX, LX) (D, cA, adM, LM) nc ns 1115 i [] MX' MM') : lw_L p l e s m below meth c b (D, cA, adX, LX) (D, cA, adM, LM) nc ns 505 i [] MX MM := by
  refine lw_a1 (pc := 505) C0 dL_law_505 ?_
  refine lw_arg (pc := 506) (k := 1) (ki := 1) C0 hL hi (by omega) (by decide +kernel) (by decide +kernel) dL_law_506 dL_law_507 dL_law_508 dL_law_509 dL_law_510 ?_
  refine lw_arg (pc := 511) (k := 2) (ki := 2) C0 hL hi (by omega) (by decide +kernel) (by decide +kernel) dL_law_511 dL_law_512 dL_law_513 dL_law_514 dL_law_515 ?_
  obtain ⟨r, MX', MM', hgX, hgM, hS'⟩ := hop (xs (j + 1)) (xs (j + 2)) MX MM hSim
  refine lw_cx (pc := 516) (As := [.int (xs (j + 1)), .int (xs (j + 2))]) (st := []) (r := r) (MX' := MX') C0 dL_law_516 mwL_62 vmX8_member ⟨Nat.le_of_ble_eq_true rfl, Nat.le_of_ble_eq_true rfl⟩ lx_0 rfl rfl (Nat.le_of_ble_eq_true rfl) hnc hns (ctX8_member l D cA adX F MX (xs (j + 1)) (xs (j + 2))) hgX ?_
  refine lw_a2 (pc := 519) C0 dL_law_519 ?_
  refine lw_arg (pc := 520) (k := 1) (ki := 1) C0 hL hi (by omega) (by decide +kernel) (by decide +kernel) dL_law_520 dL_law_521 dL_law_522 dL_law_523 dL_law_524 ?_
  refine lw_arg (pc := 525) (k := 2) (ki := 2) C0 hL hi (by omega) (by decide +kernel) (by decide +kernel) dL_law_525 dL_law_526 dL_law_527 dL_law_528 dL_law_529 ?_
  refine lw_cm (pc := 530) (As := [.int (xs (j + 1)), .int (xs (j + 2))]) (st := [.int r]) (r := r) (MM' := MM') C0 dL_law_530 mwL_65 vmX9_member ⟨Nat.le_of_ble_eq_true rfl, Nat.le_of_ble_eq_true rfl⟩ lm_0 rfl rfl (Nat.le_of_ble_eq_true rfl) hnc hns (ctX9_member l D cA adM F MM (xs (j + 1)) (xs (j + 2))) hgM ?_
  refine lw_eqb (pc := 533) (tgt := 1115) C0 dL_law_533 (by decide) ?_
  exact kk MX' MM' hS'
set_option maxRecDepth 100000 in
theorem lw_case12 (C0 : lw_At p s m meth c b L xs) {D : va_G} {cA : Nat → ClassId} {adX adM : Nat → Nat} {F : Nat} {Sim : mv_M → mv_M → Prop} (hL : L ≤ 3072) (hnc : nc ≤ 600000) (hns : ns ≤ 7302250) {j : Nat} (hj : j + 5 < L) (hi : i = nI j) (hSim : Sim MX MM) (hop : ∀ a1 a2 : Int32, ps_ok Sim (fun M => fX8_type F M a1 a2) (fun M => fX9_type F M a1 a2)) (kk : ∀ MX' MM', Sim MX' MM' → lw_L p l e s m below meth c b (D, cA, adX, LX) (D, cA, adM, LM) nc ns 1115 i [] MX' MM') : lw_L p l e s m below meth c b (D, cA, adX, LX) (D, cA, adM, LM) nc ns 538 i [] MX MM := by
  refine lw_a1 (pc := 538) C0 dL_law_538 ?_
  refine lw_arg (pc := 539) (k := 1) (ki := 1) C0 hL hi (by omega) (by decide +kernel) (by decide +kernel) dL_law_539 dL_law_540 dL_law_541 dL_law_542 dL_law_543 ?_
  refine lw_arg (pc := 544) (k := 2) (ki := 2) C0 hL hi (by omega) (by decide +kernel) (by decide +kernel) dL_law_544 dL_law_545 dL_law_546 dL_law_547 dL_law_548 ?_
  obtain ⟨r, MX', MM', hgX, hgM, hS'⟩ := hop (xs (j + 1)) (xs (j + 2)) MX MM hSim
  refine lw_cx (pc := 549) (As := [.int (xs (j + 1)), .int (xs (j + 2))]) (st := []) (r := r) (MX' := MX') C0 dL_law_549 mwL_66 vmX8_type ⟨Nat.le_of_ble_eq_true rfl, Nat.le_of_ble_eq_true rfl⟩ lx_0 rfl rfl (Nat.le_of_ble_eq_true rfl) hnc hns (ctX8_type l D cA adX F MX (xs (j + 1)) (xs (j + 2))) hgX ?_
  refine lw_a2 (pc := 552) C0 dL_law_552 ?_
  refine lw_arg (pc := 553) (k := 1) (ki := 1) C0 hL hi (by omega) (by decide +kernel) (by decide +kernel) dL_law_553 dL_law_554 dL_law_555 dL_law_556 dL_law_557 ?_
  refine lw_arg (pc := 558) (k := 2) (ki := 2) C0 hL hi (by omega) (by decide +kernel) (by decide +kernel) dL_law_558 dL_law_559 dL_law_560 dL_law_561 dL_law_562 ?_
  refine lw_cm (pc := 563) (As := [.int (xs (j + 1)), .int (xs (j + 2))]) (st := [.int r]) (r := r) (MM' := MM') C0 dL_law_563 mwL_69 vmX9_type ⟨Nat.le_of_ble_eq_true rfl, Nat.le_of_ble_eq_true rfl⟩ lm_0 rfl rfl (Nat.le_of_ble_eq_true rfl) hnc hns (ctX9_type l D cA adM F MM (xs (j + 1)) (xs (j + 2))) hgM ?_
  refine lw_eqb (pc := 566) (tgt := 1115) C0 dL_law_566 (by decide) ?_
  exact kk MX' MM' hS'
set_option maxRecDepth 100000 in
theorem lw_case13 (C0 : lw_At p s m meth c b L xs) {D : va_G} {cA : Nat → ClassId} {adX adM : Nat → Nat} {F : Nat} {Sim : mv_M → mv_M → Prop} (hL : L ≤ 3072) (hnc : nc ≤ 600000) (hns : ns ≤ 7302250) {j : Nat} (hj : j + 5 < L) (hi : i = nI j) (hSim : Sim MX MM) (hop : ∀ a1 a2 : Int32, ps_ok Sim (fun M => fX8_many F M a1 a2) (fun M => fX9_many F M a1 a2)) (kk : ∀ MX' MM', Sim MX' MM' → lw_L p l e s m below meth c b (D, cA, adX, LX) (D, cA, adM, LM) nc ns 1115 i [] MX' MM') : lw_L p l e s m below meth c b (D, cA, adX, LX) (D, cA, adM, LM) nc ns 571 i [] MX MM := by
  refine lw_a1 (pc := 571) C0 dL_law_571 ?_
  refine lw_arg (pc := 572) (k := 1) (ki := 1) C0 hL hi (by omega) (by decide +kernel) (by decide +kernel) dL_law_572 dL_law_573 dL_law_574 dL_law_575 dL_law_576 ?_
  refine lw_arg (pc := 577) (k := 2) (ki := 2) C0 hL hi (by omega) (by decide +kernel) (by decide +kernel) dL_law_577 dL_law_578 dL_law_579 dL_law_580 dL_law_581 ?_
  obtain ⟨r, MX', MM', hgX, hgM, hS'⟩ := hop (xs (j + 1)) (xs (j + 2)) MX MM hSim
  refine lw_cx (pc := 582) (As := [.int (xs (j + 1)), .int (xs (j + 2))]) (st := []) (r := r) (MX' := MX') C0 dL_law_582 mwL_70 vmX8_many ⟨Nat.le_of_ble_eq_true rfl, Nat.le_of_ble_eq_true rfl⟩ lx_0 rfl rfl (Nat.le_of_ble_eq_true rfl) hnc hns (ctX8_many l D cA adX F MX (xs (j + 1)) (xs (j + 2))) hgX ?_
  refine lw_a2 (pc := 585) C0 dL_law_585 ?_
  refine lw_arg (pc := 586) (k := 1) (ki := 1) C0 hL hi (by omega) (by decide +kernel) (by decide +kernel) dL_law_586 dL_law_587 dL_law_588 dL_law_589 dL_law_590 ?_
  refine lw_arg (pc := 591) (k := 2) (ki := 2) C0 hL hi (by omega) (by decide +kernel) (by decide +kernel) dL_law_591 dL_law_592 dL_law_593 dL_law_594 dL_law_595 ?_
  refine lw_cm (pc := 596) (As := [.int (xs (j + 1)), .int (xs (j + 2))]) (st := [.int r]) (r := r) (MM' := MM') C0 dL_law_596 mwL_73 vmX9_many ⟨Nat.le_of_ble_eq_true rfl, Nat.le_of_ble_eq_true rfl⟩ lm_0 rfl rfl (Nat.le_of_ble_eq_true rfl) hnc hns (ctX9_many l D cA adM F MM (xs (j + 1)) (xs (j + 2))) hgM ?_
  refine lw_eqb (pc := 599) (tgt := 1115) C0 dL_law_599 (by decide) ?_
  exact kk MX' MM' hS'
set_option maxRecDepth 100000 in
theorem lw_case14 (C0 : lw_At p s m meth c b L xs) {D : va_G} {cA : Nat → ClassId} {adX adM : Nat → Nat} {F : Nat} {Sim : mv_M → mv_M → Prop} (hL : L ≤ 3072) (hnc : nc ≤ 600000) (hns : ns ≤ 7302250) {j : Nat} (hj : j + 5 < L) (hi : i = nI j) (hSim : Sim MX MM) (hop : ∀ a1 : Int32, ps_ok Sim (fun M => fX8_cheapest F M a1) (fun M => fX9_cheapest F M a1)) (kk : ∀ MX' MM', Sim MX' MM' → lw_L p l e s m below meth c b (D, cA, adX, LX) (D, cA, adM, LM) nc ns 1115 i [] MX' MM') : lw_L p l e s m below meth c b (D, cA, adX, LX) (D, cA, adM, LM) nc ns 604 i [] MX MM := by
  refine lw_a1 (pc := 604) C0 dL_law_604 ?_
  refine lw_arg (pc := 605) (k := 1) (ki := 1) C0 hL hi (by omega) (by decide +kernel) (by decide +kernel) dL_law_605 dL_law_606 dL_law_607 dL_law_608 dL_law_609 ?_
  obtain ⟨r, MX', MM', hgX, hgM, hS'⟩ := hop (xs (j + 1)) MX MM hSim
  refine lw_cx (pc := 610) (As := [.int (xs (j + 1))]) (st := []) (r := r) (MX' := MX') C0 dL_law_610 mwL_74 vmX8_cheapest ⟨Nat.le_of_ble_eq_true rfl, Nat.le_of_ble_eq_true rfl⟩ lx_0 rfl rfl (Nat.le_of_ble_eq_true rfl) hnc hns (ctX8_cheapest l D cA adX F MX (xs (j + 1))) hgX ?_
  refine lw_a2 (pc := 613) C0 dL_law_613 ?_
  refine lw_arg (pc := 614) (k := 1) (ki := 1) C0 hL hi (by omega) (by decide +kernel) (by decide +kernel) dL_law_614 dL_law_615 dL_law_616 dL_law_617 dL_law_618 ?_
  refine lw_cm (pc := 619) (As := [.int (xs (j + 1))]) (st := [.int r]) (r := r) (MM' := MM') C0 dL_law_619 mwL_77 vmX9_cheapest ⟨Nat.le_of_ble_eq_true rfl, Nat.le_of_ble_eq_true rfl⟩ lm_0 rfl rfl (Nat.le_of_ble_eq_true rfl) hnc hns (ctX9_cheapest l D cA adM F MM (xs (j + 1))) hgM ?_
  refine lw_eqb (pc := 622) (tgt := 1115) C0 dL_law_622 (by decide) ?_
  exact kk MX' MM' hS'
set_option maxRecDepth 100000 in
theorem lw_case15 (C0 : lw_At p s m meth c b L xs) {D : va_G} {cA : Nat → ClassId} {adX adM : Nat → Nat} {F : Nat} {Sim : mv_M → mv_M → Prop} (hL : L ≤ 3072) (hnc : nc ≤ 600000) (hns : ns ≤ 7302250) {j : Nat} (hj : j + 5 < L) (hi : i = nI j) (hSim : Sim MX MM) (hop : ∀ a1 a2 a3 : Int32, ps_ok Sim (fun M => fX8_listed F M a1 a2 a3) (fun M => fX9_listed F M a1 a2 a3)) (kk : ∀ MX' MM', Sim MX' MM' → lw_L p l e s m below meth c b (D, cA, adX, LX) (D, cA, adM, LM) nc ns 1115 i [] MX' MM') : lw_L p l e s m below meth c b (D, cA, adX, LX) (D, cA, adM, LM) nc ns 627 i [] MX MM := by
  refine lw_a1 (pc := 627) C0 dL_law_627 ?_
  refine lw_arg (pc := 628) (k := 1) (ki := 1) C0 hL hi (by omega) (by decide +kernel) (by decide +kernel) dL_law_628 dL_law_629 dL_law_630 dL_law_631 dL_law_632 ?_
  refine lw_arg (pc := 633) (k := 2) (ki := 2) C0 hL hi (by omega) (by decide +kernel) (by decide +kernel) dL_law_633 dL_law_634 dL_law_635 dL_law_636 dL_law_637 ?_
  refine lw_arg (pc := 638) (k := 3) (ki := 3) C0 hL hi (by omega) (by decide +kernel) (by decide +kernel) dL_law_638 dL_law_639 dL_law_640 dL_law_641 dL_law_642 ?_
  obtain ⟨r, MX', MM', hgX, hgM, hS'⟩ := hop (xs (j + 1)) (xs (j + 2)) (xs (j + 3)) MX MM hSim
  refine lw_cx (pc := 643) (As := [.int (xs (j + 1)), .int (xs (j + 2)), .int (xs (j + 3))]) (st := []) (r := r) (MX' := MX') C0 dL_law_643 mwL_78 vmX8_listed ⟨Nat.le_of_ble_eq_true rfl, Nat.le_of_ble_eq_true rfl⟩ lx_0 rfl rfl (Nat.le_of_ble_eq_true rfl) hnc hns (ctX8_listed l D cA adX F MX (xs (j + 1)) (xs (j + 2)) (xs (j + 3))) hgX ?_
  refine lw_a2 (pc := 646) C0 dL_law_646 ?_
  refine lw_arg (pc := 647) (k := 1) (ki := 1) C0 hL hi (by omega) (by decide +kernel) (by decide +kernel) dL_law_647 dL_law_648 dL_law_649 dL_law_650 dL_law_651 ?_
  refine lw_arg (pc := 652) (k := 2) (ki := 2) C0 hL hi (by omega) (by decide +kernel) (by decide +kernel) dL_law_652 dL_law_653 dL_law_654 dL_law_655 dL_law_656 ?_
  refine lw_arg (pc := 657) (k := 3) (ki := 3) C0 hL hi (by omega) (by decide +kernel) (by decide +kernel) dL_law_657 dL_law_658 dL_law_659 dL_law_660 dL_law_661 ?_
  refine lw_cm (pc := 662) (As := [.int (xs (j + 1)), .int (xs (j + 2)), .int (xs (j + 3))]) (st := [.int r]) (r := r) (MM' := MM') C0 dL_law_662 mwL_81 vmX9_listed ⟨Nat.le_of_ble_eq_true rfl, Nat.le_of_ble_eq_true rfl⟩ lm_0 rfl rfl (Nat.le_of_ble_eq_true rfl) hnc hns (ctX9_listed l D cA adM F MM (xs (j + 1)) (xs (j + 2)) (xs (j + 3))) hgM ?_
  refine lw_eqb (pc := 665) (tgt := 1115) C0 dL_law_665 (by decide) ?_
  exact kk MX' MM' hS'
set_option maxRecDepth 100000 in
theorem lw_case16 (C0 : lw_At p s m meth c b L xs) {D : va_G} {cA : Nat → ClassId} {adX adM : Nat → Nat} {F : Nat} {Sim : mv_M → mv_M → Prop} (hL : L ≤ 3072) (hnc : nc ≤ 600000) (hns : ns ≤ 7302250) {j : Nat} (hj : j + 5 < L) (hi : i = nI j) (hSim : Sim MX MM) (hop : ∀ a1 a2 a3 a4 : Int32, ps_ok Sim (fun M => fX8_word F M a1 a2 a3 a4) (fun M => fX9_word F M a1 a2 a3 a4)) (kk : ∀ MX' MM', Sim MX' MM' → lw_L p l e s m below meth c b (D, cA, adX, LX) (D, cA, adM, LM) nc ns 1115 i [] MX' MM') : lw_L p l e s m below meth c b (D, cA, adX, LX) (D, cA, adM, LM) nc ns 670 i [] MX MM := by
  refine lw_a1 (pc := 670) C0 dL_law_670 ?_
  refine lw_arg (pc := 671) (k := 1) (ki := 1) C0 hL hi (by omega) (by decide +kernel) (by decide +kernel) dL_law_671 dL_law_672 dL_law_673 dL_law_674 dL_law_675 ?_
  refine lw_arg (pc := 676) (k := 2) (ki := 2) C0 hL hi (by omega) (by decide +kernel) (by decide +kernel) dL_law_676 dL_law_677 dL_law_678 dL_law_679 dL_law_680 ?_
  refine lw_arg (pc := 681) (k := 3) (ki := 3) C0 hL hi (by omega) (by decide +kernel) (by decide +kernel) dL_law_681 dL_law_682 dL_law_683 dL_law_684 dL_law_685 ?_
  refine lw_arg (pc := 686) (k := 4) (ki := 4) C0 hL hi (by omega) (by decide +kernel) (by decide +kernel) dL_law_686 dL_law_687 dL_law_688 dL_law_689 dL_law_690 ?_
  obtain ⟨r, MX', MM', hgX, hgM, hS'⟩ := hop (xs (j + 1)) (xs (j + 2)) (xs (j + 3)) (xs (j + 4)) MX MM hSim
  refine lw_cx (pc := 691) (As := [.int (xs (j + 1)), .int (xs (j + 2)), .int (xs (j + 3)), .int (xs (j + 4))]) (st := []) (r := r) (MX' := MX') C0 dL_law_691 mwL_82 vmX8_word ⟨Nat.le_of_ble_eq_true rfl, Nat.le_of_ble_eq_true rfl⟩ lx_0 rfl rfl (Nat.le_of_ble_eq_true rfl) hnc hns (ctX8_word l D cA adX F MX (xs (j + 1)) (xs (j + 2)) (xs (j + 3)) (xs (j + 4))) hgX ?_
  refine lw_a2 (pc := 694) C0 dL_law_694 ?_
  refine lw_arg (pc := 695) (k := 1) (ki := 1) C0 hL hi (by omega) (by decide +kernel) (by decide +kernel) dL_law_695 dL_law_696 dL_law_697 dL_law_698 dL_law_699 ?_
  refine lw_arg (pc := 700) (k := 2) (ki := 2) C0 hL hi (by omega) (by decide +kernel) (by decide +kernel) dL_law_700 dL_law_701 dL_law_702 dL_law_703 dL_law_704 ?_
  refine lw_arg (pc := 705) (k := 3) (ki := 3) C0 hL hi (by omega) (by decide +kernel) (by decide +kernel) dL_law_705 dL_law_706 dL_law_707 dL_law_708 dL_law_709 ?_
  refine lw_arg (pc := 710) (k := 4) (ki := 4) C0 hL hi (by omega) (by decide +kernel) (by decide +kernel) dL_law_710 dL_law_711 dL_law_712 dL_law_713 dL_law_714 ?_
  refine lw_cm (pc := 715) (As := [.int (xs (j + 1)), .int (xs (j + 2)), .int (xs (j + 3)), .int (xs (j + 4))]) (st := [.int r]) (r := r) (MM' := MM') C0 dL_law_715 mwL_86 vmX9_word ⟨Nat.le_of_ble_eq_true rfl, Nat.le_of_ble_eq_true rfl⟩ lm_0 rfl rfl (Nat.le_of_ble_eq_true rfl) hnc hns (ctX9_word l D cA adM F MM (xs (j + 1)) (xs (j + 2)) (xs (j + 3)) (xs (j + 4))) hgM ?_
  refine lw_eqb (pc := 718) (tgt := 1115) C0 dL_law_718 (by decide) ?_
  exact kk MX' MM' hS'
set_option maxRecDepth 100000 in
theorem lw_case17 (C0 : lw_At p s m meth c b L xs) {D : va_G} {cA : Nat → ClassId} {adX adM : Nat → Nat} {F : Nat} {Sim : mv_M → mv_M → Prop} (hL : L ≤ 3072) (hnc : nc ≤ 600000) (hns : ns ≤ 7302250) {j : Nat} (hj : j + 5 < L) (hi : i = nI j) (hSim : Sim MX MM) (hop : ∀ a1 a2 a3 : Int32, ps_ok Sim (fun M => fX8_place F M a1 a2 a3) (fun M => fX9_place F M a1 a2 a3)) (kk : ∀ MX' MM', Sim MX' MM' → lw_L p l e s m below meth c b (D, cA, adX, LX) (D, cA, adM, LM) nc ns 1115 i [] MX' MM') : lw_L p l e s m below meth c b (D, cA, adX, LX) (D, cA, adM, LM) nc ns 723 i [] MX MM := by
  refine lw_a1 (pc := 723) C0 dL_law_723 ?_
  refine lw_arg (pc := 724) (k := 1) (ki := 1) C0 hL hi (by omega) (by decide +kernel) (by decide +kernel) dL_law_724 dL_law_725 dL_law_726 dL_law_727 dL_law_728 ?_
  refine lw_arg (pc := 729) (k := 2) (ki := 2) C0 hL hi (by omega) (by decide +kernel) (by decide +kernel) dL_law_729 dL_law_730 dL_law_731 dL_law_732 dL_law_733 ?_
  refine lw_arg (pc := 734) (k := 3) (ki := 3) C0 hL hi (by omega) (by decide +kernel) (by decide +kernel) dL_law_734 dL_law_735 dL_law_736 dL_law_737 dL_law_738 ?_
  obtain ⟨r, MX', MM', hgX, hgM, hS'⟩ := hop (xs (j + 1)) (xs (j + 2)) (xs (j + 3)) MX MM hSim
  refine lw_cx (pc := 739) (As := [.int (xs (j + 1)), .int (xs (j + 2)), .int (xs (j + 3))]) (st := []) (r := r) (MX' := MX') C0 dL_law_739 mwL_87 vmX8_place ⟨Nat.le_of_ble_eq_true rfl, Nat.le_of_ble_eq_true rfl⟩ lx_0 rfl rfl (Nat.le_of_ble_eq_true rfl) hnc hns (ctX8_place l D cA adX F MX (xs (j + 1)) (xs (j + 2)) (xs (j + 3))) hgX ?_
  refine lw_a2 (pc := 742) C0 dL_law_742 ?_
  refine lw_arg (pc := 743) (k := 1) (ki := 1) C0 hL hi (by omega) (by decide +kernel) (by decide +kernel) dL_law_743 dL_law_744 dL_law_745 dL_law_746 dL_law_747 ?_
  refine lw_arg (pc := 748) (k := 2) (ki := 2) C0 hL hi (by omega) (by decide +kernel) (by decide +kernel) dL_law_748 dL_law_749 dL_law_750 dL_law_751 dL_law_752 ?_
  refine lw_arg (pc := 753) (k := 3) (ki := 3) C0 hL hi (by omega) (by decide +kernel) (by decide +kernel) dL_law_753 dL_law_754 dL_law_755 dL_law_756 dL_law_757 ?_
  refine lw_cm (pc := 758) (As := [.int (xs (j + 1)), .int (xs (j + 2)), .int (xs (j + 3))]) (st := [.int r]) (r := r) (MM' := MM') C0 dL_law_758 mwL_90 vmX9_place ⟨Nat.le_of_ble_eq_true rfl, Nat.le_of_ble_eq_true rfl⟩ lm_0 rfl rfl (Nat.le_of_ble_eq_true rfl) hnc hns (ctX9_place l D cA adM F MM (xs (j + 1)) (xs (j + 2)) (xs (j + 3))) hgM ?_
  refine lw_eqb (pc := 761) (tgt := 1115) C0 dL_law_761 (by decide) ?_
  exact kk MX' MM' hS'
set_option maxRecDepth 100000 in
theorem lw_case18 (C0 : lw_At p s m meth c b L xs) {D : va_G} {cA : Nat → ClassId} {adX adM : Nat → Nat} {F : Nat} {Sim : mv_M → mv_M → Prop} (hL : L ≤ 3072) (hnc : nc ≤ 600000) (hns : ns ≤ 7302250) {j : Nat} (hj : j + 5 < L) (hi : i = nI j) (hSim : Sim MX MM) (hop : ps_ok Sim (fun M => fX8_had F M) (fun M => fX9_had F M)) (kk : ∀ MX' MM', Sim MX' MM' → lw_L p l e s m below meth c b (D, cA, adX, LX) (D, cA, adM, LM) nc ns 1115 i [] MX' MM') : lw_L p l e s m below meth c b (D, cA, adX, LX) (D, cA, adM, LM) nc ns 766 i [] MX MM := by
  refine lw_a1 (pc := 766) C0 dL_law_766 ?_
  obtain ⟨r, MX', MM', hgX, hgM, hS'⟩ := hop MX MM hSim
  refine lw_cx (pc := 767) (As := []) (st := []) (r := r) (MX' := MX') C0 dL_law_767 mwL_91 vmX8_had ⟨Nat.le_of_ble_eq_true rfl, Nat.le_of_ble_eq_true rfl⟩ lx_0 rfl rfl (Nat.le_of_ble_eq_true rfl) hnc hns (ctX8_had l D cA adX F MX) hgX ?_
  refine lw_a2 (pc := 770) C0 dL_law_770 ?_
  refine lw_cm (pc := 771) (As := []) (st := [.int r]) (r := r) (MM' := MM') C0 dL_law_771 mwL_94 vmX9_had ⟨Nat.le_of_ble_eq_true rfl, Nat.le_of_ble_eq_true rfl⟩ lm_0 rfl rfl (Nat.le_of_ble_eq_true rfl) hnc hns (ctX9_had l D cA adM F MM) hgM ?_
  refine lw_eqb (pc := 774) (tgt := 1115) C0 dL_law_774 (by decide) ?_
  exact kk MX' MM' hS'
set_option maxRecDepth 100000 in
theorem lw_case19 (C0 : lw_At p s m meth c b L xs) {D : va_G} {cA : Nat → ClassId} {adX adM : Nat → Nat} {F : Nat} {Sim : mv_M → mv_M → Prop} (hL : L ≤ 3072) (hnc : nc ≤ 600000) (hns : ns ≤ 7302250) {j : Nat} (hj : j + 5 < L) (hi : i = nI j) (hSim : Sim MX MM) (hop : ∀ a1 : Int32, ps_ok Sim (fun M => fX8_needed F M a1) (fun M => fX9_needed F M a1)) (kk : ∀ MX' MM', Sim MX' MM' → lw_L p l e s m below meth c b (D, cA, adX, LX) (D, cA, adM, LM) nc ns 1115 i [] MX' MM') : lw_L p l e s m below meth c b (D, cA, adX, LX) (D, cA, adM, LM) nc ns 779 i [] MX MM := by
  refine lw_a1 (pc := 779) C0 dL_law_779 ?_
  refine lw_arg (pc := 780) (k := 1) (ki := 1) C0 hL hi (by omega) (by decide +kernel) (by decide +kernel) dL_law_780 dL_law_781 dL_law_782 dL_law_783 dL_law_784 ?_
  obtain ⟨r, MX', MM', hgX, hgM, hS'⟩ := hop (xs (j + 1)) MX MM hSim
  refine lw_cx (pc := 785) (As := [.int (xs (j + 1))]) (st := []) (r := r) (MX' := MX') C0 dL_law_785 mwL_95 vmX8_needed ⟨Nat.le_of_ble_eq_true rfl, Nat.le_of_ble_eq_true rfl⟩ lx_0 rfl rfl (Nat.le_of_ble_eq_true rfl) hnc hns (ctX8_needed l D cA adX F MX (xs (j + 1))) hgX ?_
  refine lw_a2 (pc := 788) C0 dL_law_788 ?_
  refine lw_arg (pc := 789) (k := 1) (ki := 1) C0 hL hi (by omega) (by decide +kernel) (by decide +kernel) dL_law_789 dL_law_790 dL_law_791 dL_law_792 dL_law_793 ?_
  refine lw_cm (pc := 794) (As := [.int (xs (j + 1))]) (st := [.int r]) (r := r) (MM' := MM') C0 dL_law_794 mwL_98 vmX9_needed ⟨Nat.le_of_ble_eq_true rfl, Nat.le_of_ble_eq_true rfl⟩ lm_0 rfl rfl (Nat.le_of_ble_eq_true rfl) hnc hns (ctX9_needed l D cA adM F MM (xs (j + 1))) hgM ?_
  refine lw_eqb (pc := 797) (tgt := 1115) C0 dL_law_797 (by decide) ?_
  exact kk MX' MM' hS'
set_option maxRecDepth 100000 in
theorem lw_case20 (C0 : lw_At p s m meth c b L xs) {D : va_G} {cA : Nat → ClassId} {adX adM : Nat → Nat} {F : Nat} {Sim : mv_M → mv_M → Prop} (hL : L ≤ 3072) (hnc : nc ≤ 600000) (hns : ns ≤ 7302250) {j : Nat} (hj : j + 5 < L) (hi : i = nI j) (hSim : Sim MX MM) (hop : ∀ a1 a2 : Int32, ps_ok Sim (fun M => fX8_without F M a1 a2) (fun M => fX9_without F M a1 a2)) (kk : ∀ MX' MM', Sim MX' MM' → lw_L p l e s m below meth c b (D, cA, adX, LX) (D, cA, adM, LM) nc ns 1115 i [] MX' MM') : lw_L p l e s m below meth c b (D, cA, adX, LX) (D, cA, adM, LM) nc ns 802 i [] MX MM := by
  refine lw_a1 (pc := 802) C0 dL_law_802 ?_
  refine lw_arg (pc := 803) (k := 1) (ki := 1) C0 hL hi (by omega) (by decide +kernel) (by decide +kernel) dL_law_803 dL_law_804 dL_law_805 dL_law_806 dL_law_807 ?_
  refine lw_arg (pc := 808) (k := 2) (ki := 2) C0 hL hi (by omega) (by decide +kernel) (by decide +kernel) dL_law_808 dL_law_809 dL_law_810 dL_law_811 dL_law_812 ?_
  obtain ⟨r, MX', MM', hgX, hgM, hS'⟩ := hop (xs (j + 1)) (xs (j + 2)) MX MM hSim
  refine lw_cx (pc := 813) (As := [.int (xs (j + 1)), .int (xs (j + 2))]) (st := []) (r := r) (MX' := MX') C0 dL_law_813 mwL_99 vmX8_without ⟨Nat.le_of_ble_eq_true rfl, Nat.le_of_ble_eq_true rfl⟩ lx_0 rfl rfl (Nat.le_of_ble_eq_true rfl) hnc hns (ctX8_without l D cA adX F MX (xs (j + 1)) (xs (j + 2))) hgX ?_
  refine lw_a2 (pc := 816) C0 dL_law_816 ?_
  refine lw_arg (pc := 817) (k := 1) (ki := 1) C0 hL hi (by omega) (by decide +kernel) (by decide +kernel) dL_law_817 dL_law_818 dL_law_819 dL_law_820 dL_law_821 ?_
  refine lw_arg (pc := 822) (k := 2) (ki := 2) C0 hL hi (by omega) (by decide +kernel) (by decide +kernel) dL_law_822 dL_law_823 dL_law_824 dL_law_825 dL_law_826 ?_
  refine lw_cm (pc := 827) (As := [.int (xs (j + 1)), .int (xs (j + 2))]) (st := [.int r]) (r := r) (MM' := MM') C0 dL_law_827 mwL_102 vmX9_without ⟨Nat.le_of_ble_eq_true rfl, Nat.le_of_ble_eq_true rfl⟩ lm_0 rfl rfl (Nat.le_of_ble_eq_true rfl) hnc hns (ctX9_without l D cA adM F MM (xs (j + 1)) (xs (j + 2))) hgM ?_
  refine lw_eqb (pc := 830) (tgt := 1115) C0 dL_law_830 (by decide) ?_
  exact kk MX' MM' hS'
set_option maxRecDepth 100000 in
theorem lw_case21 (C0 : lw_At p s m meth c b L xs) {D : va_G} {cA : Nat → ClassId} {adX adM : Nat → Nat} {F : Nat} {Sim : mv_M → mv_M → Prop} (hL : L ≤ 3072) (hnc : nc ≤ 600000) (hns : ns ≤ 7302250) {j : Nat} (hj : j + 5 < L) (hi : i = nI j) (hSim : Sim MX MM) (hop : ∀ a1 a2 : Int32, ps_ok Sim (fun M => fX8_share F M a1 a2) (fun M => fX9_share F M a1 a2)) (kk : ∀ MX' MM', Sim MX' MM' → lw_L p l e s m below meth c b (D, cA, adX, LX) (D, cA, adM, LM) nc ns 1115 i [] MX' MM') : lw_L p l e s m below meth c b (D, cA, adX, LX) (D, cA, adM, LM) nc ns 835 i [] MX MM := by
  refine lw_a1 (pc := 835) C0 dL_law_835 ?_
  refine lw_arg (pc := 836) (k := 1) (ki := 1) C0 hL hi (by omega) (by decide +kernel) (by decide +kernel) dL_law_836 dL_law_837 dL_law_838 dL_law_839 dL_law_840 ?_
  refine lw_arg (pc := 841) (k := 2) (ki := 2) C0 hL hi (by omega) (by decide +kernel) (by decide +kernel) dL_law_841 dL_law_842 dL_law_843 dL_law_844 dL_law_845 ?_
  obtain ⟨r, MX', MM', hgX, hgM, hS'⟩ := hop (xs (j + 1)) (xs (j + 2)) MX MM hSim
  refine lw_cx (pc := 846) (As := [.int (xs (j + 1)), .int (xs (j + 2))]) (st := []) (r := r) (MX' := MX') C0 dL_law_846 mwL_103 vmX8_share ⟨Nat.le_of_ble_eq_true rfl, Nat.le_of_ble_eq_true rfl⟩ lx_0 rfl rfl (Nat.le_of_ble_eq_true rfl) hnc hns (ctX8_share l D cA adX F MX (xs (j + 1)) (xs (j + 2))) hgX ?_
  refine lw_a2 (pc := 849) C0 dL_law_849 ?_
  refine lw_arg (pc := 850) (k := 1) (ki := 1) C0 hL hi (by omega) (by decide +kernel) (by decide +kernel) dL_law_850 dL_law_851 dL_law_852 dL_law_853 dL_law_854 ?_
  refine lw_arg (pc := 855) (k := 2) (ki := 2) C0 hL hi (by omega) (by decide +kernel) (by decide +kernel) dL_law_855 dL_law_856 dL_law_857 dL_law_858 dL_law_859 ?_
  refine lw_cm (pc := 860) (As := [.int (xs (j + 1)), .int (xs (j + 2))]) (st := [.int r]) (r := r) (MM' := MM') C0 dL_law_860 mwL_106 vmX9_share ⟨Nat.le_of_ble_eq_true rfl, Nat.le_of_ble_eq_true rfl⟩ lm_0 rfl rfl (Nat.le_of_ble_eq_true rfl) hnc hns (ctX9_share l D cA adM F MM (xs (j + 1)) (xs (j + 2))) hgM ?_
  refine lw_eqb (pc := 863) (tgt := 1115) C0 dL_law_863 (by decide) ?_
  exact kk MX' MM' hS'
set_option maxRecDepth 100000 in
theorem lw_case22 (C0 : lw_At p s m meth c b L xs) {D : va_G} {cA : Nat → ClassId} {adX adM : Nat → Nat} {F : Nat} {Sim : mv_M → mv_M → Prop} (hL : L ≤ 3072) (hnc : nc ≤ 600000) (hns : ns ≤ 7302250) {j : Nat} (hj : j + 5 < L) (hi : i = nI j) (hSim : Sim MX MM) (hop : ∀ a1 a2 a3 a4 : Int32, ps_ok Sim (fun M => fX8_drawn F M a1 a2 a3 a4) (fun M => fX9_drawn F M a1 a2 a3 a4)) (kk : ∀ MX' MM', Sim MX' MM' → lw_L p l e s m below meth c b (D, cA, adX, LX) (D, cA, adM, LM) nc ns 1115 i [] MX' MM') : lw_L p l e s m below meth c b (D, cA, adX, LX) (D, cA, adM, LM) nc ns 868 i [] MX MM := by
  refine lw_a1 (pc := 868) C0 dL_law_868 ?_
  refine lw_arg (pc := 869) (k := 1) (ki := 1) C0 hL hi (by omega) (by decide +kernel) (by decide +kernel) dL_law_869 dL_law_870 dL_law_871 dL_law_872 dL_law_873 ?_
  refine lw_arg (pc := 874) (k := 2) (ki := 2) C0 hL hi (by omega) (by decide +kernel) (by decide +kernel) dL_law_874 dL_law_875 dL_law_876 dL_law_877 dL_law_878 ?_
  refine lw_arg (pc := 879) (k := 3) (ki := 3) C0 hL hi (by omega) (by decide +kernel) (by decide +kernel) dL_law_879 dL_law_880 dL_law_881 dL_law_882 dL_law_883 ?_
  refine lw_arg (pc := 884) (k := 4) (ki := 4) C0 hL hi (by omega) (by decide +kernel) (by decide +kernel) dL_law_884 dL_law_885 dL_law_886 dL_law_887 dL_law_888 ?_
  obtain ⟨r, MX', MM', hgX, hgM, hS'⟩ := hop (xs (j + 1)) (xs (j + 2)) (xs (j + 3)) (xs (j + 4)) MX MM hSim
  refine lw_cx (pc := 889) (As := [.int (xs (j + 1)), .int (xs (j + 2)), .int (xs (j + 3)), .int (xs (j + 4))]) (st := []) (r := r) (MX' := MX') C0 dL_law_889 mwL_107 vmX8_drawn ⟨Nat.le_of_ble_eq_true rfl, Nat.le_of_ble_eq_true rfl⟩ lx_0 rfl rfl (Nat.le_of_ble_eq_true rfl) hnc hns (ctX8_drawn l D cA adX F MX (xs (j + 1)) (xs (j + 2)) (xs (j + 3)) (xs (j + 4))) hgX ?_
  refine lw_a2 (pc := 892) C0 dL_law_892 ?_
  refine lw_arg (pc := 893) (k := 1) (ki := 1) C0 hL hi (by omega) (by decide +kernel) (by decide +kernel) dL_law_893 dL_law_894 dL_law_895 dL_law_896 dL_law_897 ?_
  refine lw_arg (pc := 898) (k := 2) (ki := 2) C0 hL hi (by omega) (by decide +kernel) (by decide +kernel) dL_law_898 dL_law_899 dL_law_900 dL_law_901 dL_law_902 ?_
  refine lw_arg (pc := 903) (k := 3) (ki := 3) C0 hL hi (by omega) (by decide +kernel) (by decide +kernel) dL_law_903 dL_law_904 dL_law_905 dL_law_906 dL_law_907 ?_
  refine lw_arg (pc := 908) (k := 4) (ki := 4) C0 hL hi (by omega) (by decide +kernel) (by decide +kernel) dL_law_908 dL_law_909 dL_law_910 dL_law_911 dL_law_912 ?_
  refine lw_cm (pc := 913) (As := [.int (xs (j + 1)), .int (xs (j + 2)), .int (xs (j + 3)), .int (xs (j + 4))]) (st := [.int r]) (r := r) (MM' := MM') C0 dL_law_913 mwL_110 vmX9_drawn ⟨Nat.le_of_ble_eq_true rfl, Nat.le_of_ble_eq_true rfl⟩ lm_0 rfl rfl (Nat.le_of_ble_eq_true rfl) hnc hns (ctX9_drawn l D cA adM F MM (xs (j + 1)) (xs (j + 2)) (xs (j + 3)) (xs (j + 4))) hgM ?_
  refine lw_eqb (pc := 916) (tgt := 1115) C0 dL_law_916 (by decide) ?_
  exact kk MX' MM' hS'
set_option maxRecDepth 100000 in
theorem lw_case23 (C0 : lw_At p s m meth c b L xs) {D : va_G} {cA : Nat → ClassId} {adX adM : Nat → Nat} {F : Nat} {Sim : mv_M → mv_M → Prop} (hL : L ≤ 3072) (hnc : nc ≤ 600000) (hns : ns ≤ 7302250) {j : Nat} (hj : j + 5 < L) (hi : i = nI j) (hSim : Sim MX MM) (hop : ∀ a1 : Int32, ps_ok Sim (fun M => fX8_image F M a1) (fun M => fX9_image F M a1)) (kk : ∀ MX' MM', Sim MX' MM' → lw_L p l e s m below meth c b (D, cA, adX, LX) (D, cA, adM, LM) nc ns 1115 i [] MX' MM') : lw_L p l e s m below meth c b (D, cA, adX, LX) (D, cA, adM, LM) nc ns 921 i [] MX MM := by
  refine lw_a1 (pc := 921) C0 dL_law_921 ?_
  refine lw_arg (pc := 922) (k := 1) (ki := 1) C0 hL hi (by omega) (by decide +kernel) (by decide +kernel) dL_law_922 dL_law_923 dL_law_924 dL_law_925 dL_law_926 ?_
  obtain ⟨r, MX', MM', hgX, hgM, hS'⟩ := hop (xs (j + 1)) MX MM hSim
  refine lw_cx (pc := 927) (As := [.int (xs (j + 1))]) (st := []) (r := r) (MX' := MX') C0 dL_law_927 mwL_111 vmX8_image ⟨Nat.le_of_ble_eq_true rfl, Nat.le_of_ble_eq_true rfl⟩ lx_0 rfl rfl (Nat.le_of_ble_eq_true rfl) hnc hns (ctX8_image l D cA adX F MX (xs (j + 1))) hgX ?_
  refine lw_a2 (pc := 930) C0 dL_law_930 ?_
  refine lw_arg (pc := 931) (k := 1) (ki := 1) C0 hL hi (by omega) (by decide +kernel) (by decide +kernel) dL_law_931 dL_law_932 dL_law_933 dL_law_934 dL_law_935 ?_
  refine lw_cm (pc := 936) (As := [.int (xs (j + 1))]) (st := [.int r]) (r := r) (MM' := MM') C0 dL_law_936 mwL_114 vmX9_image ⟨Nat.le_of_ble_eq_true rfl, Nat.le_of_ble_eq_true rfl⟩ lm_0 rfl rfl (Nat.le_of_ble_eq_true rfl) hnc hns (ctX9_image l D cA adM F MM (xs (j + 1))) hgM ?_
  refine lw_eqb (pc := 939) (tgt := 1115) C0 dL_law_939 (by decide) ?_
  exact kk MX' MM' hS'
set_option maxRecDepth 100000 in
theorem lw_case24 (C0 : lw_At p s m meth c b L xs) {D : va_G} {cA : Nat → ClassId} {adX adM : Nat → Nat} {F : Nat} {Sim : mv_M → mv_M → Prop} (hL : L ≤ 3072) (hnc : nc ≤ 600000) (hns : ns ≤ 7302250) {j : Nat} (hj : j + 5 < L) (hi : i = nI j) (hSim : Sim MX MM) (hop : ∀ a1 : Int32, ps_ok Sim (fun M => fX8_restore F M a1) (fun M => fX9_restore F M a1)) (kk : ∀ MX' MM', Sim MX' MM' → lw_L p l e s m below meth c b (D, cA, adX, LX) (D, cA, adM, LM) nc ns 1115 i [] MX' MM') : lw_L p l e s m below meth c b (D, cA, adX, LX) (D, cA, adM, LM) nc ns 944 i [] MX MM := by
  refine lw_a1 (pc := 944) C0 dL_law_944 ?_
  refine lw_arg (pc := 945) (k := 1) (ki := 1) C0 hL hi (by omega) (by decide +kernel) (by decide +kernel) dL_law_945 dL_law_946 dL_law_947 dL_law_948 dL_law_949 ?_
  obtain ⟨r, MX', MM', hgX, hgM, hS'⟩ := hop (xs (j + 1)) MX MM hSim
  refine lw_cx (pc := 950) (As := [.int (xs (j + 1))]) (st := []) (r := r) (MX' := MX') C0 dL_law_950 mwL_115 vmX8_restore ⟨Nat.le_of_ble_eq_true rfl, Nat.le_of_ble_eq_true rfl⟩ lx_0 rfl rfl (Nat.le_of_ble_eq_true rfl) hnc hns (ctX8_restore l D cA adX F MX (xs (j + 1))) hgX ?_
  refine lw_a2 (pc := 953) C0 dL_law_953 ?_
  refine lw_arg (pc := 954) (k := 1) (ki := 1) C0 hL hi (by omega) (by decide +kernel) (by decide +kernel) dL_law_954 dL_law_955 dL_law_956 dL_law_957 dL_law_958 ?_
  refine lw_cm (pc := 959) (As := [.int (xs (j + 1))]) (st := [.int r]) (r := r) (MM' := MM') C0 dL_law_959 mwL_118 vmX9_restore ⟨Nat.le_of_ble_eq_true rfl, Nat.le_of_ble_eq_true rfl⟩ lm_0 rfl rfl (Nat.le_of_ble_eq_true rfl) hnc hns (ctX9_restore l D cA adM F MM (xs (j + 1))) hgM ?_
  refine lw_eqb (pc := 962) (tgt := 1115) C0 dL_law_962 (by decide) ?_
  exact kk MX' MM' hS'
set_option maxRecDepth 100000 in
theorem lw_case25 (C0 : lw_At p s m meth c b L xs) {D : va_G} {cA : Nat → ClassId} {adX adM : Nat → Nat} {F : Nat} {Sim : mv_M → mv_M → Prop} (hL : L ≤ 3072) (hnc : nc ≤ 600000) (hns : ns ≤ 7302250) {j : Nat} (hj : j + 5 < L) (hi : i = nI j) (hSim : Sim MX MM) (hop : ∀ a1 : Int32, ps_ok Sim (fun M => fX8_kind F M a1) (fun M => fX9_kind F M a1)) (kk : ∀ MX' MM', Sim MX' MM' → lw_L p l e s m below meth c b (D, cA, adX, LX) (D, cA, adM, LM) nc ns 1115 i [] MX' MM') : lw_L p l e s m below meth c b (D, cA, adX, LX) (D, cA, adM, LM) nc ns 967 i [] MX MM := by
  refine lw_a1 (pc := 967) C0 dL_law_967 ?_
  refine lw_arg (pc := 968) (k := 1) (ki := 1) C0 hL hi (by omega) (by decide +kernel) (by decide +kernel) dL_law_968 dL_law_969 dL_law_970 dL_law_971 dL_law_972 ?_
  obtain ⟨r, MX', MM', hgX, hgM, hS'⟩ := hop (xs (j + 1)) MX MM hSim
  refine lw_cx (pc := 973) (As := [.int (xs (j + 1))]) (st := []) (r := r) (MX' := MX') C0 dL_law_973 mwL_119 vmX8_kind ⟨Nat.le_of_ble_eq_true rfl, Nat.le_of_ble_eq_true rfl⟩ lx_0 rfl rfl (Nat.le_of_ble_eq_true rfl) hnc hns (ctX8_kind l D cA adX F MX (xs (j + 1))) hgX ?_
  refine lw_a2 (pc := 976) C0 dL_law_976 ?_
  refine lw_arg (pc := 977) (k := 1) (ki := 1) C0 hL hi (by omega) (by decide +kernel) (by decide +kernel) dL_law_977 dL_law_978 dL_law_979 dL_law_980 dL_law_981 ?_
  refine lw_cm (pc := 982) (As := [.int (xs (j + 1))]) (st := [.int r]) (r := r) (MM' := MM') C0 dL_law_982 mwL_122 vmX9_kind ⟨Nat.le_of_ble_eq_true rfl, Nat.le_of_ble_eq_true rfl⟩ lm_0 rfl rfl (Nat.le_of_ble_eq_true rfl) hnc hns (ctX9_kind l D cA adM F MM (xs (j + 1))) hgM ?_
  refine lw_eqb (pc := 985) (tgt := 1115) C0 dL_law_985 (by decide) ?_
  exact kk MX' MM' hS'
set_option maxRecDepth 100000 in
theorem lw_case26 (C0 : lw_At p s m meth c b L xs) {D : va_G} {cA : Nat → ClassId} {adX adM : Nat → Nat} {F : Nat} {Sim : mv_M → mv_M → Prop} (hL : L ≤ 3072) (hnc : nc ≤ 600000) (hns : ns ≤ 7302250) {j : Nat} (hj : j + 5 < L) (hi : i = nI j) (hSim : Sim MX MM) (hop : ∀ a1 a2 : Int32, ps_ok Sim (fun M => fX8_as F M a1 a2) (fun M => fX9_as F M a1 a2)) (kk : ∀ MX' MM', Sim MX' MM' → lw_L p l e s m below meth c b (D, cA, adX, LX) (D, cA, adM, LM) nc ns 1115 i [] MX' MM') : lw_L p l e s m below meth c b (D, cA, adX, LX) (D, cA, adM, LM) nc ns 990 i [] MX MM := by
  refine lw_a1 (pc := 990) C0 dL_law_990 ?_
  refine lw_arg (pc := 991) (k := 1) (ki := 1) C0 hL hi (by omega) (by decide +kernel) (by decide +kernel) dL_law_991 dL_law_992 dL_law_993 dL_law_994 dL_law_995 ?_
  refine lw_arg (pc := 996) (k := 2) (ki := 2) C0 hL hi (by omega) (by decide +kernel) (by decide +kernel) dL_law_996 dL_law_997 dL_law_998 dL_law_999 dL_law_1000 ?_
  obtain ⟨r, MX', MM', hgX, hgM, hS'⟩ := hop (xs (j + 1)) (xs (j + 2)) MX MM hSim
  refine lw_cx (pc := 1001) (As := [.int (xs (j + 1)), .int (xs (j + 2))]) (st := []) (r := r) (MX' := MX') C0 dL_law_1001 mwL_123 vmX8_as ⟨Nat.le_of_ble_eq_true rfl, Nat.le_of_ble_eq_true rfl⟩ lx_0 rfl rfl (Nat.le_of_ble_eq_true rfl) hnc hns (ctX8_as l D cA adX F MX (xs (j + 1)) (xs (j + 2))) hgX ?_
  refine lw_a2 (pc := 1004) C0 dL_law_1004 ?_
  refine lw_arg (pc := 1005) (k := 1) (ki := 1) C0 hL hi (by omega) (by decide +kernel) (by decide +kernel) dL_law_1005 dL_law_1006 dL_law_1007 dL_law_1008 dL_law_1009 ?_
  refine lw_arg (pc := 1010) (k := 2) (ki := 2) C0 hL hi (by omega) (by decide +kernel) (by decide +kernel) dL_law_1010 dL_law_1011 dL_law_1012 dL_law_1013 dL_law_1014 ?_
  refine lw_cm (pc := 1015) (As := [.int (xs (j + 1)), .int (xs (j + 2))]) (st := [.int r]) (r := r) (MM' := MM') C0 dL_law_1015 mwL_126 vmX9_as ⟨Nat.le_of_ble_eq_true rfl, Nat.le_of_ble_eq_true rfl⟩ lm_0 rfl rfl (Nat.le_of_ble_eq_true rfl) hnc hns (ctX9_as l D cA adM F MM (xs (j + 1)) (xs (j + 2))) hgM ?_
  refine lw_eqb (pc := 1018) (tgt := 1115) C0 dL_law_1018 (by decide) ?_
  exact kk MX' MM' hS'
set_option maxRecDepth 100000 in
theorem lw_case27 (C0 : lw_At p s m meth c b L xs) {D : va_G} {cA : Nat → ClassId} {adX adM : Nat → Nat} {F : Nat} {Sim : mv_M → mv_M → Prop} (hL : L ≤ 3072) (hnc : nc ≤ 600000) (hns : ns ≤ 7302250) {j : Nat} (hj : j + 5 < L) (hi : i = nI j) (hSim : Sim MX MM) (hop : ∀ a1 a2 : Int32, ps_ok Sim (fun M => fX8_ask F M a1 a2) (fun M => fX9_ask F M a1 a2)) (kk : ∀ MX' MM', Sim MX' MM' → lw_L p l e s m below meth c b (D, cA, adX, LX) (D, cA, adM, LM) nc ns 1115 i [] MX' MM') : lw_L p l e s m below meth c b (D, cA, adX, LX) (D, cA, adM, LM) nc ns 1023 i [] MX MM := by
  refine lw_a1 (pc := 1023) C0 dL_law_1023 ?_
  refine lw_arg (pc := 1024) (k := 1) (ki := 1) C0 hL hi (by omega) (by decide +kernel) (by decide +kernel) dL_law_1024 dL_law_1025 dL_law_1026 dL_law_1027 dL_law_1028 ?_
  refine lw_arg (pc := 1029) (k := 2) (ki := 2) C0 hL hi (by omega) (by decide +kernel) (by decide +kernel) dL_law_1029 dL_law_1030 dL_law_1031 dL_law_1032 dL_law_1033 ?_
  obtain ⟨r, MX', MM', hgX, hgM, hS'⟩ := hop (xs (j + 1)) (xs (j + 2)) MX MM hSim
  refine lw_cx (pc := 1034) (As := [.int (xs (j + 1)), .int (xs (j + 2))]) (st := []) (r := r) (MX' := MX') C0 dL_law_1034 mwL_127 vmX8_ask ⟨Nat.le_of_ble_eq_true rfl, Nat.le_of_ble_eq_true rfl⟩ lx_0 rfl rfl (Nat.le_of_ble_eq_true rfl) hnc hns (ctX8_ask l D cA adX F MX (xs (j + 1)) (xs (j + 2))) hgX ?_
  refine lw_a2 (pc := 1037) C0 dL_law_1037 ?_
  refine lw_arg (pc := 1038) (k := 1) (ki := 1) C0 hL hi (by omega) (by decide +kernel) (by decide +kernel) dL_law_1038 dL_law_1039 dL_law_1040 dL_law_1041 dL_law_1042 ?_
  refine lw_arg (pc := 1043) (k := 2) (ki := 2) C0 hL hi (by omega) (by decide +kernel) (by decide +kernel) dL_law_1043 dL_law_1044 dL_law_1045 dL_law_1046 dL_law_1047 ?_
  refine lw_cm (pc := 1048) (As := [.int (xs (j + 1)), .int (xs (j + 2))]) (st := [.int r]) (r := r) (MM' := MM') C0 dL_law_1048 mwL_130 vmX9_ask ⟨Nat.le_of_ble_eq_true rfl, Nat.le_of_ble_eq_true rfl⟩ lm_0 rfl rfl (Nat.le_of_ble_eq_true rfl) hnc hns (ctX9_ask l D cA adM F MM (xs (j + 1)) (xs (j + 2))) hgM ?_
  refine lw_eqb (pc := 1051) (tgt := 1115) C0 dL_law_1051 (by decide) ?_
  exact kk MX' MM' hS'
set_option maxRecDepth 100000 in
theorem lw_case28 (C0 : lw_At p s m meth c b L xs) {D : va_G} {cA : Nat → ClassId} {adX adM : Nat → Nat} {F : Nat} {Sim : mv_M → mv_M → Prop} (hL : L ≤ 3072) (hnc : nc ≤ 600000) (hns : ns ≤ 7302250) {j : Nat} (hj : j + 5 < L) (hi : i = nI j) (hSim : Sim MX MM) (hop : ∀ a1 : Int32, ps_ok Sim (fun M => fX8_trace F M a1) (fun M => fX9_trace F M a1)) (kk : ∀ MX' MM', Sim MX' MM' → lw_L p l e s m below meth c b (D, cA, adX, LX) (D, cA, adM, LM) nc ns 1115 i [] MX' MM') : lw_L p l e s m below meth c b (D, cA, adX, LX) (D, cA, adM, LM) nc ns 1056 i [] MX MM := by
  refine lw_a1 (pc := 1056) C0 dL_law_1056 ?_
  refine lw_arg (pc := 1057) (k := 1) (ki := 1) C0 hL hi (by omega) (by decide +kernel) (by decide +kernel) dL_law_1057 dL_law_1058 dL_law_1059 dL_law_1060 dL_law_1061 ?_
  obtain ⟨r, MX', MM', hgX, hgM, hS'⟩ := hop (xs (j + 1)) MX MM hSim
  refine lw_cx (pc := 1062) (As := [.int (xs (j + 1))]) (st := []) (r := r) (MX' := MX') C0 dL_law_1062 mwL_131 vmX8_trace ⟨Nat.le_of_ble_eq_true rfl, Nat.le_of_ble_eq_true rfl⟩ lx_0 rfl rfl (Nat.le_of_ble_eq_true rfl) hnc hns (ctX8_trace l D cA adX F MX (xs (j + 1))) hgX ?_
  refine lw_a2 (pc := 1065) C0 dL_law_1065 ?_
  refine lw_arg (pc := 1066) (k := 1) (ki := 1) C0 hL hi (by omega) (by decide +kernel) (by decide +kernel) dL_law_1066 dL_law_1067 dL_law_1068 dL_law_1069 dL_law_1070 ?_
  refine lw_cm (pc := 1071) (As := [.int (xs (j + 1))]) (st := [.int r]) (r := r) (MM' := MM') C0 dL_law_1071 mwL_134 vmX9_trace ⟨Nat.le_of_ble_eq_true rfl, Nat.le_of_ble_eq_true rfl⟩ lm_0 rfl rfl (Nat.le_of_ble_eq_true rfl) hnc hns (ctX9_trace l D cA adM F MM (xs (j + 1))) hgM ?_
  refine lw_eqb (pc := 1074) (tgt := 1115) C0 dL_law_1074 (by decide) ?_
  exact kk MX' MM' hS'
set_option maxRecDepth 100000 in
theorem lw_case29 (C0 : lw_At p s m meth c b L xs) {D : va_G} {cA : Nat → ClassId} {adX adM : Nat → Nat} {F : Nat} {Sim : mv_M → mv_M → Prop} (hL : L ≤ 3072) (hnc : nc ≤ 600000) (hns : ns ≤ 7302250) {j : Nat} (hj : j + 5 < L) (hi : i = nI j) (hSim : Sim MX MM) (hop : ∀ a1 : Int32, ps_ok Sim (fun M => fX8_count F M a1) (fun M => fX9_count F M a1)) (kk : ∀ MX' MM', Sim MX' MM' → lw_L p l e s m below meth c b (D, cA, adX, LX) (D, cA, adM, LM) nc ns 1115 i [] MX' MM') : lw_L p l e s m below meth c b (D, cA, adX, LX) (D, cA, adM, LM) nc ns 1079 i [] MX MM := by
  refine lw_a1 (pc := 1079) C0 dL_law_1079 ?_
  refine lw_arg (pc := 1080) (k := 1) (ki := 1) C0 hL hi (by omega) (by decide +kernel) (by decide +kernel) dL_law_1080 dL_law_1081 dL_law_1082 dL_law_1083 dL_law_1084 ?_
  obtain ⟨r, MX', MM', hgX, hgM, hS'⟩ := hop (xs (j + 1)) MX MM hSim
  refine lw_cx (pc := 1085) (As := [.int (xs (j + 1))]) (st := []) (r := r) (MX' := MX') C0 dL_law_1085 mwL_135 vmX8_count ⟨Nat.le_of_ble_eq_true rfl, Nat.le_of_ble_eq_true rfl⟩ lx_0 rfl rfl (Nat.le_of_ble_eq_true rfl) hnc hns (ctX8_count l D cA adX F MX (xs (j + 1))) hgX ?_
  refine lw_a2 (pc := 1088) C0 dL_law_1088 ?_
  refine lw_arg (pc := 1089) (k := 1) (ki := 1) C0 hL hi (by omega) (by decide +kernel) (by decide +kernel) dL_law_1089 dL_law_1090 dL_law_1091 dL_law_1092 dL_law_1093 ?_
  refine lw_cm (pc := 1094) (As := [.int (xs (j + 1))]) (st := [.int r]) (r := r) (MM' := MM') C0 dL_law_1094 mwL_138 vmX9_count ⟨Nat.le_of_ble_eq_true rfl, Nat.le_of_ble_eq_true rfl⟩ lm_0 rfl rfl (Nat.le_of_ble_eq_true rfl) hnc hns (ctX9_count l D cA adM F MM (xs (j + 1))) hgM ?_
  refine lw_eqb (pc := 1097) (tgt := 1115) C0 dL_law_1097 (by decide) ?_
  exact kk MX' MM' hS'
set_option maxRecDepth 100000 in
theorem lw_case30 (C0 : lw_At p s m meth c b L xs) {D : va_G} {cA : Nat → ClassId} {adX adM : Nat → Nat} {F : Nat} {Sim : mv_M → mv_M → Prop} (hL : L ≤ 3072) (hnc : nc ≤ 600000) (hns : ns ≤ 7302250) {j : Nat} (hj : j + 5 < L) (hi : i = nI j) (hSim : Sim MX MM) (hop : ps_ok Sim (fun M => fX8_status F M) (fun M => fX9_status F M)) (kk : ∀ MX' MM', Sim MX' MM' → lw_L p l e s m below meth c b (D, cA, adX, LX) (D, cA, adM, LM) nc ns 1115 i [] MX' MM') : lw_L p l e s m below meth c b (D, cA, adX, LX) (D, cA, adM, LM) nc ns 1102 i [] MX MM := by
  refine lw_a1 (pc := 1102) C0 dL_law_1102 ?_
  obtain ⟨r, MX', MM', hgX, hgM, hS'⟩ := hop MX MM hSim
  refine lw_cx (pc := 1103) (As := []) (st := []) (r := r) (MX' := MX') C0 dL_law_1103 mwL_139 vmX8_status ⟨Nat.le_of_ble_eq_true rfl, Nat.le_of_ble_eq_true rfl⟩ lx_0 rfl rfl (Nat.le_of_ble_eq_true rfl) hnc hns (ctX8_status l D cA adX F MX) hgX ?_
  refine lw_a2 (pc := 1106) C0 dL_law_1106 ?_
  refine lw_cm (pc := 1107) (As := []) (st := [.int r]) (r := r) (MM' := MM') C0 dL_law_1107 mwL_142 vmX9_status ⟨Nat.le_of_ble_eq_true rfl, Nat.le_of_ble_eq_true rfl⟩ lm_0 rfl rfl (Nat.le_of_ble_eq_true rfl) hnc hns (ctX9_status l D cA adM F MM) hgM ?_
  refine lw_eqb (pc := 1110) (tgt := 1115) C0 dL_law_1110 (by decide) ?_
  exact kk MX' MM' hS'
end LW
theorem lw_and31 (x : Int32) : 0 ≤ (x &&& 31).toInt ∧ (x &&& 31).toInt ≤ 31 := by
  have h : ∀ v : BitVec 5, (BitVec.setWidth 32 v).toInt = (v.toNat : Int) := by decide +kernel
  have e : (x &&& 31).toBitVec = BitVec.setWidth 32 (BitVec.setWidth 5 x.toBitVec) := by
    show x.toBitVec &&& 31#32 = _
    apply BitVec.eq_of_getLsbD_eq
    intro q hq
    rw [BitVec.getLsbD_and, BitVec.getLsbD_setWidth, BitVec.getLsbD_setWidth]
    have h31 : ∀ q : Nat, q < 32 → (31#32).getLsbD q = decide (q < 5) := by decide +kernel
    rw [h31 q hq]
    by_cases h5 : q < 5
    · simp [h5, hq]
    · simp [h5]
  have e2 : (x &&& 31).toInt = ((BitVec.setWidth 5 x.toBitVec).toNat : Int) := by
    show (x &&& 31).toBitVec.toInt = _
    rw [e, h]
  have hlt := (BitVec.setWidth 5 x.toBitVec).isLt
  omega
set_option maxRecDepth 100000 in
set_option maxHeartbeats 4000000 in
theorem lw_loop {p : Program} {l : Launch} {e : Env} {s : State} {m : MethodId} {below : List Frame} {meth : Method} {c : Code} {b L : Nat} {xs : Nat → Int32} (C0 : lw_At p s m meth c b L xs) {D : va_G} {cA : Nat → ClassId} {adX adM : Nat → Nat} {F : Nat} {Sim : mv_M → mv_M → Prop} (hS : ps_all F Sim) (hL : L ≤ 3072) {nc ns : Nat} (hnc : nc ≤ 600000) (hns : ns ≤ 7302250) :
    ∀ (n j : Nat), j ≤ L → L < j + n → ∀ (MX MM : mv_M), Sim MX MM → lw_L p l e s m below meth c b (D, cA, adX, LX) (D, cA, adM, LM) nc ns 18 (nI j) [] MX MM := by
  intro n
  induction n with
  | zero => intro j h1 h2; exact absurd h2 (by omega)
  | succ n ih =>
    intro j hjL hn MX MM hSim H locs lsA hW hl
    have C1 := C0
    obtain ⟨hx, hb, hr, hml, hown, hts, hX, hbl, hlocks, hgv⟩ := C1
    have hbA : ¬ (fun q : Nat => s.heap.size ≤ q) b := Nat.not_le.mpr hbl
    have hSv := hW.2.2.2.2.2.2.2
    refine lv_iload_n hx hb dL_law_18 rfl (lv_at hl 3 rfl) ?_
    refine lv_aload_n hx hb dL_law_19 rfl (lv_at hl 0 rfl) ?_
    refine va_slen hx hb hX hbl hbA hSv dL_law_20 ?_
    refine lv_bipush hx hb dL_law_21 (by decide +kernel : (Int8.ofInt 6).toInt32 = (6 : Int32)) ?_
    refine lv_isub hx hb dL_law_23 ?_
    have hcmp : (nI L - 6 < nI j) ↔ L < j + 6 := by
      have e6 : (6 : Int32) = nI 6 := rfl
      rw [e6, Int32.lt_iff_toInt_lt, pk_sub_toInt (by omega) (by omega), nI_toInt (by omega)]
      omega
    refine lv_icmp_gt (tgt := 1121) hx hb dL_law_24 (by decide) (fun _ => ?_) (fun hc => ?_)
    · refine lv_iconst (v := 1) hx hb dL_law_1121 (by decide +kernel) ?_
      refine va_forget (fun q hq => hSv.2.2 q hq) ?_
      refine W.widen (k := 600000) (n := 7302250) hnc hns ?_
      exact lw_ret hx hb hr hlocks dL_law_1122
    · have hj : j + 5 < L := by
        have := mt hcmp.mpr hc
        omega
      have hi : nI j = nI j := rfl
      refine lv_aload_n hx hb dL_law_27 rfl (lv_at hl 0 rfl) ?_
      refine lv_iload_n hx hb dL_law_28 rfl (lv_at hl 3 rfl) ?_
      refine va_sld hx hb hX hbl hbA hSv (vp_in_nI (by omega : j < L) (by omega)) dL_law_29 ?_
      refine lv_bipush hx hb dL_law_30 (by decide +kernel : (Int8.ofInt 31).toInt32 = (31 : Int32)) ?_
      refine lv_iand hx hb dL_law_32 ?_
      have next : ∀ MX' MM', Sim MX' MM' → lw_L p l e s m below meth c b (D, cA, adX, LX) (D, cA, adM, LM) nc ns 1115 (nI j) [] MX' MM' := by
        intro MX' MM' hS' H locs lsA hW hl
        refine lv_iinc (v := nI (j + 6)) (lv' := [(3, .int (nI (j + 6))), (0, .ref b), (1, .ref (adX 0)), (2, .ref (adM 0))]) hx hb dL_law_1115 hl (k := 3) rfl (by rw [show Int32.ofInt 6 = nI 6 from by decide +kernel]; exact nI_add j 6) (by decide) rfl (fun lsB hB => ?_)
        refine lv_goto (tgt := 18) hx hb dL_law_1118 (by decide) ?_
        exact ih (j + 6) (by omega) (by omega) MX' MM' hS' H locs lsB hW (lv_sub hB [1, 2, 3, 0] rfl)
      have hb31 := lw_and31 (xs (nI j).toNatClampNeg)
      generalize hgx : (xs (nI j).toNatClampNeg) &&& 31 = q at hb31 ⊢
      by_cases hd : q.toInt < 0 ∨ 30 < q.toInt
      · refine lv_tableOut (tgt := 1115) hx hb dL_law_33 hd (by decide) ?_
        exact next MX MM hSim H locs lsA hW hl
      · rcases (show q.toInt = 0 ∨ q.toInt = 1 ∨ q.toInt = 2 ∨ q.toInt = 3 ∨ q.toInt = 4 ∨ q.toInt = 5 ∨ q.toInt = 6 ∨ q.toInt = 7 ∨ q.toInt = 8 ∨ q.toInt = 9 ∨ q.toInt = 10 ∨ q.toInt = 11 ∨ q.toInt = 12 ∨ q.toInt = 13 ∨ q.toInt = 14 ∨ q.toInt = 15 ∨ q.toInt = 16 ∨ q.toInt = 17 ∨ q.toInt = 18 ∨ q.toInt = 19 ∨ q.toInt = 20 ∨ q.toInt = 21 ∨ q.toInt = 22 ∨ q.toInt = 23 ∨ q.toInt = 24 ∨ q.toInt = 25 ∨ q.toInt = 26 ∨ q.toInt = 27 ∨ q.toInt = 28 ∨ q.toInt = 29 ∨ q.toInt = 30 by omega) with hq | hq | hq | hq | hq | hq | hq | hq | hq | hq | hq | hq | hq | hq | hq | hq | hq | hq | hq | hq | hq | hq | hq | hq | hq | hq | hq | hq | hq | hq | hq
        · refine lv_tableIn (tgt := 172) hx hb dL_law_33 (by rw [hq]; decide) (by rw [hq]; decide) (by rw [hq]; exact (by decide +kernel : (#[139, 182, 225, 288, 311, 334, 347, 360, 393, 426, 459, 472, 505, 538, 571, 594, 637, 690, 733, 746, 769, 802, 835, 888, 911, 934, 957, 990, 1023, 1046, 1069] : Array Int)[((0 : Int) - 0).toNat]? = some (139 : Int))) (by decide) ?_
          exact lw_case0 C0 hL hnc hns hj hi hSim hS.1 (fun MX' MM' hS' => next MX' MM' hS') H locs lsA hW hl
        · refine lv_tableIn (tgt := 215) hx hb dL_law_33 (by rw [hq]; decide) (by rw [hq]; decide) (by rw [hq]; exact (by decide +kernel : (#[139, 182, 225, 288, 311, 334, 347, 360, 393, 426, 459, 472, 505, 538, 571, 594, 637, 690, 733, 746, 769, 802, 835, 888, 911, 934, 957, 990, 1023, 1046, 1069] : Array Int)[((1 : Int) - 0).toNat]? = some (182 : Int))) (by decide) ?_
          exact lw_case1 C0 hL hnc hns hj hi hSim hS.2.1 (fun MX' MM' hS' => next MX' MM' hS') H locs lsA hW hl
        · refine lv_tableIn (tgt := 258) hx hb dL_law_33 (by rw [hq]; decide) (by rw [hq]; decide) (by rw [hq]; exact (by decide +kernel : (#[139, 182, 225, 288, 311, 334, 347, 360, 393, 426, 459, 472, 505, 538, 571, 594, 637, 690, 733, 746, 769, 802, 835, 888, 911, 934, 957, 990, 1023, 1046, 1069] : Array Int)[((2 : Int) - 0).toNat]? = some (225 : Int))) (by decide) ?_
          exact lw_case2 C0 hL hnc hns hj hi hSim hS.2.2.1 (fun MX' MM' hS' => next MX' MM' hS') H locs lsA hW hl
        · refine lv_tableIn (tgt := 321) hx hb dL_law_33 (by rw [hq]; decide) (by rw [hq]; decide) (by rw [hq]; exact (by decide +kernel : (#[139, 182, 225, 288, 311, 334, 347, 360, 393, 426, 459, 472, 505, 538, 571, 594, 637, 690, 733, 746, 769, 802, 835, 888, 911, 934, 957, 990, 1023, 1046, 1069] : Array Int)[((3 : Int) - 0).toNat]? = some (288 : Int))) (by decide) ?_
          exact lw_case3 C0 hL hnc hns hj hi hSim hS.2.2.2.1 (fun MX' MM' hS' => next MX' MM' hS') H locs lsA hW hl
        · refine lv_tableIn (tgt := 344) hx hb dL_law_33 (by rw [hq]; decide) (by rw [hq]; decide) (by rw [hq]; exact (by decide +kernel : (#[139, 182, 225, 288, 311, 334, 347, 360, 393, 426, 459, 472, 505, 538, 571, 594, 637, 690, 733, 746, 769, 802, 835, 888, 911, 934, 957, 990, 1023, 1046, 1069] : Array Int)[((4 : Int) - 0).toNat]? = some (311 : Int))) (by decide) ?_
          exact lw_case4 C0 hL hnc hns hj hi hSim hS.2.2.2.2.1 (fun MX' MM' hS' => next MX' MM' hS') H locs lsA hW hl
        · refine lv_tableIn (tgt := 367) hx hb dL_law_33 (by rw [hq]; decide) (by rw [hq]; decide) (by rw [hq]; exact (by decide +kernel : (#[139, 182, 225, 288, 311, 334, 347, 360, 393, 426, 459, 472, 505, 538, 571, 594, 637, 690, 733, 746, 769, 802, 835, 888, 911, 934, 957, 990, 1023, 1046, 1069] : Array Int)[((5 : Int) - 0).toNat]? = some (334 : Int))) (by decide) ?_
          exact lw_case5 C0 hL hnc hns hj hi hSim hS.2.2.2.2.2.1 (fun MX' MM' hS' => next MX' MM' hS') H locs lsA hW hl
        · refine lv_tableIn (tgt := 380) hx hb dL_law_33 (by rw [hq]; decide) (by rw [hq]; decide) (by rw [hq]; exact (by decide +kernel : (#[139, 182, 225, 288, 311, 334, 347, 360, 393, 426, 459, 472, 505, 538, 571, 594, 637, 690, 733, 746, 769, 802, 835, 888, 911, 934, 957, 990, 1023, 1046, 1069] : Array Int)[((6 : Int) - 0).toNat]? = some (347 : Int))) (by decide) ?_
          exact lw_case6 C0 hL hnc hns hj hi hSim hS.2.2.2.2.2.2.1 (fun MX' MM' hS' => next MX' MM' hS') H locs lsA hW hl
        · refine lv_tableIn (tgt := 393) hx hb dL_law_33 (by rw [hq]; decide) (by rw [hq]; decide) (by rw [hq]; exact (by decide +kernel : (#[139, 182, 225, 288, 311, 334, 347, 360, 393, 426, 459, 472, 505, 538, 571, 594, 637, 690, 733, 746, 769, 802, 835, 888, 911, 934, 957, 990, 1023, 1046, 1069] : Array Int)[((7 : Int) - 0).toNat]? = some (360 : Int))) (by decide) ?_
          exact lw_case7 C0 hL hnc hns hj hi hSim hS.2.2.2.2.2.2.2.1 (fun MX' MM' hS' => next MX' MM' hS') H locs lsA hW hl
        · refine lv_tableIn (tgt := 426) hx hb dL_law_33 (by rw [hq]; decide) (by rw [hq]; decide) (by rw [hq]; exact (by decide +kernel : (#[139, 182, 225, 288, 311, 334, 347, 360, 393, 426, 459, 472, 505, 538, 571, 594, 637, 690, 733, 746, 769, 802, 835, 888, 911, 934, 957, 990, 1023, 1046, 1069] : Array Int)[((8 : Int) - 0).toNat]? = some (393 : Int))) (by decide) ?_
          exact lw_case8 C0 hL hnc hns hj hi hSim hS.2.2.2.2.2.2.2.2.1 (fun MX' MM' hS' => next MX' MM' hS') H locs lsA hW hl
        · refine lv_tableIn (tgt := 459) hx hb dL_law_33 (by rw [hq]; decide) (by rw [hq]; decide) (by rw [hq]; exact (by decide +kernel : (#[139, 182, 225, 288, 311, 334, 347, 360, 393, 426, 459, 472, 505, 538, 571, 594, 637, 690, 733, 746, 769, 802, 835, 888, 911, 934, 957, 990, 1023, 1046, 1069] : Array Int)[((9 : Int) - 0).toNat]? = some (426 : Int))) (by decide) ?_
          exact lw_case9 C0 hL hnc hns hj hi hSim hS.2.2.2.2.2.2.2.2.2.1 (fun MX' MM' hS' => next MX' MM' hS') H locs lsA hW hl
        · refine lv_tableIn (tgt := 492) hx hb dL_law_33 (by rw [hq]; decide) (by rw [hq]; decide) (by rw [hq]; exact (by decide +kernel : (#[139, 182, 225, 288, 311, 334, 347, 360, 393, 426, 459, 472, 505, 538, 571, 594, 637, 690, 733, 746, 769, 802, 835, 888, 911, 934, 957, 990, 1023, 1046, 1069] : Array Int)[((10 : Int) - 0).toNat]? = some (459 : Int))) (by decide) ?_
          exact lw_case10 C0 hL hnc hns hj hi hSim hS.2.2.2.2.2.2.2.2.2.2.1 (fun MX' MM' hS' => next MX' MM' hS') H locs lsA hW hl
        · refine lv_tableIn (tgt := 505) hx hb dL_law_33 (by rw [hq]; decide) (by rw [hq]; decide) (by rw [hq]; exact (by decide +kernel : (#[139, 182, 225, 288, 311, 334, 347, 360, 393, 426, 459, 472, 505, 538, 571, 594, 637, 690, 733, 746, 769, 802, 835, 888, 911, 934, 957, 990, 1023, 1046, 1069] : Array Int)[((11 : Int) - 0).toNat]? = some (472 : Int))) (by decide) ?_
          exact lw_case11 C0 hL hnc hns hj hi hSim hS.2.2.2.2.2.2.2.2.2.2.2.1 (fun MX' MM' hS' => next MX' MM' hS') H locs lsA hW hl
        · refine lv_tableIn (tgt := 538) hx hb dL_law_33 (by rw [hq]; decide) (by rw [hq]; decide) (by rw [hq]; exact (by decide +kernel : (#[139, 182, 225, 288, 311, 334, 347, 360, 393, 426, 459, 472, 505, 538, 571, 594, 637, 690, 733, 746, 769, 802, 835, 888, 911, 934, 957, 990, 1023, 1046, 1069] : Array Int)[((12 : Int) - 0).toNat]? = some (505 : Int))) (by decide) ?_
          exact lw_case12 C0 hL hnc hns hj hi hSim hS.2.2.2.2.2.2.2.2.2.2.2.2.1 (fun MX' MM' hS' => next MX' MM' hS') H locs lsA hW hl
        · refine lv_tableIn (tgt := 571) hx hb dL_law_33 (by rw [hq]; decide) (by rw [hq]; decide) (by rw [hq]; exact (by decide +kernel : (#[139, 182, 225, 288, 311, 334, 347, 360, 393, 426, 459, 472, 505, 538, 571, 594, 637, 690, 733, 746, 769, 802, 835, 888, 911, 934, 957, 990, 1023, 1046, 1069] : Array Int)[((13 : Int) - 0).toNat]? = some (538 : Int))) (by decide) ?_
          exact lw_case13 C0 hL hnc hns hj hi hSim hS.2.2.2.2.2.2.2.2.2.2.2.2.2.1 (fun MX' MM' hS' => next MX' MM' hS') H locs lsA hW hl
        · refine lv_tableIn (tgt := 604) hx hb dL_law_33 (by rw [hq]; decide) (by rw [hq]; decide) (by rw [hq]; exact (by decide +kernel : (#[139, 182, 225, 288, 311, 334, 347, 360, 393, 426, 459, 472, 505, 538, 571, 594, 637, 690, 733, 746, 769, 802, 835, 888, 911, 934, 957, 990, 1023, 1046, 1069] : Array Int)[((14 : Int) - 0).toNat]? = some (571 : Int))) (by decide) ?_
          exact lw_case14 C0 hL hnc hns hj hi hSim hS.2.2.2.2.2.2.2.2.2.2.2.2.2.2.1 (fun MX' MM' hS' => next MX' MM' hS') H locs lsA hW hl
        · refine lv_tableIn (tgt := 627) hx hb dL_law_33 (by rw [hq]; decide) (by rw [hq]; decide) (by rw [hq]; exact (by decide +kernel : (#[139, 182, 225, 288, 311, 334, 347, 360, 393, 426, 459, 472, 505, 538, 571, 594, 637, 690, 733, 746, 769, 802, 835, 888, 911, 934, 957, 990, 1023, 1046, 1069] : Array Int)[((15 : Int) - 0).toNat]? = some (594 : Int))) (by decide) ?_
          exact lw_case15 C0 hL hnc hns hj hi hSim hS.2.2.2.2.2.2.2.2.2.2.2.2.2.2.2.1 (fun MX' MM' hS' => next MX' MM' hS') H locs lsA hW hl
        · refine lv_tableIn (tgt := 670) hx hb dL_law_33 (by rw [hq]; decide) (by rw [hq]; decide) (by rw [hq]; exact (by decide +kernel : (#[139, 182, 225, 288, 311, 334, 347, 360, 393, 426, 459, 472, 505, 538, 571, 594, 637, 690, 733, 746, 769, 802, 835, 888, 911, 934, 957, 990, 1023, 1046, 1069] : Array Int)[((16 : Int) - 0).toNat]? = some (637 : Int))) (by decide) ?_
          exact lw_case16 C0 hL hnc hns hj hi hSim hS.2.2.2.2.2.2.2.2.2.2.2.2.2.2.2.2.1 (fun MX' MM' hS' => next MX' MM' hS') H locs lsA hW hl
        · refine lv_tableIn (tgt := 723) hx hb dL_law_33 (by rw [hq]; decide) (by rw [hq]; decide) (by rw [hq]; exact (by decide +kernel : (#[139, 182, 225, 288, 311, 334, 347, 360, 393, 426, 459, 472, 505, 538, 571, 594, 637, 690, 733, 746, 769, 802, 835, 888, 911, 934, 957, 990, 1023, 1046, 1069] : Array Int)[((17 : Int) - 0).toNat]? = some (690 : Int))) (by decide) ?_
          exact lw_case17 C0 hL hnc hns hj hi hSim hS.2.2.2.2.2.2.2.2.2.2.2.2.2.2.2.2.2.1 (fun MX' MM' hS' => next MX' MM' hS') H locs lsA hW hl
        · refine lv_tableIn (tgt := 766) hx hb dL_law_33 (by rw [hq]; decide) (by rw [hq]; decide) (by rw [hq]; exact (by decide +kernel : (#[139, 182, 225, 288, 311, 334, 347, 360, 393, 426, 459, 472, 505, 538, 571, 594, 637, 690, 733, 746, 769, 802, 835, 888, 911, 934, 957, 990, 1023, 1046, 1069] : Array Int)[((18 : Int) - 0).toNat]? = some (733 : Int))) (by decide) ?_
          exact lw_case18 C0 hL hnc hns hj hi hSim hS.2.2.2.2.2.2.2.2.2.2.2.2.2.2.2.2.2.2.1 (fun MX' MM' hS' => next MX' MM' hS') H locs lsA hW hl
        · refine lv_tableIn (tgt := 779) hx hb dL_law_33 (by rw [hq]; decide) (by rw [hq]; decide) (by rw [hq]; exact (by decide +kernel : (#[139, 182, 225, 288, 311, 334, 347, 360, 393, 426, 459, 472, 505, 538, 571, 594, 637, 690, 733, 746, 769, 802, 835, 888, 911, 934, 957, 990, 1023, 1046, 1069] : Array Int)[((19 : Int) - 0).toNat]? = some (746 : Int))) (by decide) ?_
          exact lw_case19 C0 hL hnc hns hj hi hSim hS.2.2.2.2.2.2.2.2.2.2.2.2.2.2.2.2.2.2.2.1 (fun MX' MM' hS' => next MX' MM' hS') H locs lsA hW hl
        · refine lv_tableIn (tgt := 802) hx hb dL_law_33 (by rw [hq]; decide) (by rw [hq]; decide) (by rw [hq]; exact (by decide +kernel : (#[139, 182, 225, 288, 311, 334, 347, 360, 393, 426, 459, 472, 505, 538, 571, 594, 637, 690, 733, 746, 769, 802, 835, 888, 911, 934, 957, 990, 1023, 1046, 1069] : Array Int)[((20 : Int) - 0).toNat]? = some (769 : Int))) (by decide) ?_
          exact lw_case20 C0 hL hnc hns hj hi hSim hS.2.2.2.2.2.2.2.2.2.2.2.2.2.2.2.2.2.2.2.2.1 (fun MX' MM' hS' => next MX' MM' hS') H locs lsA hW hl
        · refine lv_tableIn (tgt := 835) hx hb dL_law_33 (by rw [hq]; decide) (by rw [hq]; decide) (by rw [hq]; exact (by decide +kernel : (#[139, 182, 225, 288, 311, 334, 347, 360, 393, 426, 459, 472, 505, 538, 571, 594, 637, 690, 733, 746, 769, 802, 835, 888, 911, 934, 957, 990, 1023, 1046, 1069] : Array Int)[((21 : Int) - 0).toNat]? = some (802 : Int))) (by decide) ?_
          exact lw_case21 C0 hL hnc hns hj hi hSim hS.2.2.2.2.2.2.2.2.2.2.2.2.2.2.2.2.2.2.2.2.2.1 (fun MX' MM' hS' => next MX' MM' hS') H locs lsA hW hl
        · refine lv_tableIn (tgt := 868) hx hb dL_law_33 (by rw [hq]; decide) (by rw [hq]; decide) (by rw [hq]; exact (by decide +kernel : (#[139, 182, 225, 288, 311, 334, 347, 360, 393, 426, 459, 472, 505, 538, 571, 594, 637, 690, 733, 746, 769, 802, 835, 888, 911, 934, 957, 990, 1023, 1046, 1069] : Array Int)[((22 : Int) - 0).toNat]? = some (835 : Int))) (by decide) ?_
          exact lw_case22 C0 hL hnc hns hj hi hSim hS.2.2.2.2.2.2.2.2.2.2.2.2.2.2.2.2.2.2.2.2.2.2.1 (fun MX' MM' hS' => next MX' MM' hS') H locs lsA hW hl
        · refine lv_tableIn (tgt := 921) hx hb dL_law_33 (by rw [hq]; decide) (by rw [hq]; decide) (by rw [hq]; exact (by decide +kernel : (#[139, 182, 225, 288, 311, 334, 347, 360, 393, 426, 459, 472, 505, 538, 571, 594, 637, 690, 733, 746, 769, 802, 835, 888, 911, 934, 957, 990, 1023, 1046, 1069] : Array Int)[((23 : Int) - 0).toNat]? = some (888 : Int))) (by decide) ?_
          exact lw_case23 C0 hL hnc hns hj hi hSim hS.2.2.2.2.2.2.2.2.2.2.2.2.2.2.2.2.2.2.2.2.2.2.2.1 (fun MX' MM' hS' => next MX' MM' hS') H locs lsA hW hl
        · refine lv_tableIn (tgt := 944) hx hb dL_law_33 (by rw [hq]; decide) (by rw [hq]; decide) (by rw [hq]; exact (by decide +kernel : (#[139, 182, 225, 288, 311, 334, 347, 360, 393, 426, 459, 472, 505, 538, 571, 594, 637, 690, 733, 746, 769, 802, 835, 888, 911, 934, 957, 990, 1023, 1046, 1069] : Array Int)[((24 : Int) - 0).toNat]? = some (911 : Int))) (by decide) ?_
          exact lw_case24 C0 hL hnc hns hj hi hSim hS.2.2.2.2.2.2.2.2.2.2.2.2.2.2.2.2.2.2.2.2.2.2.2.2.1 (fun MX' MM' hS' => next MX' MM' hS') H locs lsA hW hl
        · refine lv_tableIn (tgt := 967) hx hb dL_law_33 (by rw [hq]; decide) (by rw [hq]; decide) (by rw [hq]; exact (by decide +kernel : (#[139, 182, 225, 288, 311, 334, 347, 360, 393, 426, 459, 472, 505, 538, 571, 594, 637, 690, 733, 746, 769, 802, 835, 888, 911, 934, 957, 990, 1023, 1046, 1069] : Array Int)[((25 : Int) - 0).toNat]? = some (934 : Int))) (by decide) ?_
          exact lw_case25 C0 hL hnc hns hj hi hSim hS.2.2.2.2.2.2.2.2.2.2.2.2.2.2.2.2.2.2.2.2.2.2.2.2.2.1 (fun MX' MM' hS' => next MX' MM' hS') H locs lsA hW hl
        · refine lv_tableIn (tgt := 990) hx hb dL_law_33 (by rw [hq]; decide) (by rw [hq]; decide) (by rw [hq]; exact (by decide +kernel : (#[139, 182, 225, 288, 311, 334, 347, 360, 393, 426, 459, 472, 505, 538, 571, 594, 637, 690, 733, 746, 769, 802, 835, 888, 911, 934, 957, 990, 1023, 1046, 1069] : Array Int)[((26 : Int) - 0).toNat]? = some (957 : Int))) (by decide) ?_
          exact lw_case26 C0 hL hnc hns hj hi hSim hS.2.2.2.2.2.2.2.2.2.2.2.2.2.2.2.2.2.2.2.2.2.2.2.2.2.2.1 (fun MX' MM' hS' => next MX' MM' hS') H locs lsA hW hl
        · refine lv_tableIn (tgt := 1023) hx hb dL_law_33 (by rw [hq]; decide) (by rw [hq]; decide) (by rw [hq]; exact (by decide +kernel : (#[139, 182, 225, 288, 311, 334, 347, 360, 393, 426, 459, 472, 505, 538, 571, 594, 637, 690, 733, 746, 769, 802, 835, 888, 911, 934, 957, 990, 1023, 1046, 1069] : Array Int)[((27 : Int) - 0).toNat]? = some (990 : Int))) (by decide) ?_
          exact lw_case27 C0 hL hnc hns hj hi hSim hS.2.2.2.2.2.2.2.2.2.2.2.2.2.2.2.2.2.2.2.2.2.2.2.2.2.2.2.1 (fun MX' MM' hS' => next MX' MM' hS') H locs lsA hW hl
        · refine lv_tableIn (tgt := 1056) hx hb dL_law_33 (by rw [hq]; decide) (by rw [hq]; decide) (by rw [hq]; exact (by decide +kernel : (#[139, 182, 225, 288, 311, 334, 347, 360, 393, 426, 459, 472, 505, 538, 571, 594, 637, 690, 733, 746, 769, 802, 835, 888, 911, 934, 957, 990, 1023, 1046, 1069] : Array Int)[((28 : Int) - 0).toNat]? = some (1023 : Int))) (by decide) ?_
          exact lw_case28 C0 hL hnc hns hj hi hSim hS.2.2.2.2.2.2.2.2.2.2.2.2.2.2.2.2.2.2.2.2.2.2.2.2.2.2.2.2.1 (fun MX' MM' hS' => next MX' MM' hS') H locs lsA hW hl
        · refine lv_tableIn (tgt := 1079) hx hb dL_law_33 (by rw [hq]; decide) (by rw [hq]; decide) (by rw [hq]; exact (by decide +kernel : (#[139, 182, 225, 288, 311, 334, 347, 360, 393, 426, 459, 472, 505, 538, 571, 594, 637, 690, 733, 746, 769, 802, 835, 888, 911, 934, 957, 990, 1023, 1046, 1069] : Array Int)[((29 : Int) - 0).toNat]? = some (1046 : Int))) (by decide) ?_
          exact lw_case29 C0 hL hnc hns hj hi hSim hS.2.2.2.2.2.2.2.2.2.2.2.2.2.2.2.2.2.2.2.2.2.2.2.2.2.2.2.2.2.1 (fun MX' MM' hS' => next MX' MM' hS') H locs lsA hW hl
        · refine lv_tableIn (tgt := 1102) hx hb dL_law_33 (by rw [hq]; decide) (by rw [hq]; decide) (by rw [hq]; exact (by decide +kernel : (#[139, 182, 225, 288, 311, 334, 347, 360, 393, 426, 459, 472, 505, 538, 571, 594, 637, 690, 733, 746, 769, 802, 835, 888, 911, 934, 957, 990, 1023, 1046, 1069] : Array Int)[((30 : Int) - 0).toNat]? = some (1069 : Int))) (by decide) ?_
          exact lw_case30 C0 hL hnc hns hj hi hSim hS.2.2.2.2.2.2.2.2.2.2.2.2.2.2.2.2.2.2.2.2.2.2.2.2.2.2.2.2.2.2 (fun MX' MM' hS' => next MX' MM' hS') H locs lsA hW hl
