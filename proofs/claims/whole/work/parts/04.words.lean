/-! the words of the tables that are kept over a call; a word by its place -/
def mv_all : List Cond := lw_tbl.filter goodWord
theorem mv_good : GoodIn lw_tbl mv_all := fun w h => ⟨(List.mem_filter.mp h).1, good_of_word (List.mem_filter.mp h).2⟩
theorem mv_goodS : GoodIn mv_all mv_all := fun w h => ⟨h, good_of_word (List.mem_filter.mp h).2⟩
theorem mv_tb {w : Cond} (h : w ∈ tables_1) : w ∈ lw_tbl := List.mem_append_right _ h
theorem mv_t1 {w : Cond} {i : Nat} (h : tables_1_1[i]? = some w) : w ∈ lw_tbl := mv_tb (List.mem_append_left _ (List.mem_of_getElem? h))
theorem mv_t2 {w : Cond} {i : Nat} (h : tables_1_2[i]? = some w) : w ∈ lw_tbl := mv_tb (List.mem_append_right _ (List.mem_append_left _ (List.mem_of_getElem? h)))
theorem mv_t3 {w : Cond} {i : Nat} (h : tables_1_3[i]? = some w) : w ∈ lw_tbl := mv_tb (List.mem_append_right _ (List.mem_append_right _ (List.mem_append_left _ (List.mem_of_getElem? h))))
theorem mv_t4 {w : Cond} {i : Nat} (h : tables_1_4[i]? = some w) : w ∈ lw_tbl := mv_tb (List.mem_append_right _ (List.mem_append_right _ (List.mem_append_right _ (List.mem_append_left _ (List.mem_of_getElem? h)))))
theorem mv_t5 {w : Cond} {i : Nat} (h : tables_1_5[i]? = some w) : w ∈ lw_tbl := mv_tb (List.mem_append_right _ (List.mem_append_right _ (List.mem_append_right _ (List.mem_append_right _ (List.mem_append_left _ (List.mem_of_getElem? h))))))
theorem mv_t6 {w : Cond} {i : Nat} (h : tables_1_6[i]? = some w) : w ∈ lw_tbl := mv_tb (List.mem_append_right _ (List.mem_append_right _ (List.mem_append_right _ (List.mem_append_right _ (List.mem_append_right _ (List.mem_of_getElem? h))))))
theorem mv_g {w : Cond} (h : w ∈ lw_tbl) (g : goodWord w = true) : w ∈ mv_all := List.mem_filter.mpr ⟨h, g⟩
theorem mv_p1 {y : MethodName} {n i : Nat} (h : lw_privs_1[i]? = some (y, n)) : Cond.selects y.cls y y ∈ mv_all := mv_g (List.mem_append_left _ (List.mem_map.mpr ⟨(y, n), List.mem_append_left _ (List.mem_of_getElem? h), rfl⟩)) rfl
theorem mv_p2 {y : MethodName} {n i : Nat} (h : lw_privs_2[i]? = some (y, n)) : Cond.selects y.cls y y ∈ mv_all := mv_g (List.mem_append_left _ (List.mem_map.mpr ⟨(y, n), List.mem_append_right _ (List.mem_append_left _ (List.mem_of_getElem? h)), rfl⟩)) rfl
theorem mv_p3 {y : MethodName} {n i : Nat} (h : lw_privs_3[i]? = some (y, n)) : Cond.selects y.cls y y ∈ mv_all := mv_g (List.mem_append_left _ (List.mem_map.mpr ⟨(y, n), List.mem_append_right _ (List.mem_append_right _ (List.mem_append_left _ (List.mem_of_getElem? h))), rfl⟩)) rfl
theorem mv_p4 {y : MethodName} {n i : Nat} (h : lw_privs_4[i]? = some (y, n)) : Cond.selects y.cls y y ∈ mv_all := mv_g (List.mem_append_left _ (List.mem_map.mpr ⟨(y, n), List.mem_append_right _ (List.mem_append_right _ (List.mem_append_right _ (List.mem_append_left _ (List.mem_of_getElem? h)))), rfl⟩)) rfl
theorem mv_p5 {y : MethodName} {n i : Nat} (h : lw_privs_5[i]? = some (y, n)) : Cond.selects y.cls y y ∈ mv_all := mv_g (List.mem_append_left _ (List.mem_map.mpr ⟨(y, n), List.mem_append_right _ (List.mem_append_right _ (List.mem_append_right _ (List.mem_append_right _ (List.mem_append_left _ (List.mem_of_getElem? h))))), rfl⟩)) rfl
theorem mv_p6 {y : MethodName} {n i : Nat} (h : lw_privs_6[i]? = some (y, n)) : Cond.selects y.cls y y ∈ mv_all := mv_g (List.mem_append_left _ (List.mem_map.mpr ⟨(y, n), List.mem_append_right _ (List.mem_append_right _ (List.mem_append_right _ (List.mem_append_right _ (List.mem_append_right _ (List.mem_append_left _ (List.mem_of_getElem? h)))))), rfl⟩)) rfl
theorem mv_p7 {y : MethodName} {n i : Nat} (h : lw_privs_7[i]? = some (y, n)) : Cond.selects y.cls y y ∈ mv_all := mv_g (List.mem_append_left _ (List.mem_map.mpr ⟨(y, n), List.mem_append_right _ (List.mem_append_right _ (List.mem_append_right _ (List.mem_append_right _ (List.mem_append_right _ (List.mem_append_right _ (List.mem_append_left _ (List.mem_of_getElem? h))))))), rfl⟩)) rfl
theorem mv_p8 {y : MethodName} {n i : Nat} (h : lw_privs_8[i]? = some (y, n)) : Cond.selects y.cls y y ∈ mv_all := mv_g (List.mem_append_left _ (List.mem_map.mpr ⟨(y, n), List.mem_append_right _ (List.mem_append_right _ (List.mem_append_right _ (List.mem_append_right _ (List.mem_append_right _ (List.mem_append_right _ (List.mem_append_right _ (List.mem_of_getElem? h))))))), rfl⟩)) rfl
theorem lwX0_0 : u_lay RX0 TX0 0 ∈ mv_all := mv_g (mv_t1 (i := 173) (by decide +kernel)) rfl
theorem lwX0_1 : u_lay RX0 TX0 1 ∈ mv_all := mv_g (mv_t1 (i := 175) (by decide +kernel)) rfl
theorem lwX0_2 : u_lay RX0 TX0 2 ∈ mv_all := mv_g (mv_t1 (i := 177) (by decide +kernel)) rfl
theorem lwX0_3 : u_lay RX0 TX0 3 ∈ mv_all := mv_g (mv_t1 (i := 179) (by decide +kernel)) rfl
theorem inmX0 : ∀ w ∈ wsX00, w ∈ mv_all := by
  show ∀ w ∈ [u_lay RX0 TX0 0, u_lay RX0 TX0 1, u_lay RX0 TX0 2, u_lay RX0 TX0 3], w ∈ mv_all
  exact List.forall_mem_cons.mpr ⟨lwX0_0, List.forall_mem_cons.mpr ⟨lwX0_1, List.forall_mem_cons.mpr ⟨lwX0_2, List.forall_mem_cons.mpr ⟨lwX0_3, fun _ h => absurd h List.not_mem_nil⟩⟩⟩⟩
theorem lwX1_0 : u_lay RX1 TX1 0 ∈ mv_all := mv_g (mv_t2 (i := 28) (by decide +kernel)) rfl
theorem lwX1_1 : u_lay RX1 TX1 1 ∈ mv_all := mv_g (mv_t2 (i := 30) (by decide +kernel)) rfl
theorem lwX1_2 : u_lay RX1 TX1 2 ∈ mv_all := mv_g (mv_t2 (i := 32) (by decide +kernel)) rfl
theorem inmX1 : ∀ w ∈ wsX10, w ∈ mv_all := by
  show ∀ w ∈ [u_lay RX1 TX1 0, u_lay RX1 TX1 1, u_lay RX1 TX1 2], w ∈ mv_all
  exact List.forall_mem_cons.mpr ⟨lwX1_0, List.forall_mem_cons.mpr ⟨lwX1_1, List.forall_mem_cons.mpr ⟨lwX1_2, fun _ h => absurd h List.not_mem_nil⟩⟩⟩
theorem lwX2_0 : u_lay RX2 TX2 0 ∈ mv_all := mv_g (mv_t1 (i := 214) (by decide +kernel)) rfl
theorem lwX2_1 : u_lay RX2 TX2 1 ∈ mv_all := mv_g (mv_t1 (i := 216) (by decide +kernel)) rfl
theorem lwX2_2 : u_lay RX2 TX2 2 ∈ mv_all := mv_g (mv_t1 (i := 218) (by decide +kernel)) rfl
theorem lwX2_3 : u_lay RX2 TX2 3 ∈ mv_all := mv_g (mv_t1 (i := 220) (by decide +kernel)) rfl
theorem lwX2_4 : u_lay RX2 TX2 4 ∈ mv_all := mv_g (mv_t1 (i := 222) (by decide +kernel)) rfl
theorem lwX2_5 : u_lay RX2 TX2 5 ∈ mv_all := mv_g (mv_t1 (i := 224) (by decide +kernel)) rfl
theorem lwX2_6 : u_lay RX2 TX2 6 ∈ mv_all := mv_g (mv_t1 (i := 226) (by decide +kernel)) rfl
theorem lwX2_7 : u_lay RX2 TX2 7 ∈ mv_all := mv_g (mv_t1 (i := 228) (by decide +kernel)) rfl
theorem lwX2_8 : u_lay RX2 TX2 8 ∈ mv_all := mv_g (mv_t1 (i := 230) (by decide +kernel)) rfl
theorem inmX2 : ∀ w ∈ wsX20, w ∈ mv_all := by
  show ∀ w ∈ [u_lay RX2 TX2 0, u_lay RX2 TX2 1, u_lay RX2 TX2 2, u_lay RX2 TX2 3, u_lay RX2 TX2 4, u_lay RX2 TX2 5, u_lay RX2 TX2 6, u_lay RX2 TX2 7, u_lay RX2 TX2 8], w ∈ mv_all
  exact List.forall_mem_cons.mpr ⟨lwX2_0, List.forall_mem_cons.mpr ⟨lwX2_1, List.forall_mem_cons.mpr ⟨lwX2_2, List.forall_mem_cons.mpr ⟨lwX2_3, List.forall_mem_cons.mpr ⟨lwX2_4, List.forall_mem_cons.mpr ⟨lwX2_5, List.forall_mem_cons.mpr ⟨lwX2_6, List.forall_mem_cons.mpr ⟨lwX2_7, List.forall_mem_cons.mpr ⟨lwX2_8, fun _ h => absurd h List.not_mem_nil⟩⟩⟩⟩⟩⟩⟩⟩⟩
theorem lwX3_0 : u_lay RX3 TX3 0 ∈ mv_all := mv_g (mv_t1 (i := 190) (by decide +kernel)) rfl
theorem lwX3_1 : u_lay RX3 TX3 1 ∈ mv_all := mv_g (mv_t1 (i := 192) (by decide +kernel)) rfl
theorem inmX3 : ∀ w ∈ wsX30, w ∈ mv_all := by
  show ∀ w ∈ [u_lay RX3 TX3 0, u_lay RX3 TX3 1], w ∈ mv_all
  exact List.forall_mem_cons.mpr ⟨lwX3_0, List.forall_mem_cons.mpr ⟨lwX3_1, fun _ h => absurd h List.not_mem_nil⟩⟩
theorem lwX4_0 : u_lay RX4 TX4 0 ∈ mv_all := mv_g (mv_t1 (i := 148) (by decide +kernel)) rfl
theorem lwX4_1 : u_lay RX4 TX4 1 ∈ mv_all := mv_g (mv_t1 (i := 150) (by decide +kernel)) rfl
theorem lwX4_2 : u_lay RX4 TX4 2 ∈ mv_all := mv_g (mv_t1 (i := 152) (by decide +kernel)) rfl
theorem lwX4_3 : u_lay RX4 TX4 3 ∈ mv_all := mv_g (mv_t1 (i := 154) (by decide +kernel)) rfl
theorem lwX4_4 : u_lay RX4 TX4 4 ∈ mv_all := mv_g (mv_t1 (i := 156) (by decide +kernel)) rfl
theorem inmX4 : ∀ w ∈ wsX40, w ∈ mv_all := by
  show ∀ w ∈ [u_lay RX4 TX4 0, u_lay RX4 TX4 1, u_lay RX4 TX4 2, u_lay RX4 TX4 3, u_lay RX4 TX4 4], w ∈ mv_all
  exact List.forall_mem_cons.mpr ⟨lwX4_0, List.forall_mem_cons.mpr ⟨lwX4_1, List.forall_mem_cons.mpr ⟨lwX4_2, List.forall_mem_cons.mpr ⟨lwX4_3, List.forall_mem_cons.mpr ⟨lwX4_4, fun _ h => absurd h List.not_mem_nil⟩⟩⟩⟩⟩
theorem lwX5_0 : u_lay RX5 TX5 0 ∈ mv_all := mv_g (mv_t1 (i := 124) (by decide +kernel)) rfl
theorem lwX5_1 : u_lay RX5 TX5 1 ∈ mv_all := mv_g (mv_t1 (i := 126) (by decide +kernel)) rfl
theorem lwX5_2 : u_lay RX5 TX5 2 ∈ mv_all := mv_g (mv_t1 (i := 128) (by decide +kernel)) rfl
theorem inmX5 : ∀ w ∈ wsX50, w ∈ mv_all := by
  show ∀ w ∈ [u_lay RX5 TX5 0, u_lay RX5 TX5 1, u_lay RX5 TX5 2], w ∈ mv_all
  exact List.forall_mem_cons.mpr ⟨lwX5_0, List.forall_mem_cons.mpr ⟨lwX5_1, List.forall_mem_cons.mpr ⟨lwX5_2, fun _ h => absurd h List.not_mem_nil⟩⟩⟩
theorem lwX6_0 : u_lay RX6 TX6 0 ∈ mv_all := mv_g (mv_t2 (i := 6) (by decide +kernel)) rfl
theorem lwX6_1 : u_lay RX6 TX6 1 ∈ mv_all := mv_g (mv_t2 (i := 8) (by decide +kernel)) rfl
theorem lwX6_2 : u_lay RX6 TX6 2 ∈ mv_all := mv_g (mv_t2 (i := 10) (by decide +kernel)) rfl
theorem lwX6_3 : u_lay RX6 TX6 3 ∈ mv_all := mv_g (mv_t2 (i := 12) (by decide +kernel)) rfl
theorem lwX6_4 : u_lay RX6 TX6 4 ∈ mv_all := mv_g (mv_t2 (i := 14) (by decide +kernel)) rfl
theorem inmX6 : ∀ w ∈ wsX60, w ∈ mv_all := by
  show ∀ w ∈ [u_lay RX6 TX6 0, u_lay RX6 TX6 1, u_lay RX6 TX6 2, u_lay RX6 TX6 3, u_lay RX6 TX6 4], w ∈ mv_all
  exact List.forall_mem_cons.mpr ⟨lwX6_0, List.forall_mem_cons.mpr ⟨lwX6_1, List.forall_mem_cons.mpr ⟨lwX6_2, List.forall_mem_cons.mpr ⟨lwX6_3, List.forall_mem_cons.mpr ⟨lwX6_4, fun _ h => absurd h List.not_mem_nil⟩⟩⟩⟩⟩
theorem lwX7_0 : u_lay RX7 TX7 0 ∈ mv_all := mv_g (mv_t1 (i := 82) (by decide +kernel)) rfl
theorem lwX7_1 : u_lay RX7 TX7 1 ∈ mv_all := mv_g (mv_t1 (i := 84) (by decide +kernel)) rfl
theorem lwX7_2 : u_lay RX7 TX7 2 ∈ mv_all := mv_g (mv_t1 (i := 86) (by decide +kernel)) rfl
theorem lwX7_3 : u_lay RX7 TX7 3 ∈ mv_all := mv_g (mv_t1 (i := 88) (by decide +kernel)) rfl
theorem lwX7_4 : u_lay RX7 TX7 4 ∈ mv_all := mv_g (mv_t1 (i := 90) (by decide +kernel)) rfl
theorem lwX7_5 : u_lay RX7 TX7 5 ∈ mv_all := mv_g (mv_t1 (i := 92) (by decide +kernel)) rfl
theorem lwX7_6 : u_lay RX7 TX7 6 ∈ mv_all := mv_g (mv_t1 (i := 94) (by decide +kernel)) rfl
theorem lwX7_7 : u_lay RX7 TX7 7 ∈ mv_all := mv_g (mv_t1 (i := 96) (by decide +kernel)) rfl
theorem lwX7_8 : u_lay RX7 TX7 8 ∈ mv_all := mv_g (mv_t1 (i := 98) (by decide +kernel)) rfl
theorem lwX7_9 : u_lay RX7 TX7 9 ∈ mv_all := mv_g (mv_t1 (i := 100) (by decide +kernel)) rfl
theorem lwX7_10 : u_lay RX7 TX7 10 ∈ mv_all := mv_g (mv_t1 (i := 102) (by decide +kernel)) rfl
theorem inmX7 : ∀ w ∈ wsX70, w ∈ mv_all := by
  show ∀ w ∈ [u_lay RX7 TX7 0, u_lay RX7 TX7 1, u_lay RX7 TX7 2, u_lay RX7 TX7 3, u_lay RX7 TX7 4, u_lay RX7 TX7 5, u_lay RX7 TX7 6, u_lay RX7 TX7 7, u_lay RX7 TX7 8, u_lay RX7 TX7 9, u_lay RX7 TX7 10], w ∈ mv_all
  exact List.forall_mem_cons.mpr ⟨lwX7_0, List.forall_mem_cons.mpr ⟨lwX7_1, List.forall_mem_cons.mpr ⟨lwX7_2, List.forall_mem_cons.mpr ⟨lwX7_3, List.forall_mem_cons.mpr ⟨lwX7_4, List.forall_mem_cons.mpr ⟨lwX7_5, List.forall_mem_cons.mpr ⟨lwX7_6, List.forall_mem_cons.mpr ⟨lwX7_7, List.forall_mem_cons.mpr ⟨lwX7_8, List.forall_mem_cons.mpr ⟨lwX7_9, List.forall_mem_cons.mpr ⟨lwX7_10, fun _ h => absurd h List.not_mem_nil⟩⟩⟩⟩⟩⟩⟩⟩⟩⟩⟩
theorem lwX8_0 : u_lay RX8 TX8 0 ∈ mv_all := mv_g (mv_t2 (i := 46) (by decide +kernel)) rfl
theorem lwX8_1 : u_lay RX8 TX8 1 ∈ mv_all := mv_g (mv_t2 (i := 48) (by decide +kernel)) rfl
theorem lwX8_2 : u_lay RX8 TX8 2 ∈ mv_all := mv_g (mv_t2 (i := 50) (by decide +kernel)) rfl
theorem lwX8_3 : u_lay RX8 TX8 3 ∈ mv_all := mv_g (mv_t2 (i := 52) (by decide +kernel)) rfl
theorem lwX8_4 : u_lay RX8 TX8 4 ∈ mv_all := mv_g (mv_t2 (i := 54) (by decide +kernel)) rfl
theorem lwX8_5 : u_lay RX8 TX8 5 ∈ mv_all := mv_g (mv_t2 (i := 56) (by decide +kernel)) rfl
theorem lwX8_6 : u_lay RX8 TX8 6 ∈ mv_all := mv_g (mv_t2 (i := 58) (by decide +kernel)) rfl
theorem lwX8_7 : u_lay RX8 TX8 7 ∈ mv_all := mv_g (mv_t2 (i := 60) (by decide +kernel)) rfl
theorem lwX8_8 : u_lay RX8 TX8 8 ∈ mv_all := mv_g (mv_t2 (i := 62) (by decide +kernel)) rfl
theorem lwX8_9 : u_lay RX8 TX8 9 ∈ mv_all := mv_g (mv_t2 (i := 64) (by decide +kernel)) rfl
theorem lwX8_10 : u_lay RX8 TX8 10 ∈ mv_all := mv_g (mv_t2 (i := 66) (by decide +kernel)) rfl
theorem inmX8 : ∀ w ∈ wsX80, w ∈ mv_all := by
  show ∀ w ∈ [u_lay RX8 TX8 0, u_lay RX8 TX8 1, u_lay RX8 TX8 2, u_lay RX8 TX8 3, u_lay RX8 TX8 4, u_lay RX8 TX8 5, u_lay RX8 TX8 6, u_lay RX8 TX8 7, u_lay RX8 TX8 8, u_lay RX8 TX8 9, u_lay RX8 TX8 10], w ∈ mv_all
  exact List.forall_mem_cons.mpr ⟨lwX8_0, List.forall_mem_cons.mpr ⟨lwX8_1, List.forall_mem_cons.mpr ⟨lwX8_2, List.forall_mem_cons.mpr ⟨lwX8_3, List.forall_mem_cons.mpr ⟨lwX8_4, List.forall_mem_cons.mpr ⟨lwX8_5, List.forall_mem_cons.mpr ⟨lwX8_6, List.forall_mem_cons.mpr ⟨lwX8_7, List.forall_mem_cons.mpr ⟨lwX8_8, List.forall_mem_cons.mpr ⟨lwX8_9, List.forall_mem_cons.mpr ⟨lwX8_10, fun _ h => absurd h List.not_mem_nil⟩⟩⟩⟩⟩⟩⟩⟩⟩⟩⟩
theorem lwX9_0 : u_lay RX9 TX9 0 ∈ mv_all := mv_g (mv_t4 (i := 130) (by decide +kernel)) rfl
theorem lwX9_1 : u_lay RX9 TX9 1 ∈ mv_all := mv_g (mv_t4 (i := 132) (by decide +kernel)) rfl
theorem lwX9_2 : u_lay RX9 TX9 2 ∈ mv_all := mv_g (mv_t4 (i := 134) (by decide +kernel)) rfl
theorem lwX9_3 : u_lay RX9 TX9 3 ∈ mv_all := mv_g (mv_t4 (i := 136) (by decide +kernel)) rfl
theorem lwX9_4 : u_lay RX9 TX9 4 ∈ mv_all := mv_g (mv_t4 (i := 138) (by decide +kernel)) rfl
theorem lwX9_5 : u_lay RX9 TX9 5 ∈ mv_all := mv_g (mv_t4 (i := 140) (by decide +kernel)) rfl
theorem lwX9_6 : u_lay RX9 TX9 6 ∈ mv_all := mv_g (mv_t4 (i := 142) (by decide +kernel)) rfl
theorem lwX9_7 : u_lay RX9 TX9 7 ∈ mv_all := mv_g (mv_t4 (i := 144) (by decide +kernel)) rfl
theorem lwX9_8 : u_lay RX9 TX9 8 ∈ mv_all := mv_g (mv_t4 (i := 146) (by decide +kernel)) rfl
theorem lwX9_9 : u_lay RX9 TX9 9 ∈ mv_all := mv_g (mv_t4 (i := 148) (by decide +kernel)) rfl
theorem lwX9_10 : u_lay RX9 TX9 10 ∈ mv_all := mv_g (mv_t4 (i := 150) (by decide +kernel)) rfl
theorem lwX9_11 : u_lay RX9 TX9 11 ∈ mv_all := mv_g (mv_t4 (i := 152) (by decide +kernel)) rfl
theorem lwX9_12 : u_lay RX9 TX9 12 ∈ mv_all := mv_g (mv_t4 (i := 154) (by decide +kernel)) rfl
theorem lwX9_13 : u_lay RX9 TX9 13 ∈ mv_all := mv_g (mv_t4 (i := 156) (by decide +kernel)) rfl
theorem lwX9_14 : u_lay RX9 TX9 14 ∈ mv_all := mv_g (mv_t4 (i := 158) (by decide +kernel)) rfl
theorem lwX9_15 : u_lay RX9 TX9 15 ∈ mv_all := mv_g (mv_t4 (i := 160) (by decide +kernel)) rfl
theorem lwX9_16 : u_lay RX9 TX9 16 ∈ mv_all := mv_g (mv_t4 (i := 162) (by decide +kernel)) rfl
theorem lwX9_17 : u_lay RX9 TX9 17 ∈ mv_all := mv_g (mv_t4 (i := 164) (by decide +kernel)) rfl
theorem lwX9_18 : u_lay RX9 TX9 18 ∈ mv_all := mv_g (mv_t4 (i := 166) (by decide +kernel)) rfl
theorem lwX9_19 : u_lay RX9 TX9 19 ∈ mv_all := mv_g (mv_t4 (i := 168) (by decide +kernel)) rfl
theorem lwX9_20 : u_lay RX9 TX9 20 ∈ mv_all := mv_g (mv_t4 (i := 170) (by decide +kernel)) rfl
theorem lwX9_21 : u_lay RX9 TX9 21 ∈ mv_all := mv_g (mv_t4 (i := 172) (by decide +kernel)) rfl
theorem lwX9_22 : u_lay RX9 TX9 22 ∈ mv_all := mv_g (mv_t4 (i := 174) (by decide +kernel)) rfl
theorem inmX9 : ∀ w ∈ wsX90, w ∈ mv_all := by
  show ∀ w ∈ [u_lay RX9 TX9 0, u_lay RX9 TX9 1, u_lay RX9 TX9 2, u_lay RX9 TX9 3, u_lay RX9 TX9 4, u_lay RX9 TX9 5, u_lay RX9 TX9 6, u_lay RX9 TX9 7, u_lay RX9 TX9 8, u_lay RX9 TX9 9, u_lay RX9 TX9 10, u_lay RX9 TX9 11, u_lay RX9 TX9 12, u_lay RX9 TX9 13, u_lay RX9 TX9 14, u_lay RX9 TX9 15, u_lay RX9 TX9 16, u_lay RX9 TX9 17, u_lay RX9 TX9 18, u_lay RX9 TX9 19, u_lay RX9 TX9 20, u_lay RX9 TX9 21, u_lay RX9 TX9 22], w ∈ mv_all
  exact List.forall_mem_cons.mpr ⟨lwX9_0, List.forall_mem_cons.mpr ⟨lwX9_1, List.forall_mem_cons.mpr ⟨lwX9_2, List.forall_mem_cons.mpr ⟨lwX9_3, List.forall_mem_cons.mpr ⟨lwX9_4, List.forall_mem_cons.mpr ⟨lwX9_5, List.forall_mem_cons.mpr ⟨lwX9_6, List.forall_mem_cons.mpr ⟨lwX9_7, List.forall_mem_cons.mpr ⟨lwX9_8, List.forall_mem_cons.mpr ⟨lwX9_9, List.forall_mem_cons.mpr ⟨lwX9_10, List.forall_mem_cons.mpr ⟨lwX9_11, List.forall_mem_cons.mpr ⟨lwX9_12, List.forall_mem_cons.mpr ⟨lwX9_13, List.forall_mem_cons.mpr ⟨lwX9_14, List.forall_mem_cons.mpr ⟨lwX9_15, List.forall_mem_cons.mpr ⟨lwX9_16, List.forall_mem_cons.mpr ⟨lwX9_17, List.forall_mem_cons.mpr ⟨lwX9_18, List.forall_mem_cons.mpr ⟨lwX9_19, List.forall_mem_cons.mpr ⟨lwX9_20, List.forall_mem_cons.mpr ⟨lwX9_21, List.forall_mem_cons.mpr ⟨lwX9_22, fun _ h => absurd h List.not_mem_nil⟩⟩⟩⟩⟩⟩⟩⟩⟩⟩⟩⟩⟩⟩⟩⟩⟩⟩⟩⟩⟩⟩⟩
theorem fwX0_9 : Cond.fieldLink RX0 9 (TX0 0).1 (TX0 0).2.1 (TX0 0).2.2.1 ∈ mv_all := mv_g (mv_t1 (i := 165) (by decide +kernel)) rfl
theorem fwX0_13 : Cond.fieldLink RX0 13 (TX0 1).1 (TX0 1).2.1 (TX0 1).2.2.1 ∈ mv_all := mv_g (mv_t1 (i := 167) (by decide +kernel)) rfl
theorem fwX0_16 : Cond.fieldLink RX0 16 (TX0 2).1 (TX0 2).2.1 (TX0 2).2.2.1 ∈ mv_all := mv_g (mv_t1 (i := 169) (by decide +kernel)) rfl
theorem fwX0_19 : Cond.fieldLink RX0 19 (TX0 3).1 (TX0 3).2.1 (TX0 3).2.2.1 ∈ mv_all := mv_g (mv_t1 (i := 171) (by decide +kernel)) rfl
theorem fwX1_11 : Cond.fieldLink RX1 11 (TX1 1).1 (TX1 1).2.1 (TX1 1).2.2.1 ∈ mv_all := mv_g (mv_t2 (i := 24) (by decide +kernel)) rfl
theorem fwX1_15 : Cond.fieldLink RX1 15 (TX1 0).1 (TX1 0).2.1 (TX1 0).2.2.1 ∈ mv_all := mv_g (mv_t2 (i := 23) (by decide +kernel)) rfl
theorem fwX1_72 : Cond.fieldLink RX1 72 (TX1 2).1 (TX1 2).2.1 (TX1 2).2.2.1 ∈ mv_all := mv_g (mv_t2 (i := 26) (by decide +kernel)) rfl
theorem fwX2_11 : Cond.fieldLink RX2 11 (TX2 2).1 (TX2 2).2.1 (TX2 2).2.2.1 ∈ mv_all := mv_g (mv_t1 (i := 206) (by decide +kernel)) rfl
theorem fwX2_16 : Cond.fieldLink RX2 16 (TX2 3).1 (TX2 3).2.1 (TX2 3).2.2.1 ∈ mv_all := mv_g (mv_t1 (i := 207) (by decide +kernel)) rfl
theorem fwX2_19 : Cond.fieldLink RX2 19 (TX2 4).1 (TX2 4).2.1 (TX2 4).2.2.1 ∈ mv_all := mv_g (mv_t1 (i := 208) (by decide +kernel)) rfl
theorem fwX2_22 : Cond.fieldLink RX2 22 (TX2 5).1 (TX2 5).2.1 (TX2 5).2.2.1 ∈ mv_all := mv_g (mv_t1 (i := 209) (by decide +kernel)) rfl
theorem fwX2_26 : Cond.fieldLink RX2 26 (TX2 7).1 (TX2 7).2.1 (TX2 7).2.2.1 ∈ mv_all := mv_g (mv_t1 (i := 211) (by decide +kernel)) rfl
theorem fwX2_29 : Cond.fieldLink RX2 29 (TX2 0).1 (TX2 0).2.1 (TX2 0).2.2.1 ∈ mv_all := mv_g (mv_t1 (i := 203) (by decide +kernel)) rfl
theorem fwX2_48 : Cond.fieldLink RX2 48 (TX2 8).1 (TX2 8).2.1 (TX2 8).2.2.1 ∈ mv_all := mv_g (mv_t1 (i := 213) (by decide +kernel)) rfl
theorem fwX2_53 : Cond.fieldLink RX2 53 (TX2 6).1 (TX2 6).2.1 (TX2 6).2.2.1 ∈ mv_all := mv_g (mv_t1 (i := 210) (by decide +kernel)) rfl
theorem fwX2_106 : Cond.fieldLink RX2 106 (TX2 1).1 (TX2 1).2.1 (TX2 1).2.2.1 ∈ mv_all := mv_g (mv_t1 (i := 204) (by decide +kernel)) rfl
theorem fwX3_9 : Cond.fieldLink RX3 9 (TX3 1).1 (TX3 1).2.1 (TX3 1).2.2.1 ∈ mv_all := mv_g (mv_t1 (i := 189) (by decide +kernel)) rfl
theorem fwX3_15 : Cond.fieldLink RX3 15 (TX3 0).1 (TX3 0).2.1 (TX3 0).2.2.1 ∈ mv_all := mv_g (mv_t1 (i := 188) (by decide +kernel)) rfl
theorem fwX4_11 : Cond.fieldLink RX4 11 (TX4 0).1 (TX4 0).2.1 (TX4 0).2.2.1 ∈ mv_all := mv_g (mv_t1 (i := 139) (by decide +kernel)) rfl
theorem fwX4_18 : Cond.fieldLink RX4 18 (TX4 2).1 (TX4 2).2.1 (TX4 2).2.2.1 ∈ mv_all := mv_g (mv_t1 (i := 142) (by decide +kernel)) rfl
theorem fwX4_22 : Cond.fieldLink RX4 22 (TX4 1).1 (TX4 1).2.1 (TX4 1).2.2.1 ∈ mv_all := mv_g (mv_t1 (i := 140) (by decide +kernel)) rfl
theorem fwX4_26 : Cond.fieldLink RX4 26 (TX4 3).1 (TX4 3).2.1 (TX4 3).2.2.1 ∈ mv_all := mv_g (mv_t1 (i := 144) (by decide +kernel)) rfl
theorem fwX4_29 : Cond.fieldLink RX4 29 (TX4 4).1 (TX4 4).2.1 (TX4 4).2.2.1 ∈ mv_all := mv_g (mv_t1 (i := 146) (by decide +kernel)) rfl
theorem fwX5_11 : Cond.fieldLink RX5 11 (TX5 0).1 (TX5 0).2.1 (TX5 0).2.2.1 ∈ mv_all := mv_g (mv_t1 (i := 118) (by decide +kernel)) rfl
theorem fwX5_14 : Cond.fieldLink RX5 14 (TX5 1).1 (TX5 1).2.1 (TX5 1).2.2.1 ∈ mv_all := mv_g (mv_t1 (i := 121) (by decide +kernel)) rfl
theorem fwX5_18 : Cond.fieldLink RX5 18 (TX5 2).1 (TX5 2).2.1 (TX5 2).2.2.1 ∈ mv_all := mv_g (mv_t1 (i := 123) (by decide +kernel)) rfl
theorem fwX6_11 : Cond.fieldLink RX6 11 (TX6 2).1 (TX6 2).2.1 (TX6 2).2.2.1 ∈ mv_all := mv_g (mv_t2 (i := 2) (by decide +kernel)) rfl
theorem fwX6_15 : Cond.fieldLink RX6 15 (TX6 4).1 (TX6 4).2.1 (TX6 4).2.2.1 ∈ mv_all := mv_g (mv_t2 (i := 5) (by decide +kernel)) rfl
theorem fwX6_18 : Cond.fieldLink RX6 18 (TX6 0).1 (TX6 0).2.1 (TX6 0).2.2.1 ∈ mv_all := mv_g (mv_t2 (i := 0) (by decide +kernel)) rfl
theorem fwX6_22 : Cond.fieldLink RX6 22 (TX6 1).1 (TX6 1).2.1 (TX6 1).2.2.1 ∈ mv_all := mv_g (mv_t2 (i := 1) (by decide +kernel)) rfl
theorem fwX6_46 : Cond.fieldLink RX6 46 (TX6 3).1 (TX6 3).2.1 (TX6 3).2.2.1 ∈ mv_all := mv_g (mv_t2 (i := 4) (by decide +kernel)) rfl
theorem fwX7_9 : Cond.fieldLink RX7 9 (TX7 3).1 (TX7 3).2.1 (TX7 3).2.2.1 ∈ mv_all := mv_g (mv_t1 (i := 42) (by decide +kernel)) rfl
theorem fwX7_15 : Cond.fieldLink RX7 15 (TX7 4).1 (TX7 4).2.1 (TX7 4).2.2.1 ∈ mv_all := mv_g (mv_t1 (i := 45) (by decide +kernel)) rfl
theorem fwX7_18 : Cond.fieldLink RX7 18 (TX7 5).1 (TX7 5).2.1 (TX7 5).2.2.1 ∈ mv_all := mv_g (mv_t1 (i := 49) (by decide +kernel)) rfl
theorem fwX7_21 : Cond.fieldLink RX7 21 (TX7 6).1 (TX7 6).2.1 (TX7 6).2.2.1 ∈ mv_all := mv_g (mv_t1 (i := 53) (by decide +kernel)) rfl
theorem fwX7_24 : Cond.fieldLink RX7 24 (TX7 7).1 (TX7 7).2.1 (TX7 7).2.2.1 ∈ mv_all := mv_g (mv_t1 (i := 60) (by decide +kernel)) rfl
theorem fwX7_27 : Cond.fieldLink RX7 27 (TX7 8).1 (TX7 8).2.1 (TX7 8).2.2.1 ∈ mv_all := mv_g (mv_t1 (i := 64) (by decide +kernel)) rfl
theorem fwX7_30 : Cond.fieldLink RX7 30 (TX7 9).1 (TX7 9).2.1 (TX7 9).2.2.1 ∈ mv_all := mv_g (mv_t1 (i := 70) (by decide +kernel)) rfl
theorem fwX7_33 : Cond.fieldLink RX7 33 (TX7 10).1 (TX7 10).2.1 (TX7 10).2.2.1 ∈ mv_all := mv_g (mv_t1 (i := 76) (by decide +kernel)) rfl
theorem fwX7_36 : Cond.fieldLink RX7 36 (TX7 0).1 (TX7 0).2.1 (TX7 0).2.2.1 ∈ mv_all := mv_g (mv_t1 (i := 28) (by decide +kernel)) rfl
theorem fwX7_40 : Cond.fieldLink RX7 40 (TX7 1).1 (TX7 1).2.1 (TX7 1).2.2.1 ∈ mv_all := mv_g (mv_t1 (i := 33) (by decide +kernel)) rfl
theorem fwX7_43 : Cond.fieldLink RX7 43 (TX7 2).1 (TX7 2).2.1 (TX7 2).2.2.1 ∈ mv_all := mv_g (mv_t1 (i := 38) (by decide +kernel)) rfl
theorem fwX8_10 : Cond.fieldLink RX8 10 (TX8 0).1 (TX8 0).2.1 (TX8 0).2.2.1 ∈ mv_all := mv_g (mv_t2 (i := 35) (by decide +kernel)) rfl
theorem fwX8_16 : Cond.fieldLink RX8 16 (TX8 1).1 (TX8 1).2.1 (TX8 1).2.2.1 ∈ mv_all := mv_g (mv_t2 (i := 36) (by decide +kernel)) rfl
theorem fwX8_23 : Cond.fieldLink RX8 23 (TX8 2).1 (TX8 2).2.1 (TX8 2).2.2.1 ∈ mv_all := mv_g (mv_t2 (i := 37) (by decide +kernel)) rfl
theorem fwX8_30 : Cond.fieldLink RX8 30 (TX8 3).1 (TX8 3).2.1 (TX8 3).2.2.1 ∈ mv_all := mv_g (mv_t2 (i := 38) (by decide +kernel)) rfl
theorem fwX8_37 : Cond.fieldLink RX8 37 (TX8 4).1 (TX8 4).2.1 (TX8 4).2.2.1 ∈ mv_all := mv_g (mv_t2 (i := 39) (by decide +kernel)) rfl
theorem fwX8_46 : Cond.fieldLink RX8 46 (TX8 5).1 (TX8 5).2.1 (TX8 5).2.2.1 ∈ mv_all := mv_g (mv_t2 (i := 40) (by decide +kernel)) rfl
theorem fwX8_53 : Cond.fieldLink RX8 53 (TX8 6).1 (TX8 6).2.1 (TX8 6).2.2.1 ∈ mv_all := mv_g (mv_t2 (i := 41) (by decide +kernel)) rfl
theorem fwX8_62 : Cond.fieldLink RX8 62 (TX8 7).1 (TX8 7).2.1 (TX8 7).2.2.1 ∈ mv_all := mv_g (mv_t2 (i := 42) (by decide +kernel)) rfl
theorem fwX8_69 : Cond.fieldLink RX8 69 (TX8 8).1 (TX8 8).2.1 (TX8 8).2.2.1 ∈ mv_all := mv_g (mv_t2 (i := 43) (by decide +kernel)) rfl
theorem fwX8_138 : Cond.fieldLink RX8 138 (TX8 9).1 (TX8 9).2.1 (TX8 9).2.2.1 ∈ mv_all := mv_g (mv_t2 (i := 44) (by decide +kernel)) rfl
theorem fwX8_305 : Cond.fieldLink RX8 305 (TX8 10).1 (TX8 10).2.1 (TX8 10).2.2.1 ∈ mv_all := mv_g (mv_t2 (i := 45) (by decide +kernel)) rfl
theorem fwX9_7 : Cond.fieldLink RX9 7 (TX9 0).1 (TX9 0).2.1 (TX9 0).2.2.1 ∈ mv_all := mv_g (mv_t4 (i := 107) (by decide +kernel)) rfl
theorem fwX9_13 : Cond.fieldLink RX9 13 (TX9 2).1 (TX9 2).2.1 (TX9 2).2.2.1 ∈ mv_all := mv_g (mv_t4 (i := 109) (by decide +kernel)) rfl
theorem fwX9_16 : Cond.fieldLink RX9 16 (TX9 6).1 (TX9 6).2.1 (TX9 6).2.2.1 ∈ mv_all := mv_g (mv_t4 (i := 113) (by decide +kernel)) rfl
theorem fwX9_19 : Cond.fieldLink RX9 19 (TX9 7).1 (TX9 7).2.1 (TX9 7).2.2.1 ∈ mv_all := mv_g (mv_t4 (i := 114) (by decide +kernel)) rfl
theorem fwX9_22 : Cond.fieldLink RX9 22 (TX9 8).1 (TX9 8).2.1 (TX9 8).2.2.1 ∈ mv_all := mv_g (mv_t4 (i := 115) (by decide +kernel)) rfl
theorem fwX9_25 : Cond.fieldLink RX9 25 (TX9 9).1 (TX9 9).2.1 (TX9 9).2.2.1 ∈ mv_all := mv_g (mv_t4 (i := 116) (by decide +kernel)) rfl
theorem fwX9_28 : Cond.fieldLink RX9 28 (TX9 13).1 (TX9 13).2.1 (TX9 13).2.2.1 ∈ mv_all := mv_g (mv_t4 (i := 120) (by decide +kernel)) rfl
theorem fwX9_32 : Cond.fieldLink RX9 32 (TX9 14).1 (TX9 14).2.1 (TX9 14).2.2.1 ∈ mv_all := mv_g (mv_t4 (i := 121) (by decide +kernel)) rfl
theorem fwX9_35 : Cond.fieldLink RX9 35 (TX9 16).1 (TX9 16).2.1 (TX9 16).2.2.1 ∈ mv_all := mv_g (mv_t4 (i := 123) (by decide +kernel)) rfl
theorem fwX9_38 : Cond.fieldLink RX9 38 (TX9 17).1 (TX9 17).2.1 (TX9 17).2.2.1 ∈ mv_all := mv_g (mv_t4 (i := 124) (by decide +kernel)) rfl
theorem fwX9_41 : Cond.fieldLink RX9 41 (TX9 20).1 (TX9 20).2.1 (TX9 20).2.2.1 ∈ mv_all := mv_g (mv_t4 (i := 127) (by decide +kernel)) rfl
theorem fwX9_45 : Cond.fieldLink RX9 45 (TX9 21).1 (TX9 21).2.1 (TX9 21).2.2.1 ∈ mv_all := mv_g (mv_t4 (i := 128) (by decide +kernel)) rfl
theorem fwX9_54 : Cond.fieldLink RX9 54 (TX9 5).1 (TX9 5).2.1 (TX9 5).2.2.1 ∈ mv_all := mv_g (mv_t4 (i := 112) (by decide +kernel)) rfl
theorem fwX9_76 : Cond.fieldLink RX9 76 (TX9 3).1 (TX9 3).2.1 (TX9 3).2.2.1 ∈ mv_all := mv_g (mv_t4 (i := 110) (by decide +kernel)) rfl
theorem fwX9_80 : Cond.fieldLink RX9 80 (TX9 10).1 (TX9 10).2.1 (TX9 10).2.2.1 ∈ mv_all := mv_g (mv_t4 (i := 117) (by decide +kernel)) rfl
theorem fwX9_83 : Cond.fieldLink RX9 83 (TX9 4).1 (TX9 4).2.1 (TX9 4).2.2.1 ∈ mv_all := mv_g (mv_t4 (i := 111) (by decide +kernel)) rfl
theorem fwX9_86 : Cond.fieldLink RX9 86 (TX9 11).1 (TX9 11).2.1 (TX9 11).2.2.1 ∈ mv_all := mv_g (mv_t4 (i := 118) (by decide +kernel)) rfl
theorem fwX9_97 : Cond.fieldLink RX9 97 (TX9 12).1 (TX9 12).2.1 (TX9 12).2.2.1 ∈ mv_all := mv_g (mv_t4 (i := 119) (by decide +kernel)) rfl
theorem fwX9_131 : Cond.fieldLink RX9 131 (TX9 1).1 (TX9 1).2.1 (TX9 1).2.2.1 ∈ mv_all := mv_g (mv_t4 (i := 108) (by decide +kernel)) rfl
theorem fwX9_189 : Cond.fieldLink RX9 189 (TX9 15).1 (TX9 15).2.1 (TX9 15).2.2.1 ∈ mv_all := mv_g (mv_t4 (i := 122) (by decide +kernel)) rfl
theorem fwX9_198 : Cond.fieldLink RX9 198 (TX9 18).1 (TX9 18).2.1 (TX9 18).2.2.1 ∈ mv_all := mv_g (mv_t4 (i := 125) (by decide +kernel)) rfl
theorem fwX9_201 : Cond.fieldLink RX9 201 (TX9 19).1 (TX9 19).2.1 (TX9 19).2.2.1 ∈ mv_all := mv_g (mv_t4 (i := 126) (by decide +kernel)) rfl
theorem fwX9_243 : Cond.fieldLink RX9 243 (TX9 22).1 (TX9 22).2.1 (TX9 22).2.2.1 ∈ mv_all := mv_g (mv_t4 (i := 129) (by decide +kernel)) rfl
theorem mwL_9 : Cond.methodLink RL 9 yX8_init ∈ mv_all := mv_g (mv_t1 (i := 16) (by decide +kernel)) rfl
theorem mwL_12 : Cond.methodLink RL 12 yX9_init ∈ mv_all := mv_g (mv_t4 (i := 103) (by decide +kernel)) rfl
theorem mwL_13 : Cond.methodLink RL 13 yX8_row ∈ mv_all := mv_g (mv_t2 (i := 69) (by decide +kernel)) rfl
theorem mwL_17 : Cond.methodLink RL 17 yX9_row ∈ mv_all := mv_g (mv_t4 (i := 178) (by decide +kernel)) rfl
theorem mwL_18 : Cond.methodLink RL 18 yX8_set ∈ mv_all := mv_g (mv_t2 (i := 93) (by decide +kernel)) rfl
theorem mwL_21 : Cond.methodLink RL 21 yX9_set ∈ mv_all := mv_g (mv_t4 (i := 196) (by decide +kernel)) rfl
theorem mwL_22 : Cond.methodLink RL 22 yX8_copy ∈ mv_all := mv_g (mv_t2 (i := 109) (by decide +kernel)) rfl
theorem mwL_26 : Cond.methodLink RL 26 yX9_copy ∈ mv_all := mv_g (mv_t4 (i := 204) (by decide +kernel)) rfl
theorem mwL_27 : Cond.methodLink RL 27 yX8_drop ∈ mv_all := mv_g (mv_t2 (i := 116) (by decide +kernel)) rfl
theorem mwL_31 : Cond.methodLink RL 31 yX9_drop ∈ mv_all := mv_g (mv_t4 (i := 208) (by decide +kernel)) rfl
theorem mwL_32 : Cond.methodLink RL 32 yX8_feed ∈ mv_all := mv_g (mv_t2 (i := 124) (by decide +kernel)) rfl
theorem mwL_35 : Cond.methodLink RL 35 yX9_feed ∈ mv_all := mv_g (mv_t4 (i := 212) (by decide +kernel)) rfl
theorem mwL_36 : Cond.methodLink RL 36 yX8_world ∈ mv_all := mv_g (mv_t2 (i := 137) (by decide +kernel)) rfl
theorem mwL_40 : Cond.methodLink RL 40 yX9_world ∈ mv_all := mv_g (mv_t4 (i := 218) (by decide +kernel)) rfl
theorem mwL_41 : Cond.methodLink RL 41 yX8_fault ∈ mv_all := mv_g (mv_t2 (i := 212) (by decide +kernel)) rfl
theorem mwL_44 : Cond.methodLink RL 44 yX9_fault ∈ mv_all := mv_g (mv_t5 (i := 24) (by decide +kernel)) rfl
theorem mwL_45 : Cond.methodLink RL 45 yX8_hide ∈ mv_all := mv_g (mv_t2 (i := 216) (by decide +kernel)) rfl
theorem mwL_49 : Cond.methodLink RL 49 yX9_hide ∈ mv_all := mv_g (mv_t5 (i := 28) (by decide +kernel)) rfl
theorem mwL_50 : Cond.methodLink RL 50 yX8_cost ∈ mv_all := mv_g (mv_t3 (i := 7) (by decide +kernel)) rfl
theorem mwL_53 : Cond.methodLink RL 53 yX9_cost ∈ mv_all := mv_g (mv_t5 (i := 41) (by decide +kernel)) rfl
theorem mwL_54 : Cond.methodLink RL 54 yX8_above ∈ mv_all := mv_g (mv_t3 (i := 11) (by decide +kernel)) rfl
theorem mwL_57 : Cond.methodLink RL 57 yX9_above ∈ mv_all := mv_g (mv_t5 (i := 46) (by decide +kernel)) rfl
theorem mwL_58 : Cond.methodLink RL 58 yX8_undo ∈ mv_all := mv_g (mv_t3 (i := 19) (by decide +kernel)) rfl
theorem mwL_61 : Cond.methodLink RL 61 yX9_undo ∈ mv_all := mv_g (mv_t5 (i := 54) (by decide +kernel)) rfl
theorem mwL_62 : Cond.methodLink RL 62 yX8_member ∈ mv_all := mv_g (mv_t3 (i := 23) (by decide +kernel)) rfl
theorem mwL_65 : Cond.methodLink RL 65 yX9_member ∈ mv_all := mv_g (mv_t5 (i := 58) (by decide +kernel)) rfl
theorem mwL_66 : Cond.methodLink RL 66 yX8_type ∈ mv_all := mv_g (mv_t3 (i := 32) (by decide +kernel)) rfl
theorem mwL_69 : Cond.methodLink RL 69 yX9_type ∈ mv_all := mv_g (mv_t5 (i := 67) (by decide +kernel)) rfl
theorem mwL_70 : Cond.methodLink RL 70 yX8_many ∈ mv_all := mv_g (mv_t3 (i := 52) (by decide +kernel)) rfl
theorem mwL_73 : Cond.methodLink RL 73 yX9_many ∈ mv_all := mv_g (mv_t5 (i := 83) (by decide +kernel)) rfl
theorem mwL_74 : Cond.methodLink RL 74 yX8_cheapest ∈ mv_all := mv_g (mv_t3 (i := 86) (by decide +kernel)) rfl
theorem mwL_77 : Cond.methodLink RL 77 yX9_cheapest ∈ mv_all := mv_g (mv_t5 (i := 109) (by decide +kernel)) rfl
theorem mwL_78 : Cond.methodLink RL 78 yX8_listed ∈ mv_all := mv_g (mv_t3 (i := 110) (by decide +kernel)) rfl
theorem mwL_81 : Cond.methodLink RL 81 yX9_listed ∈ mv_all := mv_g (mv_t5 (i := 117) (by decide +kernel)) rfl
theorem mwL_82 : Cond.methodLink RL 82 yX8_word ∈ mv_all := mv_g (mv_t3 (i := 145) (by decide +kernel)) rfl
theorem mwL_86 : Cond.methodLink RL 86 yX9_word ∈ mv_all := mv_g (mv_t5 (i := 142) (by decide +kernel)) rfl
theorem mwL_87 : Cond.methodLink RL 87 yX8_place ∈ mv_all := mv_g (mv_t3 (i := 184) (by decide +kernel)) rfl
theorem mwL_90 : Cond.methodLink RL 90 yX9_place ∈ mv_all := mv_g (mv_t5 (i := 154) (by decide +kernel)) rfl
theorem mwL_91 : Cond.methodLink RL 91 yX8_had ∈ mv_all := mv_g (mv_t3 (i := 197) (by decide +kernel)) rfl
theorem mwL_94 : Cond.methodLink RL 94 yX9_had ∈ mv_all := mv_g (mv_t5 (i := 162) (by decide +kernel)) rfl
theorem mwL_95 : Cond.methodLink RL 95 yX8_needed ∈ mv_all := mv_g (mv_t3 (i := 205) (by decide +kernel)) rfl
theorem mwL_98 : Cond.methodLink RL 98 yX9_needed ∈ mv_all := mv_g (mv_t5 (i := 170) (by decide +kernel)) rfl
theorem mwL_99 : Cond.methodLink RL 99 yX8_without ∈ mv_all := mv_g (mv_t3 (i := 214) (by decide +kernel)) rfl
theorem mwL_102 : Cond.methodLink RL 102 yX9_without ∈ mv_all := mv_g (mv_t5 (i := 174) (by decide +kernel)) rfl
theorem mwL_103 : Cond.methodLink RL 103 yX8_share ∈ mv_all := mv_g (mv_t3 (i := 218) (by decide +kernel)) rfl
theorem mwL_106 : Cond.methodLink RL 106 yX9_share ∈ mv_all := mv_g (mv_t5 (i := 178) (by decide +kernel)) rfl
theorem mwL_107 : Cond.methodLink RL 107 yX8_drawn ∈ mv_all := mv_g (mv_t3 (i := 232) (by decide +kernel)) rfl
theorem mwL_110 : Cond.methodLink RL 110 yX9_drawn ∈ mv_all := mv_g (mv_t5 (i := 183) (by decide +kernel)) rfl
theorem mwL_111 : Cond.methodLink RL 111 yX8_image ∈ mv_all := mv_g (mv_t4 (i := 3) (by decide +kernel)) rfl
theorem mwL_114 : Cond.methodLink RL 114 yX9_image ∈ mv_all := mv_g (mv_t5 (i := 191) (by decide +kernel)) rfl
theorem mwL_115 : Cond.methodLink RL 115 yX8_restore ∈ mv_all := mv_g (mv_t4 (i := 7) (by decide +kernel)) rfl
theorem mwL_118 : Cond.methodLink RL 118 yX9_restore ∈ mv_all := mv_g (mv_t5 (i := 195) (by decide +kernel)) rfl
theorem mwL_119 : Cond.methodLink RL 119 yX8_kind ∈ mv_all := mv_g (mv_t4 (i := 11) (by decide +kernel)) rfl
theorem mwL_122 : Cond.methodLink RL 122 yX9_kind ∈ mv_all := mv_g (mv_t5 (i := 199) (by decide +kernel)) rfl
theorem mwL_123 : Cond.methodLink RL 123 yX8_as ∈ mv_all := mv_g (mv_t4 (i := 15) (by decide +kernel)) rfl
theorem mwL_126 : Cond.methodLink RL 126 yX9_as ∈ mv_all := mv_g (mv_t5 (i := 203) (by decide +kernel)) rfl
theorem mwL_127 : Cond.methodLink RL 127 yX8_ask ∈ mv_all := mv_g (mv_t4 (i := 23) (by decide +kernel)) rfl
theorem mwL_130 : Cond.methodLink RL 130 yX9_ask ∈ mv_all := mv_g (mv_t5 (i := 211) (by decide +kernel)) rfl
theorem mwL_131 : Cond.methodLink RL 131 yX8_trace ∈ mv_all := mv_g (mv_t4 (i := 84) (by decide +kernel)) rfl
theorem mwL_134 : Cond.methodLink RL 134 yX9_trace ∈ mv_all := mv_g (mv_t6 (i := 11) (by decide +kernel)) rfl
theorem mwL_135 : Cond.methodLink RL 135 yX8_count ∈ mv_all := mv_g (mv_t4 (i := 88) (by decide +kernel)) rfl
theorem mwL_138 : Cond.methodLink RL 138 yX9_count ∈ mv_all := mv_g (mv_t6 (i := 15) (by decide +kernel)) rfl
theorem mwL_139 : Cond.methodLink RL 139 yX8_status ∈ mv_all := mv_g (mv_t4 (i := 97) (by decide +kernel)) rfl
theorem mwL_142 : Cond.methodLink RL 142 yX9_status ∈ mv_all := mv_g (mv_t6 (i := 23) (by decide +kernel)) rfl
theorem mwX0_1 : Cond.methodLink RX0 1 objectInit ∈ mv_all := mv_g (mv_t1 (i := 164) (by decide +kernel)) rfl
theorem mwX0_23 : Cond.methodLink RX0 23 yX0_forgetOldest ∈ mv_all := mv_g (mv_t2 (i := 233) (by decide +kernel)) rfl
theorem mwX0_26 : Cond.methodLink RX0 26 arraycopyName ∈ mv_all := mv_g (mv_t2 (i := 237) (by decide +kernel)) rfl
theorem mwX1_3 : Cond.methodLink RX1 3 objectInit ∈ mv_all := mv_g (mv_t2 (i := 22) (by decide +kernel)) rfl
theorem mwX1_24 : Cond.methodLink RX1 24 yX1_sizeOfCall ∈ mv_all := mv_g (mv_t4 (i := 31) (by decide +kernel)) rfl
theorem mwX1_28 : Cond.methodLink RX1 28 yX1_body12 ∈ mv_all := mv_g (mv_t4 (i := 52) (by decide +kernel)) rfl
theorem mwX1_31 : Cond.methodLink RX1 31 yX1_body11 ∈ mv_all := mv_g (mv_t4 (i := 56) (by decide +kernel)) rfl
theorem mwX1_38 : Cond.methodLink RX1 38 yX1_body23 ∈ mv_all := mv_g (mv_t4 (i := 80) (by decide +kernel)) rfl
theorem mwX1_41 : Cond.methodLink RX1 41 yX1_markOfLocal ∈ mv_all := mv_g (mv_t4 (i := 60) (by decide +kernel)) rfl
theorem mwX1_44 : Cond.methodLink RX1 44 yX1_body14 ∈ mv_all := mv_g (mv_t4 (i := 36) (by decide +kernel)) rfl
theorem mwX1_47 : Cond.methodLink RX1 47 yX1_body13 ∈ mv_all := mv_g (mv_t4 (i := 44) (by decide +kernel)) rfl
theorem mwX1_50 : Cond.methodLink RX1 50 yX1_body24 ∈ mv_all := mv_g (mv_t4 (i := 64) (by decide +kernel)) rfl
theorem mwX1_53 : Cond.methodLink RX1 53 yX1_body22 ∈ mv_all := mv_g (mv_t4 (i := 72) (by decide +kernel)) rfl
theorem mwX1_56 : Cond.methodLink RX1 56 yX1_body21 ∈ mv_all := mv_g (mv_t4 (i := 68) (by decide +kernel)) rfl
theorem mwX1_59 : Cond.methodLink RX1 59 yX1_begin ∈ mv_all := mv_g (mv_t4 (i := 40) (by decide +kernel)) rfl
theorem mwX1_66 : Cond.methodLink RX1 66 yX1_body10 ∈ mv_all := mv_g (mv_t4 (i := 48) (by decide +kernel)) rfl
theorem mwX2_3 : Cond.methodLink RX2 3 objectInit ∈ mv_all := mv_g (mv_t1 (i := 200) (by decide +kernel)) rfl
theorem mwX2_33 : Cond.methodLink RX2 33 yX2_countAll ∈ mv_all := mv_g (mv_t3 (i := 60) (by decide +kernel)) rfl
theorem mwX2_38 : Cond.methodLink RX2 38 yJ9_min_f86c9 ∈ mv_all := mv_g (mv_t3 (i := 78) (by decide +kernel)) rfl
theorem mwX2_44 : Cond.methodLink RX2 44 yX2_manyBelow ∈ mv_all := mv_g (mv_t3 (i := 193) (by decide +kernel)) rfl
theorem mwX2_57 : Cond.methodLink RX2 57 yX2_want ∈ mv_all := mv_g (mv_t3 (i := 124) (by decide +kernel)) rfl
theorem mwX2_61 : Cond.methodLink RX2 61 yX2_choose ∈ mv_all := mv_g (mv_t3 (i := 128) (by decide +kernel)) rfl
theorem mwX2_71 : Cond.methodLink RX2 71 yX2_wantTaken ∈ mv_all := mv_g (mv_t3 (i := 137) (by decide +kernel)) rfl
theorem mwX2_78 : Cond.methodLink RX2 78 yX2_waysWith ∈ mv_all := mv_g (mv_t3 (i := 132) (by decide +kernel)) rfl
theorem mwX2_90 : Cond.methodLink RX2 90 yX2_ways ∈ mv_all := mv_g (mv_t3 (i := 74) (by decide +kernel)) rfl
theorem mwX2_100 : Cond.methodLink RX2 100 yX2_fillRest ∈ mv_all := mv_g (mv_t3 (i := 141) (by decide +kernel)) rfl
theorem mwX2_110 : Cond.methodLink RX2 110 yX2_countPrice ∈ mv_all := mv_g (mv_t3 (i := 64) (by decide +kernel)) rfl
theorem mwX2_116 : Cond.methodLink RX2 116 yX2_manyWith ∈ mv_all := mv_g (mv_t3 (i := 69) (by decide +kernel)) rfl
theorem mwX2_125 : Cond.methodLink RX2 125 yX2_addTo ∈ mv_all := mv_g (mv_t3 (i := 81) (by decide +kernel)) rfl
theorem mwX3_3 : Cond.methodLink RX3 3 objectInit ∈ mv_all := mv_g (mv_t1 (i := 187) (by decide +kernel)) rfl
theorem mwX3_19 : Cond.methodLink RX3 19 yX3_seek ∈ mv_all := mv_g (mv_t3 (i := 94) (by decide +kernel)) rfl
theorem mwX3_34 : Cond.methodLink RX3 34 yX3_typesHad ∈ mv_all := mv_g (mv_t3 (i := 213) (by decide +kernel)) rfl
theorem mwX3_41 : Cond.methodLink RX3 41 yJ7_fill_53178 ∈ mv_all := mv_g (mv_t3 (i := 99) (by decide +kernel)) rfl
theorem mwX3_53 : Cond.methodLink RX3 53 yX3_leastWith ∈ mv_all := mv_g (mv_t3 (i := 100) (by decide +kernel)) rfl
theorem mwX3_56 : Cond.methodLink RX3 56 yX3_lower ∈ mv_all := mv_g (mv_t3 (i := 105) (by decide +kernel)) rfl
theorem mwX4_3 : Cond.methodLink RX4 3 objectInit ∈ mv_all := mv_g (mv_t1 (i := 136) (by decide +kernel)) rfl
theorem mwX4_41 : Cond.methodLink RX4 41 yX4_readLaw ∈ mv_all := mv_g (mv_t2 (i := 145) (by decide +kernel)) rfl
theorem mwX4_45 : Cond.methodLink RX4 45 yX4_readTypes ∈ mv_all := mv_g (mv_t2 (i := 175) (by decide +kernel)) rfl
theorem mwX4_48 : Cond.methodLink RX4 48 yX4_readMembers ∈ mv_all := mv_g (mv_t2 (i := 183) (by decide +kernel)) rfl
theorem mwX4_51 : Cond.methodLink RX4 51 yX4_take ∈ mv_all := mv_g (mv_t2 (i := 149) (by decide +kernel)) rfl
theorem mwX4_55 : Cond.methodLink RX4 55 yX4_takeNumber ∈ mv_all := mv_g (mv_t2 (i := 165) (by decide +kernel)) rfl
theorem mwX4_59 : Cond.methodLink RX4 59 yJ9_max_7cf53 ∈ mv_all := mv_g (mv_t2 (i := 172) (by decide +kernel)) rfl
theorem mwX4_70 : Cond.methodLink RX4 70 yX4_readMember ∈ mv_all := mv_g (mv_t2 (i := 187) (by decide +kernel)) rfl
theorem mwX4_73 : Cond.methodLink RX4 73 yX4_here ∈ mv_all := mv_g (mv_t2 (i := 153) (by decide +kernel)) rfl
theorem mwX4_77 : Cond.methodLink RX4 77 yX4_kindOf ∈ mv_all := mv_g (mv_t2 (i := 191) (by decide +kernel)) rfl
theorem mwX4_81 : Cond.methodLink RX4 81 yX4_refuse ∈ mv_all := mv_g (mv_t2 (i := 161) (by decide +kernel)) rfl
theorem mwX4_96 : Cond.methodLink RX4 96 yX4_readTaken ∈ mv_all := mv_g (mv_t2 (i := 194) (by decide +kernel)) rfl
theorem mwX4_105 : Cond.methodLink RX4 105 yX4_byteAt ∈ mv_all := mv_g (mv_t2 (i := 157) (by decide +kernel)) rfl
theorem mwX4_108 : Cond.methodLink RX4 108 yX4_isFigure ∈ mv_all := mv_g (mv_t2 (i := 169) (by decide +kernel)) rfl
theorem mwX5_1 : Cond.methodLink RX5 1 objectInit ∈ mv_all := mv_g (mv_t1 (i := 112) (by decide +kernel)) rfl
theorem mwX5_21 : Cond.methodLink RX5 21 yJ7_fill_53178 ∈ mv_all := mv_g (mv_t1 (i := 115) (by decide +kernel)) rfl
theorem mwX5_27 : Cond.methodLink RX5 27 yX5_isMissing ∈ mv_all := mv_g (mv_t4 (i := 96) (by decide +kernel)) rfl
theorem mwX6_3 : Cond.methodLink RX6 3 objectInit ∈ mv_all := mv_g (mv_t1 (i := 239) (by decide +kernel)) rfl
theorem mwX6_40 : Cond.methodLink RX6 40 arraycopyName ∈ mv_all := mv_g (mv_t3 (i := 158) (by decide +kernel)) rfl
theorem mwX6_50 : Cond.methodLink RX6 50 yX6_fits ∈ mv_all := mv_g (mv_t3 (i := 163) (by decide +kernel)) rfl
theorem mwX6_54 : Cond.methodLink RX6 54 yJ9_max_7cf53 ∈ mv_all := mv_g (mv_t3 (i := 170) (by decide +kernel)) rfl
theorem mwX6_60 : Cond.methodLink RX6 60 yX6_wantTaken ∈ mv_all := mv_g (mv_t3 (i := 171) (by decide +kernel)) rfl
theorem mwX7_3 : Cond.methodLink RX7 3 objectInit ∈ mv_all := mv_g (mv_t1 (i := 27) (by decide +kernel)) rfl
theorem mwX7_46 : Cond.methodLink RX7 46 arraycopyName ∈ mv_all := mv_g (mv_t2 (i := 211) (by decide +kernel)) rfl
theorem mwX7_52 : Cond.methodLink RX7 52 yX7_isOf ∈ mv_all := mv_g (mv_t3 (i := 40) (by decide +kernel)) rfl
theorem mwX7_56 : Cond.methodLink RX7 56 yX7_givesOne ∈ mv_all := mv_g (mv_t3 (i := 48) (by decide +kernel)) rfl
theorem mwX7_59 : Cond.methodLink RX7 59 yX7_pricesShown ∈ mv_all := mv_g (mv_t3 (i := 226) (by decide +kernel)) rfl
theorem mwX7_63 : Cond.methodLink RX7 63 yX7_isHidden ∈ mv_all := mv_g (mv_t3 (i := 230) (by decide +kernel)) rfl
theorem mwX7_67 : Cond.methodLink RX7 67 yX7_priceOf ∈ mv_all := mv_g (mv_t3 (i := 231) (by decide +kernel)) rfl
theorem mwX8_1 : Cond.methodLink RX8 1 objectInit ∈ mv_all := mv_g (mv_t1 (i := 19) (by decide +kernel)) rfl
theorem mwX8_81 : Cond.methodLink RX8 81 yX8_found ∈ mv_all := mv_g (mv_t2 (i := 80) (by decide +kernel)) rfl
theorem mwX8_89 : Cond.methodLink RX8 89 yX8_unfound ∈ mv_all := mv_g (mv_t2 (i := 89) (by decide +kernel)) rfl
theorem mwX8_111 : Cond.methodLink RX8 111 arraycopyName ∈ mv_all := mv_g (mv_t2 (i := 113) (by decide +kernel)) rfl
theorem mwX8_148 : Cond.methodLink RX8 148 yX8_standAs ∈ mv_all := mv_g (mv_t2 (i := 203) (by decide +kernel)) rfl
theorem mwX8_164 : Cond.methodLink RX8 164 yX8_change ∈ mv_all := mv_g (mv_t2 (i := 238) (by decide +kernel)) rfl
theorem mwX9_1 : Cond.methodLink RX9 1 objectInit ∈ mv_all := mv_g (mv_t4 (i := 106) (by decide +kernel)) rfl
theorem mwX9_48 : Cond.methodLink RX9 48 yX9_in ∈ mv_all := mv_g (mv_t4 (i := 186) (by decide +kernel)) rfl
theorem mwX9_59 : Cond.methodLink RX9 59 yX9_isRow ∈ mv_all := mv_g (mv_t4 (i := 182) (by decide +kernel)) rfl
theorem mwX9_66 : Cond.methodLink RX9 66 yX9_finds ∈ mv_all := mv_g (mv_t4 (i := 191) (by decide +kernel)) rfl
theorem mwX9_70 : Cond.methodLink RX9 70 yX9_against ∈ mv_all := mv_g (mv_t4 (i := 200) (by decide +kernel)) rfl
theorem mwX9_89 : Cond.methodLink RX9 89 yX9_here ∈ mv_all := mv_g (mv_t4 (i := 234) (by decide +kernel)) rfl
theorem mwX9_93 : Cond.methodLink RX9 93 yX9_fails ∈ mv_all := mv_g (mv_t4 (i := 238) (by decide +kernel)) rfl
theorem mwX9_104 : Cond.methodLink RX9 104 yX9_takes ∈ mv_all := mv_g (mv_t4 (i := 230) (by decide +kernel)) rfl
theorem mwX9_107 : Cond.methodLink RX9 107 yX9_takesNumber ∈ mv_all := mv_g (mv_t5 (i := 2) (by decide +kernel)) rfl
theorem mwX9_110 : Cond.methodLink RX9 110 yX9_kindOf ∈ mv_all := mv_g (mv_t5 (i := 16) (by decide +kernel)) rfl
theorem mwX9_113 : Cond.methodLink RX9 113 yX9_takesLaw ∈ mv_all := mv_g (mv_t4 (i := 226) (by decide +kernel)) rfl
theorem mwX9_117 : Cond.methodLink RX9 117 yX9_takesType ∈ mv_all := mv_g (mv_t5 (i := 8) (by decide +kernel)) rfl
theorem mwX9_120 : Cond.methodLink RX9 120 yX9_takesMember ∈ mv_all := mv_g (mv_t5 (i := 12) (by decide +kernel)) rfl
theorem mwX9_123 : Cond.methodLink RX9 123 yX9_takesAll ∈ mv_all := mv_g (mv_t4 (i := 222) (by decide +kernel)) rfl
theorem mwX9_127 : Cond.methodLink RX9 127 yX9_copyOf ∈ mv_all := mv_g (mv_t5 (i := 20) (by decide +kernel)) rfl
theorem mwX9_134 : Cond.methodLink RX9 134 yX9_isMember ∈ mv_all := mv_g (mv_t5 (i := 32) (by decide +kernel)) rfl
theorem mwX9_138 : Cond.methodLink RX9 138 yX9_minds ∈ mv_all := mv_g (mv_t5 (i := 37) (by decide +kernel)) rfl
theorem mwX9_143 : Cond.methodLink RX9 143 yX9_isType ∈ mv_all := mv_g (mv_t5 (i := 50) (by decide +kernel)) rfl
theorem mwX9_146 : Cond.methodLink RX9 146 yX9_priceOf ∈ mv_all := mv_g (mv_t5 (i := 62) (by decide +kernel)) rfl
theorem mwX9_150 : Cond.methodLink RX9 150 yX9_isOf ∈ mv_all := mv_g (mv_t5 (i := 75) (by decide +kernel)) rfl
theorem mwX9_153 : Cond.methodLink RX9 153 yX9_typesOf ∈ mv_all := mv_g (mv_t5 (i := 71) (by decide +kernel)) rfl
theorem mwX9_157 : Cond.methodLink RX9 157 yX9_givers ∈ mv_all := mv_g (mv_t5 (i := 79) (by decide +kernel)) rfl
theorem mwX9_162 : Cond.methodLink RX9 162 yX9_cut ∈ mv_all := mv_g (mv_t5 (i := 99) (by decide +kernel)) rfl
theorem mwX9_166 : Cond.methodLink RX9 166 yX9_has ∈ mv_all := mv_g (mv_t5 (i := 92) (by decide +kernel)) rfl
theorem mwX9_169 : Cond.methodLink RX9 169 yX9_headed ∈ mv_all := mv_g (mv_t5 (i := 95) (by decide +kernel)) rfl
theorem mwX9_178 : Cond.methodLink RX9 178 yX9_layWays ∈ mv_all := mv_g (mv_t5 (i := 88) (by decide +kernel)) rfl
theorem mwX9_182 : Cond.methodLink RX9 182 yX9_toldOf ∈ mv_all := mv_g (mv_t5 (i := 103) (by decide +kernel)) rfl
theorem mwX9_186 : Cond.methodLink RX9 186 yX9_cheapestOf ∈ mv_all := mv_g (mv_t5 (i := 113) (by decide +kernel)) rfl
theorem mwX9_192 : Cond.methodLink RX9 192 yX9_await0 ∈ mv_all := mv_g (mv_t5 (i := 130) (by decide +kernel)) rfl
theorem mwX9_195 : Cond.methodLink RX9 195 yX9_gives ∈ mv_all := mv_g (mv_t5 (i := 138) (by decide +kernel)) rfl
theorem mwX9_204 : Cond.methodLink RX9 204 yX9_awaitsFirst ∈ mv_all := mv_g (mv_t5 (i := 126) (by decide +kernel)) rfl
theorem mwX9_207 : Cond.methodLink RX9 207 yX9_goesOn ∈ mv_all := mv_g (mv_t5 (i := 134) (by decide +kernel)) rfl
theorem mwX9_212 : Cond.methodLink RX9 212 yX9_laysCode ∈ mv_all := mv_g (mv_t5 (i := 122) (by decide +kernel)) rfl
theorem mwX9_215 : Cond.methodLink RX9 215 yX9_isWorld ∈ mv_all := mv_g (mv_t5 (i := 146) (by decide +kernel)) rfl
theorem mwX9_218 : Cond.methodLink RX9 218 yX9_isWhole ∈ mv_all := mv_g (mv_t5 (i := 150) (by decide +kernel)) rfl
theorem mwX9_221 : Cond.methodLink RX9 221 yX9_placeOf ∈ mv_all := mv_g (mv_t5 (i := 158) (by decide +kernel)) rfl
theorem mwX9_225 : Cond.methodLink RX9 225 yX9_hadBy ∈ mv_all := mv_g (mv_t5 (i := 166) (by decide +kernel)) rfl
theorem mwX9_240 : Cond.methodLink RX9 240 yX9_isA ∈ mv_all := mv_g (mv_t5 (i := 208) (by decide +kernel)) rfl
theorem mwX9_246 : Cond.methodLink RX9 246 yX9_traces ∈ mv_all := mv_g (mv_t5 (i := 219) (by decide +kernel)) rfl
theorem mwX9_249 : Cond.methodLink RX9 249 yX9_size10 ∈ mv_all := mv_g (mv_t5 (i := 227) (by decide +kernel)) rfl
theorem mwX9_252 : Cond.methodLink RX9 252 yX9_markOf ∈ mv_all := mv_g (mv_t5 (i := 231) (by decide +kernel)) rfl
theorem mwX9_255 : Cond.methodLink RX9 255 yX9_size11 ∈ mv_all := mv_g (mv_t5 (i := 223) (by decide +kernel)) rfl
theorem mwX9_258 : Cond.methodLink RX9 258 yX9_size13 ∈ mv_all := mv_g (mv_t6 (i := 3) (by decide +kernel)) rfl
theorem mwX9_261 : Cond.methodLink RX9 261 yX9_mark20 ∈ mv_all := mv_g (mv_t5 (i := 239) (by decide +kernel)) rfl
theorem mwX9_264 : Cond.methodLink RX9 264 yX9_mark21 ∈ mv_all := mv_g (mv_t5 (i := 235) (by decide +kernel)) rfl
theorem mwX9_267 : Cond.methodLink RX9 267 yX9_sizeOf ∈ mv_all := mv_g (mv_t5 (i := 215) (by decide +kernel)) rfl
theorem mwX9_270 : Cond.methodLink RX9 270 yX9_mark23 ∈ mv_all := mv_g (mv_t6 (i := 7) (by decide +kernel)) rfl
theorem mwX9_273 : Cond.methodLink RX9 273 yX9_rowsThere ∈ mv_all := mv_g (mv_t6 (i := 19) (by decide +kernel)) rfl
theorem tfnX1_19 : Cond.fieldLinkNest RX1 19 (TX7 5).1 (TX7 5).2.1 (TX7 5).2.2.1 "WantedTypes" ∈ lw_tbl := mv_t1 (i := 50) (by decide +kernel)
theorem tfnX1_63 : Cond.fieldLinkNest RX1 63 (TX7 7).1 (TX7 7).2.1 (TX7 7).2.2.1 "WantedTypes" ∈ lw_tbl := mv_t1 (i := 61) (by decide +kernel)
theorem tfnX1_69 : Cond.fieldLinkNest RX1 69 (TX7 6).1 (TX7 6).2.1 (TX7 6).2.2.1 "WantedTypes" ∈ lw_tbl := mv_t1 (i := 57) (by decide +kernel)
theorem tfnX2_75 : Cond.fieldLinkNest RX2 75 (TX7 1).1 (TX7 1).2.1 (TX7 1).2.2.1 "WantedTypes" ∈ lw_tbl := mv_t1 (i := 36) (by decide +kernel)
theorem tfnX2_94 : Cond.fieldLinkNest RX2 94 (TX7 8).1 (TX7 8).2.1 (TX7 8).2.2.1 "WantedTypes" ∈ lw_tbl := mv_t1 (i := 68) (by decide +kernel)
theorem tfnX2_97 : Cond.fieldLinkNest RX2 97 (TX7 10).1 (TX7 10).2.1 (TX7 10).2.2.1 "WantedTypes" ∈ lw_tbl := mv_t1 (i := 79) (by decide +kernel)
theorem tfnX2_103 : Cond.fieldLinkNest RX2 103 (TX7 9).1 (TX7 9).2.1 (TX7 9).2.2.1 "WantedTypes" ∈ lw_tbl := mv_t1 (i := 74) (by decide +kernel)
theorem tfnX2_113 : Cond.fieldLinkNest RX2 113 (TX7 0).1 (TX7 0).2.1 (TX7 0).2.2.1 "WantedTypes" ∈ lw_tbl := mv_t1 (i := 31) (by decide +kernel)
theorem tfnX2_119 : Cond.fieldLinkNest RX2 119 (TX7 4).1 (TX7 4).2.1 (TX7 4).2.2.1 "WantedTypes" ∈ lw_tbl := mv_t1 (i := 48) (by decide +kernel)
theorem tfnX2_122 : Cond.fieldLinkNest RX2 122 (TX7 6).1 (TX7 6).2.1 (TX7 6).2.2.1 "WantedTypes" ∈ lw_tbl := mv_t1 (i := 59) (by decide +kernel)
theorem tfnX3_24 : Cond.fieldLinkNest RX3 24 (TX7 0).1 (TX7 0).2.1 (TX7 0).2.2.1 "WantedTypes" ∈ lw_tbl := mv_t1 (i := 29) (by decide +kernel)
theorem tfnX3_31 : Cond.fieldLinkNest RX3 31 (TX7 2).1 (TX7 2).2.1 (TX7 2).2.2.1 "WantedTypes" ∈ lw_tbl := mv_t1 (i := 39) (by decide +kernel)
theorem tfnX3_38 : Cond.fieldLinkNest RX3 38 (TX7 1).1 (TX7 1).2.1 (TX7 1).2.2.1 "WantedTypes" ∈ lw_tbl := mv_t1 (i := 34) (by decide +kernel)
theorem tfnX3_47 : Cond.fieldLinkNest RX3 47 (TX7 4).1 (TX7 4).2.1 (TX7 4).2.2.1 "WantedTypes" ∈ lw_tbl := mv_t1 (i := 46) (by decide +kernel)
theorem tfnX3_50 : Cond.fieldLinkNest RX3 50 (TX7 6).1 (TX7 6).2.1 (TX7 6).2.2.1 "WantedTypes" ∈ lw_tbl := mv_t1 (i := 54) (by decide +kernel)
theorem tfnX3_63 : Cond.fieldLinkNest RX3 63 (TX7 8).1 (TX7 8).2.1 (TX7 8).2.2.1 "WantedTypes" ∈ lw_tbl := mv_t1 (i := 66) (by decide +kernel)
theorem tfnX3_66 : Cond.fieldLinkNest RX3 66 (TX7 9).1 (TX7 9).2.1 (TX7 9).2.2.1 "WantedTypes" ∈ lw_tbl := mv_t1 (i := 71) (by decide +kernel)
theorem tfnX3_69 : Cond.fieldLinkNest RX3 69 (TX7 10).1 (TX7 10).2.1 (TX7 10).2.2.1 "WantedTypes" ∈ lw_tbl := mv_t1 (i := 78) (by decide +kernel)
theorem tfnX4_32 : Cond.fieldLinkNest RX4 32 (TX7 0).1 (TX7 0).2.1 (TX7 0).2.2.1 "WantedTypes" ∈ lw_tbl := mv_t1 (i := 30) (by decide +kernel)
theorem tfnX4_35 : Cond.fieldLinkNest RX4 35 (TX7 1).1 (TX7 1).2.1 (TX7 1).2.2.1 "WantedTypes" ∈ lw_tbl := mv_t1 (i := 35) (by decide +kernel)
theorem tfnX4_38 : Cond.fieldLinkNest RX4 38 (TX7 2).1 (TX7 2).2.1 (TX7 2).2.2.1 "WantedTypes" ∈ lw_tbl := mv_t1 (i := 40) (by decide +kernel)
theorem tfnX4_64 : Cond.fieldLinkNest RX4 64 (TX7 3).1 (TX7 3).2.1 (TX7 3).2.2.1 "WantedTypes" ∈ lw_tbl := mv_t1 (i := 43) (by decide +kernel)
theorem tfnX4_84 : Cond.fieldLinkNest RX4 84 (TX7 5).1 (TX7 5).2.1 (TX7 5).2.2.1 "WantedTypes" ∈ lw_tbl := mv_t1 (i := 51) (by decide +kernel)
theorem tfnX4_87 : Cond.fieldLinkNest RX4 87 (TX7 6).1 (TX7 6).2.1 (TX7 6).2.2.1 "WantedTypes" ∈ lw_tbl := mv_t1 (i := 56) (by decide +kernel)
theorem tfnX4_90 : Cond.fieldLinkNest RX4 90 (TX7 7).1 (TX7 7).2.1 (TX7 7).2.2.1 "WantedTypes" ∈ lw_tbl := mv_t1 (i := 62) (by decide +kernel)
theorem tfnX4_93 : Cond.fieldLinkNest RX4 93 (TX7 8).1 (TX7 8).2.1 (TX7 8).2.2.1 "WantedTypes" ∈ lw_tbl := mv_t1 (i := 67) (by decide +kernel)
theorem tfnX4_99 : Cond.fieldLinkNest RX4 99 (TX7 9).1 (TX7 9).2.1 (TX7 9).2.2.1 "WantedTypes" ∈ lw_tbl := mv_t1 (i := 73) (by decide +kernel)
theorem tfnX4_102 : Cond.fieldLinkNest RX4 102 (TX7 10).1 (TX7 10).2.1 (TX7 10).2.2.1 "WantedTypes" ∈ lw_tbl := mv_t1 (i := 80) (by decide +kernel)
theorem tfnX6_36 : Cond.fieldLinkNest RX6 36 (TX5 0).1 (TX5 0).2.1 (TX5 0).2.2.1 "WantedTypes" ∈ lw_tbl := mv_t1 (i := 119) (by decide +kernel)
theorem tfnX6_74 : Cond.fieldLinkNest RX6 74 (TX7 8).1 (TX7 8).2.1 (TX7 8).2.2.1 "WantedTypes" ∈ lw_tbl := mv_t1 (i := 65) (by decide +kernel)
theorem tfnX6_77 : Cond.fieldLinkNest RX6 77 (TX7 10).1 (TX7 10).2.1 (TX7 10).2.2.1 "WantedTypes" ∈ lw_tbl := mv_t1 (i := 77) (by decide +kernel)
theorem tfnX6_80 : Cond.fieldLinkNest RX6 80 (TX7 9).1 (TX7 9).2.1 (TX7 9).2.2.1 "WantedTypes" ∈ lw_tbl := mv_t1 (i := 72) (by decide +kernel)
theorem tfnX6_83 : Cond.fieldLinkNest RX6 83 (TX7 6).1 (TX7 6).2.1 (TX7 6).2.2.1 "WantedTypes" ∈ lw_tbl := mv_t1 (i := 55) (by decide +kernel)
theorem tfnX8_103 : Cond.fieldLinkNest RX8 103 (TX5 1).1 (TX5 1).2.1 (TX5 1).2.2.1 "WantedTypes" ∈ lw_tbl := mv_t1 (i := 122) (by decide +kernel)
theorem tfnX8_107 : Cond.fieldLinkNest RX8 107 (TX5 0).1 (TX5 0).2.1 (TX5 0).2.2.1 "WantedTypes" ∈ lw_tbl := mv_t1 (i := 120) (by decide +kernel)
theorem tfnX8_134 : Cond.fieldLinkNest RX8 134 (TX4 4).1 (TX4 4).2.1 (TX4 4).2.2.1 "WantedTypes" ∈ lw_tbl := mv_t1 (i := 147) (by decide +kernel)
theorem tfnX8_142 : Cond.fieldLinkNest RX8 142 (TX4 3).1 (TX4 3).2.1 (TX4 3).2.2.1 "WantedTypes" ∈ lw_tbl := mv_t1 (i := 145) (by decide +kernel)
theorem tfnX8_145 : Cond.fieldLinkNest RX8 145 (TX4 2).1 (TX4 2).2.1 (TX4 2).2.2.1 "WantedTypes" ∈ lw_tbl := mv_t1 (i := 143) (by decide +kernel)
theorem tfnX8_151 : Cond.fieldLinkNest RX8 151 (TX7 1).1 (TX7 1).2.1 (TX7 1).2.2.1 "WantedTypes" ∈ lw_tbl := mv_t1 (i := 37) (by decide +kernel)
theorem tfnX8_167 : Cond.fieldLinkNest RX8 167 (TX7 2).1 (TX7 2).2.1 (TX7 2).2.2.1 "WantedTypes" ∈ lw_tbl := mv_t1 (i := 41) (by decide +kernel)
theorem tfnX8_170 : Cond.fieldLinkNest RX8 170 (TX7 7).1 (TX7 7).2.1 (TX7 7).2.2.1 "WantedTypes" ∈ lw_tbl := mv_t1 (i := 63) (by decide +kernel)
theorem tfnX8_176 : Cond.fieldLinkNest RX8 176 (TX7 3).1 (TX7 3).2.1 (TX7 3).2.2.1 "WantedTypes" ∈ lw_tbl := mv_t1 (i := 44) (by decide +kernel)
theorem tfnX8_179 : Cond.fieldLinkNest RX8 179 (TX0 3).1 (TX0 3).2.1 (TX0 3).2.2.1 "WantedTypes" ∈ lw_tbl := mv_t1 (i := 172) (by decide +kernel)
theorem tfnX8_182 : Cond.fieldLinkNest RX8 182 (TX0 0).1 (TX0 0).2.1 (TX0 0).2.2.1 "WantedTypes" ∈ lw_tbl := mv_t1 (i := 166) (by decide +kernel)
theorem tfnX8_185 : Cond.fieldLinkNest RX8 185 (TX0 1).1 (TX0 1).2.1 (TX0 1).2.2.1 "WantedTypes" ∈ lw_tbl := mv_t1 (i := 168) (by decide +kernel)
theorem tfnX8_188 : Cond.fieldLinkNest RX8 188 (TX0 2).1 (TX0 2).2.1 (TX0 2).2.2.1 "WantedTypes" ∈ lw_tbl := mv_t1 (i := 170) (by decide +kernel)
theorem tfnX8_191 : Cond.fieldLinkNest RX8 191 (TX7 6).1 (TX7 6).2.1 (TX7 6).2.2.1 "WantedTypes" ∈ lw_tbl := mv_t1 (i := 58) (by decide +kernel)
theorem tfnX8_197 : Cond.fieldLinkNest RX8 197 (TX7 8).1 (TX7 8).2.1 (TX7 8).2.2.1 "WantedTypes" ∈ lw_tbl := mv_t1 (i := 69) (by decide +kernel)
theorem tfnX8_200 : Cond.fieldLinkNest RX8 200 (TX7 9).1 (TX7 9).2.1 (TX7 9).2.2.1 "WantedTypes" ∈ lw_tbl := mv_t1 (i := 75) (by decide +kernel)
theorem tfnX8_204 : Cond.fieldLinkNest RX8 204 (TX7 10).1 (TX7 10).2.1 (TX7 10).2.2.1 "WantedTypes" ∈ lw_tbl := mv_t1 (i := 81) (by decide +kernel)
theorem tfnX8_207 : Cond.fieldLinkNest RX8 207 (TX7 4).1 (TX7 4).2.1 (TX7 4).2.2.1 "WantedTypes" ∈ lw_tbl := mv_t1 (i := 47) (by decide +kernel)
theorem tfnX8_230 : Cond.fieldLinkNest RX8 230 (TX2 7).1 (TX2 7).2.1 (TX2 7).2.2.1 "WantedTypes" ∈ lw_tbl := mv_t1 (i := 212) (by decide +kernel)
theorem tfnX8_236 : Cond.fieldLinkNest RX8 236 (TX7 0).1 (TX7 0).2.1 (TX7 0).2.2.1 "WantedTypes" ∈ lw_tbl := mv_t1 (i := 32) (by decide +kernel)
theorem tfnX8_256 : Cond.fieldLinkNest RX8 256 (TX6 2).1 (TX6 2).2.1 (TX6 2).2.2.1 "WantedTypes" ∈ lw_tbl := mv_t2 (i := 3) (by decide +kernel)
theorem tfnX8_281 : Cond.fieldLinkNest RX8 281 (TX7 5).1 (TX7 5).2.1 (TX7 5).2.2.1 "WantedTypes" ∈ lw_tbl := mv_t1 (i := 52) (by decide +kernel)
theorem tfnX8_287 : Cond.fieldLinkNest RX8 287 (TX1 2).1 (TX1 2).2.1 (TX1 2).2.2.1 "WantedTypes" ∈ lw_tbl := mv_t2 (i := 27) (by decide +kernel)
theorem tfnX8_296 : Cond.fieldLinkNest RX8 296 (TX1 1).1 (TX1 1).2.1 (TX1 1).2.2.1 "WantedTypes" ∈ lw_tbl := mv_t2 (i := 25) (by decide +kernel)
theorem tfnX8_302 : Cond.fieldLinkNest RX8 302 (TX4 1).1 (TX4 1).2.1 (TX4 1).2.2.1 "WantedTypes" ∈ lw_tbl := mv_t1 (i := 141) (by decide +kernel)
theorem tfnX8_309 : Cond.fieldLinkNest RX8 309 (TX2 1).1 (TX2 1).2.1 (TX2 1).2.2.1 "WantedTypes" ∈ lw_tbl := mv_t1 (i := 205) (by decide +kernel)
theorem tmnX1_34 : Cond.methodLinkNest RX1 34 yX7_isKind "WantedTypes" ∈ lw_tbl := mv_t4 (i := 35) (by decide +kernel)
theorem tmnX2_65 : Cond.methodLinkNest RX2 65 yX7_priceOf "WantedTypes" ∈ lw_tbl := mv_t3 (i := 73) (by decide +kernel)
theorem tmnX2_82 : Cond.methodLinkNest RX2 82 yX7_isHidden "WantedTypes" ∈ lw_tbl := mv_t3 (i := 68) (by decide +kernel)
theorem tmnX2_86 : Cond.methodLinkNest RX2 86 yX7_givesOne "WantedTypes" ∈ lw_tbl := mv_t3 (i := 136) (by decide +kernel)
theorem tmnX3_60 : Cond.methodLinkNest RX3 60 yX7_priceOf "WantedTypes" ∈ lw_tbl := mv_t3 (i := 104) (by decide +kernel)
theorem tmnX4_17 : Cond.methodLinkNest RX4 17 yX7_init "WantedTypes" ∈ lw_tbl := mv_t1 (i := 138) (by decide +kernel)
theorem tmnX4_67 : Cond.methodLinkNest RX4 67 yX7_seeAbove "WantedTypes" ∈ lw_tbl := mv_t2 (i := 179) (by decide +kernel)
theorem tmnX6_26 : Cond.methodLinkNest RX6 26 yX5_isMissing "WantedTypes" ∈ lw_tbl := mv_t3 (i := 156) (by decide +kernel)
theorem tmnX6_32 : Cond.methodLinkNest RX6 32 yX5_hasPlaces "WantedTypes" ∈ lw_tbl := mv_t3 (i := 157) (by decide +kernel)
theorem tmnX6_63 : Cond.methodLinkNest RX6 63 yX7_hasMember "WantedTypes" ∈ lw_tbl := mv_t3 (i := 167) (by decide +kernel)
theorem tmnX6_68 : Cond.methodLinkNest RX6 68 yX7_isHidden "WantedTypes" ∈ lw_tbl := mv_t3 (i := 168) (by decide +kernel)
theorem tmnX6_71 : Cond.methodLinkNest RX6 71 yX7_givesOne "WantedTypes" ∈ lw_tbl := mv_t3 (i := 169) (by decide +kernel)
theorem tmnX6_86 : Cond.methodLinkNest RX6 86 yX7_priceOf "WantedTypes" ∈ lw_tbl := mv_t3 (i := 183) (by decide +kernel)
theorem tmnX8_9 : Cond.methodLinkNest RX8 9 yX7_init "WantedTypes" ∈ lw_tbl := mv_t1 (i := 24) (by decide +kernel)
theorem tmnX8_22 : Cond.methodLinkNest RX8 22 yX5_init "WantedTypes" ∈ lw_tbl := mv_t1 (i := 109) (by decide +kernel)
theorem tmnX8_29 : Cond.methodLinkNest RX8 29 yX4_init "WantedTypes" ∈ lw_tbl := mv_t1 (i := 133) (by decide +kernel)
theorem tmnX8_36 : Cond.methodLinkNest RX8 36 yX0_init "WantedTypes" ∈ lw_tbl := mv_t1 (i := 161) (by decide +kernel)
theorem tmnX8_43 : Cond.methodLinkNest RX8 43 yX3_init "WantedTypes" ∈ lw_tbl := mv_t1 (i := 184) (by decide +kernel)
theorem tmnX8_52 : Cond.methodLinkNest RX8 52 yX2_init "WantedTypes" ∈ lw_tbl := mv_t1 (i := 197) (by decide +kernel)
theorem tmnX8_59 : Cond.methodLinkNest RX8 59 yX6_init "WantedTypes" ∈ lw_tbl := mv_t1 (i := 236) (by decide +kernel)
theorem tmnX8_68 : Cond.methodLinkNest RX8 68 yX1_init "WantedTypes" ∈ lw_tbl := mv_t2 (i := 19) (by decide +kernel)
theorem tmnX8_73 : Cond.methodLinkNest RX8 73 yX5_isRow "WantedTypes" ∈ lw_tbl := mv_t2 (i := 73) (by decide +kernel)
theorem tmnX8_77 : Cond.methodLinkNest RX8 77 yX5_isLane "WantedTypes" ∈ lw_tbl := mv_t2 (i := 76) (by decide +kernel)
theorem tmnX8_85 : Cond.methodLinkNest RX8 85 yX5_make "WantedTypes" ∈ lw_tbl := mv_t2 (i := 85) (by decide +kernel)
theorem tmnX8_92 : Cond.methodLinkNest RX8 92 yX5_isMissing "WantedTypes" ∈ lw_tbl := mv_t2 (i := 97) (by decide +kernel)
theorem tmnX8_95 : Cond.methodLinkNest RX8 95 yX5_hasPlaces "WantedTypes" ∈ lw_tbl := mv_t2 (i := 101) (by decide +kernel)
theorem tmnX8_99 : Cond.methodLinkNest RX8 99 yX5_put "WantedTypes" ∈ lw_tbl := mv_t2 (i := 105) (by decide +kernel)
theorem tmnX8_117 : Cond.methodLinkNest RX8 117 yX5_lose "WantedTypes" ∈ lw_tbl := mv_t2 (i := 120) (by decide +kernel)
theorem tmnX8_120 : Cond.methodLinkNest RX8 120 yX4_isFull "WantedTypes" ∈ lw_tbl := mv_t2 (i := 128) (by decide +kernel)
theorem tmnX8_125 : Cond.methodLinkNest RX8 125 yX4_append "WantedTypes" ∈ lw_tbl := mv_t2 (i := 133) (by decide +kernel)
theorem tmnX8_128 : Cond.methodLinkNest RX8 128 yX4_readTape "WantedTypes" ∈ lw_tbl := mv_t2 (i := 141) (by decide +kernel)
theorem tmnX8_131 : Cond.methodLinkNest RX8 131 yX4_emptyTape "WantedTypes" ∈ lw_tbl := mv_t2 (i := 198) (by decide +kernel)
theorem tmnX8_154 : Cond.methodLinkNest RX8 154 yX7_hasMember "WantedTypes" ∈ lw_tbl := mv_t2 (i := 220) (by decide +kernel)
theorem tmnX8_157 : Cond.methodLinkNest RX8 157 yX7_isHidden "WantedTypes" ∈ lw_tbl := mv_t2 (i := 224) (by decide +kernel)
theorem tmnX8_161 : Cond.methodLinkNest RX8 161 yX0_keep "WantedTypes" ∈ lw_tbl := mv_t2 (i := 229) (by decide +kernel)
theorem tmnX8_173 : Cond.methodLinkNest RX8 173 yX7_hasType "WantedTypes" ∈ lw_tbl := mv_t3 (i := 15) (by decide +kernel)
theorem tmnX8_194 : Cond.methodLinkNest RX8 194 yX7_priceOf "WantedTypes" ∈ lw_tbl := mv_t3 (i := 27) (by decide +kernel)
theorem tmnX8_210 : Cond.methodLinkNest RX8 210 yX7_typesOf "WantedTypes" ∈ lw_tbl := mv_t3 (i := 36) (by decide +kernel)
theorem tmnX8_213 : Cond.methodLinkNest RX8 213 yX7_membersOf "WantedTypes" ∈ lw_tbl := mv_t3 (i := 44) (by decide +kernel)
theorem tmnX8_216 : Cond.methodLinkNest RX8 216 yX2_manyOfPrice "WantedTypes" ∈ lw_tbl := mv_t3 (i := 56) (by decide +kernel)
theorem tmnX8_220 : Cond.methodLinkNest RX8 220 yX3_leastListed "WantedTypes" ∈ lw_tbl := mv_t3 (i := 90) (by decide +kernel)
theorem tmnX8_224 : Cond.methodLinkNest RX8 224 yX2_findPlace "WantedTypes" ∈ lw_tbl := mv_t3 (i := 115) (by decide +kernel)
theorem tmnX8_227 : Cond.methodLinkNest RX8 227 yX2_spell "WantedTypes" ∈ lw_tbl := mv_t3 (i := 120) (by decide +kernel)
theorem tmnX8_233 : Cond.methodLinkNest RX8 233 yX6_isLength "WantedTypes" ∈ lw_tbl := mv_t3 (i := 149) (by decide +kernel)
theorem tmnX8_239 : Cond.methodLinkNest RX8 239 yX6_take "WantedTypes" ∈ lw_tbl := mv_t3 (i := 152) (by decide +kernel)
theorem tmnX8_242 : Cond.methodLinkNest RX8 242 yX6_isWhole "WantedTypes" ∈ lw_tbl := mv_t3 (i := 159) (by decide +kernel)
theorem tmnX8_245 : Cond.methodLinkNest RX8 245 yX6_given "WantedTypes" ∈ lw_tbl := mv_t3 (i := 175) (by decide +kernel)
theorem tmnX8_249 : Cond.methodLinkNest RX8 249 yX6_priceTogether "WantedTypes" ∈ lw_tbl := mv_t3 (i := 179) (by decide +kernel)
theorem tmnX8_252 : Cond.methodLinkNest RX8 252 yX7_isOf "WantedTypes" ∈ lw_tbl := mv_t3 (i := 188) (by decide +kernel)
theorem tmnX8_257 : Cond.methodLinkNest RX8 257 yX2_placeOf "WantedTypes" ∈ lw_tbl := mv_t3 (i := 189) (by decide +kernel)
theorem tmnX8_261 : Cond.methodLinkNest RX8 261 yX3_typesHad "WantedTypes" ∈ lw_tbl := mv_t3 (i := 201) (by decide +kernel)
theorem tmnX8_264 : Cond.methodLinkNest RX8 264 yX3_membersNeeded "WantedTypes" ∈ lw_tbl := mv_t3 (i := 209) (by decide +kernel)
theorem tmnX8_267 : Cond.methodLinkNest RX8 267 yX7_shareOf "WantedTypes" ∈ lw_tbl := mv_t3 (i := 222) (by decide +kernel)
theorem tmnX8_271 : Cond.methodLinkNest RX8 271 yX2_size "WantedTypes" ∈ lw_tbl := mv_t3 (i := 237) (by decide +kernel)
theorem tmnX8_278 : Cond.methodLinkNest RX8 278 yX7_become "WantedTypes" ∈ lw_tbl := mv_t2 (i := 207) (by decide +kernel)
theorem tmnX8_284 : Cond.methodLinkNest RX8 284 yX7_isKind "WantedTypes" ∈ lw_tbl := mv_t4 (i := 19) (by decide +kernel)
theorem tmnX8_290 : Cond.methodLinkNest RX8 290 yX1_sizeOf "WantedTypes" ∈ lw_tbl := mv_t4 (i := 27) (by decide +kernel)
theorem tmnX8_293 : Cond.methodLinkNest RX8 293 yX1_markOf "WantedTypes" ∈ lw_tbl := mv_t4 (i := 76) (by decide +kernel)
theorem tmnX8_299 : Cond.methodLinkNest RX8 299 yX5_present "WantedTypes" ∈ lw_tbl := mv_t4 (i := 92) (by decide +kernel)
theorem tmnX8_313 : Cond.methodLinkNest RX8 313 yX7_putHidden "WantedTypes" ∈ lw_tbl := mv_t3 (i := 2) (by decide +kernel)
theorem tmnX8_317 : Cond.methodLinkNest RX8 317 yX7_seeAbove "WantedTypes" ∈ lw_tbl := mv_t3 (i := 6) (by decide +kernel)
def mv_nw : List Cond := [Cond.fieldLinkNest RX1 19 (TX7 5).1 (TX7 5).2.1 (TX7 5).2.2.1 "WantedTypes", Cond.fieldLinkNest RX1 63 (TX7 7).1 (TX7 7).2.1 (TX7 7).2.2.1 "WantedTypes", Cond.fieldLinkNest RX1 69 (TX7 6).1 (TX7 6).2.1 (TX7 6).2.2.1 "WantedTypes", Cond.fieldLinkNest RX2 75 (TX7 1).1 (TX7 1).2.1 (TX7 1).2.2.1 "WantedTypes", Cond.fieldLinkNest RX2 94 (TX7 8).1 (TX7 8).2.1 (TX7 8).2.2.1 "WantedTypes", Cond.fieldLinkNest RX2 97 (TX7 10).1 (TX7 10).2.1 (TX7 10).2.2.1 "WantedTypes", Cond.fieldLinkNest RX2 103 (TX7 9).1 (TX7 9).2.1 (TX7 9).2.2.1 "WantedTypes", Cond.fieldLinkNest RX2 113 (TX7 0).1 (TX7 0).2.1 (TX7 0).2.2.1 "WantedTypes", Cond.fieldLinkNest RX2 119 (TX7 4).1 (TX7 4).2.1 (TX7 4).2.2.1 "WantedTypes", Cond.fieldLinkNest RX2 122 (TX7 6).1 (TX7 6).2.1 (TX7 6).2.2.1 "WantedTypes", Cond.fieldLinkNest RX3 24 (TX7 0).1 (TX7 0).2.1 (TX7 0).2.2.1 "WantedTypes", Cond.fieldLinkNest RX3 31 (TX7 2).1 (TX7 2).2.1 (TX7 2).2.2.1 "WantedTypes", Cond.fieldLinkNest RX3 38 (TX7 1).1 (TX7 1).2.1 (TX7 1).2.2.1 "WantedTypes", Cond.fieldLinkNest RX3 47 (TX7 4).1 (TX7 4).2.1 (TX7 4).2.2.1 "WantedTypes", Cond.fieldLinkNest RX3 50 (TX7 6).1 (TX7 6).2.1 (TX7 6).2.2.1 "WantedTypes", Cond.fieldLinkNest RX3 63 (TX7 8).1 (TX7 8).2.1 (TX7 8).2.2.1 "WantedTypes", Cond.fieldLinkNest RX3 66 (TX7 9).1 (TX7 9).2.1 (TX7 9).2.2.1 "WantedTypes", Cond.fieldLinkNest RX3 69 (TX7 10).1 (TX7 10).2.1 (TX7 10).2.2.1 "WantedTypes", Cond.fieldLinkNest RX4 32 (TX7 0).1 (TX7 0).2.1 (TX7 0).2.2.1 "WantedTypes", Cond.fieldLinkNest RX4 35 (TX7 1).1 (TX7 1).2.1 (TX7 1).2.2.1 "WantedTypes", Cond.fieldLinkNest RX4 38 (TX7 2).1 (TX7 2).2.1 (TX7 2).2.2.1 "WantedTypes", Cond.fieldLinkNest RX4 64 (TX7 3).1 (TX7 3).2.1 (TX7 3).2.2.1 "WantedTypes", Cond.fieldLinkNest RX4 84 (TX7 5).1 (TX7 5).2.1 (TX7 5).2.2.1 "WantedTypes", Cond.fieldLinkNest RX4 87 (TX7 6).1 (TX7 6).2.1 (TX7 6).2.2.1 "WantedTypes", Cond.fieldLinkNest RX4 90 (TX7 7).1 (TX7 7).2.1 (TX7 7).2.2.1 "WantedTypes", Cond.fieldLinkNest RX4 93 (TX7 8).1 (TX7 8).2.1 (TX7 8).2.2.1 "WantedTypes", Cond.fieldLinkNest RX4 99 (TX7 9).1 (TX7 9).2.1 (TX7 9).2.2.1 "WantedTypes", Cond.fieldLinkNest RX4 102 (TX7 10).1 (TX7 10).2.1 (TX7 10).2.2.1 "WantedTypes", Cond.fieldLinkNest RX6 36 (TX5 0).1 (TX5 0).2.1 (TX5 0).2.2.1 "WantedTypes", Cond.fieldLinkNest RX6 74 (TX7 8).1 (TX7 8).2.1 (TX7 8).2.2.1 "WantedTypes", Cond.fieldLinkNest RX6 77 (TX7 10).1 (TX7 10).2.1 (TX7 10).2.2.1 "WantedTypes", Cond.fieldLinkNest RX6 80 (TX7 9).1 (TX7 9).2.1 (TX7 9).2.2.1 "WantedTypes", Cond.fieldLinkNest RX6 83 (TX7 6).1 (TX7 6).2.1 (TX7 6).2.2.1 "WantedTypes", Cond.fieldLinkNest RX8 103 (TX5 1).1 (TX5 1).2.1 (TX5 1).2.2.1 "WantedTypes", Cond.fieldLinkNest RX8 107 (TX5 0).1 (TX5 0).2.1 (TX5 0).2.2.1 "WantedTypes", Cond.fieldLinkNest RX8 134 (TX4 4).1 (TX4 4).2.1 (TX4 4).2.2.1 "WantedTypes", Cond.fieldLinkNest RX8 142 (TX4 3).1 (TX4 3).2.1 (TX4 3).2.2.1 "WantedTypes", Cond.fieldLinkNest RX8 145 (TX4 2).1 (TX4 2).2.1 (TX4 2).2.2.1 "WantedTypes", Cond.fieldLinkNest RX8 151 (TX7 1).1 (TX7 1).2.1 (TX7 1).2.2.1 "WantedTypes", Cond.fieldLinkNest RX8 167 (TX7 2).1 (TX7 2).2.1 (TX7 2).2.2.1 "WantedTypes", Cond.fieldLinkNest RX8 170 (TX7 7).1 (TX7 7).2.1 (TX7 7).2.2.1 "WantedTypes", Cond.fieldLinkNest RX8 176 (TX7 3).1 (TX7 3).2.1 (TX7 3).2.2.1 "WantedTypes", Cond.fieldLinkNest RX8 179 (TX0 3).1 (TX0 3).2.1 (TX0 3).2.2.1 "WantedTypes", Cond.fieldLinkNest RX8 182 (TX0 0).1 (TX0 0).2.1 (TX0 0).2.2.1 "WantedTypes", Cond.fieldLinkNest RX8 185 (TX0 1).1 (TX0 1).2.1 (TX0 1).2.2.1 "WantedTypes", Cond.fieldLinkNest RX8 188 (TX0 2).1 (TX0 2).2.1 (TX0 2).2.2.1 "WantedTypes", Cond.fieldLinkNest RX8 191 (TX7 6).1 (TX7 6).2.1 (TX7 6).2.2.1 "WantedTypes", Cond.fieldLinkNest RX8 197 (TX7 8).1 (TX7 8).2.1 (TX7 8).2.2.1 "WantedTypes", Cond.fieldLinkNest RX8 200 (TX7 9).1 (TX7 9).2.1 (TX7 9).2.2.1 "WantedTypes", Cond.fieldLinkNest RX8 204 (TX7 10).1 (TX7 10).2.1 (TX7 10).2.2.1 "WantedTypes", Cond.fieldLinkNest RX8 207 (TX7 4).1 (TX7 4).2.1 (TX7 4).2.2.1 "WantedTypes", Cond.fieldLinkNest RX8 230 (TX2 7).1 (TX2 7).2.1 (TX2 7).2.2.1 "WantedTypes", Cond.fieldLinkNest RX8 236 (TX7 0).1 (TX7 0).2.1 (TX7 0).2.2.1 "WantedTypes", Cond.fieldLinkNest RX8 256 (TX6 2).1 (TX6 2).2.1 (TX6 2).2.2.1 "WantedTypes", Cond.fieldLinkNest RX8 281 (TX7 5).1 (TX7 5).2.1 (TX7 5).2.2.1 "WantedTypes", Cond.fieldLinkNest RX8 287 (TX1 2).1 (TX1 2).2.1 (TX1 2).2.2.1 "WantedTypes", Cond.fieldLinkNest RX8 296 (TX1 1).1 (TX1 1).2.1 (TX1 1).2.2.1 "WantedTypes", Cond.fieldLinkNest RX8 302 (TX4 1).1 (TX4 1).2.1 (TX4 1).2.2.1 "WantedTypes", Cond.fieldLinkNest RX8 309 (TX2 1).1 (TX2 1).2.1 (TX2 1).2.2.1 "WantedTypes", Cond.methodLinkNest RX1 34 yX7_isKind "WantedTypes", Cond.methodLinkNest RX2 65 yX7_priceOf "WantedTypes", Cond.methodLinkNest RX2 82 yX7_isHidden "WantedTypes", Cond.methodLinkNest RX2 86 yX7_givesOne "WantedTypes", Cond.methodLinkNest RX3 60 yX7_priceOf "WantedTypes", Cond.methodLinkNest RX4 17 yX7_init "WantedTypes", Cond.methodLinkNest RX4 67 yX7_seeAbove "WantedTypes", Cond.methodLinkNest RX6 26 yX5_isMissing "WantedTypes", Cond.methodLinkNest RX6 32 yX5_hasPlaces "WantedTypes", Cond.methodLinkNest RX6 63 yX7_hasMember "WantedTypes", Cond.methodLinkNest RX6 68 yX7_isHidden "WantedTypes", Cond.methodLinkNest RX6 71 yX7_givesOne "WantedTypes", Cond.methodLinkNest RX6 86 yX7_priceOf "WantedTypes", Cond.methodLinkNest RX8 9 yX7_init "WantedTypes", Cond.methodLinkNest RX8 22 yX5_init "WantedTypes", Cond.methodLinkNest RX8 29 yX4_init "WantedTypes", Cond.methodLinkNest RX8 36 yX0_init "WantedTypes", Cond.methodLinkNest RX8 43 yX3_init "WantedTypes", Cond.methodLinkNest RX8 52 yX2_init "WantedTypes", Cond.methodLinkNest RX8 59 yX6_init "WantedTypes", Cond.methodLinkNest RX8 68 yX1_init "WantedTypes", Cond.methodLinkNest RX8 73 yX5_isRow "WantedTypes", Cond.methodLinkNest RX8 77 yX5_isLane "WantedTypes", Cond.methodLinkNest RX8 85 yX5_make "WantedTypes", Cond.methodLinkNest RX8 92 yX5_isMissing "WantedTypes", Cond.methodLinkNest RX8 95 yX5_hasPlaces "WantedTypes", Cond.methodLinkNest RX8 99 yX5_put "WantedTypes", Cond.methodLinkNest RX8 117 yX5_lose "WantedTypes", Cond.methodLinkNest RX8 120 yX4_isFull "WantedTypes", Cond.methodLinkNest RX8 125 yX4_append "WantedTypes", Cond.methodLinkNest RX8 128 yX4_readTape "WantedTypes", Cond.methodLinkNest RX8 131 yX4_emptyTape "WantedTypes", Cond.methodLinkNest RX8 154 yX7_hasMember "WantedTypes", Cond.methodLinkNest RX8 157 yX7_isHidden "WantedTypes", Cond.methodLinkNest RX8 161 yX0_keep "WantedTypes", Cond.methodLinkNest RX8 173 yX7_hasType "WantedTypes", Cond.methodLinkNest RX8 194 yX7_priceOf "WantedTypes", Cond.methodLinkNest RX8 210 yX7_typesOf "WantedTypes", Cond.methodLinkNest RX8 213 yX7_membersOf "WantedTypes", Cond.methodLinkNest RX8 216 yX2_manyOfPrice "WantedTypes", Cond.methodLinkNest RX8 220 yX3_leastListed "WantedTypes", Cond.methodLinkNest RX8 224 yX2_findPlace "WantedTypes", Cond.methodLinkNest RX8 227 yX2_spell "WantedTypes", Cond.methodLinkNest RX8 233 yX6_isLength "WantedTypes", Cond.methodLinkNest RX8 239 yX6_take "WantedTypes", Cond.methodLinkNest RX8 242 yX6_isWhole "WantedTypes", Cond.methodLinkNest RX8 245 yX6_given "WantedTypes", Cond.methodLinkNest RX8 249 yX6_priceTogether "WantedTypes", Cond.methodLinkNest RX8 252 yX7_isOf "WantedTypes", Cond.methodLinkNest RX8 257 yX2_placeOf "WantedTypes", Cond.methodLinkNest RX8 261 yX3_typesHad "WantedTypes", Cond.methodLinkNest RX8 264 yX3_membersNeeded "WantedTypes", Cond.methodLinkNest RX8 267 yX7_shareOf "WantedTypes", Cond.methodLinkNest RX8 271 yX2_size "WantedTypes", Cond.methodLinkNest RX8 278 yX7_become "WantedTypes", Cond.methodLinkNest RX8 284 yX7_isKind "WantedTypes", Cond.methodLinkNest RX8 290 yX1_sizeOf "WantedTypes", Cond.methodLinkNest RX8 293 yX1_markOf "WantedTypes", Cond.methodLinkNest RX8 299 yX5_present "WantedTypes", Cond.methodLinkNest RX8 313 yX7_putHidden "WantedTypes", Cond.methodLinkNest RX8 317 yX7_seeAbove "WantedTypes"]
theorem mv_nw_in : ∀ w ∈ mv_nw, w ∈ lw_tbl := by
  unfold mv_nw
  refine List.forall_mem_cons.mpr ⟨tfnX1_19, ?_⟩
  refine List.forall_mem_cons.mpr ⟨tfnX1_63, ?_⟩
  refine List.forall_mem_cons.mpr ⟨tfnX1_69, ?_⟩
  refine List.forall_mem_cons.mpr ⟨tfnX2_75, ?_⟩
  refine List.forall_mem_cons.mpr ⟨tfnX2_94, ?_⟩
  refine List.forall_mem_cons.mpr ⟨tfnX2_97, ?_⟩
  refine List.forall_mem_cons.mpr ⟨tfnX2_103, ?_⟩
  refine List.forall_mem_cons.mpr ⟨tfnX2_113, ?_⟩
  refine List.forall_mem_cons.mpr ⟨tfnX2_119, ?_⟩
  refine List.forall_mem_cons.mpr ⟨tfnX2_122, ?_⟩
  refine List.forall_mem_cons.mpr ⟨tfnX3_24, ?_⟩
  refine List.forall_mem_cons.mpr ⟨tfnX3_31, ?_⟩
  refine List.forall_mem_cons.mpr ⟨tfnX3_38, ?_⟩
  refine List.forall_mem_cons.mpr ⟨tfnX3_47, ?_⟩
  refine List.forall_mem_cons.mpr ⟨tfnX3_50, ?_⟩
  refine List.forall_mem_cons.mpr ⟨tfnX3_63, ?_⟩
  refine List.forall_mem_cons.mpr ⟨tfnX3_66, ?_⟩
  refine List.forall_mem_cons.mpr ⟨tfnX3_69, ?_⟩
  refine List.forall_mem_cons.mpr ⟨tfnX4_32, ?_⟩
  refine List.forall_mem_cons.mpr ⟨tfnX4_35, ?_⟩
  refine List.forall_mem_cons.mpr ⟨tfnX4_38, ?_⟩
  refine List.forall_mem_cons.mpr ⟨tfnX4_64, ?_⟩
  refine List.forall_mem_cons.mpr ⟨tfnX4_84, ?_⟩
  refine List.forall_mem_cons.mpr ⟨tfnX4_87, ?_⟩
  refine List.forall_mem_cons.mpr ⟨tfnX4_90, ?_⟩
  refine List.forall_mem_cons.mpr ⟨tfnX4_93, ?_⟩
  refine List.forall_mem_cons.mpr ⟨tfnX4_99, ?_⟩
  refine List.forall_mem_cons.mpr ⟨tfnX4_102, ?_⟩
  refine List.forall_mem_cons.mpr ⟨tfnX6_36, ?_⟩
  refine List.forall_mem_cons.mpr ⟨tfnX6_74, ?_⟩
  refine List.forall_mem_cons.mpr ⟨tfnX6_77, ?_⟩
  refine List.forall_mem_cons.mpr ⟨tfnX6_80, ?_⟩
  refine List.forall_mem_cons.mpr ⟨tfnX6_83, ?_⟩
  refine List.forall_mem_cons.mpr ⟨tfnX8_103, ?_⟩
  refine List.forall_mem_cons.mpr ⟨tfnX8_107, ?_⟩
  refine List.forall_mem_cons.mpr ⟨tfnX8_134, ?_⟩
  refine List.forall_mem_cons.mpr ⟨tfnX8_142, ?_⟩
  refine List.forall_mem_cons.mpr ⟨tfnX8_145, ?_⟩
  refine List.forall_mem_cons.mpr ⟨tfnX8_151, ?_⟩
  refine List.forall_mem_cons.mpr ⟨tfnX8_167, ?_⟩
  refine List.forall_mem_cons.mpr ⟨tfnX8_170, ?_⟩
  refine List.forall_mem_cons.mpr ⟨tfnX8_176, ?_⟩
  refine List.forall_mem_cons.mpr ⟨tfnX8_179, ?_⟩
  refine List.forall_mem_cons.mpr ⟨tfnX8_182, ?_⟩
  refine List.forall_mem_cons.mpr ⟨tfnX8_185, ?_⟩
  refine List.forall_mem_cons.mpr ⟨tfnX8_188, ?_⟩
  refine List.forall_mem_cons.mpr ⟨tfnX8_191, ?_⟩
  refine List.forall_mem_cons.mpr ⟨tfnX8_197, ?_⟩
  refine List.forall_mem_cons.mpr ⟨tfnX8_200, ?_⟩
  refine List.forall_mem_cons.mpr ⟨tfnX8_204, ?_⟩
  refine List.forall_mem_cons.mpr ⟨tfnX8_207, ?_⟩
  refine List.forall_mem_cons.mpr ⟨tfnX8_230, ?_⟩
  refine List.forall_mem_cons.mpr ⟨tfnX8_236, ?_⟩
  refine List.forall_mem_cons.mpr ⟨tfnX8_256, ?_⟩
  refine List.forall_mem_cons.mpr ⟨tfnX8_281, ?_⟩
  refine List.forall_mem_cons.mpr ⟨tfnX8_287, ?_⟩
  refine List.forall_mem_cons.mpr ⟨tfnX8_296, ?_⟩
  refine List.forall_mem_cons.mpr ⟨tfnX8_302, ?_⟩
  refine List.forall_mem_cons.mpr ⟨tfnX8_309, ?_⟩
  refine List.forall_mem_cons.mpr ⟨tmnX1_34, ?_⟩
  refine List.forall_mem_cons.mpr ⟨tmnX2_65, ?_⟩
  refine List.forall_mem_cons.mpr ⟨tmnX2_82, ?_⟩
  refine List.forall_mem_cons.mpr ⟨tmnX2_86, ?_⟩
  refine List.forall_mem_cons.mpr ⟨tmnX3_60, ?_⟩
  refine List.forall_mem_cons.mpr ⟨tmnX4_17, ?_⟩
  refine List.forall_mem_cons.mpr ⟨tmnX4_67, ?_⟩
  refine List.forall_mem_cons.mpr ⟨tmnX6_26, ?_⟩
  refine List.forall_mem_cons.mpr ⟨tmnX6_32, ?_⟩
  refine List.forall_mem_cons.mpr ⟨tmnX6_63, ?_⟩
  refine List.forall_mem_cons.mpr ⟨tmnX6_68, ?_⟩
  refine List.forall_mem_cons.mpr ⟨tmnX6_71, ?_⟩
  refine List.forall_mem_cons.mpr ⟨tmnX6_86, ?_⟩
  refine List.forall_mem_cons.mpr ⟨tmnX8_9, ?_⟩
  refine List.forall_mem_cons.mpr ⟨tmnX8_22, ?_⟩
  refine List.forall_mem_cons.mpr ⟨tmnX8_29, ?_⟩
  refine List.forall_mem_cons.mpr ⟨tmnX8_36, ?_⟩
  refine List.forall_mem_cons.mpr ⟨tmnX8_43, ?_⟩
  refine List.forall_mem_cons.mpr ⟨tmnX8_52, ?_⟩
  refine List.forall_mem_cons.mpr ⟨tmnX8_59, ?_⟩
  refine List.forall_mem_cons.mpr ⟨tmnX8_68, ?_⟩
  refine List.forall_mem_cons.mpr ⟨tmnX8_73, ?_⟩
  refine List.forall_mem_cons.mpr ⟨tmnX8_77, ?_⟩
  refine List.forall_mem_cons.mpr ⟨tmnX8_85, ?_⟩
  refine List.forall_mem_cons.mpr ⟨tmnX8_92, ?_⟩
  refine List.forall_mem_cons.mpr ⟨tmnX8_95, ?_⟩
  refine List.forall_mem_cons.mpr ⟨tmnX8_99, ?_⟩
  refine List.forall_mem_cons.mpr ⟨tmnX8_117, ?_⟩
  refine List.forall_mem_cons.mpr ⟨tmnX8_120, ?_⟩
  refine List.forall_mem_cons.mpr ⟨tmnX8_125, ?_⟩
  refine List.forall_mem_cons.mpr ⟨tmnX8_128, ?_⟩
  refine List.forall_mem_cons.mpr ⟨tmnX8_131, ?_⟩
  refine List.forall_mem_cons.mpr ⟨tmnX8_154, ?_⟩
  refine List.forall_mem_cons.mpr ⟨tmnX8_157, ?_⟩
  refine List.forall_mem_cons.mpr ⟨tmnX8_161, ?_⟩
  refine List.forall_mem_cons.mpr ⟨tmnX8_173, ?_⟩
  refine List.forall_mem_cons.mpr ⟨tmnX8_194, ?_⟩
  refine List.forall_mem_cons.mpr ⟨tmnX8_210, ?_⟩
  refine List.forall_mem_cons.mpr ⟨tmnX8_213, ?_⟩
  refine List.forall_mem_cons.mpr ⟨tmnX8_216, ?_⟩
  refine List.forall_mem_cons.mpr ⟨tmnX8_220, ?_⟩
  refine List.forall_mem_cons.mpr ⟨tmnX8_224, ?_⟩
  refine List.forall_mem_cons.mpr ⟨tmnX8_227, ?_⟩
  refine List.forall_mem_cons.mpr ⟨tmnX8_233, ?_⟩
  refine List.forall_mem_cons.mpr ⟨tmnX8_239, ?_⟩
  refine List.forall_mem_cons.mpr ⟨tmnX8_242, ?_⟩
  refine List.forall_mem_cons.mpr ⟨tmnX8_245, ?_⟩
  refine List.forall_mem_cons.mpr ⟨tmnX8_249, ?_⟩
  refine List.forall_mem_cons.mpr ⟨tmnX8_252, ?_⟩
  refine List.forall_mem_cons.mpr ⟨tmnX8_257, ?_⟩
  refine List.forall_mem_cons.mpr ⟨tmnX8_261, ?_⟩
  refine List.forall_mem_cons.mpr ⟨tmnX8_264, ?_⟩
  refine List.forall_mem_cons.mpr ⟨tmnX8_267, ?_⟩
  refine List.forall_mem_cons.mpr ⟨tmnX8_271, ?_⟩
  refine List.forall_mem_cons.mpr ⟨tmnX8_278, ?_⟩
  refine List.forall_mem_cons.mpr ⟨tmnX8_284, ?_⟩
  refine List.forall_mem_cons.mpr ⟨tmnX8_290, ?_⟩
  refine List.forall_mem_cons.mpr ⟨tmnX8_293, ?_⟩
  refine List.forall_mem_cons.mpr ⟨tmnX8_299, ?_⟩
  refine List.forall_mem_cons.mpr ⟨tmnX8_313, ?_⟩
  refine List.forall_mem_cons.mpr ⟨tmnX8_317, ?_⟩
  exact fun _ h => absurd h List.not_mem_nil
theorem fnX1_19 : mv_nw[0]? = some (Cond.fieldLinkNest RX1 19 (TX7 5).1 (TX7 5).2.1 (TX7 5).2.2.1 "WantedTypes") := rfl
theorem fnX1_63 : mv_nw[1]? = some (Cond.fieldLinkNest RX1 63 (TX7 7).1 (TX7 7).2.1 (TX7 7).2.2.1 "WantedTypes") := rfl
theorem fnX1_69 : mv_nw[2]? = some (Cond.fieldLinkNest RX1 69 (TX7 6).1 (TX7 6).2.1 (TX7 6).2.2.1 "WantedTypes") := rfl
theorem fnX2_75 : mv_nw[3]? = some (Cond.fieldLinkNest RX2 75 (TX7 1).1 (TX7 1).2.1 (TX7 1).2.2.1 "WantedTypes") := rfl
theorem fnX2_94 : mv_nw[4]? = some (Cond.fieldLinkNest RX2 94 (TX7 8).1 (TX7 8).2.1 (TX7 8).2.2.1 "WantedTypes") := rfl
theorem fnX2_97 : mv_nw[5]? = some (Cond.fieldLinkNest RX2 97 (TX7 10).1 (TX7 10).2.1 (TX7 10).2.2.1 "WantedTypes") := rfl
theorem fnX2_103 : mv_nw[6]? = some (Cond.fieldLinkNest RX2 103 (TX7 9).1 (TX7 9).2.1 (TX7 9).2.2.1 "WantedTypes") := rfl
theorem fnX2_113 : mv_nw[7]? = some (Cond.fieldLinkNest RX2 113 (TX7 0).1 (TX7 0).2.1 (TX7 0).2.2.1 "WantedTypes") := rfl
theorem fnX2_119 : mv_nw[8]? = some (Cond.fieldLinkNest RX2 119 (TX7 4).1 (TX7 4).2.1 (TX7 4).2.2.1 "WantedTypes") := rfl
theorem fnX2_122 : mv_nw[9]? = some (Cond.fieldLinkNest RX2 122 (TX7 6).1 (TX7 6).2.1 (TX7 6).2.2.1 "WantedTypes") := rfl
theorem fnX3_24 : mv_nw[10]? = some (Cond.fieldLinkNest RX3 24 (TX7 0).1 (TX7 0).2.1 (TX7 0).2.2.1 "WantedTypes") := rfl
theorem fnX3_31 : mv_nw[11]? = some (Cond.fieldLinkNest RX3 31 (TX7 2).1 (TX7 2).2.1 (TX7 2).2.2.1 "WantedTypes") := rfl
theorem fnX3_38 : mv_nw[12]? = some (Cond.fieldLinkNest RX3 38 (TX7 1).1 (TX7 1).2.1 (TX7 1).2.2.1 "WantedTypes") := rfl
theorem fnX3_47 : mv_nw[13]? = some (Cond.fieldLinkNest RX3 47 (TX7 4).1 (TX7 4).2.1 (TX7 4).2.2.1 "WantedTypes") := rfl
theorem fnX3_50 : mv_nw[14]? = some (Cond.fieldLinkNest RX3 50 (TX7 6).1 (TX7 6).2.1 (TX7 6).2.2.1 "WantedTypes") := rfl
theorem fnX3_63 : mv_nw[15]? = some (Cond.fieldLinkNest RX3 63 (TX7 8).1 (TX7 8).2.1 (TX7 8).2.2.1 "WantedTypes") := rfl
theorem fnX3_66 : mv_nw[16]? = some (Cond.fieldLinkNest RX3 66 (TX7 9).1 (TX7 9).2.1 (TX7 9).2.2.1 "WantedTypes") := rfl
theorem fnX3_69 : mv_nw[17]? = some (Cond.fieldLinkNest RX3 69 (TX7 10).1 (TX7 10).2.1 (TX7 10).2.2.1 "WantedTypes") := rfl
theorem fnX4_32 : mv_nw[18]? = some (Cond.fieldLinkNest RX4 32 (TX7 0).1 (TX7 0).2.1 (TX7 0).2.2.1 "WantedTypes") := rfl
theorem fnX4_35 : mv_nw[19]? = some (Cond.fieldLinkNest RX4 35 (TX7 1).1 (TX7 1).2.1 (TX7 1).2.2.1 "WantedTypes") := rfl
theorem fnX4_38 : mv_nw[20]? = some (Cond.fieldLinkNest RX4 38 (TX7 2).1 (TX7 2).2.1 (TX7 2).2.2.1 "WantedTypes") := rfl
theorem fnX4_64 : mv_nw[21]? = some (Cond.fieldLinkNest RX4 64 (TX7 3).1 (TX7 3).2.1 (TX7 3).2.2.1 "WantedTypes") := rfl
theorem fnX4_84 : mv_nw[22]? = some (Cond.fieldLinkNest RX4 84 (TX7 5).1 (TX7 5).2.1 (TX7 5).2.2.1 "WantedTypes") := rfl
theorem fnX4_87 : mv_nw[23]? = some (Cond.fieldLinkNest RX4 87 (TX7 6).1 (TX7 6).2.1 (TX7 6).2.2.1 "WantedTypes") := rfl
theorem fnX4_90 : mv_nw[24]? = some (Cond.fieldLinkNest RX4 90 (TX7 7).1 (TX7 7).2.1 (TX7 7).2.2.1 "WantedTypes") := rfl
theorem fnX4_93 : mv_nw[25]? = some (Cond.fieldLinkNest RX4 93 (TX7 8).1 (TX7 8).2.1 (TX7 8).2.2.1 "WantedTypes") := rfl
theorem fnX4_99 : mv_nw[26]? = some (Cond.fieldLinkNest RX4 99 (TX7 9).1 (TX7 9).2.1 (TX7 9).2.2.1 "WantedTypes") := rfl
theorem fnX4_102 : mv_nw[27]? = some (Cond.fieldLinkNest RX4 102 (TX7 10).1 (TX7 10).2.1 (TX7 10).2.2.1 "WantedTypes") := rfl
theorem fnX6_36 : mv_nw[28]? = some (Cond.fieldLinkNest RX6 36 (TX5 0).1 (TX5 0).2.1 (TX5 0).2.2.1 "WantedTypes") := rfl
theorem fnX6_74 : mv_nw[29]? = some (Cond.fieldLinkNest RX6 74 (TX7 8).1 (TX7 8).2.1 (TX7 8).2.2.1 "WantedTypes") := rfl
theorem fnX6_77 : mv_nw[30]? = some (Cond.fieldLinkNest RX6 77 (TX7 10).1 (TX7 10).2.1 (TX7 10).2.2.1 "WantedTypes") := rfl
theorem fnX6_80 : mv_nw[31]? = some (Cond.fieldLinkNest RX6 80 (TX7 9).1 (TX7 9).2.1 (TX7 9).2.2.1 "WantedTypes") := rfl
theorem fnX6_83 : mv_nw[32]? = some (Cond.fieldLinkNest RX6 83 (TX7 6).1 (TX7 6).2.1 (TX7 6).2.2.1 "WantedTypes") := rfl
theorem fnX8_103 : mv_nw[33]? = some (Cond.fieldLinkNest RX8 103 (TX5 1).1 (TX5 1).2.1 (TX5 1).2.2.1 "WantedTypes") := rfl
theorem fnX8_107 : mv_nw[34]? = some (Cond.fieldLinkNest RX8 107 (TX5 0).1 (TX5 0).2.1 (TX5 0).2.2.1 "WantedTypes") := rfl
theorem fnX8_134 : mv_nw[35]? = some (Cond.fieldLinkNest RX8 134 (TX4 4).1 (TX4 4).2.1 (TX4 4).2.2.1 "WantedTypes") := rfl
theorem fnX8_142 : mv_nw[36]? = some (Cond.fieldLinkNest RX8 142 (TX4 3).1 (TX4 3).2.1 (TX4 3).2.2.1 "WantedTypes") := rfl
theorem fnX8_145 : mv_nw[37]? = some (Cond.fieldLinkNest RX8 145 (TX4 2).1 (TX4 2).2.1 (TX4 2).2.2.1 "WantedTypes") := rfl
theorem fnX8_151 : mv_nw[38]? = some (Cond.fieldLinkNest RX8 151 (TX7 1).1 (TX7 1).2.1 (TX7 1).2.2.1 "WantedTypes") := rfl
theorem fnX8_167 : mv_nw[39]? = some (Cond.fieldLinkNest RX8 167 (TX7 2).1 (TX7 2).2.1 (TX7 2).2.2.1 "WantedTypes") := rfl
theorem fnX8_170 : mv_nw[40]? = some (Cond.fieldLinkNest RX8 170 (TX7 7).1 (TX7 7).2.1 (TX7 7).2.2.1 "WantedTypes") := rfl
theorem fnX8_176 : mv_nw[41]? = some (Cond.fieldLinkNest RX8 176 (TX7 3).1 (TX7 3).2.1 (TX7 3).2.2.1 "WantedTypes") := rfl
theorem fnX8_179 : mv_nw[42]? = some (Cond.fieldLinkNest RX8 179 (TX0 3).1 (TX0 3).2.1 (TX0 3).2.2.1 "WantedTypes") := rfl
theorem fnX8_182 : mv_nw[43]? = some (Cond.fieldLinkNest RX8 182 (TX0 0).1 (TX0 0).2.1 (TX0 0).2.2.1 "WantedTypes") := rfl
theorem fnX8_185 : mv_nw[44]? = some (Cond.fieldLinkNest RX8 185 (TX0 1).1 (TX0 1).2.1 (TX0 1).2.2.1 "WantedTypes") := rfl
theorem fnX8_188 : mv_nw[45]? = some (Cond.fieldLinkNest RX8 188 (TX0 2).1 (TX0 2).2.1 (TX0 2).2.2.1 "WantedTypes") := rfl
theorem fnX8_191 : mv_nw[46]? = some (Cond.fieldLinkNest RX8 191 (TX7 6).1 (TX7 6).2.1 (TX7 6).2.2.1 "WantedTypes") := rfl
theorem fnX8_197 : mv_nw[47]? = some (Cond.fieldLinkNest RX8 197 (TX7 8).1 (TX7 8).2.1 (TX7 8).2.2.1 "WantedTypes") := rfl
theorem fnX8_200 : mv_nw[48]? = some (Cond.fieldLinkNest RX8 200 (TX7 9).1 (TX7 9).2.1 (TX7 9).2.2.1 "WantedTypes") := rfl
theorem fnX8_204 : mv_nw[49]? = some (Cond.fieldLinkNest RX8 204 (TX7 10).1 (TX7 10).2.1 (TX7 10).2.2.1 "WantedTypes") := rfl
theorem fnX8_207 : mv_nw[50]? = some (Cond.fieldLinkNest RX8 207 (TX7 4).1 (TX7 4).2.1 (TX7 4).2.2.1 "WantedTypes") := rfl
theorem fnX8_230 : mv_nw[51]? = some (Cond.fieldLinkNest RX8 230 (TX2 7).1 (TX2 7).2.1 (TX2 7).2.2.1 "WantedTypes") := rfl
theorem fnX8_236 : mv_nw[52]? = some (Cond.fieldLinkNest RX8 236 (TX7 0).1 (TX7 0).2.1 (TX7 0).2.2.1 "WantedTypes") := rfl
theorem fnX8_256 : mv_nw[53]? = some (Cond.fieldLinkNest RX8 256 (TX6 2).1 (TX6 2).2.1 (TX6 2).2.2.1 "WantedTypes") := rfl
theorem fnX8_281 : mv_nw[54]? = some (Cond.fieldLinkNest RX8 281 (TX7 5).1 (TX7 5).2.1 (TX7 5).2.2.1 "WantedTypes") := rfl
theorem fnX8_287 : mv_nw[55]? = some (Cond.fieldLinkNest RX8 287 (TX1 2).1 (TX1 2).2.1 (TX1 2).2.2.1 "WantedTypes") := rfl
theorem fnX8_296 : mv_nw[56]? = some (Cond.fieldLinkNest RX8 296 (TX1 1).1 (TX1 1).2.1 (TX1 1).2.2.1 "WantedTypes") := rfl
theorem fnX8_302 : mv_nw[57]? = some (Cond.fieldLinkNest RX8 302 (TX4 1).1 (TX4 1).2.1 (TX4 1).2.2.1 "WantedTypes") := rfl
theorem fnX8_309 : mv_nw[58]? = some (Cond.fieldLinkNest RX8 309 (TX2 1).1 (TX2 1).2.1 (TX2 1).2.2.1 "WantedTypes") := rfl
theorem mnX1_34 : mv_nw[59]? = some (Cond.methodLinkNest RX1 34 yX7_isKind "WantedTypes") := rfl
theorem mnX2_65 : mv_nw[60]? = some (Cond.methodLinkNest RX2 65 yX7_priceOf "WantedTypes") := rfl
theorem mnX2_82 : mv_nw[61]? = some (Cond.methodLinkNest RX2 82 yX7_isHidden "WantedTypes") := rfl
theorem mnX2_86 : mv_nw[62]? = some (Cond.methodLinkNest RX2 86 yX7_givesOne "WantedTypes") := rfl
theorem mnX3_60 : mv_nw[63]? = some (Cond.methodLinkNest RX3 60 yX7_priceOf "WantedTypes") := rfl
theorem mnX4_17 : mv_nw[64]? = some (Cond.methodLinkNest RX4 17 yX7_init "WantedTypes") := rfl
theorem mnX4_67 : mv_nw[65]? = some (Cond.methodLinkNest RX4 67 yX7_seeAbove "WantedTypes") := rfl
theorem mnX6_26 : mv_nw[66]? = some (Cond.methodLinkNest RX6 26 yX5_isMissing "WantedTypes") := rfl
theorem mnX6_32 : mv_nw[67]? = some (Cond.methodLinkNest RX6 32 yX5_hasPlaces "WantedTypes") := rfl
theorem mnX6_63 : mv_nw[68]? = some (Cond.methodLinkNest RX6 63 yX7_hasMember "WantedTypes") := rfl
theorem mnX6_68 : mv_nw[69]? = some (Cond.methodLinkNest RX6 68 yX7_isHidden "WantedTypes") := rfl
theorem mnX6_71 : mv_nw[70]? = some (Cond.methodLinkNest RX6 71 yX7_givesOne "WantedTypes") := rfl
theorem mnX6_86 : mv_nw[71]? = some (Cond.methodLinkNest RX6 86 yX7_priceOf "WantedTypes") := rfl
theorem mnX8_9 : mv_nw[72]? = some (Cond.methodLinkNest RX8 9 yX7_init "WantedTypes") := rfl
theorem mnX8_22 : mv_nw[73]? = some (Cond.methodLinkNest RX8 22 yX5_init "WantedTypes") := rfl
theorem mnX8_29 : mv_nw[74]? = some (Cond.methodLinkNest RX8 29 yX4_init "WantedTypes") := rfl
theorem mnX8_36 : mv_nw[75]? = some (Cond.methodLinkNest RX8 36 yX0_init "WantedTypes") := rfl
theorem mnX8_43 : mv_nw[76]? = some (Cond.methodLinkNest RX8 43 yX3_init "WantedTypes") := rfl
theorem mnX8_52 : mv_nw[77]? = some (Cond.methodLinkNest RX8 52 yX2_init "WantedTypes") := rfl
theorem mnX8_59 : mv_nw[78]? = some (Cond.methodLinkNest RX8 59 yX6_init "WantedTypes") := rfl
theorem mnX8_68 : mv_nw[79]? = some (Cond.methodLinkNest RX8 68 yX1_init "WantedTypes") := rfl
theorem mnX8_73 : mv_nw[80]? = some (Cond.methodLinkNest RX8 73 yX5_isRow "WantedTypes") := rfl
theorem mnX8_77 : mv_nw[81]? = some (Cond.methodLinkNest RX8 77 yX5_isLane "WantedTypes") := rfl
theorem mnX8_85 : mv_nw[82]? = some (Cond.methodLinkNest RX8 85 yX5_make "WantedTypes") := rfl
theorem mnX8_92 : mv_nw[83]? = some (Cond.methodLinkNest RX8 92 yX5_isMissing "WantedTypes") := rfl
theorem mnX8_95 : mv_nw[84]? = some (Cond.methodLinkNest RX8 95 yX5_hasPlaces "WantedTypes") := rfl
theorem mnX8_99 : mv_nw[85]? = some (Cond.methodLinkNest RX8 99 yX5_put "WantedTypes") := rfl
theorem mnX8_117 : mv_nw[86]? = some (Cond.methodLinkNest RX8 117 yX5_lose "WantedTypes") := rfl
theorem mnX8_120 : mv_nw[87]? = some (Cond.methodLinkNest RX8 120 yX4_isFull "WantedTypes") := rfl
theorem mnX8_125 : mv_nw[88]? = some (Cond.methodLinkNest RX8 125 yX4_append "WantedTypes") := rfl
theorem mnX8_128 : mv_nw[89]? = some (Cond.methodLinkNest RX8 128 yX4_readTape "WantedTypes") := rfl
theorem mnX8_131 : mv_nw[90]? = some (Cond.methodLinkNest RX8 131 yX4_emptyTape "WantedTypes") := rfl
theorem mnX8_154 : mv_nw[91]? = some (Cond.methodLinkNest RX8 154 yX7_hasMember "WantedTypes") := rfl
theorem mnX8_157 : mv_nw[92]? = some (Cond.methodLinkNest RX8 157 yX7_isHidden "WantedTypes") := rfl
theorem mnX8_161 : mv_nw[93]? = some (Cond.methodLinkNest RX8 161 yX0_keep "WantedTypes") := rfl
theorem mnX8_173 : mv_nw[94]? = some (Cond.methodLinkNest RX8 173 yX7_hasType "WantedTypes") := rfl
theorem mnX8_194 : mv_nw[95]? = some (Cond.methodLinkNest RX8 194 yX7_priceOf "WantedTypes") := rfl
theorem mnX8_210 : mv_nw[96]? = some (Cond.methodLinkNest RX8 210 yX7_typesOf "WantedTypes") := rfl
theorem mnX8_213 : mv_nw[97]? = some (Cond.methodLinkNest RX8 213 yX7_membersOf "WantedTypes") := rfl
theorem mnX8_216 : mv_nw[98]? = some (Cond.methodLinkNest RX8 216 yX2_manyOfPrice "WantedTypes") := rfl
theorem mnX8_220 : mv_nw[99]? = some (Cond.methodLinkNest RX8 220 yX3_leastListed "WantedTypes") := rfl
theorem mnX8_224 : mv_nw[100]? = some (Cond.methodLinkNest RX8 224 yX2_findPlace "WantedTypes") := rfl
theorem mnX8_227 : mv_nw[101]? = some (Cond.methodLinkNest RX8 227 yX2_spell "WantedTypes") := rfl
theorem mnX8_233 : mv_nw[102]? = some (Cond.methodLinkNest RX8 233 yX6_isLength "WantedTypes") := rfl
theorem mnX8_239 : mv_nw[103]? = some (Cond.methodLinkNest RX8 239 yX6_take "WantedTypes") := rfl
theorem mnX8_242 : mv_nw[104]? = some (Cond.methodLinkNest RX8 242 yX6_isWhole "WantedTypes") := rfl
theorem mnX8_245 : mv_nw[105]? = some (Cond.methodLinkNest RX8 245 yX6_given "WantedTypes") := rfl
theorem mnX8_249 : mv_nw[106]? = some (Cond.methodLinkNest RX8 249 yX6_priceTogether "WantedTypes") := rfl
theorem mnX8_252 : mv_nw[107]? = some (Cond.methodLinkNest RX8 252 yX7_isOf "WantedTypes") := rfl
theorem mnX8_257 : mv_nw[108]? = some (Cond.methodLinkNest RX8 257 yX2_placeOf "WantedTypes") := rfl
theorem mnX8_261 : mv_nw[109]? = some (Cond.methodLinkNest RX8 261 yX3_typesHad "WantedTypes") := rfl
theorem mnX8_264 : mv_nw[110]? = some (Cond.methodLinkNest RX8 264 yX3_membersNeeded "WantedTypes") := rfl
theorem mnX8_267 : mv_nw[111]? = some (Cond.methodLinkNest RX8 267 yX7_shareOf "WantedTypes") := rfl
theorem mnX8_271 : mv_nw[112]? = some (Cond.methodLinkNest RX8 271 yX2_size "WantedTypes") := rfl
theorem mnX8_278 : mv_nw[113]? = some (Cond.methodLinkNest RX8 278 yX7_become "WantedTypes") := rfl
theorem mnX8_284 : mv_nw[114]? = some (Cond.methodLinkNest RX8 284 yX7_isKind "WantedTypes") := rfl
theorem mnX8_290 : mv_nw[115]? = some (Cond.methodLinkNest RX8 290 yX1_sizeOf "WantedTypes") := rfl
theorem mnX8_293 : mv_nw[116]? = some (Cond.methodLinkNest RX8 293 yX1_markOf "WantedTypes") := rfl
theorem mnX8_299 : mv_nw[117]? = some (Cond.methodLinkNest RX8 299 yX5_present "WantedTypes") := rfl
theorem mnX8_313 : mv_nw[118]? = some (Cond.methodLinkNest RX8 313 yX7_putHidden "WantedTypes") := rfl
theorem mnX8_317 : mv_nw[119]? = some (Cond.methodLinkNest RX8 317 yX7_seeAbove "WantedTypes") := rfl
theorem kwX2_36 : Cond.constantLong RX2 36 999999999 ∈ mv_all := mv_g (mv_t3 (i := 85) (by decide +kernel)) rfl
theorem kwX2_52 : Cond.constant RX2 52 (-1000000) ∈ mv_all := mv_g (mv_t3 (i := 119) (by decide +kernel)) rfl
theorem kwX2_129 : Cond.constantLong RX2 129 1000000000 ∈ mv_all := mv_g (mv_t3 (i := 77) (by decide +kernel)) rfl
theorem kwX3_23 : Cond.constant RX3 23 (-1000000) ∈ mv_all := mv_g (mv_t3 (i := 109) (by decide +kernel)) rfl
theorem kwX3_30 : Cond.constant RX3 30 100000000 ∈ mv_all := mv_g (mv_t3 (i := 98) (by decide +kernel)) rfl
theorem kwX8_80 : Cond.constant RX8 80 (-1000001) ∈ mv_all := mv_g (mv_t2 (i := 79) (by decide +kernel)) rfl
theorem kwX8_124 : Cond.constant RX8 124 (-1000003) ∈ mv_all := mv_g (mv_t2 (i := 132) (by decide +kernel)) rfl
theorem kwX8_141 : Cond.constant RX8 141 (-1000100) ∈ mv_all := mv_g (mv_t2 (i := 202) (by decide +kernel)) rfl
theorem kwX8_160 : Cond.constant RX8 160 (-1000002) ∈ mv_all := mv_g (mv_t2 (i := 228) (by decide +kernel)) rfl
theorem kwX8_203 : Cond.constant RX8 203 (-1000000) ∈ mv_all := mv_g (mv_t3 (i := 31) (by decide +kernel)) rfl
theorem kwX8_223 : Cond.constant RX8 223 999999999 ∈ mv_all := mv_g (mv_t3 (i := 114) (by decide +kernel)) rfl
theorem kwX8_270 : Cond.constant RX8 270 999999 ∈ mv_all := mv_g (mv_t3 (i := 236) (by decide +kernel)) rfl
theorem kwX8_274 : Cond.constantLong RX8 274 16807 ∈ mv_all := mv_g (mv_t4 (i := 1) (by decide +kernel)) rfl
theorem kwX8_276 : Cond.constantLong RX8 276 2147483647 ∈ mv_all := mv_g (mv_t4 (i := 2) (by decide +kernel)) rfl
theorem kwX8_308 : Cond.constant RX8 308 (-1000010) ∈ mv_all := mv_g (mv_t2 (i := 84) (by decide +kernel)) rfl
theorem kwX9_52 : Cond.constantLong RX9 52 7 ∈ mv_all := mv_g (mv_t4 (i := 185) (by decide +kernel)) rfl
theorem kwX9_58 : Cond.constant RX9 58 (-1000010) ∈ mv_all := mv_g (mv_t4 (i := 195) (by decide +kernel)) rfl
theorem kwX9_63 : Cond.constantLong RX9 63 2 ∈ mv_all := mv_g (mv_t4 (i := 189) (by decide +kernel)) rfl
theorem kwX9_65 : Cond.constant RX9 65 (-1000001) ∈ mv_all := mv_g (mv_t4 (i := 190) (by decide +kernel)) rfl
theorem kwX9_74 : Cond.constantLong RX9 74 255 ∈ mv_all := mv_g (mv_t4 (i := 216) (by decide +kernel)) rfl
theorem kwX9_79 : Cond.constant RX9 79 (-1000003) ∈ mv_all := mv_g (mv_t4 (i := 217) (by decide +kernel)) rfl
theorem kwX9_100 : Cond.constantLong RX9 100 48 ∈ mv_all := mv_g (mv_t5 (i := 6) (by decide +kernel)) rfl
theorem kwX9_102 : Cond.constantLong RX9 102 57 ∈ mv_all := mv_g (mv_t5 (i := 7) (by decide +kernel)) rfl
theorem kwX9_126 : Cond.constant RX9 126 (-1000100) ∈ mv_all := mv_g (mv_t5 (i := 19) (by decide +kernel)) rfl
theorem kwX9_137 : Cond.constant RX9 137 (-1000002) ∈ mv_all := mv_g (mv_t5 (i := 36) (by decide +kernel)) rfl
theorem kwX9_141 : Cond.constantLong RX9 141 9 ∈ mv_all := mv_g (mv_t5 (i := 45) (by decide +kernel)) rfl
theorem kwX9_149 : Cond.constant RX9 149 (-1000000) ∈ mv_all := mv_g (mv_t5 (i := 66) (by decide +kernel)) rfl
theorem kwX9_160 : Cond.constantLong RX9 160 1000000000 ∈ mv_all := mv_g (mv_t5 (i := 102) (by decide +kernel)) rfl
theorem kwX9_173 : Cond.constantLong RX9 173 999999999 ∈ mv_all := mv_g (mv_t5 (i := 107) (by decide +kernel)) rfl
theorem kwX9_175 : Cond.constant RX9 175 999999999 ∈ mv_all := mv_g (mv_t5 (i := 108) (by decide +kernel)) rfl
theorem kwX9_176 : Cond.constantLong RX9 176 24 ∈ mv_all := mv_g (mv_t5 (i := 87) (by decide +kernel)) rfl
theorem kwX9_210 : Cond.constantLong RX9 210 999999998 ∈ mv_all := mv_g (mv_t5 (i := 121) (by decide +kernel)) rfl
theorem kwX9_228 : Cond.constantLong RX9 228 999 ∈ mv_all := mv_g (mv_t5 (i := 182) (by decide +kernel)) rfl
theorem kwX9_230 : Cond.constantLong RX9 230 60 ∈ mv_all := mv_g (mv_t5 (i := 187) (by decide +kernel)) rfl
theorem kwX9_232 : Cond.constantLong RX9 232 999999 ∈ mv_all := mv_g (mv_t5 (i := 188) (by decide +kernel)) rfl
theorem kwX9_234 : Cond.constantLong RX9 234 16807 ∈ mv_all := mv_g (mv_t5 (i := 189) (by decide +kernel)) rfl
theorem kwX9_236 : Cond.constantLong RX9 236 2147483647 ∈ mv_all := mv_g (mv_t5 (i := 190) (by decide +kernel)) rfl
theorem kwX9_238 : Cond.constantLong RX9 238 5 ∈ mv_all := mv_g (mv_t5 (i := 207) (by decide +kernel)) rfl
theorem cwX0_init : Cond.code yX0_init cX0_init 1 none ∈ mv_all := mv_g (mv_t1 (i := 163) (by decide +kernel)) rfl
theorem iwX0_init : Cond.instanceMethod yX0_init ∈ mv_all := mv_g (mv_t1 (i := 162) (by decide +kernel)) rfl
theorem cwX0_keep : Cond.code yX0_keep cX0_keep 4 none ∈ mv_all := mv_g (mv_t2 (i := 232) (by decide +kernel)) rfl
theorem iwX0_keep : Cond.instanceMethod yX0_keep ∈ mv_all := mv_g (mv_t2 (i := 231) (by decide +kernel)) rfl
theorem ewX0_keep : Cond.selects RX0 yX0_keep yX0_keep ∈ mv_all := mv_p2 (y := yX0_keep) (i := 10) (n := 4) (by decide +kernel)
theorem cwX0_forgetOldest : Cond.code yX0_forgetOldest cX0_forgetOldest 1 none ∈ mv_all := mv_g (mv_t2 (i := 236) (by decide +kernel)) rfl
theorem iwX0_forgetOldest : Cond.instanceMethod yX0_forgetOldest ∈ mv_all := mv_g (mv_t2 (i := 235) (by decide +kernel)) rfl
theorem ewX0_forgetOldest : Cond.selects RX0 yX0_forgetOldest yX0_forgetOldest ∈ mv_all := mv_p2 (y := yX0_forgetOldest) (i := 11) (n := 4) (by decide +kernel)
theorem cwX1_init : Cond.code yX1_init cX1_init 2 none ∈ mv_all := mv_g (mv_t2 (i := 21) (by decide +kernel)) rfl
theorem iwX1_init : Cond.instanceMethod yX1_init ∈ mv_all := mv_g (mv_t2 (i := 20) (by decide +kernel)) rfl
theorem cwX1_sizeOf : Cond.code yX1_sizeOf cX1_sizeOf 2 (some .int) ∈ mv_all := mv_g (mv_t4 (i := 30) (by decide +kernel)) rfl
theorem iwX1_sizeOf : Cond.instanceMethod yX1_sizeOf ∈ mv_all := mv_g (mv_t4 (i := 29) (by decide +kernel)) rfl
theorem ewX1_sizeOf : Cond.selects RX1 yX1_sizeOf yX1_sizeOf ∈ mv_all := mv_p5 (y := yX1_sizeOf) (i := 2) (n := 3) (by decide +kernel)
theorem cwX1_markOf : Cond.code yX1_markOf cX1_markOf 2 (some .int) ∈ mv_all := mv_g (mv_t4 (i := 79) (by decide +kernel)) rfl
theorem iwX1_markOf : Cond.instanceMethod yX1_markOf ∈ mv_all := mv_g (mv_t4 (i := 78) (by decide +kernel)) rfl
theorem ewX1_markOf : Cond.selects RX1 yX1_markOf yX1_markOf ∈ mv_all := mv_p5 (y := yX1_markOf) (i := 14) (n := 3) (by decide +kernel)
theorem cwX1_sizeOfCall : Cond.code yX1_sizeOfCall cX1_sizeOfCall 2 (some .int) ∈ mv_all := mv_g (mv_t4 (i := 34) (by decide +kernel)) rfl
theorem iwX1_sizeOfCall : Cond.instanceMethod yX1_sizeOfCall ∈ mv_all := mv_g (mv_t4 (i := 33) (by decide +kernel)) rfl
theorem ewX1_sizeOfCall : Cond.selects RX1 yX1_sizeOfCall yX1_sizeOfCall ∈ mv_all := mv_p5 (y := yX1_sizeOfCall) (i := 3) (n := 3) (by decide +kernel)
theorem cwX1_markOfLocal : Cond.code yX1_markOfLocal cX1_markOfLocal 2 (some .int) ∈ mv_all := mv_g (mv_t4 (i := 63) (by decide +kernel)) rfl
theorem iwX1_markOfLocal : Cond.instanceMethod yX1_markOfLocal ∈ mv_all := mv_g (mv_t4 (i := 62) (by decide +kernel)) rfl
theorem ewX1_markOfLocal : Cond.selects RX1 yX1_markOfLocal yX1_markOfLocal ∈ mv_all := mv_p5 (y := yX1_markOfLocal) (i := 10) (n := 3) (by decide +kernel)
theorem cwX1_body10 : Cond.code yX1_body10 cX1_body10 2 (some .int) ∈ mv_all := mv_g (mv_t4 (i := 51) (by decide +kernel)) rfl
theorem iwX1_body10 : Cond.instanceMethod yX1_body10 ∈ mv_all := mv_g (mv_t4 (i := 50) (by decide +kernel)) rfl
theorem ewX1_body10 : Cond.selects RX1 yX1_body10 yX1_body10 ∈ mv_all := mv_p5 (y := yX1_body10) (i := 7) (n := 3) (by decide +kernel)
theorem cwX1_body11 : Cond.code yX1_body11 cX1_body11 3 (some .int) ∈ mv_all := mv_g (mv_t4 (i := 59) (by decide +kernel)) rfl
theorem iwX1_body11 : Cond.instanceMethod yX1_body11 ∈ mv_all := mv_g (mv_t4 (i := 58) (by decide +kernel)) rfl
theorem ewX1_body11 : Cond.selects RX1 yX1_body11 yX1_body11 ∈ mv_all := mv_p5 (y := yX1_body11) (i := 9) (n := 3) (by decide +kernel)
theorem cwX1_body12 : Cond.code yX1_body12 cX1_body12 2 (some .int) ∈ mv_all := mv_g (mv_t4 (i := 55) (by decide +kernel)) rfl
theorem iwX1_body12 : Cond.instanceMethod yX1_body12 ∈ mv_all := mv_g (mv_t4 (i := 54) (by decide +kernel)) rfl
theorem ewX1_body12 : Cond.selects RX1 yX1_body12 yX1_body12 ∈ mv_all := mv_p5 (y := yX1_body12) (i := 8) (n := 3) (by decide +kernel)
theorem cwX1_body13 : Cond.code yX1_body13 cX1_body13 2 (some .int) ∈ mv_all := mv_g (mv_t4 (i := 47) (by decide +kernel)) rfl
theorem iwX1_body13 : Cond.instanceMethod yX1_body13 ∈ mv_all := mv_g (mv_t4 (i := 46) (by decide +kernel)) rfl
theorem ewX1_body13 : Cond.selects RX1 yX1_body13 yX1_body13 ∈ mv_all := mv_p5 (y := yX1_body13) (i := 6) (n := 3) (by decide +kernel)
theorem cwX1_body14 : Cond.code yX1_body14 cX1_body14 2 (some .int) ∈ mv_all := mv_g (mv_t4 (i := 39) (by decide +kernel)) rfl
theorem iwX1_body14 : Cond.instanceMethod yX1_body14 ∈ mv_all := mv_g (mv_t4 (i := 38) (by decide +kernel)) rfl
theorem ewX1_body14 : Cond.selects RX1 yX1_body14 yX1_body14 ∈ mv_all := mv_p5 (y := yX1_body14) (i := 4) (n := 3) (by decide +kernel)
theorem cwX1_body21 : Cond.code yX1_body21 cX1_body21 2 (some .int) ∈ mv_all := mv_g (mv_t4 (i := 71) (by decide +kernel)) rfl
theorem iwX1_body21 : Cond.instanceMethod yX1_body21 ∈ mv_all := mv_g (mv_t4 (i := 70) (by decide +kernel)) rfl
theorem ewX1_body21 : Cond.selects RX1 yX1_body21 yX1_body21 ∈ mv_all := mv_p5 (y := yX1_body21) (i := 12) (n := 3) (by decide +kernel)
theorem cwX1_body22 : Cond.code yX1_body22 cX1_body22 2 (some .int) ∈ mv_all := mv_g (mv_t4 (i := 75) (by decide +kernel)) rfl
theorem iwX1_body22 : Cond.instanceMethod yX1_body22 ∈ mv_all := mv_g (mv_t4 (i := 74) (by decide +kernel)) rfl
theorem ewX1_body22 : Cond.selects RX1 yX1_body22 yX1_body22 ∈ mv_all := mv_p5 (y := yX1_body22) (i := 13) (n := 3) (by decide +kernel)
theorem cwX1_body23 : Cond.code yX1_body23 cX1_body23 2 (some .int) ∈ mv_all := mv_g (mv_t4 (i := 83) (by decide +kernel)) rfl
theorem iwX1_body23 : Cond.instanceMethod yX1_body23 ∈ mv_all := mv_g (mv_t4 (i := 82) (by decide +kernel)) rfl
theorem ewX1_body23 : Cond.selects RX1 yX1_body23 yX1_body23 ∈ mv_all := mv_p5 (y := yX1_body23) (i := 15) (n := 3) (by decide +kernel)
theorem cwX1_body24 : Cond.code yX1_body24 cX1_body24 2 (some .int) ∈ mv_all := mv_g (mv_t4 (i := 67) (by decide +kernel)) rfl
theorem iwX1_body24 : Cond.instanceMethod yX1_body24 ∈ mv_all := mv_g (mv_t4 (i := 66) (by decide +kernel)) rfl
theorem ewX1_body24 : Cond.selects RX1 yX1_body24 yX1_body24 ∈ mv_all := mv_p5 (y := yX1_body24) (i := 11) (n := 3) (by decide +kernel)
theorem cwX1_begin : Cond.code yX1_begin cX1_begin 2 none ∈ mv_all := mv_g (mv_t4 (i := 43) (by decide +kernel)) rfl
theorem iwX1_begin : Cond.instanceMethod yX1_begin ∈ mv_all := mv_g (mv_t4 (i := 42) (by decide +kernel)) rfl
theorem ewX1_begin : Cond.selects RX1 yX1_begin yX1_begin ∈ mv_all := mv_p5 (y := yX1_begin) (i := 5) (n := 3) (by decide +kernel)
theorem cwX2_init : Cond.code yX2_init cX2_init 2 none ∈ mv_all := mv_g (mv_t1 (i := 199) (by decide +kernel)) rfl
theorem iwX2_init : Cond.instanceMethod yX2_init ∈ mv_all := mv_g (mv_t1 (i := 198) (by decide +kernel)) rfl
theorem cwX2_manyOfPrice : Cond.code yX2_manyOfPrice cX2_manyOfPrice 3 (some .int) ∈ mv_all := mv_g (mv_t3 (i := 59) (by decide +kernel)) rfl
theorem iwX2_manyOfPrice : Cond.instanceMethod yX2_manyOfPrice ∈ mv_all := mv_g (mv_t3 (i := 58) (by decide +kernel)) rfl
theorem ewX2_manyOfPrice : Cond.selects RX2 yX2_manyOfPrice yX2_manyOfPrice ∈ mv_all := mv_p3 (y := yX2_manyOfPrice) (i := 4) (n := 9) (by decide +kernel)
theorem cwX2_size : Cond.code yX2_size cX2_size 2 (some .int) ∈ mv_all := mv_g (mv_t4 (i := 0) (by decide +kernel)) rfl
theorem iwX2_size : Cond.instanceMethod yX2_size ∈ mv_all := mv_g (mv_t3 (i := 239) (by decide +kernel)) rfl
theorem ewX2_size : Cond.selects RX2 yX2_size yX2_size ∈ mv_all := mv_p5 (y := yX2_size) (i := 0) (n := 9) (by decide +kernel)
theorem cwX2_manyBelow : Cond.code yX2_manyBelow cX2_manyBelow 6 (some .long) ∈ mv_all := mv_g (mv_t3 (i := 196) (by decide +kernel)) rfl
theorem iwX2_manyBelow : Cond.instanceMethod yX2_manyBelow ∈ mv_all := mv_g (mv_t3 (i := 195) (by decide +kernel)) rfl
theorem ewX2_manyBelow : Cond.selects RX2 yX2_manyBelow yX2_manyBelow ∈ mv_all := mv_p4 (y := yX2_manyBelow) (i := 11) (n := 9) (by decide +kernel)
theorem cwX2_findPlace : Cond.code yX2_findPlace cX2_findPlace 4 (some .int) ∈ mv_all := mv_g (mv_t3 (i := 118) (by decide +kernel)) rfl
theorem iwX2_findPlace : Cond.instanceMethod yX2_findPlace ∈ mv_all := mv_g (mv_t3 (i := 117) (by decide +kernel)) rfl
theorem ewX2_findPlace : Cond.selects RX2 yX2_findPlace yX2_findPlace ∈ mv_all := mv_p3 (y := yX2_findPlace) (i := 13) (n := 9) (by decide +kernel)
theorem cwX2_spell : Cond.code yX2_spell cX2_spell 7 (some .int) ∈ mv_all := mv_g (mv_t3 (i := 123) (by decide +kernel)) rfl
theorem iwX2_spell : Cond.instanceMethod yX2_spell ∈ mv_all := mv_g (mv_t3 (i := 122) (by decide +kernel)) rfl
theorem ewX2_spell : Cond.selects RX2 yX2_spell yX2_spell ∈ mv_all := mv_p3 (y := yX2_spell) (i := 14) (n := 9) (by decide +kernel)
theorem cwX2_choose : Cond.code yX2_choose cX2_choose 6 (some .int) ∈ mv_all := mv_g (mv_t3 (i := 131) (by decide +kernel)) rfl
theorem iwX2_choose : Cond.instanceMethod yX2_choose ∈ mv_all := mv_g (mv_t3 (i := 130) (by decide +kernel)) rfl
theorem ewX2_choose : Cond.selects RX2 yX2_choose yX2_choose ∈ mv_all := mv_p4 (y := yX2_choose) (i := 0) (n := 9) (by decide +kernel)
theorem cwX2_placeOf : Cond.code yX2_placeOf cX2_placeOf 10 (some .int) ∈ mv_all := mv_g (mv_t3 (i := 192) (by decide +kernel)) rfl
theorem iwX2_placeOf : Cond.instanceMethod yX2_placeOf ∈ mv_all := mv_g (mv_t3 (i := 191) (by decide +kernel)) rfl
theorem ewX2_placeOf : Cond.selects RX2 yX2_placeOf yX2_placeOf ∈ mv_all := mv_p4 (y := yX2_placeOf) (i := 10) (n := 9) (by decide +kernel)
theorem cwX2_waysWith : Cond.code yX2_waysWith cX2_waysWith 4 (some .long) ∈ mv_all := mv_g (mv_t3 (i := 135) (by decide +kernel)) rfl
theorem iwX2_waysWith : Cond.instanceMethod yX2_waysWith ∈ mv_all := mv_g (mv_t3 (i := 134) (by decide +kernel)) rfl
theorem ewX2_waysWith : Cond.selects RX2 yX2_waysWith yX2_waysWith ∈ mv_all := mv_p4 (y := yX2_waysWith) (i := 1) (n := 9) (by decide +kernel)
theorem cwX2_wantTaken : Cond.code yX2_wantTaken cX2_wantTaken 3 none ∈ mv_all := mv_g (mv_t3 (i := 140) (by decide +kernel)) rfl
theorem iwX2_wantTaken : Cond.instanceMethod yX2_wantTaken ∈ mv_all := mv_g (mv_t3 (i := 139) (by decide +kernel)) rfl
theorem ewX2_wantTaken : Cond.selects RX2 yX2_wantTaken yX2_wantTaken ∈ mv_all := mv_p4 (y := yX2_wantTaken) (i := 2) (n := 9) (by decide +kernel)
theorem cwX2_want : Cond.code yX2_want cX2_want 2 none ∈ mv_all := mv_g (mv_t3 (i := 127) (by decide +kernel)) rfl
theorem iwX2_want : Cond.instanceMethod yX2_want ∈ mv_all := mv_g (mv_t3 (i := 126) (by decide +kernel)) rfl
theorem ewX2_want : Cond.selects RX2 yX2_want yX2_want ∈ mv_all := mv_p3 (y := yX2_want) (i := 15) (n := 9) (by decide +kernel)
theorem cwX2_fillRest : Cond.code yX2_fillRest cX2_fillRest 4 none ∈ mv_all := mv_g (mv_t3 (i := 144) (by decide +kernel)) rfl
theorem iwX2_fillRest : Cond.instanceMethod yX2_fillRest ∈ mv_all := mv_g (mv_t3 (i := 143) (by decide +kernel)) rfl
theorem ewX2_fillRest : Cond.selects RX2 yX2_fillRest yX2_fillRest ∈ mv_all := mv_p4 (y := yX2_fillRest) (i := 3) (n := 9) (by decide +kernel)
theorem cwX2_countAll : Cond.code yX2_countAll cX2_countAll 2 none ∈ mv_all := mv_g (mv_t3 (i := 63) (by decide +kernel)) rfl
theorem iwX2_countAll : Cond.instanceMethod yX2_countAll ∈ mv_all := mv_g (mv_t3 (i := 62) (by decide +kernel)) rfl
theorem ewX2_countAll : Cond.selects RX2 yX2_countAll yX2_countAll ∈ mv_all := mv_p3 (y := yX2_countAll) (i := 5) (n := 9) (by decide +kernel)
theorem cwX2_countPrice : Cond.code yX2_countPrice cX2_countPrice 5 none ∈ mv_all := mv_g (mv_t3 (i := 67) (by decide +kernel)) rfl
theorem iwX2_countPrice : Cond.instanceMethod yX2_countPrice ∈ mv_all := mv_g (mv_t3 (i := 66) (by decide +kernel)) rfl
theorem ewX2_countPrice : Cond.selects RX2 yX2_countPrice yX2_countPrice ∈ mv_all := mv_p3 (y := yX2_countPrice) (i := 6) (n := 9) (by decide +kernel)
theorem cwX2_addTo : Cond.code yX2_addTo cX2_addTo 6 none ∈ mv_all := mv_g (mv_t3 (i := 84) (by decide +kernel)) rfl
theorem iwX2_addTo : Cond.instanceMethod yX2_addTo ∈ mv_all := mv_g (mv_t3 (i := 83) (by decide +kernel)) rfl
theorem ewX2_addTo : Cond.selects RX2 yX2_addTo yX2_addTo ∈ mv_all := mv_p3 (y := yX2_addTo) (i := 8) (n := 9) (by decide +kernel)
theorem cwX2_manyWith : Cond.code yX2_manyWith cX2_manyWith 4 (some .long) ∈ mv_all := mv_g (mv_t3 (i := 72) (by decide +kernel)) rfl
theorem iwX2_manyWith : Cond.instanceMethod yX2_manyWith ∈ mv_all := mv_g (mv_t3 (i := 71) (by decide +kernel)) rfl
theorem ewX2_manyWith : Cond.selects RX2 yX2_manyWith yX2_manyWith ∈ mv_all := mv_p3 (y := yX2_manyWith) (i := 7) (n := 9) (by decide +kernel)
theorem cwX2_ways : Cond.code yX2_ways cX2_ways 6 (some .long) ∈ mv_all := mv_g (mv_t3 (i := 76) (by decide +kernel)) rfl
theorem swX2_ways : Cond.static yX2_ways ∈ mv_all := mv_g (mv_t3 (i := 75) (by decide +kernel)) rfl
theorem cwX3_init : Cond.code yX3_init cX3_init 2 none ∈ mv_all := mv_g (mv_t1 (i := 186) (by decide +kernel)) rfl
theorem iwX3_init : Cond.instanceMethod yX3_init ∈ mv_all := mv_g (mv_t1 (i := 185) (by decide +kernel)) rfl
theorem cwX3_leastListed : Cond.code yX3_leastListed cX3_leastListed 3 (some .int) ∈ mv_all := mv_g (mv_t3 (i := 93) (by decide +kernel)) rfl
theorem iwX3_leastListed : Cond.instanceMethod yX3_leastListed ∈ mv_all := mv_g (mv_t3 (i := 92) (by decide +kernel)) rfl
theorem ewX3_leastListed : Cond.selects RX3 yX3_leastListed yX3_leastListed ∈ mv_all := mv_p3 (y := yX3_leastListed) (i := 9) (n := 2) (by decide +kernel)
theorem cwX3_typesHad : Cond.code yX3_typesHad cX3_typesHad 4 (some .int) ∈ mv_all := mv_g (mv_t3 (i := 204) (by decide +kernel)) rfl
theorem iwX3_typesHad : Cond.instanceMethod yX3_typesHad ∈ mv_all := mv_g (mv_t3 (i := 203) (by decide +kernel)) rfl
theorem ewX3_typesHad : Cond.selects RX3 yX3_typesHad yX3_typesHad ∈ mv_all := mv_p4 (y := yX3_typesHad) (i := 12) (n := 2) (by decide +kernel)
theorem cwX3_membersNeeded : Cond.code yX3_membersNeeded cX3_membersNeeded 4 (some .int) ∈ mv_all := mv_g (mv_t3 (i := 212) (by decide +kernel)) rfl
theorem iwX3_membersNeeded : Cond.instanceMethod yX3_membersNeeded ∈ mv_all := mv_g (mv_t3 (i := 211) (by decide +kernel)) rfl
theorem ewX3_membersNeeded : Cond.selects RX3 yX3_membersNeeded yX3_membersNeeded ∈ mv_all := mv_p4 (y := yX3_membersNeeded) (i := 13) (n := 2) (by decide +kernel)
theorem cwX3_seek : Cond.code yX3_seek cX3_seek 5 none ∈ mv_all := mv_g (mv_t3 (i := 97) (by decide +kernel)) rfl
theorem iwX3_seek : Cond.instanceMethod yX3_seek ∈ mv_all := mv_g (mv_t3 (i := 96) (by decide +kernel)) rfl
theorem ewX3_seek : Cond.selects RX3 yX3_seek yX3_seek ∈ mv_all := mv_p3 (y := yX3_seek) (i := 10) (n := 2) (by decide +kernel)
theorem cwX3_leastWith : Cond.code yX3_leastWith cX3_leastWith 3 (some .int) ∈ mv_all := mv_g (mv_t3 (i := 103) (by decide +kernel)) rfl
theorem iwX3_leastWith : Cond.instanceMethod yX3_leastWith ∈ mv_all := mv_g (mv_t3 (i := 102) (by decide +kernel)) rfl
theorem ewX3_leastWith : Cond.selects RX3 yX3_leastWith yX3_leastWith ∈ mv_all := mv_p3 (y := yX3_leastWith) (i := 11) (n := 2) (by decide +kernel)
theorem cwX3_lower : Cond.code yX3_lower cX3_lower 5 (some .boolean) ∈ mv_all := mv_g (mv_t3 (i := 108) (by decide +kernel)) rfl
theorem iwX3_lower : Cond.instanceMethod yX3_lower ∈ mv_all := mv_g (mv_t3 (i := 107) (by decide +kernel)) rfl
theorem ewX3_lower : Cond.selects RX3 yX3_lower yX3_lower ∈ mv_all := mv_p3 (y := yX3_lower) (i := 12) (n := 2) (by decide +kernel)
theorem cwX4_init : Cond.code yX4_init cX4_init 1 none ∈ mv_all := mv_g (mv_t1 (i := 135) (by decide +kernel)) rfl
theorem iwX4_init : Cond.instanceMethod yX4_init ∈ mv_all := mv_g (mv_t1 (i := 134) (by decide +kernel)) rfl
theorem cwX4_isFull : Cond.code yX4_isFull cX4_isFull 1 (some .boolean) ∈ mv_all := mv_g (mv_t2 (i := 131) (by decide +kernel)) rfl
theorem iwX4_isFull : Cond.instanceMethod yX4_isFull ∈ mv_all := mv_g (mv_t2 (i := 130) (by decide +kernel)) rfl
theorem ewX4_isFull : Cond.selects RX4 yX4_isFull yX4_isFull ∈ mv_all := mv_p1 (y := yX4_isFull) (i := 7) (n := 5) (by decide +kernel)
theorem cwX4_append : Cond.code yX4_append cX4_append 2 (some .int) ∈ mv_all := mv_g (mv_t2 (i := 136) (by decide +kernel)) rfl
theorem iwX4_append : Cond.instanceMethod yX4_append ∈ mv_all := mv_g (mv_t2 (i := 135) (by decide +kernel)) rfl
theorem ewX4_append : Cond.selects RX4 yX4_append yX4_append ∈ mv_all := mv_p1 (y := yX4_append) (i := 8) (n := 5) (by decide +kernel)
theorem cwX4_emptyTape : Cond.code yX4_emptyTape cX4_emptyTape 1 none ∈ mv_all := mv_g (mv_t2 (i := 201) (by decide +kernel)) rfl
theorem iwX4_emptyTape : Cond.instanceMethod yX4_emptyTape ∈ mv_all := mv_g (mv_t2 (i := 200) (by decide +kernel)) rfl
theorem ewX4_emptyTape : Cond.selects RX4 yX4_emptyTape yX4_emptyTape ∈ mv_all := mv_p2 (y := yX4_emptyTape) (i := 5) (n := 5) (by decide +kernel)
theorem cwX4_readTape : Cond.code yX4_readTape cX4_readTape 1 (some .boolean) ∈ mv_all := mv_g (mv_t2 (i := 144) (by decide +kernel)) rfl
theorem iwX4_readTape : Cond.instanceMethod yX4_readTape ∈ mv_all := mv_g (mv_t2 (i := 143) (by decide +kernel)) rfl
theorem ewX4_readTape : Cond.selects RX4 yX4_readTape yX4_readTape ∈ mv_all := mv_p1 (y := yX4_readTape) (i := 9) (n := 5) (by decide +kernel)
theorem cwX4_readLaw : Cond.code yX4_readLaw cX4_readLaw 2 (some .boolean) ∈ mv_all := mv_g (mv_t2 (i := 148) (by decide +kernel)) rfl
theorem iwX4_readLaw : Cond.instanceMethod yX4_readLaw ∈ mv_all := mv_g (mv_t2 (i := 147) (by decide +kernel)) rfl
theorem ewX4_readLaw : Cond.selects RX4 yX4_readLaw yX4_readLaw ∈ mv_all := mv_p1 (y := yX4_readLaw) (i := 10) (n := 5) (by decide +kernel)
theorem cwX4_readTypes : Cond.code yX4_readTypes cX4_readTypes 3 (some .boolean) ∈ mv_all := mv_g (mv_t2 (i := 178) (by decide +kernel)) rfl
theorem iwX4_readTypes : Cond.instanceMethod yX4_readTypes ∈ mv_all := mv_g (mv_t2 (i := 177) (by decide +kernel)) rfl
theorem ewX4_readTypes : Cond.selects RX4 yX4_readTypes yX4_readTypes ∈ mv_all := mv_p2 (y := yX4_readTypes) (i := 0) (n := 5) (by decide +kernel)
theorem cwX4_readMembers : Cond.code yX4_readMembers cX4_readMembers 2 (some .boolean) ∈ mv_all := mv_g (mv_t2 (i := 186) (by decide +kernel)) rfl
theorem iwX4_readMembers : Cond.instanceMethod yX4_readMembers ∈ mv_all := mv_g (mv_t2 (i := 185) (by decide +kernel)) rfl
theorem ewX4_readMembers : Cond.selects RX4 yX4_readMembers yX4_readMembers ∈ mv_all := mv_p2 (y := yX4_readMembers) (i := 2) (n := 5) (by decide +kernel)
theorem cwX4_readMember : Cond.code yX4_readMember cX4_readMember 5 (some .boolean) ∈ mv_all := mv_g (mv_t2 (i := 190) (by decide +kernel)) rfl
theorem iwX4_readMember : Cond.instanceMethod yX4_readMember ∈ mv_all := mv_g (mv_t2 (i := 189) (by decide +kernel)) rfl
theorem ewX4_readMember : Cond.selects RX4 yX4_readMember yX4_readMember ∈ mv_all := mv_p2 (y := yX4_readMember) (i := 3) (n := 5) (by decide +kernel)
theorem cwX4_readTaken : Cond.code yX4_readTaken cX4_readTaken 2 (some .boolean) ∈ mv_all := mv_g (mv_t2 (i := 197) (by decide +kernel)) rfl
theorem iwX4_readTaken : Cond.instanceMethod yX4_readTaken ∈ mv_all := mv_g (mv_t2 (i := 196) (by decide +kernel)) rfl
theorem ewX4_readTaken : Cond.selects RX4 yX4_readTaken yX4_readTaken ∈ mv_all := mv_p2 (y := yX4_readTaken) (i := 4) (n := 5) (by decide +kernel)
theorem cwX4_kindOf : Cond.code yX4_kindOf cX4_kindOf 1 (some .int) ∈ mv_all := mv_g (mv_t2 (i := 193) (by decide +kernel)) rfl
theorem swX4_kindOf : Cond.static yX4_kindOf ∈ mv_all := mv_g (mv_t2 (i := 192) (by decide +kernel)) rfl
theorem cwX4_here : Cond.code yX4_here cX4_here 1 (some .int) ∈ mv_all := mv_g (mv_t2 (i := 156) (by decide +kernel)) rfl
theorem iwX4_here : Cond.instanceMethod yX4_here ∈ mv_all := mv_g (mv_t2 (i := 155) (by decide +kernel)) rfl
theorem ewX4_here : Cond.selects RX4 yX4_here yX4_here ∈ mv_all := mv_p1 (y := yX4_here) (i := 12) (n := 5) (by decide +kernel)
theorem cwX4_byteAt : Cond.code yX4_byteAt cX4_byteAt 2 (some .int) ∈ mv_all := mv_g (mv_t2 (i := 160) (by decide +kernel)) rfl
theorem iwX4_byteAt : Cond.instanceMethod yX4_byteAt ∈ mv_all := mv_g (mv_t2 (i := 159) (by decide +kernel)) rfl
theorem ewX4_byteAt : Cond.selects RX4 yX4_byteAt yX4_byteAt ∈ mv_all := mv_p1 (y := yX4_byteAt) (i := 13) (n := 5) (by decide +kernel)
theorem cwX4_take : Cond.code yX4_take cX4_take 2 (some .boolean) ∈ mv_all := mv_g (mv_t2 (i := 152) (by decide +kernel)) rfl
theorem iwX4_take : Cond.instanceMethod yX4_take ∈ mv_all := mv_g (mv_t2 (i := 151) (by decide +kernel)) rfl
theorem ewX4_take : Cond.selects RX4 yX4_take yX4_take ∈ mv_all := mv_p1 (y := yX4_take) (i := 11) (n := 5) (by decide +kernel)
theorem cwX4_takeNumber : Cond.code yX4_takeNumber cX4_takeNumber 5 (some .int) ∈ mv_all := mv_g (mv_t2 (i := 168) (by decide +kernel)) rfl
theorem iwX4_takeNumber : Cond.instanceMethod yX4_takeNumber ∈ mv_all := mv_g (mv_t2 (i := 167) (by decide +kernel)) rfl
theorem ewX4_takeNumber : Cond.selects RX4 yX4_takeNumber yX4_takeNumber ∈ mv_all := mv_p1 (y := yX4_takeNumber) (i := 15) (n := 5) (by decide +kernel)
theorem cwX4_isFigure : Cond.code yX4_isFigure cX4_isFigure 1 (some .boolean) ∈ mv_all := mv_g (mv_t2 (i := 171) (by decide +kernel)) rfl
theorem swX4_isFigure : Cond.static yX4_isFigure ∈ mv_all := mv_g (mv_t2 (i := 170) (by decide +kernel)) rfl
theorem cwX4_refuse : Cond.code yX4_refuse cX4_refuse 2 (some .boolean) ∈ mv_all := mv_g (mv_t2 (i := 164) (by decide +kernel)) rfl
theorem iwX4_refuse : Cond.instanceMethod yX4_refuse ∈ mv_all := mv_g (mv_t2 (i := 163) (by decide +kernel)) rfl
theorem ewX4_refuse : Cond.selects RX4 yX4_refuse yX4_refuse ∈ mv_all := mv_p1 (y := yX4_refuse) (i := 14) (n := 5) (by decide +kernel)
theorem cwX5_init : Cond.code yX5_init cX5_init 1 none ∈ mv_all := mv_g (mv_t1 (i := 111) (by decide +kernel)) rfl
theorem iwX5_init : Cond.instanceMethod yX5_init ∈ mv_all := mv_g (mv_t1 (i := 110) (by decide +kernel)) rfl
theorem cwX5_isRow : Cond.code yX5_isRow cX5_isRow 1 (some .boolean) ∈ mv_all := mv_g (mv_t2 (i := 75) (by decide +kernel)) rfl
theorem swX5_isRow : Cond.static yX5_isRow ∈ mv_all := mv_g (mv_t2 (i := 74) (by decide +kernel)) rfl
theorem cwX5_isLane : Cond.code yX5_isLane cX5_isLane 1 (some .boolean) ∈ mv_all := mv_g (mv_t2 (i := 78) (by decide +kernel)) rfl
theorem swX5_isLane : Cond.static yX5_isLane ∈ mv_all := mv_g (mv_t2 (i := 77) (by decide +kernel)) rfl
theorem cwX5_isMissing : Cond.code yX5_isMissing cX5_isMissing 2 (some .boolean) ∈ mv_all := mv_g (mv_t2 (i := 100) (by decide +kernel)) rfl
theorem iwX5_isMissing : Cond.instanceMethod yX5_isMissing ∈ mv_all := mv_g (mv_t2 (i := 99) (by decide +kernel)) rfl
theorem ewX5_isMissing : Cond.selects RX5 yX5_isMissing yX5_isMissing ∈ mv_all := mv_p1 (y := yX5_isMissing) (i := 3) (n := 3) (by decide +kernel)
theorem cwX5_hasPlaces : Cond.code yX5_hasPlaces cX5_hasPlaces 4 (some .boolean) ∈ mv_all := mv_g (mv_t2 (i := 104) (by decide +kernel)) rfl
theorem iwX5_hasPlaces : Cond.instanceMethod yX5_hasPlaces ∈ mv_all := mv_g (mv_t2 (i := 103) (by decide +kernel)) rfl
theorem ewX5_hasPlaces : Cond.selects RX5 yX5_hasPlaces yX5_hasPlaces ∈ mv_all := mv_p1 (y := yX5_hasPlaces) (i := 4) (n := 3) (by decide +kernel)
theorem cwX5_make : Cond.code yX5_make cX5_make 4 none ∈ mv_all := mv_g (mv_t2 (i := 88) (by decide +kernel)) rfl
theorem iwX5_make : Cond.instanceMethod yX5_make ∈ mv_all := mv_g (mv_t2 (i := 87) (by decide +kernel)) rfl
theorem ewX5_make : Cond.selects RX5 yX5_make yX5_make ∈ mv_all := mv_p1 (y := yX5_make) (i := 1) (n := 3) (by decide +kernel)
theorem cwX5_put : Cond.code yX5_put cX5_put 5 (some .int) ∈ mv_all := mv_g (mv_t2 (i := 108) (by decide +kernel)) rfl
theorem iwX5_put : Cond.instanceMethod yX5_put ∈ mv_all := mv_g (mv_t2 (i := 107) (by decide +kernel)) rfl
theorem ewX5_put : Cond.selects RX5 yX5_put yX5_put ∈ mv_all := mv_p1 (y := yX5_put) (i := 5) (n := 3) (by decide +kernel)
theorem cwX5_lose : Cond.code yX5_lose cX5_lose 2 (some .int) ∈ mv_all := mv_g (mv_t2 (i := 123) (by decide +kernel)) rfl
theorem iwX5_lose : Cond.instanceMethod yX5_lose ∈ mv_all := mv_g (mv_t2 (i := 122) (by decide +kernel)) rfl
theorem ewX5_lose : Cond.selects RX5 yX5_lose yX5_lose ∈ mv_all := mv_p1 (y := yX5_lose) (i := 6) (n := 3) (by decide +kernel)
theorem cwX5_present : Cond.code yX5_present cX5_present 3 (some .int) ∈ mv_all := mv_g (mv_t4 (i := 95) (by decide +kernel)) rfl
theorem iwX5_present : Cond.instanceMethod yX5_present ∈ mv_all := mv_g (mv_t4 (i := 94) (by decide +kernel)) rfl
theorem ewX5_present : Cond.selects RX5 yX5_present yX5_present ∈ mv_all := mv_p6 (y := yX5_present) (i := 0) (n := 3) (by decide +kernel)
theorem cwX6_init : Cond.code yX6_init cX6_init 3 none ∈ mv_all := mv_g (mv_t1 (i := 238) (by decide +kernel)) rfl
theorem iwX6_init : Cond.instanceMethod yX6_init ∈ mv_all := mv_g (mv_t1 (i := 237) (by decide +kernel)) rfl
theorem cwX6_isLength : Cond.code yX6_isLength cX6_isLength 1 (some .boolean) ∈ mv_all := mv_g (mv_t3 (i := 151) (by decide +kernel)) rfl
theorem swX6_isLength : Cond.static yX6_isLength ∈ mv_all := mv_g (mv_t3 (i := 150) (by decide +kernel)) rfl
theorem cwX6_take : Cond.code yX6_take cX6_take 4 (some .int) ∈ mv_all := mv_g (mv_t3 (i := 155) (by decide +kernel)) rfl
theorem iwX6_take : Cond.instanceMethod yX6_take ∈ mv_all := mv_g (mv_t3 (i := 154) (by decide +kernel)) rfl
theorem ewX6_take : Cond.selects RX6 yX6_take yX6_take ∈ mv_all := mv_p4 (y := yX6_take) (i := 4) (n := 5) (by decide +kernel)
theorem cwX6_isWhole : Cond.code yX6_isWhole cX6_isWhole 3 (some .boolean) ∈ mv_all := mv_g (mv_t3 (i := 162) (by decide +kernel)) rfl
theorem iwX6_isWhole : Cond.instanceMethod yX6_isWhole ∈ mv_all := mv_g (mv_t3 (i := 161) (by decide +kernel)) rfl
theorem ewX6_isWhole : Cond.selects RX6 yX6_isWhole yX6_isWhole ∈ mv_all := mv_p4 (y := yX6_isWhole) (i := 5) (n := 5) (by decide +kernel)
theorem cwX6_fits : Cond.code yX6_fits cX6_fits 4 (some .boolean) ∈ mv_all := mv_g (mv_t3 (i := 166) (by decide +kernel)) rfl
theorem iwX6_fits : Cond.instanceMethod yX6_fits ∈ mv_all := mv_g (mv_t3 (i := 165) (by decide +kernel)) rfl
theorem ewX6_fits : Cond.selects RX6 yX6_fits yX6_fits ∈ mv_all := mv_p4 (y := yX6_fits) (i := 6) (n := 5) (by decide +kernel)
theorem cwX6_wantTaken : Cond.code yX6_wantTaken cX6_wantTaken 4 (some .int) ∈ mv_all := mv_g (mv_t3 (i := 174) (by decide +kernel)) rfl
theorem iwX6_wantTaken : Cond.instanceMethod yX6_wantTaken ∈ mv_all := mv_g (mv_t3 (i := 173) (by decide +kernel)) rfl
theorem ewX6_wantTaken : Cond.selects RX6 yX6_wantTaken yX6_wantTaken ∈ mv_all := mv_p4 (y := yX6_wantTaken) (i := 7) (n := 5) (by decide +kernel)
theorem cwX6_given : Cond.code yX6_given cX6_given 1 (some .int) ∈ mv_all := mv_g (mv_t3 (i := 178) (by decide +kernel)) rfl
theorem iwX6_given : Cond.instanceMethod yX6_given ∈ mv_all := mv_g (mv_t3 (i := 177) (by decide +kernel)) rfl
theorem ewX6_given : Cond.selects RX6 yX6_given yX6_given ∈ mv_all := mv_p4 (y := yX6_given) (i := 8) (n := 5) (by decide +kernel)
theorem cwX6_priceTogether : Cond.code yX6_priceTogether cX6_priceTogether 3 (some .int) ∈ mv_all := mv_g (mv_t3 (i := 182) (by decide +kernel)) rfl
theorem iwX6_priceTogether : Cond.instanceMethod yX6_priceTogether ∈ mv_all := mv_g (mv_t3 (i := 181) (by decide +kernel)) rfl
theorem ewX6_priceTogether : Cond.selects RX6 yX6_priceTogether yX6_priceTogether ∈ mv_all := mv_p4 (y := yX6_priceTogether) (i := 9) (n := 5) (by decide +kernel)
theorem cwX7_init : Cond.code yX7_init cX7_init 1 none ∈ mv_all := mv_g (mv_t1 (i := 26) (by decide +kernel)) rfl
theorem iwX7_init : Cond.instanceMethod yX7_init ∈ mv_all := mv_g (mv_t1 (i := 25) (by decide +kernel)) rfl
theorem cwX7_become : Cond.code yX7_become cX7_become 2 none ∈ mv_all := mv_g (mv_t2 (i := 210) (by decide +kernel)) rfl
theorem iwX7_become : Cond.instanceMethod yX7_become ∈ mv_all := mv_g (mv_t2 (i := 209) (by decide +kernel)) rfl
theorem ewX7_become : Cond.selects RX7 yX7_become yX7_become ∈ mv_all := mv_p2 (y := yX7_become) (i := 7) (n := 11) (by decide +kernel)
theorem cwX7_seeAbove : Cond.code yX7_seeAbove cX7_seeAbove 3 none ∈ mv_all := mv_g (mv_t2 (i := 182) (by decide +kernel)) rfl
theorem iwX7_seeAbove : Cond.instanceMethod yX7_seeAbove ∈ mv_all := mv_g (mv_t2 (i := 181) (by decide +kernel)) rfl
theorem ewX7_seeAbove : Cond.selects RX7 yX7_seeAbove yX7_seeAbove ∈ mv_all := mv_p2 (y := yX7_seeAbove) (i := 1) (n := 11) (by decide +kernel)
theorem cwX7_hasType : Cond.code yX7_hasType cX7_hasType 2 (some .boolean) ∈ mv_all := mv_g (mv_t3 (i := 18) (by decide +kernel)) rfl
theorem iwX7_hasType : Cond.instanceMethod yX7_hasType ∈ mv_all := mv_g (mv_t3 (i := 17) (by decide +kernel)) rfl
theorem ewX7_hasType : Cond.selects RX7 yX7_hasType yX7_hasType ∈ mv_all := mv_p2 (y := yX7_hasType) (i := 14) (n := 11) (by decide +kernel)
theorem cwX7_hasMember : Cond.code yX7_hasMember cX7_hasMember 2 (some .boolean) ∈ mv_all := mv_g (mv_t2 (i := 223) (by decide +kernel)) rfl
theorem iwX7_hasMember : Cond.instanceMethod yX7_hasMember ∈ mv_all := mv_g (mv_t2 (i := 222) (by decide +kernel)) rfl
theorem ewX7_hasMember : Cond.selects RX7 yX7_hasMember yX7_hasMember ∈ mv_all := mv_p2 (y := yX7_hasMember) (i := 8) (n := 11) (by decide +kernel)
theorem cwX7_isHidden : Cond.code yX7_isHidden cX7_isHidden 2 (some .boolean) ∈ mv_all := mv_g (mv_t2 (i := 227) (by decide +kernel)) rfl
theorem iwX7_isHidden : Cond.instanceMethod yX7_isHidden ∈ mv_all := mv_g (mv_t2 (i := 226) (by decide +kernel)) rfl
theorem ewX7_isHidden : Cond.selects RX7 yX7_isHidden yX7_isHidden ∈ mv_all := mv_p2 (y := yX7_isHidden) (i := 9) (n := 11) (by decide +kernel)
theorem cwX7_putHidden : Cond.code yX7_putHidden cX7_putHidden 3 none ∈ mv_all := mv_g (mv_t3 (i := 5) (by decide +kernel)) rfl
theorem iwX7_putHidden : Cond.instanceMethod yX7_putHidden ∈ mv_all := mv_g (mv_t3 (i := 4) (by decide +kernel)) rfl
theorem ewX7_putHidden : Cond.selects RX7 yX7_putHidden yX7_putHidden ∈ mv_all := mv_p2 (y := yX7_putHidden) (i := 13) (n := 11) (by decide +kernel)
theorem cwX7_isOf : Cond.code yX7_isOf cX7_isOf 3 (some .boolean) ∈ mv_all := mv_g (mv_t3 (i := 43) (by decide +kernel)) rfl
theorem iwX7_isOf : Cond.instanceMethod yX7_isOf ∈ mv_all := mv_g (mv_t3 (i := 42) (by decide +kernel)) rfl
theorem ewX7_isOf : Cond.selects RX7 yX7_isOf yX7_isOf ∈ mv_all := mv_p3 (y := yX7_isOf) (i := 1) (n := 11) (by decide +kernel)
theorem cwX7_givesOne : Cond.code yX7_givesOne cX7_givesOne 3 (some .boolean) ∈ mv_all := mv_g (mv_t3 (i := 51) (by decide +kernel)) rfl
theorem iwX7_givesOne : Cond.instanceMethod yX7_givesOne ∈ mv_all := mv_g (mv_t3 (i := 50) (by decide +kernel)) rfl
theorem ewX7_givesOne : Cond.selects RX7 yX7_givesOne yX7_givesOne ∈ mv_all := mv_p3 (y := yX7_givesOne) (i := 3) (n := 11) (by decide +kernel)
theorem cwX7_isKind : Cond.code yX7_isKind cX7_isKind 4 (some .boolean) ∈ mv_all := mv_g (mv_t4 (i := 22) (by decide +kernel)) rfl
theorem iwX7_isKind : Cond.instanceMethod yX7_isKind ∈ mv_all := mv_g (mv_t4 (i := 21) (by decide +kernel)) rfl
theorem ewX7_isKind : Cond.selects RX7 yX7_isKind yX7_isKind ∈ mv_all := mv_p5 (y := yX7_isKind) (i := 1) (n := 11) (by decide +kernel)
theorem cwX7_priceOf : Cond.code yX7_priceOf cX7_priceOf 2 (some .int) ∈ mv_all := mv_g (mv_t3 (i := 30) (by decide +kernel)) rfl
theorem iwX7_priceOf : Cond.instanceMethod yX7_priceOf ∈ mv_all := mv_g (mv_t3 (i := 29) (by decide +kernel)) rfl
theorem ewX7_priceOf : Cond.selects RX7 yX7_priceOf yX7_priceOf ∈ mv_all := mv_p2 (y := yX7_priceOf) (i := 15) (n := 11) (by decide +kernel)
theorem cwX7_typesOf : Cond.code yX7_typesOf cX7_typesOf 4 (some .int) ∈ mv_all := mv_g (mv_t3 (i := 39) (by decide +kernel)) rfl
theorem iwX7_typesOf : Cond.instanceMethod yX7_typesOf ∈ mv_all := mv_g (mv_t3 (i := 38) (by decide +kernel)) rfl
theorem ewX7_typesOf : Cond.selects RX7 yX7_typesOf yX7_typesOf ∈ mv_all := mv_p3 (y := yX7_typesOf) (i := 0) (n := 11) (by decide +kernel)
theorem cwX7_membersOf : Cond.code yX7_membersOf cX7_membersOf 4 (some .int) ∈ mv_all := mv_g (mv_t3 (i := 47) (by decide +kernel)) rfl
theorem iwX7_membersOf : Cond.instanceMethod yX7_membersOf ∈ mv_all := mv_g (mv_t3 (i := 46) (by decide +kernel)) rfl
theorem ewX7_membersOf : Cond.selects RX7 yX7_membersOf yX7_membersOf ∈ mv_all := mv_p3 (y := yX7_membersOf) (i := 2) (n := 11) (by decide +kernel)
theorem cwX7_shareOf : Cond.code yX7_shareOf cX7_shareOf 7 (some .int) ∈ mv_all := mv_g (mv_t3 (i := 225) (by decide +kernel)) rfl
theorem iwX7_shareOf : Cond.instanceMethod yX7_shareOf ∈ mv_all := mv_g (mv_t3 (i := 224) (by decide +kernel)) rfl
theorem ewX7_shareOf : Cond.selects RX7 yX7_shareOf yX7_shareOf ∈ mv_all := mv_p4 (y := yX7_shareOf) (i := 14) (n := 11) (by decide +kernel)
theorem cwX7_pricesShown : Cond.code yX7_pricesShown cX7_pricesShown 3 (some .int) ∈ mv_all := mv_g (mv_t3 (i := 229) (by decide +kernel)) rfl
theorem iwX7_pricesShown : Cond.instanceMethod yX7_pricesShown ∈ mv_all := mv_g (mv_t3 (i := 228) (by decide +kernel)) rfl
theorem ewX7_pricesShown : Cond.selects RX7 yX7_pricesShown yX7_pricesShown ∈ mv_all := mv_p4 (y := yX7_pricesShown) (i := 15) (n := 11) (by decide +kernel)
theorem cwX8_init : Cond.code yX8_init cX8_init 2 none ∈ mv_all := mv_g (mv_t1 (i := 18) (by decide +kernel)) rfl
theorem iwX8_init : Cond.instanceMethod yX8_init ∈ mv_all := mv_g (mv_t1 (i := 17) (by decide +kernel)) rfl
theorem cwX8_row : Cond.code yX8_row cX8_row 4 (some .int) ∈ mv_all := mv_g (mv_t2 (i := 72) (by decide +kernel)) rfl
theorem iwX8_row : Cond.instanceMethod yX8_row ∈ mv_all := mv_g (mv_t2 (i := 70) (by decide +kernel)) rfl
theorem ewX8_row : Cond.selects RX8 yX8_row yX8_row ∈ mv_all := mv_g (mv_t2 (i := 71) (by decide +kernel)) rfl
theorem cwX8_set : Cond.code yX8_set cX8_set 4 (some .int) ∈ mv_all := mv_g (mv_t2 (i := 96) (by decide +kernel)) rfl
theorem iwX8_set : Cond.instanceMethod yX8_set ∈ mv_all := mv_g (mv_t2 (i := 94) (by decide +kernel)) rfl
theorem ewX8_set : Cond.selects RX8 yX8_set yX8_set ∈ mv_all := mv_g (mv_t2 (i := 95) (by decide +kernel)) rfl
theorem cwX8_copy : Cond.code yX8_copy cX8_copy 6 (some .int) ∈ mv_all := mv_g (mv_t2 (i := 112) (by decide +kernel)) rfl
theorem iwX8_copy : Cond.instanceMethod yX8_copy ∈ mv_all := mv_g (mv_t2 (i := 110) (by decide +kernel)) rfl
theorem ewX8_copy : Cond.selects RX8 yX8_copy yX8_copy ∈ mv_all := mv_g (mv_t2 (i := 111) (by decide +kernel)) rfl
theorem cwX8_drop : Cond.code yX8_drop cX8_drop 2 (some .int) ∈ mv_all := mv_g (mv_t2 (i := 119) (by decide +kernel)) rfl
theorem iwX8_drop : Cond.instanceMethod yX8_drop ∈ mv_all := mv_g (mv_t2 (i := 117) (by decide +kernel)) rfl
theorem ewX8_drop : Cond.selects RX8 yX8_drop yX8_drop ∈ mv_all := mv_g (mv_t2 (i := 118) (by decide +kernel)) rfl
theorem cwX8_feed : Cond.code yX8_feed cX8_feed 2 (some .int) ∈ mv_all := mv_g (mv_t2 (i := 127) (by decide +kernel)) rfl
theorem iwX8_feed : Cond.instanceMethod yX8_feed ∈ mv_all := mv_g (mv_t2 (i := 125) (by decide +kernel)) rfl
theorem ewX8_feed : Cond.selects RX8 yX8_feed yX8_feed ∈ mv_all := mv_g (mv_t2 (i := 126) (by decide +kernel)) rfl
theorem cwX8_world : Cond.code yX8_world cX8_world 2 (some .int) ∈ mv_all := mv_g (mv_t2 (i := 140) (by decide +kernel)) rfl
theorem iwX8_world : Cond.instanceMethod yX8_world ∈ mv_all := mv_g (mv_t2 (i := 138) (by decide +kernel)) rfl
theorem ewX8_world : Cond.selects RX8 yX8_world yX8_world ∈ mv_all := mv_g (mv_t2 (i := 139) (by decide +kernel)) rfl
theorem cwX8_fault : Cond.code yX8_fault cX8_fault 1 (some .int) ∈ mv_all := mv_g (mv_t2 (i := 215) (by decide +kernel)) rfl
theorem iwX8_fault : Cond.instanceMethod yX8_fault ∈ mv_all := mv_g (mv_t2 (i := 213) (by decide +kernel)) rfl
theorem ewX8_fault : Cond.selects RX8 yX8_fault yX8_fault ∈ mv_all := mv_g (mv_t2 (i := 214) (by decide +kernel)) rfl
theorem cwX8_hide : Cond.code yX8_hide cX8_hide 4 (some .int) ∈ mv_all := mv_g (mv_t2 (i := 219) (by decide +kernel)) rfl
theorem iwX8_hide : Cond.instanceMethod yX8_hide ∈ mv_all := mv_g (mv_t2 (i := 217) (by decide +kernel)) rfl
theorem ewX8_hide : Cond.selects RX8 yX8_hide yX8_hide ∈ mv_all := mv_g (mv_t2 (i := 218) (by decide +kernel)) rfl
theorem cwX8_cost : Cond.code yX8_cost cX8_cost 4 (some .int) ∈ mv_all := mv_g (mv_t3 (i := 10) (by decide +kernel)) rfl
theorem iwX8_cost : Cond.instanceMethod yX8_cost ∈ mv_all := mv_g (mv_t3 (i := 8) (by decide +kernel)) rfl
theorem ewX8_cost : Cond.selects RX8 yX8_cost yX8_cost ∈ mv_all := mv_g (mv_t3 (i := 9) (by decide +kernel)) rfl
theorem cwX8_above : Cond.code yX8_above cX8_above 4 (some .int) ∈ mv_all := mv_g (mv_t3 (i := 14) (by decide +kernel)) rfl
theorem iwX8_above : Cond.instanceMethod yX8_above ∈ mv_all := mv_g (mv_t3 (i := 12) (by decide +kernel)) rfl
theorem ewX8_above : Cond.selects RX8 yX8_above yX8_above ∈ mv_all := mv_g (mv_t3 (i := 13) (by decide +kernel)) rfl
theorem cwX8_undo : Cond.code yX8_undo cX8_undo 2 (some .int) ∈ mv_all := mv_g (mv_t3 (i := 22) (by decide +kernel)) rfl
theorem iwX8_undo : Cond.instanceMethod yX8_undo ∈ mv_all := mv_g (mv_t3 (i := 20) (by decide +kernel)) rfl
theorem ewX8_undo : Cond.selects RX8 yX8_undo yX8_undo ∈ mv_all := mv_g (mv_t3 (i := 21) (by decide +kernel)) rfl
theorem cwX8_member : Cond.code yX8_member cX8_member 3 (some .int) ∈ mv_all := mv_g (mv_t3 (i := 26) (by decide +kernel)) rfl
theorem iwX8_member : Cond.instanceMethod yX8_member ∈ mv_all := mv_g (mv_t3 (i := 24) (by decide +kernel)) rfl
theorem ewX8_member : Cond.selects RX8 yX8_member yX8_member ∈ mv_all := mv_g (mv_t3 (i := 25) (by decide +kernel)) rfl
theorem cwX8_type : Cond.code yX8_type cX8_type 3 (some .int) ∈ mv_all := mv_g (mv_t3 (i := 35) (by decide +kernel)) rfl
theorem iwX8_type : Cond.instanceMethod yX8_type ∈ mv_all := mv_g (mv_t3 (i := 33) (by decide +kernel)) rfl
theorem ewX8_type : Cond.selects RX8 yX8_type yX8_type ∈ mv_all := mv_g (mv_t3 (i := 34) (by decide +kernel)) rfl
theorem cwX8_many : Cond.code yX8_many cX8_many 3 (some .int) ∈ mv_all := mv_g (mv_t3 (i := 55) (by decide +kernel)) rfl
theorem iwX8_many : Cond.instanceMethod yX8_many ∈ mv_all := mv_g (mv_t3 (i := 53) (by decide +kernel)) rfl
theorem ewX8_many : Cond.selects RX8 yX8_many yX8_many ∈ mv_all := mv_g (mv_t3 (i := 54) (by decide +kernel)) rfl
theorem cwX8_cheapest : Cond.code yX8_cheapest cX8_cheapest 2 (some .int) ∈ mv_all := mv_g (mv_t3 (i := 89) (by decide +kernel)) rfl
theorem iwX8_cheapest : Cond.instanceMethod yX8_cheapest ∈ mv_all := mv_g (mv_t3 (i := 87) (by decide +kernel)) rfl
theorem ewX8_cheapest : Cond.selects RX8 yX8_cheapest yX8_cheapest ∈ mv_all := mv_g (mv_t3 (i := 88) (by decide +kernel)) rfl
theorem cwX8_listed : Cond.code yX8_listed cX8_listed 6 (some .int) ∈ mv_all := mv_g (mv_t3 (i := 113) (by decide +kernel)) rfl
theorem iwX8_listed : Cond.instanceMethod yX8_listed ∈ mv_all := mv_g (mv_t3 (i := 111) (by decide +kernel)) rfl
theorem ewX8_listed : Cond.selects RX8 yX8_listed yX8_listed ∈ mv_all := mv_g (mv_t3 (i := 112) (by decide +kernel)) rfl
theorem cwX8_word : Cond.code yX8_word cX8_word 6 (some .int) ∈ mv_all := mv_g (mv_t3 (i := 148) (by decide +kernel)) rfl
theorem iwX8_word : Cond.instanceMethod yX8_word ∈ mv_all := mv_g (mv_t3 (i := 146) (by decide +kernel)) rfl
theorem ewX8_word : Cond.selects RX8 yX8_word yX8_word ∈ mv_all := mv_g (mv_t3 (i := 147) (by decide +kernel)) rfl
theorem cwX8_place : Cond.code yX8_place cX8_place 6 (some .int) ∈ mv_all := mv_g (mv_t3 (i := 187) (by decide +kernel)) rfl
theorem iwX8_place : Cond.instanceMethod yX8_place ∈ mv_all := mv_g (mv_t3 (i := 185) (by decide +kernel)) rfl
theorem ewX8_place : Cond.selects RX8 yX8_place yX8_place ∈ mv_all := mv_g (mv_t3 (i := 186) (by decide +kernel)) rfl
theorem cwX8_had : Cond.code yX8_had cX8_had 1 (some .int) ∈ mv_all := mv_g (mv_t3 (i := 200) (by decide +kernel)) rfl
theorem iwX8_had : Cond.instanceMethod yX8_had ∈ mv_all := mv_g (mv_t3 (i := 198) (by decide +kernel)) rfl
theorem ewX8_had : Cond.selects RX8 yX8_had yX8_had ∈ mv_all := mv_g (mv_t3 (i := 199) (by decide +kernel)) rfl
theorem cwX8_needed : Cond.code yX8_needed cX8_needed 2 (some .int) ∈ mv_all := mv_g (mv_t3 (i := 208) (by decide +kernel)) rfl
theorem iwX8_needed : Cond.instanceMethod yX8_needed ∈ mv_all := mv_g (mv_t3 (i := 206) (by decide +kernel)) rfl
theorem ewX8_needed : Cond.selects RX8 yX8_needed yX8_needed ∈ mv_all := mv_g (mv_t3 (i := 207) (by decide +kernel)) rfl
theorem cwX8_without : Cond.code yX8_without cX8_without 3 (some .int) ∈ mv_all := mv_g (mv_t3 (i := 217) (by decide +kernel)) rfl
theorem iwX8_without : Cond.instanceMethod yX8_without ∈ mv_all := mv_g (mv_t3 (i := 215) (by decide +kernel)) rfl
theorem ewX8_without : Cond.selects RX8 yX8_without yX8_without ∈ mv_all := mv_g (mv_t3 (i := 216) (by decide +kernel)) rfl
theorem cwX8_share : Cond.code yX8_share cX8_share 3 (some .int) ∈ mv_all := mv_g (mv_t3 (i := 221) (by decide +kernel)) rfl
theorem iwX8_share : Cond.instanceMethod yX8_share ∈ mv_all := mv_g (mv_t3 (i := 219) (by decide +kernel)) rfl
theorem ewX8_share : Cond.selects RX8 yX8_share yX8_share ∈ mv_all := mv_g (mv_t3 (i := 220) (by decide +kernel)) rfl
theorem cwX8_drawn : Cond.code yX8_drawn cX8_drawn 11 (some .int) ∈ mv_all := mv_g (mv_t3 (i := 235) (by decide +kernel)) rfl
theorem iwX8_drawn : Cond.instanceMethod yX8_drawn ∈ mv_all := mv_g (mv_t3 (i := 233) (by decide +kernel)) rfl
theorem ewX8_drawn : Cond.selects RX8 yX8_drawn yX8_drawn ∈ mv_all := mv_g (mv_t3 (i := 234) (by decide +kernel)) rfl
theorem cwX8_image : Cond.code yX8_image cX8_image 2 (some .int) ∈ mv_all := mv_g (mv_t4 (i := 6) (by decide +kernel)) rfl
theorem iwX8_image : Cond.instanceMethod yX8_image ∈ mv_all := mv_g (mv_t4 (i := 4) (by decide +kernel)) rfl
theorem ewX8_image : Cond.selects RX8 yX8_image yX8_image ∈ mv_all := mv_g (mv_t4 (i := 5) (by decide +kernel)) rfl
theorem cwX8_restore : Cond.code yX8_restore cX8_restore 2 (some .int) ∈ mv_all := mv_g (mv_t4 (i := 10) (by decide +kernel)) rfl
theorem iwX8_restore : Cond.instanceMethod yX8_restore ∈ mv_all := mv_g (mv_t4 (i := 8) (by decide +kernel)) rfl
theorem ewX8_restore : Cond.selects RX8 yX8_restore yX8_restore ∈ mv_all := mv_g (mv_t4 (i := 9) (by decide +kernel)) rfl
theorem cwX8_kind : Cond.code yX8_kind cX8_kind 2 (some .int) ∈ mv_all := mv_g (mv_t4 (i := 14) (by decide +kernel)) rfl
theorem iwX8_kind : Cond.instanceMethod yX8_kind ∈ mv_all := mv_g (mv_t4 (i := 12) (by decide +kernel)) rfl
theorem ewX8_kind : Cond.selects RX8 yX8_kind yX8_kind ∈ mv_all := mv_g (mv_t4 (i := 13) (by decide +kernel)) rfl
theorem cwX8_as : Cond.code yX8_as cX8_as 3 (some .int) ∈ mv_all := mv_g (mv_t4 (i := 18) (by decide +kernel)) rfl
theorem iwX8_as : Cond.instanceMethod yX8_as ∈ mv_all := mv_g (mv_t4 (i := 16) (by decide +kernel)) rfl
theorem ewX8_as : Cond.selects RX8 yX8_as yX8_as ∈ mv_all := mv_g (mv_t4 (i := 17) (by decide +kernel)) rfl
theorem cwX8_ask : Cond.code yX8_ask cX8_ask 3 (some .int) ∈ mv_all := mv_g (mv_t4 (i := 26) (by decide +kernel)) rfl
theorem iwX8_ask : Cond.instanceMethod yX8_ask ∈ mv_all := mv_g (mv_t4 (i := 24) (by decide +kernel)) rfl
theorem ewX8_ask : Cond.selects RX8 yX8_ask yX8_ask ∈ mv_all := mv_g (mv_t4 (i := 25) (by decide +kernel)) rfl
theorem cwX8_trace : Cond.code yX8_trace cX8_trace 2 (some .int) ∈ mv_all := mv_g (mv_t4 (i := 87) (by decide +kernel)) rfl
theorem iwX8_trace : Cond.instanceMethod yX8_trace ∈ mv_all := mv_g (mv_t4 (i := 85) (by decide +kernel)) rfl
theorem ewX8_trace : Cond.selects RX8 yX8_trace yX8_trace ∈ mv_all := mv_g (mv_t4 (i := 86) (by decide +kernel)) rfl
theorem cwX8_count : Cond.code yX8_count cX8_count 2 (some .int) ∈ mv_all := mv_g (mv_t4 (i := 91) (by decide +kernel)) rfl
theorem iwX8_count : Cond.instanceMethod yX8_count ∈ mv_all := mv_g (mv_t4 (i := 89) (by decide +kernel)) rfl
theorem ewX8_count : Cond.selects RX8 yX8_count yX8_count ∈ mv_all := mv_g (mv_t4 (i := 90) (by decide +kernel)) rfl
theorem cwX8_status : Cond.code yX8_status cX8_status 1 (some .int) ∈ mv_all := mv_g (mv_t4 (i := 100) (by decide +kernel)) rfl
theorem iwX8_status : Cond.instanceMethod yX8_status ∈ mv_all := mv_g (mv_t4 (i := 98) (by decide +kernel)) rfl
theorem ewX8_status : Cond.selects RX8 yX8_status yX8_status ∈ mv_all := mv_g (mv_t4 (i := 99) (by decide +kernel)) rfl
theorem cwX8_found : Cond.code yX8_found cX8_found 2 (some .int) ∈ mv_all := mv_g (mv_t2 (i := 83) (by decide +kernel)) rfl
theorem iwX8_found : Cond.instanceMethod yX8_found ∈ mv_all := mv_g (mv_t2 (i := 82) (by decide +kernel)) rfl
theorem ewX8_found : Cond.selects RX8 yX8_found yX8_found ∈ mv_all := mv_p1 (y := yX8_found) (i := 0) (n := 11) (by decide +kernel)
theorem cwX8_unfound : Cond.code yX8_unfound cX8_unfound 2 (some .int) ∈ mv_all := mv_g (mv_t2 (i := 92) (by decide +kernel)) rfl
theorem iwX8_unfound : Cond.instanceMethod yX8_unfound ∈ mv_all := mv_g (mv_t2 (i := 91) (by decide +kernel)) rfl
theorem ewX8_unfound : Cond.selects RX8 yX8_unfound yX8_unfound ∈ mv_all := mv_p1 (y := yX8_unfound) (i := 2) (n := 11) (by decide +kernel)
theorem cwX8_standAs : Cond.code yX8_standAs cX8_standAs 2 none ∈ mv_all := mv_g (mv_t2 (i := 206) (by decide +kernel)) rfl
theorem iwX8_standAs : Cond.instanceMethod yX8_standAs ∈ mv_all := mv_g (mv_t2 (i := 205) (by decide +kernel)) rfl
theorem ewX8_standAs : Cond.selects RX8 yX8_standAs yX8_standAs ∈ mv_all := mv_p2 (y := yX8_standAs) (i := 6) (n := 11) (by decide +kernel)
theorem cwX8_change : Cond.code yX8_change cX8_change 4 none ∈ mv_all := mv_g (mv_t3 (i := 1) (by decide +kernel)) rfl
theorem iwX8_change : Cond.instanceMethod yX8_change ∈ mv_all := mv_g (mv_t3 (i := 0) (by decide +kernel)) rfl
theorem ewX8_change : Cond.selects RX8 yX8_change yX8_change ∈ mv_all := mv_p2 (y := yX8_change) (i := 12) (n := 11) (by decide +kernel)
theorem cwX9_init : Cond.code yX9_init cX9_init 2 none ∈ mv_all := mv_g (mv_t4 (i := 105) (by decide +kernel)) rfl
theorem iwX9_init : Cond.instanceMethod yX9_init ∈ mv_all := mv_g (mv_t4 (i := 104) (by decide +kernel)) rfl
theorem cwX9_in : Cond.code yX9_in cX9_in 6 (some .boolean) ∈ mv_all := mv_g (mv_t4 (i := 188) (by decide +kernel)) rfl
theorem swX9_in : Cond.static yX9_in ∈ mv_all := mv_g (mv_t4 (i := 187) (by decide +kernel)) rfl
theorem cwX9_has : Cond.code yX9_has cX9_has 2 (some .boolean) ∈ mv_all := mv_g (mv_t5 (i := 94) (by decide +kernel)) rfl
theorem swX9_has : Cond.static yX9_has ∈ mv_all := mv_g (mv_t5 (i := 93) (by decide +kernel)) rfl
theorem cwX9_copyOf : Cond.code yX9_copyOf cX9_copyOf 4 none ∈ mv_all := mv_g (mv_t5 (i := 23) (by decide +kernel)) rfl
theorem iwX9_copyOf : Cond.instanceMethod yX9_copyOf ∈ mv_all := mv_g (mv_t5 (i := 22) (by decide +kernel)) rfl
theorem ewX9_copyOf : Cond.selects RX9 yX9_copyOf yX9_copyOf ∈ mv_all := mv_p6 (y := yX9_copyOf) (i := 11) (n := 23) (by decide +kernel)
theorem cwX9_isMember : Cond.code yX9_isMember cX9_isMember 2 (some .boolean) ∈ mv_all := mv_g (mv_t5 (i := 35) (by decide +kernel)) rfl
theorem iwX9_isMember : Cond.instanceMethod yX9_isMember ∈ mv_all := mv_g (mv_t5 (i := 34) (by decide +kernel)) rfl
theorem ewX9_isMember : Cond.selects RX9 yX9_isMember yX9_isMember ∈ mv_all := mv_p6 (y := yX9_isMember) (i := 12) (n := 23) (by decide +kernel)
theorem cwX9_isType : Cond.code yX9_isType cX9_isType 2 (some .boolean) ∈ mv_all := mv_g (mv_t5 (i := 53) (by decide +kernel)) rfl
theorem iwX9_isType : Cond.instanceMethod yX9_isType ∈ mv_all := mv_g (mv_t5 (i := 52) (by decide +kernel)) rfl
theorem ewX9_isType : Cond.selects RX9 yX9_isType yX9_isType ∈ mv_all := mv_p6 (y := yX9_isType) (i := 14) (n := 23) (by decide +kernel)
theorem cwX9_isWorld : Cond.code yX9_isWorld cX9_isWorld 1 (some .boolean) ∈ mv_all := mv_g (mv_t5 (i := 149) (by decide +kernel)) rfl
theorem iwX9_isWorld : Cond.instanceMethod yX9_isWorld ∈ mv_all := mv_g (mv_t5 (i := 148) (by decide +kernel)) rfl
theorem ewX9_isWorld : Cond.selects RX9 yX9_isWorld yX9_isWorld ∈ mv_all := mv_p7 (y := yX9_isWorld) (i := 12) (n := 23) (by decide +kernel)
theorem cwX9_isRow : Cond.code yX9_isRow cX9_isRow 1 (some .boolean) ∈ mv_all := mv_g (mv_t4 (i := 184) (by decide +kernel)) rfl
theorem swX9_isRow : Cond.static yX9_isRow ∈ mv_all := mv_g (mv_t4 (i := 183) (by decide +kernel)) rfl
theorem cwX9_finds : Cond.code yX9_finds cX9_finds 2 (some .int) ∈ mv_all := mv_g (mv_t4 (i := 194) (by decide +kernel)) rfl
theorem iwX9_finds : Cond.instanceMethod yX9_finds ∈ mv_all := mv_g (mv_t4 (i := 193) (by decide +kernel)) rfl
theorem ewX9_finds : Cond.selects RX9 yX9_finds yX9_finds ∈ mv_all := mv_p6 (y := yX9_finds) (i := 1) (n := 23) (by decide +kernel)
theorem cwX9_against : Cond.code yX9_against cX9_against 4 (some .int) ∈ mv_all := mv_g (mv_t4 (i := 203) (by decide +kernel)) rfl
theorem iwX9_against : Cond.instanceMethod yX9_against ∈ mv_all := mv_g (mv_t4 (i := 202) (by decide +kernel)) rfl
theorem ewX9_against : Cond.selects RX9 yX9_against yX9_against ∈ mv_all := mv_p6 (y := yX9_against) (i := 2) (n := 23) (by decide +kernel)
theorem cwX9_row : Cond.code yX9_row cX9_row 5 (some .int) ∈ mv_all := mv_g (mv_t4 (i := 181) (by decide +kernel)) rfl
theorem iwX9_row : Cond.instanceMethod yX9_row ∈ mv_all := mv_g (mv_t4 (i := 179) (by decide +kernel)) rfl
theorem ewX9_row : Cond.selects RX9 yX9_row yX9_row ∈ mv_all := mv_g (mv_t4 (i := 180) (by decide +kernel)) rfl
theorem cwX9_set : Cond.code yX9_set cX9_set 5 (some .int) ∈ mv_all := mv_g (mv_t4 (i := 199) (by decide +kernel)) rfl
theorem iwX9_set : Cond.instanceMethod yX9_set ∈ mv_all := mv_g (mv_t4 (i := 197) (by decide +kernel)) rfl
theorem ewX9_set : Cond.selects RX9 yX9_set yX9_set ∈ mv_all := mv_g (mv_t4 (i := 198) (by decide +kernel)) rfl
theorem cwX9_copy : Cond.code yX9_copy cX9_copy 7 (some .int) ∈ mv_all := mv_g (mv_t4 (i := 207) (by decide +kernel)) rfl
theorem iwX9_copy : Cond.instanceMethod yX9_copy ∈ mv_all := mv_g (mv_t4 (i := 205) (by decide +kernel)) rfl
theorem ewX9_copy : Cond.selects RX9 yX9_copy yX9_copy ∈ mv_all := mv_g (mv_t4 (i := 206) (by decide +kernel)) rfl
theorem cwX9_drop : Cond.code yX9_drop cX9_drop 3 (some .int) ∈ mv_all := mv_g (mv_t4 (i := 211) (by decide +kernel)) rfl
theorem iwX9_drop : Cond.instanceMethod yX9_drop ∈ mv_all := mv_g (mv_t4 (i := 209) (by decide +kernel)) rfl
theorem ewX9_drop : Cond.selects RX9 yX9_drop yX9_drop ∈ mv_all := mv_g (mv_t4 (i := 210) (by decide +kernel)) rfl
theorem cwX9_feed : Cond.code yX9_feed cX9_feed 2 (some .int) ∈ mv_all := mv_g (mv_t4 (i := 215) (by decide +kernel)) rfl
theorem iwX9_feed : Cond.instanceMethod yX9_feed ∈ mv_all := mv_g (mv_t4 (i := 213) (by decide +kernel)) rfl
theorem ewX9_feed : Cond.selects RX9 yX9_feed yX9_feed ∈ mv_all := mv_g (mv_t4 (i := 214) (by decide +kernel)) rfl
theorem cwX9_here : Cond.code yX9_here cX9_here 1 (some .int) ∈ mv_all := mv_g (mv_t4 (i := 237) (by decide +kernel)) rfl
theorem iwX9_here : Cond.instanceMethod yX9_here ∈ mv_all := mv_g (mv_t4 (i := 236) (by decide +kernel)) rfl
theorem ewX9_here : Cond.selects RX9 yX9_here yX9_here ∈ mv_all := mv_p6 (y := yX9_here) (i := 6) (n := 23) (by decide +kernel)
theorem cwX9_fails : Cond.code yX9_fails cX9_fails 3 (some .boolean) ∈ mv_all := mv_g (mv_t5 (i := 1) (by decide +kernel)) rfl
theorem iwX9_fails : Cond.instanceMethod yX9_fails ∈ mv_all := mv_g (mv_t5 (i := 0) (by decide +kernel)) rfl
theorem ewX9_fails : Cond.selects RX9 yX9_fails yX9_fails ∈ mv_all := mv_p6 (y := yX9_fails) (i := 7) (n := 23) (by decide +kernel)
theorem cwX9_takes : Cond.code yX9_takes cX9_takes 2 (some .boolean) ∈ mv_all := mv_g (mv_t4 (i := 233) (by decide +kernel)) rfl
theorem iwX9_takes : Cond.instanceMethod yX9_takes ∈ mv_all := mv_g (mv_t4 (i := 232) (by decide +kernel)) rfl
theorem ewX9_takes : Cond.selects RX9 yX9_takes yX9_takes ∈ mv_all := mv_p6 (y := yX9_takes) (i := 5) (n := 23) (by decide +kernel)
theorem cwX9_takesNumber : Cond.code yX9_takesNumber cX9_takesNumber 4 (some .boolean) ∈ mv_all := mv_g (mv_t5 (i := 5) (by decide +kernel)) rfl
theorem iwX9_takesNumber : Cond.instanceMethod yX9_takesNumber ∈ mv_all := mv_g (mv_t5 (i := 4) (by decide +kernel)) rfl
theorem ewX9_takesNumber : Cond.selects RX9 yX9_takesNumber yX9_takesNumber ∈ mv_all := mv_p6 (y := yX9_takesNumber) (i := 8) (n := 23) (by decide +kernel)
theorem cwX9_kindOf : Cond.code yX9_kindOf cX9_kindOf 1 (some .int) ∈ mv_all := mv_g (mv_t5 (i := 18) (by decide +kernel)) rfl
theorem swX9_kindOf : Cond.static yX9_kindOf ∈ mv_all := mv_g (mv_t5 (i := 17) (by decide +kernel)) rfl
theorem cwX9_takesLaw : Cond.code yX9_takesLaw cX9_takesLaw 1 (some .boolean) ∈ mv_all := mv_g (mv_t4 (i := 229) (by decide +kernel)) rfl
theorem iwX9_takesLaw : Cond.instanceMethod yX9_takesLaw ∈ mv_all := mv_g (mv_t4 (i := 228) (by decide +kernel)) rfl
theorem ewX9_takesLaw : Cond.selects RX9 yX9_takesLaw yX9_takesLaw ∈ mv_all := mv_p6 (y := yX9_takesLaw) (i := 4) (n := 23) (by decide +kernel)
theorem cwX9_takesType : Cond.code yX9_takesType cX9_takesType 2 (some .boolean) ∈ mv_all := mv_g (mv_t5 (i := 11) (by decide +kernel)) rfl
theorem iwX9_takesType : Cond.instanceMethod yX9_takesType ∈ mv_all := mv_g (mv_t5 (i := 10) (by decide +kernel)) rfl
theorem ewX9_takesType : Cond.selects RX9 yX9_takesType yX9_takesType ∈ mv_all := mv_p6 (y := yX9_takesType) (i := 9) (n := 23) (by decide +kernel)
theorem cwX9_takesMember : Cond.code yX9_takesMember cX9_takesMember 4 (some .boolean) ∈ mv_all := mv_g (mv_t5 (i := 15) (by decide +kernel)) rfl
theorem iwX9_takesMember : Cond.instanceMethod yX9_takesMember ∈ mv_all := mv_g (mv_t5 (i := 14) (by decide +kernel)) rfl
theorem ewX9_takesMember : Cond.selects RX9 yX9_takesMember yX9_takesMember ∈ mv_all := mv_p6 (y := yX9_takesMember) (i := 10) (n := 23) (by decide +kernel)
theorem cwX9_takesAll : Cond.code yX9_takesAll cX9_takesAll 2 (some .boolean) ∈ mv_all := mv_g (mv_t4 (i := 225) (by decide +kernel)) rfl
theorem iwX9_takesAll : Cond.instanceMethod yX9_takesAll ∈ mv_all := mv_g (mv_t4 (i := 224) (by decide +kernel)) rfl
theorem ewX9_takesAll : Cond.selects RX9 yX9_takesAll yX9_takesAll ∈ mv_all := mv_p6 (y := yX9_takesAll) (i := 3) (n := 23) (by decide +kernel)
theorem cwX9_world : Cond.code yX9_world cX9_world 2 (some .int) ∈ mv_all := mv_g (mv_t4 (i := 221) (by decide +kernel)) rfl
theorem iwX9_world : Cond.instanceMethod yX9_world ∈ mv_all := mv_g (mv_t4 (i := 219) (by decide +kernel)) rfl
theorem ewX9_world : Cond.selects RX9 yX9_world yX9_world ∈ mv_all := mv_g (mv_t4 (i := 220) (by decide +kernel)) rfl
theorem cwX9_fault : Cond.code yX9_fault cX9_fault 1 (some .int) ∈ mv_all := mv_g (mv_t5 (i := 27) (by decide +kernel)) rfl
theorem iwX9_fault : Cond.instanceMethod yX9_fault ∈ mv_all := mv_g (mv_t5 (i := 25) (by decide +kernel)) rfl
theorem ewX9_fault : Cond.selects RX9 yX9_fault yX9_fault ∈ mv_all := mv_g (mv_t5 (i := 26) (by decide +kernel)) rfl
theorem cwX9_minds : Cond.code yX9_minds cX9_minds 2 none ∈ mv_all := mv_g (mv_t5 (i := 40) (by decide +kernel)) rfl
theorem iwX9_minds : Cond.instanceMethod yX9_minds ∈ mv_all := mv_g (mv_t5 (i := 39) (by decide +kernel)) rfl
theorem ewX9_minds : Cond.selects RX9 yX9_minds yX9_minds ∈ mv_all := mv_p6 (y := yX9_minds) (i := 13) (n := 23) (by decide +kernel)
theorem cwX9_hide : Cond.code yX9_hide cX9_hide 3 (some .int) ∈ mv_all := mv_g (mv_t5 (i := 31) (by decide +kernel)) rfl
theorem iwX9_hide : Cond.instanceMethod yX9_hide ∈ mv_all := mv_g (mv_t5 (i := 29) (by decide +kernel)) rfl
theorem ewX9_hide : Cond.selects RX9 yX9_hide yX9_hide ∈ mv_all := mv_g (mv_t5 (i := 30) (by decide +kernel)) rfl
theorem cwX9_cost : Cond.code yX9_cost cX9_cost 4 (some .int) ∈ mv_all := mv_g (mv_t5 (i := 44) (by decide +kernel)) rfl
theorem iwX9_cost : Cond.instanceMethod yX9_cost ∈ mv_all := mv_g (mv_t5 (i := 42) (by decide +kernel)) rfl
theorem ewX9_cost : Cond.selects RX9 yX9_cost yX9_cost ∈ mv_all := mv_g (mv_t5 (i := 43) (by decide +kernel)) rfl
theorem cwX9_above : Cond.code yX9_above cX9_above 4 (some .int) ∈ mv_all := mv_g (mv_t5 (i := 49) (by decide +kernel)) rfl
theorem iwX9_above : Cond.instanceMethod yX9_above ∈ mv_all := mv_g (mv_t5 (i := 47) (by decide +kernel)) rfl
theorem ewX9_above : Cond.selects RX9 yX9_above yX9_above ∈ mv_all := mv_g (mv_t5 (i := 48) (by decide +kernel)) rfl
theorem cwX9_undo : Cond.code yX9_undo cX9_undo 1 (some .int) ∈ mv_all := mv_g (mv_t5 (i := 57) (by decide +kernel)) rfl
theorem iwX9_undo : Cond.instanceMethod yX9_undo ∈ mv_all := mv_g (mv_t5 (i := 55) (by decide +kernel)) rfl
theorem ewX9_undo : Cond.selects RX9 yX9_undo yX9_undo ∈ mv_all := mv_g (mv_t5 (i := 56) (by decide +kernel)) rfl
theorem cwX9_isOf : Cond.code yX9_isOf cX9_isOf 4 (some .boolean) ∈ mv_all := mv_g (mv_t5 (i := 78) (by decide +kernel)) rfl
theorem iwX9_isOf : Cond.instanceMethod yX9_isOf ∈ mv_all := mv_g (mv_t5 (i := 77) (by decide +kernel)) rfl
theorem ewX9_isOf : Cond.selects RX9 yX9_isOf yX9_isOf ∈ mv_all := mv_p7 (y := yX9_isOf) (i := 1) (n := 23) (by decide +kernel)
theorem cwX9_priceOf : Cond.code yX9_priceOf cX9_priceOf 4 (some .int) ∈ mv_all := mv_g (mv_t5 (i := 65) (by decide +kernel)) rfl
theorem iwX9_priceOf : Cond.instanceMethod yX9_priceOf ∈ mv_all := mv_g (mv_t5 (i := 64) (by decide +kernel)) rfl
theorem ewX9_priceOf : Cond.selects RX9 yX9_priceOf yX9_priceOf ∈ mv_all := mv_p6 (y := yX9_priceOf) (i := 15) (n := 23) (by decide +kernel)
theorem cwX9_member : Cond.code yX9_member cX9_member 3 (some .int) ∈ mv_all := mv_g (mv_t5 (i := 61) (by decide +kernel)) rfl
theorem iwX9_member : Cond.instanceMethod yX9_member ∈ mv_all := mv_g (mv_t5 (i := 59) (by decide +kernel)) rfl
theorem ewX9_member : Cond.selects RX9 yX9_member yX9_member ∈ mv_all := mv_g (mv_t5 (i := 60) (by decide +kernel)) rfl
theorem cwX9_typesOf : Cond.code yX9_typesOf cX9_typesOf 5 (some .int) ∈ mv_all := mv_g (mv_t5 (i := 74) (by decide +kernel)) rfl
theorem iwX9_typesOf : Cond.instanceMethod yX9_typesOf ∈ mv_all := mv_g (mv_t5 (i := 73) (by decide +kernel)) rfl
theorem ewX9_typesOf : Cond.selects RX9 yX9_typesOf yX9_typesOf ∈ mv_all := mv_p7 (y := yX9_typesOf) (i := 0) (n := 23) (by decide +kernel)
theorem cwX9_givers : Cond.code yX9_givers cX9_givers 4 (some .int) ∈ mv_all := mv_g (mv_t5 (i := 82) (by decide +kernel)) rfl
theorem iwX9_givers : Cond.instanceMethod yX9_givers ∈ mv_all := mv_g (mv_t5 (i := 81) (by decide +kernel)) rfl
theorem ewX9_givers : Cond.selects RX9 yX9_givers yX9_givers ∈ mv_all := mv_p7 (y := yX9_givers) (i := 2) (n := 23) (by decide +kernel)
theorem cwX9_type : Cond.code yX9_type cX9_type 3 (some .int) ∈ mv_all := mv_g (mv_t5 (i := 70) (by decide +kernel)) rfl
theorem iwX9_type : Cond.instanceMethod yX9_type ∈ mv_all := mv_g (mv_t5 (i := 68) (by decide +kernel)) rfl
theorem ewX9_type : Cond.selects RX9 yX9_type yX9_type ∈ mv_all := mv_g (mv_t5 (i := 69) (by decide +kernel)) rfl
theorem cwX9_cut : Cond.code yX9_cut cX9_cut 2 (some .long) ∈ mv_all := mv_g (mv_t5 (i := 101) (by decide +kernel)) rfl
theorem swX9_cut : Cond.static yX9_cut ∈ mv_all := mv_g (mv_t5 (i := 100) (by decide +kernel)) rfl
theorem cwX9_headed : Cond.code yX9_headed cX9_headed 9 (some .long) ∈ mv_all := mv_g (mv_t5 (i := 98) (by decide +kernel)) rfl
theorem iwX9_headed : Cond.instanceMethod yX9_headed ∈ mv_all := mv_g (mv_t5 (i := 97) (by decide +kernel)) rfl
theorem ewX9_headed : Cond.selects RX9 yX9_headed yX9_headed ∈ mv_all := mv_p7 (y := yX9_headed) (i := 4) (n := 23) (by decide +kernel)
theorem cwX9_layWays : Cond.code yX9_layWays cX9_layWays 7 none ∈ mv_all := mv_g (mv_t5 (i := 91) (by decide +kernel)) rfl
theorem iwX9_layWays : Cond.instanceMethod yX9_layWays ∈ mv_all := mv_g (mv_t5 (i := 90) (by decide +kernel)) rfl
theorem ewX9_layWays : Cond.selects RX9 yX9_layWays yX9_layWays ∈ mv_all := mv_p7 (y := yX9_layWays) (i := 3) (n := 23) (by decide +kernel)
theorem cwX9_toldOf : Cond.code yX9_toldOf cX9_toldOf 3 (some .int) ∈ mv_all := mv_g (mv_t5 (i := 106) (by decide +kernel)) rfl
theorem iwX9_toldOf : Cond.instanceMethod yX9_toldOf ∈ mv_all := mv_g (mv_t5 (i := 105) (by decide +kernel)) rfl
theorem ewX9_toldOf : Cond.selects RX9 yX9_toldOf yX9_toldOf ∈ mv_all := mv_p7 (y := yX9_toldOf) (i := 5) (n := 23) (by decide +kernel)
theorem cwX9_many : Cond.code yX9_many cX9_many 3 (some .int) ∈ mv_all := mv_g (mv_t5 (i := 86) (by decide +kernel)) rfl
theorem iwX9_many : Cond.instanceMethod yX9_many ∈ mv_all := mv_g (mv_t5 (i := 84) (by decide +kernel)) rfl
theorem ewX9_many : Cond.selects RX9 yX9_many yX9_many ∈ mv_all := mv_g (mv_t5 (i := 85) (by decide +kernel)) rfl
theorem cwX9_cheapestOf : Cond.code yX9_cheapestOf cX9_cheapestOf 3 (some .int) ∈ mv_all := mv_g (mv_t5 (i := 116) (by decide +kernel)) rfl
theorem iwX9_cheapestOf : Cond.instanceMethod yX9_cheapestOf ∈ mv_all := mv_g (mv_t5 (i := 115) (by decide +kernel)) rfl
theorem ewX9_cheapestOf : Cond.selects RX9 yX9_cheapestOf yX9_cheapestOf ∈ mv_all := mv_p7 (y := yX9_cheapestOf) (i := 6) (n := 23) (by decide +kernel)
theorem cwX9_cheapest : Cond.code yX9_cheapest cX9_cheapest 2 (some .int) ∈ mv_all := mv_g (mv_t5 (i := 112) (by decide +kernel)) rfl
theorem iwX9_cheapest : Cond.instanceMethod yX9_cheapest ∈ mv_all := mv_g (mv_t5 (i := 110) (by decide +kernel)) rfl
theorem ewX9_cheapest : Cond.selects RX9 yX9_cheapest yX9_cheapest ∈ mv_all := mv_g (mv_t5 (i := 111) (by decide +kernel)) rfl
theorem cwX9_await0 : Cond.code yX9_await0 cX9_await0 6 none ∈ mv_all := mv_g (mv_t5 (i := 133) (by decide +kernel)) rfl
theorem iwX9_await0 : Cond.instanceMethod yX9_await0 ∈ mv_all := mv_g (mv_t5 (i := 132) (by decide +kernel)) rfl
theorem ewX9_await0 : Cond.selects RX9 yX9_await0 yX9_await0 ∈ mv_all := mv_p7 (y := yX9_await0) (i := 9) (n := 23) (by decide +kernel)
theorem cwX9_awaitsFirst : Cond.code yX9_awaitsFirst cX9_awaitsFirst 3 none ∈ mv_all := mv_g (mv_t5 (i := 129) (by decide +kernel)) rfl
theorem iwX9_awaitsFirst : Cond.instanceMethod yX9_awaitsFirst ∈ mv_all := mv_g (mv_t5 (i := 128) (by decide +kernel)) rfl
theorem ewX9_awaitsFirst : Cond.selects RX9 yX9_awaitsFirst yX9_awaitsFirst ∈ mv_all := mv_p7 (y := yX9_awaitsFirst) (i := 8) (n := 23) (by decide +kernel)
theorem cwX9_gives : Cond.code yX9_gives cX9_gives 3 none ∈ mv_all := mv_g (mv_t5 (i := 141) (by decide +kernel)) rfl
theorem iwX9_gives : Cond.instanceMethod yX9_gives ∈ mv_all := mv_g (mv_t5 (i := 140) (by decide +kernel)) rfl
theorem ewX9_gives : Cond.selects RX9 yX9_gives yX9_gives ∈ mv_all := mv_p7 (y := yX9_gives) (i := 11) (n := 23) (by decide +kernel)
theorem cwX9_goesOn : Cond.code yX9_goesOn cX9_goesOn 7 (some .long) ∈ mv_all := mv_g (mv_t5 (i := 137) (by decide +kernel)) rfl
theorem iwX9_goesOn : Cond.instanceMethod yX9_goesOn ∈ mv_all := mv_g (mv_t5 (i := 136) (by decide +kernel)) rfl
theorem ewX9_goesOn : Cond.selects RX9 yX9_goesOn yX9_goesOn ∈ mv_all := mv_p7 (y := yX9_goesOn) (i := 10) (n := 23) (by decide +kernel)
theorem cwX9_laysCode : Cond.code yX9_laysCode cX9_laysCode 10 (some .boolean) ∈ mv_all := mv_g (mv_t5 (i := 125) (by decide +kernel)) rfl
theorem iwX9_laysCode : Cond.instanceMethod yX9_laysCode ∈ mv_all := mv_g (mv_t5 (i := 124) (by decide +kernel)) rfl
theorem ewX9_laysCode : Cond.selects RX9 yX9_laysCode yX9_laysCode ∈ mv_all := mv_p7 (y := yX9_laysCode) (i := 7) (n := 23) (by decide +kernel)
theorem cwX9_listed : Cond.code yX9_listed cX9_listed 4 (some .int) ∈ mv_all := mv_g (mv_t5 (i := 120) (by decide +kernel)) rfl
theorem iwX9_listed : Cond.instanceMethod yX9_listed ∈ mv_all := mv_g (mv_t5 (i := 118) (by decide +kernel)) rfl
theorem ewX9_listed : Cond.selects RX9 yX9_listed yX9_listed ∈ mv_all := mv_g (mv_t5 (i := 119) (by decide +kernel)) rfl
theorem cwX9_isWhole : Cond.code yX9_isWhole cX9_isWhole 8 (some .boolean) ∈ mv_all := mv_g (mv_t5 (i := 153) (by decide +kernel)) rfl
theorem iwX9_isWhole : Cond.instanceMethod yX9_isWhole ∈ mv_all := mv_g (mv_t5 (i := 152) (by decide +kernel)) rfl
theorem ewX9_isWhole : Cond.selects RX9 yX9_isWhole yX9_isWhole ∈ mv_all := mv_p7 (y := yX9_isWhole) (i := 13) (n := 23) (by decide +kernel)
theorem cwX9_word : Cond.code yX9_word cX9_word 6 (some .int) ∈ mv_all := mv_g (mv_t5 (i := 145) (by decide +kernel)) rfl
theorem iwX9_word : Cond.instanceMethod yX9_word ∈ mv_all := mv_g (mv_t5 (i := 143) (by decide +kernel)) rfl
theorem ewX9_word : Cond.selects RX9 yX9_word yX9_word ∈ mv_all := mv_g (mv_t5 (i := 144) (by decide +kernel)) rfl
theorem cwX9_placeOf : Cond.code yX9_placeOf cX9_placeOf 10 (some .long) ∈ mv_all := mv_g (mv_t5 (i := 161) (by decide +kernel)) rfl
theorem iwX9_placeOf : Cond.instanceMethod yX9_placeOf ∈ mv_all := mv_g (mv_t5 (i := 160) (by decide +kernel)) rfl
theorem ewX9_placeOf : Cond.selects RX9 yX9_placeOf yX9_placeOf ∈ mv_all := mv_p7 (y := yX9_placeOf) (i := 14) (n := 23) (by decide +kernel)
theorem cwX9_place : Cond.code yX9_place cX9_place 8 (some .int) ∈ mv_all := mv_g (mv_t5 (i := 157) (by decide +kernel)) rfl
theorem iwX9_place : Cond.instanceMethod yX9_place ∈ mv_all := mv_g (mv_t5 (i := 155) (by decide +kernel)) rfl
theorem ewX9_place : Cond.selects RX9 yX9_place yX9_place ∈ mv_all := mv_g (mv_t5 (i := 156) (by decide +kernel)) rfl
theorem cwX9_hadBy : Cond.code yX9_hadBy cX9_hadBy 8 (some .int) ∈ mv_all := mv_g (mv_t5 (i := 169) (by decide +kernel)) rfl
theorem iwX9_hadBy : Cond.instanceMethod yX9_hadBy ∈ mv_all := mv_g (mv_t5 (i := 168) (by decide +kernel)) rfl
theorem ewX9_hadBy : Cond.selects RX9 yX9_hadBy yX9_hadBy ∈ mv_all := mv_p7 (y := yX9_hadBy) (i := 15) (n := 23) (by decide +kernel)
theorem cwX9_had : Cond.code yX9_had cX9_had 1 (some .int) ∈ mv_all := mv_g (mv_t5 (i := 165) (by decide +kernel)) rfl
theorem iwX9_had : Cond.instanceMethod yX9_had ∈ mv_all := mv_g (mv_t5 (i := 163) (by decide +kernel)) rfl
theorem ewX9_had : Cond.selects RX9 yX9_had yX9_had ∈ mv_all := mv_g (mv_t5 (i := 164) (by decide +kernel)) rfl
theorem cwX9_needed : Cond.code yX9_needed cX9_needed 4 (some .int) ∈ mv_all := mv_g (mv_t5 (i := 173) (by decide +kernel)) rfl
theorem iwX9_needed : Cond.instanceMethod yX9_needed ∈ mv_all := mv_g (mv_t5 (i := 171) (by decide +kernel)) rfl
theorem ewX9_needed : Cond.selects RX9 yX9_needed yX9_needed ∈ mv_all := mv_g (mv_t5 (i := 172) (by decide +kernel)) rfl
theorem cwX9_without : Cond.code yX9_without cX9_without 3 (some .int) ∈ mv_all := mv_g (mv_t5 (i := 177) (by decide +kernel)) rfl
theorem iwX9_without : Cond.instanceMethod yX9_without ∈ mv_all := mv_g (mv_t5 (i := 175) (by decide +kernel)) rfl
theorem ewX9_without : Cond.selects RX9 yX9_without yX9_without ∈ mv_all := mv_g (mv_t5 (i := 176) (by decide +kernel)) rfl
theorem cwX9_share : Cond.code yX9_share cX9_share 7 (some .int) ∈ mv_all := mv_g (mv_t5 (i := 181) (by decide +kernel)) rfl
theorem iwX9_share : Cond.instanceMethod yX9_share ∈ mv_all := mv_g (mv_t5 (i := 179) (by decide +kernel)) rfl
theorem ewX9_share : Cond.selects RX9 yX9_share yX9_share ∈ mv_all := mv_g (mv_t5 (i := 180) (by decide +kernel)) rfl
theorem cwX9_drawn : Cond.code yX9_drawn cX9_drawn 13 (some .int) ∈ mv_all := mv_g (mv_t5 (i := 186) (by decide +kernel)) rfl
theorem iwX9_drawn : Cond.instanceMethod yX9_drawn ∈ mv_all := mv_g (mv_t5 (i := 184) (by decide +kernel)) rfl
theorem ewX9_drawn : Cond.selects RX9 yX9_drawn yX9_drawn ∈ mv_all := mv_g (mv_t5 (i := 185) (by decide +kernel)) rfl
theorem cwX9_image : Cond.code yX9_image cX9_image 2 (some .int) ∈ mv_all := mv_g (mv_t5 (i := 194) (by decide +kernel)) rfl
theorem iwX9_image : Cond.instanceMethod yX9_image ∈ mv_all := mv_g (mv_t5 (i := 192) (by decide +kernel)) rfl
theorem ewX9_image : Cond.selects RX9 yX9_image yX9_image ∈ mv_all := mv_g (mv_t5 (i := 193) (by decide +kernel)) rfl
theorem cwX9_restore : Cond.code yX9_restore cX9_restore 2 (some .int) ∈ mv_all := mv_g (mv_t5 (i := 198) (by decide +kernel)) rfl
theorem iwX9_restore : Cond.instanceMethod yX9_restore ∈ mv_all := mv_g (mv_t5 (i := 196) (by decide +kernel)) rfl
theorem ewX9_restore : Cond.selects RX9 yX9_restore yX9_restore ∈ mv_all := mv_g (mv_t5 (i := 197) (by decide +kernel)) rfl
theorem cwX9_kind : Cond.code yX9_kind cX9_kind 2 (some .int) ∈ mv_all := mv_g (mv_t5 (i := 202) (by decide +kernel)) rfl
theorem iwX9_kind : Cond.instanceMethod yX9_kind ∈ mv_all := mv_g (mv_t5 (i := 200) (by decide +kernel)) rfl
theorem ewX9_kind : Cond.selects RX9 yX9_kind yX9_kind ∈ mv_all := mv_g (mv_t5 (i := 201) (by decide +kernel)) rfl
theorem cwX9_isA : Cond.code yX9_isA cX9_isA 2 (some .boolean) ∈ mv_all := mv_g (mv_t5 (i := 210) (by decide +kernel)) rfl
theorem swX9_isA : Cond.static yX9_isA ∈ mv_all := mv_g (mv_t5 (i := 209) (by decide +kernel)) rfl
theorem cwX9_as : Cond.code yX9_as cX9_as 3 (some .int) ∈ mv_all := mv_g (mv_t5 (i := 206) (by decide +kernel)) rfl
theorem iwX9_as : Cond.instanceMethod yX9_as ∈ mv_all := mv_g (mv_t5 (i := 204) (by decide +kernel)) rfl
theorem ewX9_as : Cond.selects RX9 yX9_as yX9_as ∈ mv_all := mv_g (mv_t5 (i := 205) (by decide +kernel)) rfl
theorem cwX9_traces : Cond.code yX9_traces cX9_traces 2 none ∈ mv_all := mv_g (mv_t5 (i := 222) (by decide +kernel)) rfl
theorem iwX9_traces : Cond.instanceMethod yX9_traces ∈ mv_all := mv_g (mv_t5 (i := 221) (by decide +kernel)) rfl
theorem ewX9_traces : Cond.selects RX9 yX9_traces yX9_traces ∈ mv_all := mv_p8 (y := yX9_traces) (i := 1) (n := 23) (by decide +kernel)
theorem cwX9_size10 : Cond.code yX9_size10 cX9_size10 2 (some .int) ∈ mv_all := mv_g (mv_t5 (i := 230) (by decide +kernel)) rfl
theorem iwX9_size10 : Cond.instanceMethod yX9_size10 ∈ mv_all := mv_g (mv_t5 (i := 229) (by decide +kernel)) rfl
theorem ewX9_size10 : Cond.selects RX9 yX9_size10 yX9_size10 ∈ mv_all := mv_p8 (y := yX9_size10) (i := 3) (n := 23) (by decide +kernel)
theorem cwX9_size11 : Cond.code yX9_size11 cX9_size11 3 (some .int) ∈ mv_all := mv_g (mv_t5 (i := 226) (by decide +kernel)) rfl
theorem iwX9_size11 : Cond.instanceMethod yX9_size11 ∈ mv_all := mv_g (mv_t5 (i := 225) (by decide +kernel)) rfl
theorem ewX9_size11 : Cond.selects RX9 yX9_size11 yX9_size11 ∈ mv_all := mv_p8 (y := yX9_size11) (i := 2) (n := 23) (by decide +kernel)
theorem cwX9_size13 : Cond.code yX9_size13 cX9_size13 2 (some .int) ∈ mv_all := mv_g (mv_t6 (i := 6) (by decide +kernel)) rfl
theorem iwX9_size13 : Cond.instanceMethod yX9_size13 ∈ mv_all := mv_g (mv_t6 (i := 5) (by decide +kernel)) rfl
theorem ewX9_size13 : Cond.selects RX9 yX9_size13 yX9_size13 ∈ mv_all := mv_p8 (y := yX9_size13) (i := 7) (n := 23) (by decide +kernel)
theorem cwX9_sizeOf : Cond.code yX9_sizeOf cX9_sizeOf 2 (some .int) ∈ mv_all := mv_g (mv_t5 (i := 218) (by decide +kernel)) rfl
theorem iwX9_sizeOf : Cond.instanceMethod yX9_sizeOf ∈ mv_all := mv_g (mv_t5 (i := 217) (by decide +kernel)) rfl
theorem ewX9_sizeOf : Cond.selects RX9 yX9_sizeOf yX9_sizeOf ∈ mv_all := mv_p8 (y := yX9_sizeOf) (i := 0) (n := 23) (by decide +kernel)
theorem cwX9_mark20 : Cond.code yX9_mark20 cX9_mark20 2 (some .int) ∈ mv_all := mv_g (mv_t6 (i := 2) (by decide +kernel)) rfl
theorem iwX9_mark20 : Cond.instanceMethod yX9_mark20 ∈ mv_all := mv_g (mv_t6 (i := 1) (by decide +kernel)) rfl
theorem ewX9_mark20 : Cond.selects RX9 yX9_mark20 yX9_mark20 ∈ mv_all := mv_p8 (y := yX9_mark20) (i := 6) (n := 23) (by decide +kernel)
theorem cwX9_mark21 : Cond.code yX9_mark21 cX9_mark21 2 (some .int) ∈ mv_all := mv_g (mv_t5 (i := 238) (by decide +kernel)) rfl
theorem iwX9_mark21 : Cond.instanceMethod yX9_mark21 ∈ mv_all := mv_g (mv_t5 (i := 237) (by decide +kernel)) rfl
theorem ewX9_mark21 : Cond.selects RX9 yX9_mark21 yX9_mark21 ∈ mv_all := mv_p8 (y := yX9_mark21) (i := 5) (n := 23) (by decide +kernel)
theorem cwX9_markOf : Cond.code yX9_markOf cX9_markOf 2 (some .int) ∈ mv_all := mv_g (mv_t5 (i := 234) (by decide +kernel)) rfl
theorem iwX9_markOf : Cond.instanceMethod yX9_markOf ∈ mv_all := mv_g (mv_t5 (i := 233) (by decide +kernel)) rfl
theorem ewX9_markOf : Cond.selects RX9 yX9_markOf yX9_markOf ∈ mv_all := mv_p8 (y := yX9_markOf) (i := 4) (n := 23) (by decide +kernel)
theorem cwX9_mark23 : Cond.code yX9_mark23 cX9_mark23 3 (some .int) ∈ mv_all := mv_g (mv_t6 (i := 10) (by decide +kernel)) rfl
theorem iwX9_mark23 : Cond.instanceMethod yX9_mark23 ∈ mv_all := mv_g (mv_t6 (i := 9) (by decide +kernel)) rfl
theorem ewX9_mark23 : Cond.selects RX9 yX9_mark23 yX9_mark23 ∈ mv_all := mv_p8 (y := yX9_mark23) (i := 8) (n := 23) (by decide +kernel)
theorem cwX9_ask : Cond.code yX9_ask cX9_ask 3 (some .int) ∈ mv_all := mv_g (mv_t5 (i := 214) (by decide +kernel)) rfl
theorem iwX9_ask : Cond.instanceMethod yX9_ask ∈ mv_all := mv_g (mv_t5 (i := 212) (by decide +kernel)) rfl
theorem ewX9_ask : Cond.selects RX9 yX9_ask yX9_ask ∈ mv_all := mv_g (mv_t5 (i := 213) (by decide +kernel)) rfl
theorem cwX9_trace : Cond.code yX9_trace cX9_trace 2 (some .int) ∈ mv_all := mv_g (mv_t6 (i := 14) (by decide +kernel)) rfl
theorem iwX9_trace : Cond.instanceMethod yX9_trace ∈ mv_all := mv_g (mv_t6 (i := 12) (by decide +kernel)) rfl
theorem ewX9_trace : Cond.selects RX9 yX9_trace yX9_trace ∈ mv_all := mv_g (mv_t6 (i := 13) (by decide +kernel)) rfl
theorem cwX9_rowsThere : Cond.code yX9_rowsThere cX9_rowsThere 3 (some .int) ∈ mv_all := mv_g (mv_t6 (i := 22) (by decide +kernel)) rfl
theorem iwX9_rowsThere : Cond.instanceMethod yX9_rowsThere ∈ mv_all := mv_g (mv_t6 (i := 21) (by decide +kernel)) rfl
theorem ewX9_rowsThere : Cond.selects RX9 yX9_rowsThere yX9_rowsThere ∈ mv_all := mv_p8 (y := yX9_rowsThere) (i := 9) (n := 23) (by decide +kernel)
theorem cwX9_count : Cond.code yX9_count cX9_count 2 (some .int) ∈ mv_all := mv_g (mv_t6 (i := 18) (by decide +kernel)) rfl
theorem iwX9_count : Cond.instanceMethod yX9_count ∈ mv_all := mv_g (mv_t6 (i := 16) (by decide +kernel)) rfl
theorem ewX9_count : Cond.selects RX9 yX9_count yX9_count ∈ mv_all := mv_g (mv_t6 (i := 17) (by decide +kernel)) rfl
theorem cwX9_status : Cond.code yX9_status cX9_status 1 (some .int) ∈ mv_all := mv_g (mv_t6 (i := 26) (by decide +kernel)) rfl
theorem iwX9_status : Cond.instanceMethod yX9_status ∈ mv_all := mv_g (mv_t6 (i := 24) (by decide +kernel)) rfl
theorem ewX9_status : Cond.selects RX9 yX9_status yX9_status ∈ mv_all := mv_g (mv_t6 (i := 25) (by decide +kernel)) rfl
theorem cwJ9_max_7cf53 : Cond.code yJ9_max_7cf53 cJ9_max_7cf53 2 (some .int) ∈ mv_all := mv_g (mv_t2 (i := 174) (by decide +kernel)) rfl
theorem swJ9_max_7cf53 : Cond.static yJ9_max_7cf53 ∈ mv_all := mv_g (mv_t2 (i := 173) (by decide +kernel)) rfl
theorem cwJ9_min_f86c9 : Cond.code yJ9_min_f86c9 cJ9_min_f86c9 4 (some .long) ∈ mv_all := mv_g (mv_t3 (i := 80) (by decide +kernel)) rfl
theorem swJ9_min_f86c9 : Cond.static yJ9_min_f86c9 ∈ mv_all := mv_g (mv_t3 (i := 79) (by decide +kernel)) rfl
theorem cwJ7_fill_53178 : Cond.code yJ7_fill_53178 cJ7_fill_53178 4 none ∈ mv_all := mv_g (mv_t1 (i := 117) (by decide +kernel)) rfl
theorem swJ7_fill_53178 : Cond.static yJ7_fill_53178 ∈ mv_all := mv_g (mv_t1 (i := 116) (by decide +kernel)) rfl
theorem nwX0 : Cond.initialized RX0 ∈ mv_all := mv_g (mv_t1 (i := 6) (by decide +kernel)) rfl
theorem nwX1 : Cond.initialized RX1 ∈ mv_all := mv_g (mv_t1 (i := 10) (by decide +kernel)) rfl
theorem nwX2 : Cond.initialized RX2 ∈ mv_all := mv_g (mv_t1 (i := 8) (by decide +kernel)) rfl
theorem nwX3 : Cond.initialized RX3 ∈ mv_all := mv_g (mv_t1 (i := 7) (by decide +kernel)) rfl
theorem nwX4 : Cond.initialized RX4 ∈ mv_all := mv_g (mv_t1 (i := 5) (by decide +kernel)) rfl
theorem nwX5 : Cond.initialized RX5 ∈ mv_all := mv_g (mv_t1 (i := 3) (by decide +kernel)) rfl
theorem nwX6 : Cond.initialized RX6 ∈ mv_all := mv_g (mv_t1 (i := 9) (by decide +kernel)) rfl
theorem nwX7 : Cond.initialized RX7 ∈ mv_all := mv_g (mv_t1 (i := 2) (by decide +kernel)) rfl
theorem nwX8 : Cond.initialized RX8 ∈ mv_all := mv_g (mv_t1 (i := 1) (by decide +kernel)) rfl
theorem nwX9 : Cond.initialized RX9 ∈ mv_all := mv_g (mv_t1 (i := 11) (by decide +kernel)) rfl
theorem nwJ9 : Cond.initialized RJ9 ∈ mv_all := mv_g (mv_t1 (i := 13) (by decide +kernel)) rfl
theorem nwJ7 : Cond.initialized RJ7 ∈ mv_all := mv_g (mv_t1 (i := 4) (by decide +kernel)) rfl
theorem nwJ10 : Cond.initialized "java/lang/System" ∈ mv_all := mv_g (mv_t1 (i := 12) (by decide +kernel)) rfl
theorem swcopy : Cond.static arraycopyName ∈ mv_all := mv_g (mv_t2 (i := 114) (by decide +kernel)) rfl
theorem vwcopy : Cond.native arraycopyName ∈ mv_all := mv_g (mv_t2 (i := 115) (by decide +kernel)) rfl
