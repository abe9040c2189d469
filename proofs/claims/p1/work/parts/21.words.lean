def et_Ts : List Cond := lw_tbl.filter goodWord
theorem et_in {w : Cond} (h : w ∈ lw_tbl) (g : goodWord w = true) : w ∈ et_Ts := List.mem_filter.mpr ⟨h, g⟩
def et_cl : List vw_C := [(RX0, TX0, 4), (RX1, TX1, 6), (RX2, TX2, 18), (RX3, TX3, 3), (RX4, TX4, 15), (RX5, TX5, 3), (RX6, TX6, 6), (RX7, TX7, 20), (RX8, TX8, 12), (RX9, TX9, 2), (RX10, TX10, 15), (RX11, TX11, 76)]
def et_MT : List ev_MI := [(yJ6_bitCount_0f7a4, cJ6_bitCount_0f7a4, 1, (some .int)), (yX0_init, cX0_init, 3, none), (yX10_applies, cX10_applies, 3, (some .int)), (yX10_asks, cX10_asks, 7, (some .int)), (yX10_behind, cX10_behind, 3, (some .int)), (yX10_blames, cX10_blames, 6, (some .int)), (yX10_comes, cX10_comes, 4, (some .int)), (yX10_count, cX10_count, 2, (some .int)), (yX10_defines, cX10_defines, 6, (some .int)), (yX10_definition, cX10_definition, 4, (some .int)), (yX10_end, cX10_end, 2, (some .boolean)), (yX10_finds, cX10_finds, 6, (some .int)), (yX10_fits, cX10_fits, 2, (some .int)), (yX10_flips, cX10_flips, 2, (some .int)), (yX10_forget, cX10_forget, 2, (some .int)), (yX10_general, cX10_general, 3, (some .int)), (yX10_gives, cX10_gives, 4, (some .int)), (yX10_heard, cX10_heard, 3, (some .int)), (yX10_hole, cX10_hole, 5, (some .int)), (yX10_init, cX10_init, 1, none), (yX10_largest, cX10_largest, 4, (some .int)), (yX10_law, cX10_law, 5, (some .int)), (yX10_modes, cX10_modes, 3, (some .int)), (yX10_one, cX10_one, 5, (some .int)), (yX10_parts, cX10_parts, 5, (some .int)), (yX10_readDefinition, cX10_readDefinition, 2, (some .int)), (yX10_readText, cX10_readText, 3, (some .int)), (yX10_row, cX10_row, 2, (some .long)), (yX10_scheme, cX10_scheme, 2, (some .int)), (yX10_sign, cX10_sign, 3, (some .int)), (yX10_sorts, cX10_sorts, 7, (some .int)), (yX10_type, cX10_type, 2, (some .int)), (yX10_undo, cX10_undo, 1, (some .int)), (yX10_ways, cX10_ways, 5, (some .int)), (yX11_applies, cX11_applies, 3, (some .int)), (yX11_asks, cX11_asks, 8, (some .int)), (yX11_begin, cX11_begin, 4, none), (yX11_beginText, cX11_beginText, 2, none), (yX11_behind, cX11_behind, 3, (some .int)), (yX11_blames, cX11_blames, 5, (some .int)), (yX11_comes, cX11_comes, 3, (some .int)), (yX11_comparison, cX11_comparison, 2, (some .int)), (yX11_count, cX11_count, 2, (some .int)), (yX11_defines, cX11_defines, 6, (some .int)), (yX11_definition, cX11_definition, 4, (some .int)), (yX11_end, cX11_end, 2, (some .boolean)), (yX11_expression, cX11_expression, 6, (some .int)), (yX11_factor, cX11_factor, 4, (some .int)), (yX11_fault, cX11_fault, 2, none), (yX11_finds, cX11_finds, 6, (some .int)), (yX11_fine, cX11_fine, 1, (some .boolean)), (yX11_fits, cX11_fits, 2, (some .int)), (yX11_fitting, cX11_fitting, 5, (some .int)), (yX11_flips, cX11_flips, 2, (some .int)), (yX11_forget, cX11_forget, 2, (some .int)), (yX11_general, cX11_general, 8, (some .int)), (yX11_gives, cX11_gives, 4, (some .int)), (yX11_heard, cX11_heard, 3, (some .int)), (yX11_here, cX11_here, 1, (some .int)), (yX11_highOf, cX11_highOf, 1, (some .int)), (yX11_hole, cX11_hole, 4, (some .int)), (yX11_in, cX11_in, 3, (some .boolean)), (yX11_init, cX11_init, 1, none), (yX11_isFactor, cX11_isFactor, 2, (some .boolean)), (yX11_isName, cX11_isName, 2, (some .boolean)), (yX11_largest, cX11_largest, 3, (some .int)), (yX11_law, cX11_law, 6, (some .int)), (yX11_lost, cX11_lost, 1, (some .int)), (yX11_modes, cX11_modes, 3, (some .int)), (yX11_names, cX11_names, 3, (some .int)), (yX11_need, cX11_need, 2, none), (yX11_nodesOfAll, cX11_nodesOfAll, 3, (some .int)), (yX11_one, cX11_one, 5, (some .int)), (yX11_oneOf, cX11_oneOf, 3, (some .int)), (yX11_parts, cX11_parts, 3, (some .int)), (yX11_passes, cX11_passes, 2, (some .boolean)), (yX11_readAll, cX11_readAll, 2, (some .int)), (yX11_readText, cX11_readText, 3, (some .int)), (yX11_remember, cX11_remember, 2, none), (yX11_row, cX11_row, 2, (some .long)), (yX11_scheme, cX11_scheme, 2, (some .int)), (yX11_sign, cX11_sign, 3, (some .int)), (yX11_slotOf, cX11_slotOf, 3, (some .int)), (yX11_sorts, cX11_sorts, 9, (some .int)), (yX11_sum, cX11_sum, 4, (some .int)), (yX11_tell, cX11_tell, 3, none), (yX11_term, cX11_term, 3, (some .int)), (yX11_thrown, cX11_thrown, 1, (some .int)), (yX11_type, cX11_type, 2, (some .int)), (yX11_undo, cX11_undo, 2, (some .int)), (yX11_wasRight, cX11_wasRight, 1, (some .boolean)), (yX11_ways, cX11_ways, 5, (some .int)), (yX11_weakOf, cX11_weakOf, 4, (some .int)), (yX1_begin, cX1_begin, 2, none), (yX1_emit, cX1_emit, 6, (some .int)), (yX1_init, cX1_init, 1, none), (yX2_init, cX2_init, 4, none), (yX3_add, cX3_add, 3, (some .boolean)), (yX3_clear, cX3_clear, 1, none), (yX3_fitting, cX3_fitting, 4, (some .int)), (yX3_highest, cX3_highest, 1, (some .int)), (yX3_init, cX3_init, 1, none), (yX3_size, cX3_size, 1, (some .int)), (yX4_init, cX4_init, 2, none), (yX5_init, cX5_init, 1, none), (yX5_keep, cX5_keep, 3, none), (yX5_size, cX5_size, 1, (some .int)), (yX6_assignment, cX6_assignment, 3, (some .int)), (yX6_beginsFactor, cX6_beginsFactor, 2, (some .boolean)), (yX6_comparison, cX6_comparison, 4, (some .int)), (yX6_expression, cX6_expression, 3, (some .int)), (yX6_factor, cX6_factor, 4, (some .int)), (yX6_init, cX6_init, 2, none), (yX6_isDigit, cX6_isDigit, 1, (some .boolean)), (yX6_isLetter, cX6_isLetter, 1, (some .boolean)), (yX6_leaf, cX6_leaf, 3, none), (yX6_peek, cX6_peek, 1, (some .int)), (yX6_read, cX6_read, 6, (some .int)), (yX6_refuse, cX6_refuse, 1, none), (yX6_sum, cX6_sum, 5, (some .int)), (yX6_term, cX6_term, 4, (some .int)), (yX7_init, cX7_init, 1, none), (yX8_allNodes, cX8_allNodes, 3, (some .int)), (yX8_bits, cX8_bits, 3, (some .int)), (yX8_clear, cX8_clear, 1, none), (yX8_init, cX8_init, 3, none), (yX8_knows, cX8_knows, 2, (some .boolean)), (yX8_placeOf, cX8_placeOf, 2, (some .int)), (yX8_save, cX8_save, 3, none), (yX8_shrink, cX8_shrink, 3, none), (yX8_size, cX8_size, 1, (some .int)), (yX8_weakTotal, cX8_weakTotal, 1, (some .int)), (yX9_add, cX9_add, 2, none), (yX9_clear, cX9_clear, 1, none), (yX9_init, cX9_init, 1, none), (yX9_size, cX9_size, 1, (some .int)), (x, code, 8, (some .boolean))]
theorem ev_f0 {α : Type} {p : α → Prop} : ∀ x ∈ ([] : List α), p x := fun _ h => nomatch h
theorem ev_f1 {α : Type} {p : α → Prop} {a : α} {l : List α} (h : p a) (t : ∀ x ∈ l, p x) : ∀ x ∈ a :: l, p x := List.forall_mem_cons.mpr ⟨h, t⟩
def ev_dv (x : ev_V) : Value := match x with
  | .inl _ => .int 0
  | _ => .null
def ev_isd (x : ev_V) : Bool := match x with
  | .inl r => decide (r.1 = 0) && decide (r.2 = 0)
  | .inr (.inr 1) => true
  | _ => false
theorem ev_dv_ok {b hz : Nat} {L : List Nat} : ∀ {fs : List ev_V}, fs.all ev_isd = true → ev_all (ev_rel b hz L) fs (fs.map ev_dv)
  | [], _ => trivial
  | x :: fs, h => by
    rw [List.all_cons, Bool.and_eq_true] at h
    refine ⟨?_, ev_dv_ok h.2⟩
    have h1 := h.1
    unfold ev_isd at h1
    split at h1
    · simp only [Bool.and_eq_true, decide_eq_true_eq] at h1
      exact ⟨0, rfl, by rw [h1.1]; exact Int.le_refl 0, by rw [h1.2]; exact Int.le_refl 0⟩
    · rfl
    · cases h1
theorem eiX0 : ∀ w ∈ u_ws RX0 TX0 4, w ∈ et_Ts := by
  have h : u_ws RX0 TX0 4 = [362, 364, 366, 368].filterMap (fun i => tables_1[i]?) := by decide +kernel
  have g : (u_ws RX0 TX0 4).all goodWord = true := by decide +kernel
  intro w hw
  have g1 := List.all_eq_true.mp g w hw
  rw [h] at hw
  obtain ⟨i, -, hi⟩ := List.mem_filterMap.mp hw
  exact et_in (List.mem_append_right _ (List.mem_of_getElem? hi)) g1
theorem eiX1 : ∀ w ∈ u_ws RX1 TX1 6, w ∈ et_Ts := by
  have h : u_ws RX1 TX1 6 = [58, 60, 62, 64, 66, 68].filterMap (fun i => tables_1[i]?) := by decide +kernel
  have g : (u_ws RX1 TX1 6).all goodWord = true := by decide +kernel
  intro w hw
  have g1 := List.all_eq_true.mp g w hw
  rw [h] at hw
  obtain ⟨i, -, hi⟩ := List.mem_filterMap.mp hw
  exact et_in (List.mem_append_right _ (List.mem_of_getElem? hi)) g1
theorem eiX2 : ∀ w ∈ u_ws RX2 TX2 18, w ∈ et_Ts := by
  have h : u_ws RX2 TX2 18 = [230, 232, 234, 236, 238, 240, 242, 244, 246, 248, 250, 252, 254, 256, 258, 260, 262, 264].filterMap (fun i => tables_1[i]?) := by decide +kernel
  have g : (u_ws RX2 TX2 18).all goodWord = true := by decide +kernel
  intro w hw
  have g1 := List.all_eq_true.mp g w hw
  rw [h] at hw
  obtain ⟨i, -, hi⟩ := List.mem_filterMap.mp hw
  exact et_in (List.mem_append_right _ (List.mem_of_getElem? hi)) g1
theorem eiX3 : ∀ w ∈ u_ws RX3 TX3 3, w ∈ et_Ts := by
  have h : u_ws RX3 TX3 3 = [345, 347, 349].filterMap (fun i => tables_1[i]?) := by decide +kernel
  have g : (u_ws RX3 TX3 3).all goodWord = true := by decide +kernel
  intro w hw
  have g1 := List.all_eq_true.mp g w hw
  rw [h] at hw
  obtain ⟨i, -, hi⟩ := List.mem_filterMap.mp hw
  exact et_in (List.mem_append_right _ (List.mem_of_getElem? hi)) g1
theorem eiX4 : ∀ w ∈ u_ws RX4 TX4 15, w ∈ et_Ts := by
  have h : u_ws RX4 TX4 15 = [289, 291, 293, 295, 297, 299, 301, 303, 305, 307, 309, 311, 313, 315, 317].filterMap (fun i => tables_1[i]?) := by decide +kernel
  have g : (u_ws RX4 TX4 15).all goodWord = true := by decide +kernel
  intro w hw
  have g1 := List.all_eq_true.mp g w hw
  rw [h] at hw
  obtain ⟨i, -, hi⟩ := List.mem_filterMap.mp hw
  exact et_in (List.mem_append_right _ (List.mem_of_getElem? hi)) g1
theorem eiX5 : ∀ w ∈ u_ws RX5 TX5 3, w ∈ et_Ts := by
  have h : u_ws RX5 TX5 3 = [329, 331, 333].filterMap (fun i => tables_1[i]?) := by decide +kernel
  have g : (u_ws RX5 TX5 3).all goodWord = true := by decide +kernel
  intro w hw
  have g1 := List.all_eq_true.mp g w hw
  rw [h] at hw
  obtain ⟨i, -, hi⟩ := List.mem_filterMap.mp hw
  exact et_in (List.mem_append_right _ (List.mem_of_getElem? hi)) g1
theorem eiX6 : ∀ w ∈ u_ws RX6 TX6 6, w ∈ et_Ts := by
  have h : u_ws RX6 TX6 6 = [83, 85, 87, 89, 91, 93].filterMap (fun i => tables_1[i]?) := by decide +kernel
  have g : (u_ws RX6 TX6 6).all goodWord = true := by decide +kernel
  intro w hw
  have g1 := List.all_eq_true.mp g w hw
  rw [h] at hw
  obtain ⟨i, -, hi⟩ := List.mem_filterMap.mp hw
  exact et_in (List.mem_append_right _ (List.mem_of_getElem? hi)) g1
theorem eiX7 : ∀ w ∈ u_ws RX7 TX7 20, w ∈ et_Ts := by
  have h : u_ws RX7 TX7 20 = [122, 124, 126, 128, 130, 132, 134, 136, 138, 140, 142, 144, 146, 148, 150, 152, 154, 156, 158, 160].filterMap (fun i => tables_1[i]?) := by decide +kernel
  have g : (u_ws RX7 TX7 20).all goodWord = true := by decide +kernel
  intro w hw
  have g1 := List.all_eq_true.mp g w hw
  rw [h] at hw
  obtain ⟨i, -, hi⟩ := List.mem_filterMap.mp hw
  exact et_in (List.mem_append_right _ (List.mem_of_getElem? hi)) g1
theorem eiX8 : ∀ w ∈ u_ws RX8 TX8 12, w ∈ et_Ts := by
  have h : u_ws RX8 TX8 12 = [181, 183, 185, 187, 189, 191, 193, 195, 197, 199, 201, 203].filterMap (fun i => tables_1[i]?) := by decide +kernel
  have g : (u_ws RX8 TX8 12).all goodWord = true := by decide +kernel
  intro w hw
  have g1 := List.all_eq_true.mp g w hw
  rw [h] at hw
  obtain ⟨i, -, hi⟩ := List.mem_filterMap.mp hw
  exact et_in (List.mem_append_right _ (List.mem_of_getElem? hi)) g1
theorem eiX9 : ∀ w ∈ u_ws RX9 TX9 2, w ∈ et_Ts := by
  have h : u_ws RX9 TX9 2 = [40, 42].filterMap (fun i => tables_1[i]?) := by decide +kernel
  have g : (u_ws RX9 TX9 2).all goodWord = true := by decide +kernel
  intro w hw
  have g1 := List.all_eq_true.mp g w hw
  rw [h] at hw
  obtain ⟨i, -, hi⟩ := List.mem_filterMap.mp hw
  exact et_in (List.mem_append_right _ (List.mem_of_getElem? hi)) g1
theorem eiX10 : ∀ w ∈ u_ws RX10 TX10 15, w ∈ et_Ts := by
  have h : u_ws RX10 TX10 15 = [386, 388, 390, 392, 394, 396, 398, 400, 402, 404, 406, 408, 410, 412, 414].filterMap (fun i => tables_1[i]?) := by decide +kernel
  have g : (u_ws RX10 TX10 15).all goodWord = true := by decide +kernel
  intro w hw
  have g1 := List.all_eq_true.mp g w hw
  rw [h] at hw
  obtain ⟨i, -, hi⟩ := List.mem_filterMap.mp hw
  exact et_in (List.mem_append_right _ (List.mem_of_getElem? hi)) g1
theorem eiX11 : ∀ w ∈ u_ws RX11 TX11 76, w ∈ et_Ts := by
  have h : u_ws RX11 TX11 76 = [1483, 1485, 1487, 1489, 1491, 1493, 1495, 1497, 1499, 1501, 1503, 1505, 1507, 1509, 1511, 1513, 1515, 1517, 1519, 1521, 1523, 1525, 1527, 1529, 1531, 1533, 1535, 1537, 1539, 1541, 1543, 1545, 1547, 1549, 1551, 1553, 1555, 1557, 1559, 1561, 1563, 1565, 1567, 1569, 1571, 1573, 1575, 1577, 1579, 1581, 1583, 1585, 1587, 1589, 1591, 1593, 1595, 1597, 1599, 1601, 1603, 1605, 1607, 1609, 1611, 1613, 1615, 1617, 1619, 1621, 1623, 1625, 1627, 1629, 1631, 1633].filterMap (fun i => tables_1[i]?) := by decide +kernel
  have g : (u_ws RX11 TX11 76).all goodWord = true := by decide +kernel
  intro w hw
  have g1 := List.all_eq_true.mp g w hw
  rw [h] at hw
  obtain ⟨i, -, hi⟩ := List.mem_filterMap.mp hw
  exact et_in (List.mem_append_right _ (List.mem_of_getElem? hi)) g1
theorem kc_J6_265 : Cond.constant "java/lang/Integer" 265 (1431655765) ∈ et_Ts := et_in (List.mem_append_right _ (List.mem_of_getElem? (i := 1260) (by decide +kernel))) (by decide +kernel)
theorem kc_J6_266 : Cond.constant "java/lang/Integer" 266 (858993459) ∈ et_Ts := et_in (List.mem_append_right _ (List.mem_of_getElem? (i := 1261) (by decide +kernel))) (by decide +kernel)
theorem kc_J6_267 : Cond.constant "java/lang/Integer" 267 (252645135) ∈ et_Ts := et_in (List.mem_append_right _ (List.mem_of_getElem? (i := 1262) (by decide +kernel))) (by decide +kernel)
theorem cd_object : Cond.code Lib.objectInit ⟨#[0xb1]⟩ 1 none ∈ et_Ts := et_in (List.mem_append_right _ (List.mem_of_getElem? (i := 31) (by decide +kernel))) (by decide +kernel)
theorem ml_X0_3 : Cond.methodLink "TypeLevels$Among" 3 ⟨"java/lang/Object", "<init>", "()V"⟩ ∈ et_Ts := et_in (List.mem_append_right _ (List.mem_of_getElem? (i := 357) (by decide +kernel))) (by decide +kernel)
theorem im_java_lang_Object__init____V : Cond.instanceMethod ⟨"java/lang/Object", "<init>", "()V"⟩ ∈ et_Ts := et_in (List.mem_append_right _ (List.mem_of_getElem? (i := 30) (by decide +kernel))) (by decide +kernel)
theorem ar_0 : Cond.arrayClass (ev_ty 0) ∈ et_Ts := et_in (List.mem_append_right _ (List.mem_of_getElem? (i := 45) (by decide +kernel))) (by decide +kernel)
theorem fl_X0_11 : Cond.fieldLink "TypeLevels$Among" 11 "TypeLevels$Among" "way" "[I" ∈ et_Ts := et_in (List.mem_append_right _ (List.mem_of_getElem? (i := 360) (by decide +kernel))) (by decide +kernel)
theorem fl_X0_15 : Cond.fieldLink "TypeLevels$Among" 15 "TypeLevels$Among" "starts" "[I" ∈ et_Ts := et_in (List.mem_append_right _ (List.mem_of_getElem? (i := 361) (by decide +kernel))) (by decide +kernel)
theorem fl_X0_18 : Cond.fieldLink "TypeLevels$Among" 18 "TypeLevels$Among" "store" "LTypeLevels$Store;" ∈ et_Ts := et_in (List.mem_append_right _ (List.mem_of_getElem? (i := 358) (by decide +kernel))) (by decide +kernel)
theorem fl_X0_22 : Cond.fieldLink "TypeLevels$Among" 22 "TypeLevels$Among" "table" "LTypeLevels$Table;" ∈ et_Ts := et_in (List.mem_append_right _ (List.mem_of_getElem? (i := 359) (by decide +kernel))) (by decide +kernel)
theorem fl_X10_58 : Cond.fieldLink "TypeLevels" 58 "TypeLevels" "table" "LTypeLevels$Table;" ∈ et_Ts := et_in (List.mem_append_right _ (List.mem_of_getElem? (i := 379) (by decide +kernel))) (by decide +kernel)
theorem cd_X8_knows : Cond.code yX8_knows cX8_knows 2 (some .boolean) ∈ et_Ts := et_in (List.mem_append_right _ (List.mem_of_getElem? (i := 544) (by decide +kernel))) (by decide +kernel)
theorem in_TypeLevels_Table : Cond.initialized "TypeLevels$Table" ∈ et_Ts := et_in (List.mem_append_right _ (List.mem_of_getElem? (i := 6) (by decide +kernel))) (by decide +kernel)
theorem ca_X8_knows : ev_cal et_Ts yX8_knows cX8_knows 2 (some .boolean) 1 := ⟨cd_X8_knows, in_TypeLevels_Table, by decide +kernel, ⟨by decide +kernel, by decide +kernel⟩, by decide, by decide +kernel⟩
theorem ml_X10_108 : Cond.methodLink "TypeLevels" 108 ⟨"TypeLevels$Table", "knows", "(I)Z"⟩ ∈ et_Ts := et_in (List.mem_append_right _ (List.mem_of_getElem? (i := 541) (by decide +kernel))) (by decide +kernel)
theorem im_TypeLevels_Table_knows__I_Z : Cond.instanceMethod ⟨"TypeLevels$Table", "knows", "(I)Z"⟩ ∈ et_Ts := et_in (List.mem_append_right _ (List.mem_of_getElem? (i := 542) (by decide +kernel))) (by decide +kernel)
theorem sl_TypeLevels_Table_knows__I_Z : Cond.selects "TypeLevels$Table" ⟨"TypeLevels$Table", "knows", "(I)Z"⟩ ⟨"TypeLevels$Table", "knows", "(I)Z"⟩ ∈ et_Ts := et_in (List.mem_append_right _ (List.mem_of_getElem? (i := 543) (by decide +kernel))) (by decide +kernel)
theorem fl_X10_91 : Cond.fieldLink "TypeLevels" 91 "TypeLevels" "heardOf" "LTypeLevels$Heard;" ∈ et_Ts := et_in (List.mem_append_right _ (List.mem_of_getElem? (i := 384) (by decide +kernel))) (by decide +kernel)
theorem cd_X3_fitting : Cond.code yX3_fitting cX3_fitting 4 (some .int) ∈ et_Ts := et_in (List.mem_append_right _ (List.mem_of_getElem? (i := 1225) (by decide +kernel))) (by decide +kernel)
theorem in_TypeLevels_Heard : Cond.initialized "TypeLevels$Heard" ∈ et_Ts := et_in (List.mem_append_right _ (List.mem_of_getElem? (i := 10) (by decide +kernel))) (by decide +kernel)
theorem ca_X3_fitting : ev_cal et_Ts yX3_fitting cX3_fitting 4 (some .int) 1 := ⟨cd_X3_fitting, in_TypeLevels_Heard, by decide +kernel, ⟨by decide +kernel, by decide +kernel⟩, by decide, by decide +kernel⟩
theorem ml_X10_287 : Cond.methodLink "TypeLevels" 287 ⟨"TypeLevels$Heard", "fitting", "(LTypeLevels$Table;)I"⟩ ∈ et_Ts := et_in (List.mem_append_right _ (List.mem_of_getElem? (i := 1222) (by decide +kernel))) (by decide +kernel)
theorem im_TypeLevels_Heard_fitting__LTypeLevels_Table__I : Cond.instanceMethod ⟨"TypeLevels$Heard", "fitting", "(LTypeLevels$Table;)I"⟩ ∈ et_Ts := et_in (List.mem_append_right _ (List.mem_of_getElem? (i := 1223) (by decide +kernel))) (by decide +kernel)
theorem sl_TypeLevels_Heard_fitting__LTypeLevels_Table__I : Cond.selects "TypeLevels$Heard" ⟨"TypeLevels$Heard", "fitting", "(LTypeLevels$Table;)I"⟩ ⟨"TypeLevels$Heard", "fitting", "(LTypeLevels$Table;)I"⟩ ∈ et_Ts := et_in (List.mem_append_right _ (List.mem_of_getElem? (i := 1224) (by decide +kernel))) (by decide +kernel)
theorem cd_X10_readText : Cond.code yX10_readText cX10_readText 3 (some .int) ∈ et_Ts := et_in (List.mem_append_right _ (List.mem_of_getElem? (i := 876) (by decide +kernel))) (by decide +kernel)
theorem in_TypeLevels : Cond.initialized "TypeLevels" ∈ et_Ts := et_in (List.mem_append_right _ (List.mem_of_getElem? (i := 1) (by decide +kernel))) (by decide +kernel)
theorem ca_X10_readText : ev_cal et_Ts yX10_readText cX10_readText 3 (some .int) 1 := ⟨cd_X10_readText, in_TypeLevels, by decide +kernel, ⟨by decide +kernel, by decide +kernel⟩, by decide, by decide +kernel⟩
theorem ml_X10_181 : Cond.methodLink "TypeLevels" 181 ⟨"TypeLevels", "readText", "(Z)I"⟩ ∈ et_Ts := et_in (List.mem_append_right _ (List.mem_of_getElem? (i := 873) (by decide +kernel))) (by decide +kernel)
theorem im_TypeLevels_readText__Z_I : Cond.instanceMethod ⟨"TypeLevels", "readText", "(Z)I"⟩ ∈ et_Ts := et_in (List.mem_append_right _ (List.mem_of_getElem? (i := 875) (by decide +kernel))) (by decide +kernel)
theorem sl_TypeLevels_readText__Z_I : Cond.selects "TypeLevels" ⟨"TypeLevels", "readText", "(Z)I"⟩ ⟨"TypeLevels", "readText", "(Z)I"⟩ ∈ et_Ts := et_in (List.mem_append_left _ (List.mem_of_getElem? (i := 55) (by decide +kernel))) (by decide +kernel)
theorem cd_X8_bits : Cond.code yX8_bits cX8_bits 3 (some .int) ∈ et_Ts := et_in (List.mem_append_right _ (List.mem_of_getElem? (i := 1229) (by decide +kernel))) (by decide +kernel)
theorem ca_X8_bits : ev_cal et_Ts yX8_bits cX8_bits 3 (some .int) 0 := ⟨cd_X8_bits, in_TypeLevels_Table, by decide +kernel, ⟨by decide +kernel, by decide +kernel⟩, by decide, by decide +kernel⟩
theorem ml_X10_308 : Cond.methodLink "TypeLevels" 308 ⟨"TypeLevels$Table", "bits", "()I"⟩ ∈ et_Ts := et_in (List.mem_append_right _ (List.mem_of_getElem? (i := 1291) (by decide +kernel))) (by decide +kernel)
theorem im_TypeLevels_Table_bits___I : Cond.instanceMethod ⟨"TypeLevels$Table", "bits", "()I"⟩ ∈ et_Ts := et_in (List.mem_append_right _ (List.mem_of_getElem? (i := 1227) (by decide +kernel))) (by decide +kernel)
theorem sl_TypeLevels_Table_bits___I : Cond.selects "TypeLevels$Table" ⟨"TypeLevels$Table", "bits", "()I"⟩ ⟨"TypeLevels$Table", "bits", "()I"⟩ ∈ et_Ts := et_in (List.mem_append_right _ (List.mem_of_getElem? (i := 1228) (by decide +kernel))) (by decide +kernel)
theorem cd_X8_size : Cond.code yX8_size cX8_size 1 (some .int) ∈ et_Ts := et_in (List.mem_append_right _ (List.mem_of_getElem? (i := 1024) (by decide +kernel))) (by decide +kernel)
theorem ca_X8_size : ev_cal et_Ts yX8_size cX8_size 1 (some .int) 0 := ⟨cd_X8_size, in_TypeLevels_Table, by decide +kernel, ⟨by decide +kernel, by decide +kernel⟩, by decide, by decide +kernel⟩
theorem ml_X10_254 : Cond.methodLink "TypeLevels" 254 ⟨"TypeLevels$Table", "size", "()I"⟩ ∈ et_Ts := et_in (List.mem_append_right _ (List.mem_of_getElem? (i := 1021) (by decide +kernel))) (by decide +kernel)
theorem im_TypeLevels_Table_size___I : Cond.instanceMethod ⟨"TypeLevels$Table", "size", "()I"⟩ ∈ et_Ts := et_in (List.mem_append_right _ (List.mem_of_getElem? (i := 1022) (by decide +kernel))) (by decide +kernel)
theorem sl_TypeLevels_Table_size___I : Cond.selects "TypeLevels$Table" ⟨"TypeLevels$Table", "size", "()I"⟩ ⟨"TypeLevels$Table", "size", "()I"⟩ ∈ et_Ts := et_in (List.mem_append_right _ (List.mem_of_getElem? (i := 1023) (by decide +kernel))) (by decide +kernel)
theorem fl_X10_17 : Cond.fieldLink "TypeLevels" 17 "TypeLevels" "modesNow" "I" ∈ et_Ts := et_in (List.mem_append_right _ (List.mem_of_getElem? (i := 373) (by decide +kernel))) (by decide +kernel)
theorem cd_X8_weakTotal : Cond.code yX8_weakTotal cX8_weakTotal 1 (some .int) ∈ et_Ts := et_in (List.mem_append_right _ (List.mem_of_getElem? (i := 564) (by decide +kernel))) (by decide +kernel)
theorem ca_X8_weakTotal : ev_cal et_Ts yX8_weakTotal cX8_weakTotal 1 (some .int) 0 := ⟨cd_X8_weakTotal, in_TypeLevels_Table, by decide +kernel, ⟨by decide +kernel, by decide +kernel⟩, by decide, by decide +kernel⟩
theorem ml_X10_232 : Cond.methodLink "TypeLevels" 232 ⟨"TypeLevels$Table", "weakTotal", "()I"⟩ ∈ et_Ts := et_in (List.mem_append_right _ (List.mem_of_getElem? (i := 885) (by decide +kernel))) (by decide +kernel)
theorem im_TypeLevels_Table_weakTotal___I : Cond.instanceMethod ⟨"TypeLevels$Table", "weakTotal", "()I"⟩ ∈ et_Ts := et_in (List.mem_append_right _ (List.mem_of_getElem? (i := 562) (by decide +kernel))) (by decide +kernel)
theorem sl_TypeLevels_Table_weakTotal___I : Cond.selects "TypeLevels$Table" ⟨"TypeLevels$Table", "weakTotal", "()I"⟩ ⟨"TypeLevels$Table", "weakTotal", "()I"⟩ ∈ et_Ts := et_in (List.mem_append_right _ (List.mem_of_getElem? (i := 563) (by decide +kernel))) (by decide +kernel)
theorem cd_X8_allNodes : Cond.code yX8_allNodes cX8_allNodes 3 (some .int) ∈ et_Ts := et_in (List.mem_append_right _ (List.mem_of_getElem? (i := 1295) (by decide +kernel))) (by decide +kernel)
theorem ca_X8_allNodes : ev_cal et_Ts yX8_allNodes cX8_allNodes 3 (some .int) 0 := ⟨cd_X8_allNodes, in_TypeLevels_Table, by decide +kernel, ⟨by decide +kernel, by decide +kernel⟩, by decide, by decide +kernel⟩
theorem ml_X10_311 : Cond.methodLink "TypeLevels" 311 ⟨"TypeLevels$Table", "allNodes", "()I"⟩ ∈ et_Ts := et_in (List.mem_append_right _ (List.mem_of_getElem? (i := 1292) (by decide +kernel))) (by decide +kernel)
theorem im_TypeLevels_Table_allNodes___I : Cond.instanceMethod ⟨"TypeLevels$Table", "allNodes", "()I"⟩ ∈ et_Ts := et_in (List.mem_append_right _ (List.mem_of_getElem? (i := 1293) (by decide +kernel))) (by decide +kernel)
theorem sl_TypeLevels_Table_allNodes___I : Cond.selects "TypeLevels$Table" ⟨"TypeLevels$Table", "allNodes", "()I"⟩ ⟨"TypeLevels$Table", "allNodes", "()I"⟩ ∈ et_Ts := et_in (List.mem_append_right _ (List.mem_of_getElem? (i := 1294) (by decide +kernel))) (by decide +kernel)
theorem cd_X3_size : Cond.code yX3_size cX3_size 1 (some .int) ∈ et_Ts := et_in (List.mem_append_right _ (List.mem_of_getElem? (i := 1209) (by decide +kernel))) (by decide +kernel)
theorem ca_X3_size : ev_cal et_Ts yX3_size cX3_size 1 (some .int) 0 := ⟨cd_X3_size, in_TypeLevels_Heard, by decide +kernel, ⟨by decide +kernel, by decide +kernel⟩, by decide, by decide +kernel⟩
theorem ml_X10_285 : Cond.methodLink "TypeLevels" 285 ⟨"TypeLevels$Heard", "size", "()I"⟩ ∈ et_Ts := et_in (List.mem_append_right _ (List.mem_of_getElem? (i := 1206) (by decide +kernel))) (by decide +kernel)
theorem im_TypeLevels_Heard_size___I : Cond.instanceMethod ⟨"TypeLevels$Heard", "size", "()I"⟩ ∈ et_Ts := et_in (List.mem_append_right _ (List.mem_of_getElem? (i := 1207) (by decide +kernel))) (by decide +kernel)
theorem sl_TypeLevels_Heard_size___I : Cond.selects "TypeLevels$Heard" ⟨"TypeLevels$Heard", "size", "()I"⟩ ⟨"TypeLevels$Heard", "size", "()I"⟩ ∈ et_Ts := et_in (List.mem_append_right _ (List.mem_of_getElem? (i := 1208) (by decide +kernel))) (by decide +kernel)
theorem fl_X10_84 : Cond.fieldLink "TypeLevels" 84 "TypeLevels" "past" "LTypeLevels$Past;" ∈ et_Ts := et_in (List.mem_append_right _ (List.mem_of_getElem? (i := 383) (by decide +kernel))) (by decide +kernel)
theorem cd_X5_size : Cond.code yX5_size cX5_size 1 (some .int) ∈ et_Ts := et_in (List.mem_append_right _ (List.mem_of_getElem? (i := 849) (by decide +kernel))) (by decide +kernel)
theorem in_TypeLevels_Past : Cond.initialized "TypeLevels$Past" ∈ et_Ts := et_in (List.mem_append_right _ (List.mem_of_getElem? (i := 9) (by decide +kernel))) (by decide +kernel)
theorem ca_X5_size : ev_cal et_Ts yX5_size cX5_size 1 (some .int) 0 := ⟨cd_X5_size, in_TypeLevels_Past, by decide +kernel, ⟨by decide +kernel, by decide +kernel⟩, by decide, by decide +kernel⟩
theorem ml_X10_146 : Cond.methodLink "TypeLevels" 146 ⟨"TypeLevels$Past", "size", "()I"⟩ ∈ et_Ts := et_in (List.mem_append_right _ (List.mem_of_getElem? (i := 846) (by decide +kernel))) (by decide +kernel)
theorem im_TypeLevels_Past_size___I : Cond.instanceMethod ⟨"TypeLevels$Past", "size", "()I"⟩ ∈ et_Ts := et_in (List.mem_append_right _ (List.mem_of_getElem? (i := 847) (by decide +kernel))) (by decide +kernel)
theorem sl_TypeLevels_Past_size___I : Cond.selects "TypeLevels$Past" ⟨"TypeLevels$Past", "size", "()I"⟩ ⟨"TypeLevels$Past", "size", "()I"⟩ ∈ et_Ts := et_in (List.mem_append_right _ (List.mem_of_getElem? (i := 848) (by decide +kernel))) (by decide +kernel)
theorem fl_X10_26 : Cond.fieldLink "TypeLevels" 26 "TypeLevels" "told" "LTypeLevels$Told;" ∈ et_Ts := et_in (List.mem_append_right _ (List.mem_of_getElem? (i := 375) (by decide +kernel))) (by decide +kernel)
theorem cd_X9_size : Cond.code yX9_size cX9_size 1 (some .int) ∈ et_Ts := et_in (List.mem_append_right _ (List.mem_of_getElem? (i := 1299) (by decide +kernel))) (by decide +kernel)
theorem in_TypeLevels_Told : Cond.initialized "TypeLevels$Told" ∈ et_Ts := et_in (List.mem_append_right _ (List.mem_of_getElem? (i := 2) (by decide +kernel))) (by decide +kernel)
theorem ca_X9_size : ev_cal et_Ts yX9_size cX9_size 1 (some .int) 0 := ⟨cd_X9_size, in_TypeLevels_Told, by decide +kernel, ⟨by decide +kernel, by decide +kernel⟩, by decide, by decide +kernel⟩
theorem ml_X10_314 : Cond.methodLink "TypeLevels" 314 ⟨"TypeLevels$Told", "size", "()I"⟩ ∈ et_Ts := et_in (List.mem_append_right _ (List.mem_of_getElem? (i := 1296) (by decide +kernel))) (by decide +kernel)
theorem im_TypeLevels_Told_size___I : Cond.instanceMethod ⟨"TypeLevels$Told", "size", "()I"⟩ ∈ et_Ts := et_in (List.mem_append_right _ (List.mem_of_getElem? (i := 1297) (by decide +kernel))) (by decide +kernel)
theorem sl_TypeLevels_Told_size___I : Cond.selects "TypeLevels$Told" ⟨"TypeLevels$Told", "size", "()I"⟩ ⟨"TypeLevels$Told", "size", "()I"⟩ ∈ et_Ts := et_in (List.mem_append_right _ (List.mem_of_getElem? (i := 1298) (by decide +kernel))) (by decide +kernel)
theorem fl_X10_13 : Cond.fieldLink "TypeLevels" 13 "TypeLevels" "length" "I" ∈ et_Ts := et_in (List.mem_append_right _ (List.mem_of_getElem? (i := 372) (by decide +kernel))) (by decide +kernel)
theorem cd_X10_readDefinition : Cond.code yX10_readDefinition cX10_readDefinition 2 (some .int) ∈ et_Ts := et_in (List.mem_append_right _ (List.mem_of_getElem? (i := 432) (by decide +kernel))) (by decide +kernel)
theorem ca_X10_readDefinition : ev_cal et_Ts yX10_readDefinition cX10_readDefinition 2 (some .int) 0 := ⟨cd_X10_readDefinition, in_TypeLevels, by decide +kernel, ⟨by decide +kernel, by decide +kernel⟩, by decide, by decide +kernel⟩
theorem ml_X10_104 : Cond.methodLink "TypeLevels" 104 ⟨"TypeLevels", "readDefinition", "()I"⟩ ∈ et_Ts := et_in (List.mem_append_right _ (List.mem_of_getElem? (i := 429) (by decide +kernel))) (by decide +kernel)
theorem im_TypeLevels_readDefinition___I : Cond.instanceMethod ⟨"TypeLevels", "readDefinition", "()I"⟩ ∈ et_Ts := et_in (List.mem_append_right _ (List.mem_of_getElem? (i := 431) (by decide +kernel))) (by decide +kernel)
theorem sl_TypeLevels_readDefinition___I : Cond.selects "TypeLevels" ⟨"TypeLevels", "readDefinition", "()I"⟩ ⟨"TypeLevels", "readDefinition", "()I"⟩ ∈ et_Ts := et_in (List.mem_append_left _ (List.mem_of_getElem? (i := 0) (by decide +kernel))) (by decide +kernel)
theorem cd_X8_placeOf : Cond.code yX8_placeOf cX8_placeOf 2 (some .int) ∈ et_Ts := et_in (List.mem_append_right _ (List.mem_of_getElem? (i := 548) (by decide +kernel))) (by decide +kernel)
theorem ca_X8_placeOf : ev_cal et_Ts yX8_placeOf cX8_placeOf 2 (some .int) 1 := ⟨cd_X8_placeOf, in_TypeLevels_Table, by decide +kernel, ⟨by decide +kernel, by decide +kernel⟩, by decide, by decide +kernel⟩
theorem ml_X10_153 : Cond.methodLink "TypeLevels" 153 ⟨"TypeLevels$Table", "placeOf", "(I)I"⟩ ∈ et_Ts := et_in (List.mem_append_right _ (List.mem_of_getElem? (i := 835) (by decide +kernel))) (by decide +kernel)
theorem im_TypeLevels_Table_placeOf__I_I : Cond.instanceMethod ⟨"TypeLevels$Table", "placeOf", "(I)I"⟩ ∈ et_Ts := et_in (List.mem_append_right _ (List.mem_of_getElem? (i := 546) (by decide +kernel))) (by decide +kernel)
theorem sl_TypeLevels_Table_placeOf__I_I : Cond.selects "TypeLevels$Table" ⟨"TypeLevels$Table", "placeOf", "(I)I"⟩ ⟨"TypeLevels$Table", "placeOf", "(I)I"⟩ ∈ et_Ts := et_in (List.mem_append_right _ (List.mem_of_getElem? (i := 547) (by decide +kernel))) (by decide +kernel)
theorem cd_X9_clear : Cond.code yX9_clear cX9_clear 1 none ∈ et_Ts := et_in (List.mem_append_right _ (List.mem_of_getElem? (i := 768) (by decide +kernel))) (by decide +kernel)
theorem ca_X9_clear : ev_cal et_Ts yX9_clear cX9_clear 1 none 0 := ⟨cd_X9_clear, in_TypeLevels_Told, by decide +kernel, ⟨by decide +kernel, by decide +kernel⟩, by decide, by decide +kernel⟩
theorem ml_X10_198 : Cond.methodLink "TypeLevels" 198 ⟨"TypeLevels$Told", "clear", "()V"⟩ ∈ et_Ts := et_in (List.mem_append_right _ (List.mem_of_getElem? (i := 765) (by decide +kernel))) (by decide +kernel)
theorem im_TypeLevels_Told_clear___V : Cond.instanceMethod ⟨"TypeLevels$Told", "clear", "()V"⟩ ∈ et_Ts := et_in (List.mem_append_right _ (List.mem_of_getElem? (i := 766) (by decide +kernel))) (by decide +kernel)
theorem sl_TypeLevels_Told_clear___V : Cond.selects "TypeLevels$Told" ⟨"TypeLevels$Told", "clear", "()V"⟩ ⟨"TypeLevels$Told", "clear", "()V"⟩ ∈ et_Ts := et_in (List.mem_append_right _ (List.mem_of_getElem? (i := 767) (by decide +kernel))) (by decide +kernel)
theorem cd_J6_bitCount_0f7a4 : Cond.code yJ6_bitCount_0f7a4 cJ6_bitCount_0f7a4 1 (some .int) ∈ et_Ts := et_in (List.mem_append_right _ (List.mem_of_getElem? (i := 1259) (by decide +kernel))) (by decide +kernel)
theorem in_java_lang_Integer : Cond.initialized "java/lang/Integer" ∈ et_Ts := et_in (List.mem_append_right _ (List.mem_of_getElem? (i := 23) (by decide +kernel))) (by decide +kernel)
theorem ca_J6_bitCount_0f7a4 : ev_cal et_Ts yJ6_bitCount_0f7a4 cJ6_bitCount_0f7a4 1 (some .int) 1 := ⟨cd_J6_bitCount_0f7a4, in_java_lang_Integer, by decide +kernel, ⟨by decide +kernel, by decide +kernel⟩, by decide, by decide +kernel⟩
theorem ml_X10_289 : Cond.methodLink "TypeLevels" 289 ⟨"java/lang/Integer", "bitCount", "(I)I"⟩ ∈ et_Ts := et_in (List.mem_append_right _ (List.mem_of_getElem? (i := 1257) (by decide +kernel))) (by decide +kernel)
theorem sm_java_lang_Integer_bitCount__I_I : Cond.static ⟨"java/lang/Integer", "bitCount", "(I)I"⟩ ∈ et_Ts := et_in (List.mem_append_right _ (List.mem_of_getElem? (i := 1258) (by decide +kernel))) (by decide +kernel)
theorem cd_X9_add : Cond.code yX9_add cX9_add 2 none ∈ et_Ts := et_in (List.mem_append_right _ (List.mem_of_getElem? (i := 776) (by decide +kernel))) (by decide +kernel)
theorem ca_X9_add : ev_cal et_Ts yX9_add cX9_add 2 none 1 := ⟨cd_X9_add, in_TypeLevels_Told, by decide +kernel, ⟨by decide +kernel, by decide +kernel⟩, by decide, by decide +kernel⟩
theorem ml_X10_205 : Cond.methodLink "TypeLevels" 205 ⟨"TypeLevels$Told", "add", "(I)V"⟩ ∈ et_Ts := et_in (List.mem_append_right _ (List.mem_of_getElem? (i := 773) (by decide +kernel))) (by decide +kernel)
theorem im_TypeLevels_Told_add__I_V : Cond.instanceMethod ⟨"TypeLevels$Told", "add", "(I)V"⟩ ∈ et_Ts := et_in (List.mem_append_right _ (List.mem_of_getElem? (i := 774) (by decide +kernel))) (by decide +kernel)
theorem sl_TypeLevels_Told_add__I_V : Cond.selects "TypeLevels$Told" ⟨"TypeLevels$Told", "add", "(I)V"⟩ ⟨"TypeLevels$Told", "add", "(I)V"⟩ ∈ et_Ts := et_in (List.mem_append_right _ (List.mem_of_getElem? (i := 775) (by decide +kernel))) (by decide +kernel)
theorem cd_X3_clear : Cond.code yX3_clear cX3_clear 1 none ∈ et_Ts := et_in (List.mem_append_right _ (List.mem_of_getElem? (i := 1217) (by decide +kernel))) (by decide +kernel)
theorem ca_X3_clear : ev_cal et_Ts yX3_clear cX3_clear 1 none 0 := ⟨cd_X3_clear, in_TypeLevels_Heard, by decide +kernel, ⟨by decide +kernel, by decide +kernel⟩, by decide, by decide +kernel⟩
theorem ml_X10_286 : Cond.methodLink "TypeLevels" 286 ⟨"TypeLevels$Heard", "clear", "()V"⟩ ∈ et_Ts := et_in (List.mem_append_right _ (List.mem_of_getElem? (i := 1214) (by decide +kernel))) (by decide +kernel)
theorem im_TypeLevels_Heard_clear___V : Cond.instanceMethod ⟨"TypeLevels$Heard", "clear", "()V"⟩ ∈ et_Ts := et_in (List.mem_append_right _ (List.mem_of_getElem? (i := 1215) (by decide +kernel))) (by decide +kernel)
theorem sl_TypeLevels_Heard_clear___V : Cond.selects "TypeLevels$Heard" ⟨"TypeLevels$Heard", "clear", "()V"⟩ ⟨"TypeLevels$Heard", "clear", "()V"⟩ ∈ et_Ts := et_in (List.mem_append_right _ (List.mem_of_getElem? (i := 1216) (by decide +kernel))) (by decide +kernel)
theorem cd_X3_add : Cond.code yX3_add cX3_add 3 (some .boolean) ∈ et_Ts := et_in (List.mem_append_right _ (List.mem_of_getElem? (i := 1200) (by decide +kernel))) (by decide +kernel)
theorem ca_X3_add : ev_cal et_Ts yX3_add cX3_add 3 (some .boolean) 2 := ⟨cd_X3_add, in_TypeLevels_Heard, by decide +kernel, ⟨by decide +kernel, by decide +kernel⟩, by decide, by decide +kernel⟩
theorem ml_X10_283 : Cond.methodLink "TypeLevels" 283 ⟨"TypeLevels$Heard", "add", "(II)Z"⟩ ∈ et_Ts := et_in (List.mem_append_right _ (List.mem_of_getElem? (i := 1197) (by decide +kernel))) (by decide +kernel)
theorem im_TypeLevels_Heard_add__II_Z : Cond.instanceMethod ⟨"TypeLevels$Heard", "add", "(II)Z"⟩ ∈ et_Ts := et_in (List.mem_append_right _ (List.mem_of_getElem? (i := 1198) (by decide +kernel))) (by decide +kernel)
theorem sl_TypeLevels_Heard_add__II_Z : Cond.selects "TypeLevels$Heard" ⟨"TypeLevels$Heard", "add", "(II)Z"⟩ ⟨"TypeLevels$Heard", "add", "(II)Z"⟩ ∈ et_Ts := et_in (List.mem_append_right _ (List.mem_of_getElem? (i := 1199) (by decide +kernel))) (by decide +kernel)
theorem ml_X10_1 : Cond.methodLink "TypeLevels" 1 ⟨"java/lang/Object", "<init>", "()V"⟩ ∈ et_Ts := et_in (List.mem_append_right _ (List.mem_of_getElem? (i := 29) (by decide +kernel))) (by decide +kernel)
theorem fl_X10_9 : Cond.fieldLink "TypeLevels" 9 "TypeLevels" "text" "[I" ∈ et_Ts := et_in (List.mem_append_right _ (List.mem_of_getElem? (i := 371) (by decide +kernel))) (by decide +kernel)
theorem fl_X10_20 : Cond.fieldLink "TypeLevels" 20 "TypeLevels" "asked" "[I" ∈ et_Ts := et_in (List.mem_append_right _ (List.mem_of_getElem? (i := 374) (by decide +kernel))) (by decide +kernel)
theorem cl_X10_23 : Cond.classLink "TypeLevels" 23 "TypeLevels$Told" ∈ et_Ts := et_in (List.mem_append_right _ (List.mem_of_getElem? (i := 32) (by decide +kernel))) (by decide +kernel)
theorem nt_X9 : Cond.instantiable "TypeLevels$Told" 2 ∈ et_Ts := et_in (List.mem_append_right _ (List.mem_of_getElem? (i := 33) (by decide +kernel))) (by decide +kernel)
theorem cd_X9_init : Cond.code yX9_init cX9_init 1 none ∈ et_Ts := et_in (List.mem_append_right _ (List.mem_of_getElem? (i := 36) (by decide +kernel))) (by decide +kernel)
theorem ca_X9_init : ev_cal et_Ts yX9_init cX9_init 1 none 0 := ⟨cd_X9_init, in_TypeLevels_Told, by decide +kernel, ⟨by decide +kernel, by decide +kernel⟩, by decide, by decide +kernel⟩
theorem im_TypeLevels_Told__init____V : Cond.instanceMethod ⟨"TypeLevels$Told", "<init>", "()V"⟩ ∈ et_Ts := et_in (List.mem_append_right _ (List.mem_of_getElem? (i := 35) (by decide +kernel))) (by decide +kernel)
theorem cl_X10_30 : Cond.classLink "TypeLevels" 30 "TypeLevels$Code" ∈ et_Ts := et_in (List.mem_append_right _ (List.mem_of_getElem? (i := 46) (by decide +kernel))) (by decide +kernel)
theorem nt_X1 : Cond.instantiable "TypeLevels$Code" 6 ∈ et_Ts := et_in (List.mem_append_right _ (List.mem_of_getElem? (i := 47) (by decide +kernel))) (by decide +kernel)
theorem in_TypeLevels_Code : Cond.initialized "TypeLevels$Code" ∈ et_Ts := et_in (List.mem_append_right _ (List.mem_of_getElem? (i := 3) (by decide +kernel))) (by decide +kernel)
theorem cd_X1_init : Cond.code yX1_init cX1_init 1 none ∈ et_Ts := et_in (List.mem_append_right _ (List.mem_of_getElem? (i := 50) (by decide +kernel))) (by decide +kernel)
theorem ca_X1_init : ev_cal et_Ts yX1_init cX1_init 1 none 0 := ⟨cd_X1_init, in_TypeLevels_Code, by decide +kernel, ⟨by decide +kernel, by decide +kernel⟩, by decide, by decide +kernel⟩
theorem im_TypeLevels_Code__init____V : Cond.instanceMethod ⟨"TypeLevels$Code", "<init>", "()V"⟩ ∈ et_Ts := et_in (List.mem_append_right _ (List.mem_of_getElem? (i := 49) (by decide +kernel))) (by decide +kernel)
theorem fl_X10_33 : Cond.fieldLink "TypeLevels" 33 "TypeLevels" "code" "LTypeLevels$Code;" ∈ et_Ts := et_in (List.mem_append_right _ (List.mem_of_getElem? (i := 376) (by decide +kernel))) (by decide +kernel)
theorem cl_X10_37 : Cond.classLink "TypeLevels" 37 "TypeLevels$Reader" ∈ et_Ts := et_in (List.mem_append_right _ (List.mem_of_getElem? (i := 71) (by decide +kernel))) (by decide +kernel)
theorem nt_X6 : Cond.instantiable "TypeLevels$Reader" 6 ∈ et_Ts := et_in (List.mem_append_right _ (List.mem_of_getElem? (i := 72) (by decide +kernel))) (by decide +kernel)
theorem in_TypeLevels_Reader : Cond.initialized "TypeLevels$Reader" ∈ et_Ts := et_in (List.mem_append_right _ (List.mem_of_getElem? (i := 4) (by decide +kernel))) (by decide +kernel)
theorem cd_X6_init : Cond.code yX6_init cX6_init 2 none ∈ et_Ts := et_in (List.mem_append_right _ (List.mem_of_getElem? (i := 75) (by decide +kernel))) (by decide +kernel)
theorem ca_X6_init : ev_cal et_Ts yX6_init cX6_init 2 none 1 := ⟨cd_X6_init, in_TypeLevels_Reader, by decide +kernel, ⟨by decide +kernel, by decide +kernel⟩, by decide, by decide +kernel⟩
theorem ml_X10_39 : Cond.methodLink "TypeLevels" 39 ⟨"TypeLevels$Reader", "<init>", "(LTypeLevels$Code;)V"⟩ ∈ et_Ts := et_in (List.mem_append_right _ (List.mem_of_getElem? (i := 73) (by decide +kernel))) (by decide +kernel)
theorem im_TypeLevels_Reader__init___LTypeLevels_Code__V : Cond.instanceMethod ⟨"TypeLevels$Reader", "<init>", "(LTypeLevels$Code;)V"⟩ ∈ et_Ts := et_in (List.mem_append_right _ (List.mem_of_getElem? (i := 74) (by decide +kernel))) (by decide +kernel)
theorem fl_X10_42 : Cond.fieldLink "TypeLevels" 42 "TypeLevels" "reader" "LTypeLevels$Reader;" ∈ et_Ts := et_in (List.mem_append_right _ (List.mem_of_getElem? (i := 377) (by decide +kernel))) (by decide +kernel)
theorem cl_X10_46 : Cond.classLink "TypeLevels" 46 "TypeLevels$Store" ∈ et_Ts := et_in (List.mem_append_right _ (List.mem_of_getElem? (i := 96) (by decide +kernel))) (by decide +kernel)
theorem nt_X7 : Cond.instantiable "TypeLevels$Store" 20 ∈ et_Ts := et_in (List.mem_append_right _ (List.mem_of_getElem? (i := 97) (by decide +kernel))) (by decide +kernel)
theorem in_TypeLevels_Store : Cond.initialized "TypeLevels$Store" ∈ et_Ts := et_in (List.mem_append_right _ (List.mem_of_getElem? (i := 5) (by decide +kernel))) (by decide +kernel)
theorem cd_X7_init : Cond.code yX7_init cX7_init 1 none ∈ et_Ts := et_in (List.mem_append_right _ (List.mem_of_getElem? (i := 100) (by decide +kernel))) (by decide +kernel)
theorem ca_X7_init : ev_cal et_Ts yX7_init cX7_init 1 none 0 := ⟨cd_X7_init, in_TypeLevels_Store, by decide +kernel, ⟨by decide +kernel, by decide +kernel⟩, by decide, by decide +kernel⟩
theorem im_TypeLevels_Store__init____V : Cond.instanceMethod ⟨"TypeLevels$Store", "<init>", "()V"⟩ ∈ et_Ts := et_in (List.mem_append_right _ (List.mem_of_getElem? (i := 99) (by decide +kernel))) (by decide +kernel)
theorem fl_X10_49 : Cond.fieldLink "TypeLevels" 49 "TypeLevels" "store" "LTypeLevels$Store;" ∈ et_Ts := et_in (List.mem_append_right _ (List.mem_of_getElem? (i := 378) (by decide +kernel))) (by decide +kernel)
theorem cl_X10_53 : Cond.classLink "TypeLevels" 53 "TypeLevels$Table" ∈ et_Ts := et_in (List.mem_append_right _ (List.mem_of_getElem? (i := 163) (by decide +kernel))) (by decide +kernel)
theorem nt_X8 : Cond.instantiable "TypeLevels$Table" 12 ∈ et_Ts := et_in (List.mem_append_right _ (List.mem_of_getElem? (i := 164) (by decide +kernel))) (by decide +kernel)
theorem cd_X8_init : Cond.code yX8_init cX8_init 3 none ∈ et_Ts := et_in (List.mem_append_right _ (List.mem_of_getElem? (i := 167) (by decide +kernel))) (by decide +kernel)
theorem ca_X8_init : ev_cal et_Ts yX8_init cX8_init 3 none 1 := ⟨cd_X8_init, in_TypeLevels_Table, by decide +kernel, ⟨by decide +kernel, by decide +kernel⟩, by decide, by decide +kernel⟩
theorem ml_X10_55 : Cond.methodLink "TypeLevels" 55 ⟨"TypeLevels$Table", "<init>", "(LTypeLevels$Store;)V"⟩ ∈ et_Ts := et_in (List.mem_append_right _ (List.mem_of_getElem? (i := 165) (by decide +kernel))) (by decide +kernel)
theorem im_TypeLevels_Table__init___LTypeLevels_Store__V : Cond.instanceMethod ⟨"TypeLevels$Table", "<init>", "(LTypeLevels$Store;)V"⟩ ∈ et_Ts := et_in (List.mem_append_right _ (List.mem_of_getElem? (i := 166) (by decide +kernel))) (by decide +kernel)
theorem fl_X10_62 : Cond.fieldLink "TypeLevels" 62 "TypeLevels" "trial" "LTypeLevels$Table;" ∈ et_Ts := et_in (List.mem_append_right _ (List.mem_of_getElem? (i := 380) (by decide +kernel))) (by decide +kernel)
theorem cl_X10_65 : Cond.classLink "TypeLevels" 65 "TypeLevels$Finder" ∈ et_Ts := et_in (List.mem_append_right _ (List.mem_of_getElem? (i := 206) (by decide +kernel))) (by decide +kernel)
theorem nt_X2 : Cond.instantiable "TypeLevels$Finder" 18 ∈ et_Ts := et_in (List.mem_append_right _ (List.mem_of_getElem? (i := 207) (by decide +kernel))) (by decide +kernel)
theorem in_TypeLevels_Finder : Cond.initialized "TypeLevels$Finder" ∈ et_Ts := et_in (List.mem_append_right _ (List.mem_of_getElem? (i := 7) (by decide +kernel))) (by decide +kernel)
theorem cd_X2_init : Cond.code yX2_init cX2_init 4 none ∈ et_Ts := et_in (List.mem_append_right _ (List.mem_of_getElem? (i := 210) (by decide +kernel))) (by decide +kernel)
theorem ca_X2_init : ev_cal et_Ts yX2_init cX2_init 4 none 3 := ⟨cd_X2_init, in_TypeLevels_Finder, by decide +kernel, ⟨by decide +kernel, by decide +kernel⟩, by decide, by decide +kernel⟩
theorem ml_X10_67 : Cond.methodLink "TypeLevels" 67 ⟨"TypeLevels$Finder", "<init>", "(LTypeLevels$Store;LTypeLevels$Code;LTypeLevels$Table;)V"⟩ ∈ et_Ts := et_in (List.mem_append_right _ (List.mem_of_getElem? (i := 208) (by decide +kernel))) (by decide +kernel)
theorem im_TypeLevels_Finder__init___LTypeLevels_Store_LTypeLevels_Code_LTypeLevels_Table__V : Cond.instanceMethod ⟨"TypeLevels$Finder", "<init>", "(LTypeLevels$Store;LTypeLevels$Code;LTypeLevels$Table;)V"⟩ ∈ et_Ts := et_in (List.mem_append_right _ (List.mem_of_getElem? (i := 209) (by decide +kernel))) (by decide +kernel)
theorem fl_X10_70 : Cond.fieldLink "TypeLevels" 70 "TypeLevels" "finder" "LTypeLevels$Finder;" ∈ et_Ts := et_in (List.mem_append_right _ (List.mem_of_getElem? (i := 381) (by decide +kernel))) (by decide +kernel)
theorem cl_X10_74 : Cond.classLink "TypeLevels" 74 "TypeLevels$Machine" ∈ et_Ts := et_in (List.mem_append_right _ (List.mem_of_getElem? (i := 268) (by decide +kernel))) (by decide +kernel)
theorem nt_X4 : Cond.instantiable "TypeLevels$Machine" 15 ∈ et_Ts := et_in (List.mem_append_right _ (List.mem_of_getElem? (i := 269) (by decide +kernel))) (by decide +kernel)
theorem in_TypeLevels_Machine : Cond.initialized "TypeLevels$Machine" ∈ et_Ts := et_in (List.mem_append_right _ (List.mem_of_getElem? (i := 8) (by decide +kernel))) (by decide +kernel)
theorem cd_X4_init : Cond.code yX4_init cX4_init 2 none ∈ et_Ts := et_in (List.mem_append_right _ (List.mem_of_getElem? (i := 272) (by decide +kernel))) (by decide +kernel)
theorem ca_X4_init : ev_cal et_Ts yX4_init cX4_init 2 none 1 := ⟨cd_X4_init, in_TypeLevels_Machine, by decide +kernel, ⟨by decide +kernel, by decide +kernel⟩, by decide, by decide +kernel⟩
theorem ml_X10_76 : Cond.methodLink "TypeLevels" 76 ⟨"TypeLevels$Machine", "<init>", "(LTypeLevels$Code;)V"⟩ ∈ et_Ts := et_in (List.mem_append_right _ (List.mem_of_getElem? (i := 270) (by decide +kernel))) (by decide +kernel)
theorem im_TypeLevels_Machine__init___LTypeLevels_Code__V : Cond.instanceMethod ⟨"TypeLevels$Machine", "<init>", "(LTypeLevels$Code;)V"⟩ ∈ et_Ts := et_in (List.mem_append_right _ (List.mem_of_getElem? (i := 271) (by decide +kernel))) (by decide +kernel)
theorem fl_X10_77 : Cond.fieldLink "TypeLevels" 77 "TypeLevels" "machine" "LTypeLevels$Machine;" ∈ et_Ts := et_in (List.mem_append_right _ (List.mem_of_getElem? (i := 382) (by decide +kernel))) (by decide +kernel)
theorem cl_X10_81 : Cond.classLink "TypeLevels" 81 "TypeLevels$Past" ∈ et_Ts := et_in (List.mem_append_right _ (List.mem_of_getElem? (i := 320) (by decide +kernel))) (by decide +kernel)
theorem nt_X5 : Cond.instantiable "TypeLevels$Past" 3 ∈ et_Ts := et_in (List.mem_append_right _ (List.mem_of_getElem? (i := 321) (by decide +kernel))) (by decide +kernel)
theorem cd_X5_init : Cond.code yX5_init cX5_init 1 none ∈ et_Ts := et_in (List.mem_append_right _ (List.mem_of_getElem? (i := 324) (by decide +kernel))) (by decide +kernel)
theorem ca_X5_init : ev_cal et_Ts yX5_init cX5_init 1 none 0 := ⟨cd_X5_init, in_TypeLevels_Past, by decide +kernel, ⟨by decide +kernel, by decide +kernel⟩, by decide, by decide +kernel⟩
theorem im_TypeLevels_Past__init____V : Cond.instanceMethod ⟨"TypeLevels$Past", "<init>", "()V"⟩ ∈ et_Ts := et_in (List.mem_append_right _ (List.mem_of_getElem? (i := 323) (by decide +kernel))) (by decide +kernel)
theorem cl_X10_88 : Cond.classLink "TypeLevels" 88 "TypeLevels$Heard" ∈ et_Ts := et_in (List.mem_append_right _ (List.mem_of_getElem? (i := 336) (by decide +kernel))) (by decide +kernel)
theorem nt_X3 : Cond.instantiable "TypeLevels$Heard" 3 ∈ et_Ts := et_in (List.mem_append_right _ (List.mem_of_getElem? (i := 337) (by decide +kernel))) (by decide +kernel)
theorem cd_X3_init : Cond.code yX3_init cX3_init 1 none ∈ et_Ts := et_in (List.mem_append_right _ (List.mem_of_getElem? (i := 340) (by decide +kernel))) (by decide +kernel)
theorem ca_X3_init : ev_cal et_Ts yX3_init cX3_init 1 none 0 := ⟨cd_X3_init, in_TypeLevels_Heard, by decide +kernel, ⟨by decide +kernel, by decide +kernel⟩, by decide, by decide +kernel⟩
theorem im_TypeLevels_Heard__init____V : Cond.instanceMethod ⟨"TypeLevels$Heard", "<init>", "()V"⟩ ∈ et_Ts := et_in (List.mem_append_right _ (List.mem_of_getElem? (i := 339) (by decide +kernel))) (by decide +kernel)
theorem cl_X10_95 : Cond.classLink "TypeLevels" 95 "TypeLevels$Among" ∈ et_Ts := et_in (List.mem_append_right _ (List.mem_of_getElem? (i := 352) (by decide +kernel))) (by decide +kernel)
theorem nt_X0 : Cond.instantiable "TypeLevels$Among" 4 ∈ et_Ts := et_in (List.mem_append_right _ (List.mem_of_getElem? (i := 353) (by decide +kernel))) (by decide +kernel)
theorem in_TypeLevels_Among : Cond.initialized "TypeLevels$Among" ∈ et_Ts := et_in (List.mem_append_right _ (List.mem_of_getElem? (i := 11) (by decide +kernel))) (by decide +kernel)
theorem cd_X0_init : Cond.code yX0_init cX0_init 3 none ∈ et_Ts := et_in (List.mem_append_right _ (List.mem_of_getElem? (i := 356) (by decide +kernel))) (by decide +kernel)
theorem ca_X0_init : ev_cal et_Ts yX0_init cX0_init 3 none 2 := ⟨cd_X0_init, in_TypeLevels_Among, by decide +kernel, ⟨by decide +kernel, by decide +kernel⟩, by decide, by decide +kernel⟩
theorem ml_X10_97 : Cond.methodLink "TypeLevels" 97 ⟨"TypeLevels$Among", "<init>", "(LTypeLevels$Store;LTypeLevels$Table;)V"⟩ ∈ et_Ts := et_in (List.mem_append_right _ (List.mem_of_getElem? (i := 354) (by decide +kernel))) (by decide +kernel)
theorem im_TypeLevels_Among__init___LTypeLevels_Store_LTypeLevels_Table__V : Cond.instanceMethod ⟨"TypeLevels$Among", "<init>", "(LTypeLevels$Store;LTypeLevels$Table;)V"⟩ ∈ et_Ts := et_in (List.mem_append_right _ (List.mem_of_getElem? (i := 355) (by decide +kernel))) (by decide +kernel)
theorem fl_X10_100 : Cond.fieldLink "TypeLevels" 100 "TypeLevels" "among" "LTypeLevels$Among;" ∈ et_Ts := et_in (List.mem_append_right _ (List.mem_of_getElem? (i := 385) (by decide +kernel))) (by decide +kernel)
theorem cd_X8_clear : Cond.code yX8_clear cX8_clear 1 none ∈ et_Ts := et_in (List.mem_append_right _ (List.mem_of_getElem? (i := 1281) (by decide +kernel))) (by decide +kernel)
theorem ca_X8_clear : ev_cal et_Ts yX8_clear cX8_clear 1 none 0 := ⟨cd_X8_clear, in_TypeLevels_Table, by decide +kernel, ⟨by decide +kernel, by decide +kernel⟩, by decide, by decide +kernel⟩
theorem ml_X10_300 : Cond.methodLink "TypeLevels" 300 ⟨"TypeLevels$Table", "clear", "()V"⟩ ∈ et_Ts := et_in (List.mem_append_right _ (List.mem_of_getElem? (i := 1278) (by decide +kernel))) (by decide +kernel)
theorem im_TypeLevels_Table_clear___V : Cond.instanceMethod ⟨"TypeLevels$Table", "clear", "()V"⟩ ∈ et_Ts := et_in (List.mem_append_right _ (List.mem_of_getElem? (i := 1279) (by decide +kernel))) (by decide +kernel)
theorem sl_TypeLevels_Table_clear___V : Cond.selects "TypeLevels$Table" ⟨"TypeLevels$Table", "clear", "()V"⟩ ⟨"TypeLevels$Table", "clear", "()V"⟩ ∈ et_Ts := et_in (List.mem_append_right _ (List.mem_of_getElem? (i := 1280) (by decide +kernel))) (by decide +kernel)
theorem cd_X5_keep : Cond.code yX5_keep cX5_keep 3 none ∈ et_Ts := et_in (List.mem_append_right _ (List.mem_of_getElem? (i := 813) (by decide +kernel))) (by decide +kernel)
theorem ca_X5_keep : ev_cal et_Ts yX5_keep cX5_keep 3 none 2 := ⟨cd_X5_keep, in_TypeLevels_Past, by decide +kernel, ⟨by decide +kernel, by decide +kernel⟩, by decide, by decide +kernel⟩
theorem ml_X10_131 : Cond.methodLink "TypeLevels" 131 ⟨"TypeLevels$Past", "keep", "(LTypeLevels$Table;I)V"⟩ ∈ et_Ts := et_in (List.mem_append_right _ (List.mem_of_getElem? (i := 810) (by decide +kernel))) (by decide +kernel)
theorem im_TypeLevels_Past_keep__LTypeLevels_Table_I_V : Cond.instanceMethod ⟨"TypeLevels$Past", "keep", "(LTypeLevels$Table;I)V"⟩ ∈ et_Ts := et_in (List.mem_append_right _ (List.mem_of_getElem? (i := 811) (by decide +kernel))) (by decide +kernel)
theorem sl_TypeLevels_Past_keep__LTypeLevels_Table_I_V : Cond.selects "TypeLevels$Past" ⟨"TypeLevels$Past", "keep", "(LTypeLevels$Table;I)V"⟩ ⟨"TypeLevels$Past", "keep", "(LTypeLevels$Table;I)V"⟩ ∈ et_Ts := et_in (List.mem_append_right _ (List.mem_of_getElem? (i := 812) (by decide +kernel))) (by decide +kernel)
theorem cd_X6_read : Cond.code yX6_read cX6_read 6 (some .int) ∈ et_Ts := et_in (List.mem_append_right _ (List.mem_of_getElem? (i := 436) (by decide +kernel))) (by decide +kernel)
theorem ca_X6_read : ev_cal et_Ts yX6_read cX6_read 6 (some .int) 5 := ⟨cd_X6_read, in_TypeLevels_Reader, by decide +kernel, ⟨by decide +kernel, by decide +kernel⟩, by decide, by decide +kernel⟩
theorem ml_X10_320 : Cond.methodLink "TypeLevels" 320 ⟨"TypeLevels$Reader", "read", "([IIIIZ)I"⟩ ∈ et_Ts := et_in (List.mem_append_right _ (List.mem_of_getElem? (i := 433) (by decide +kernel))) (by decide +kernel)
theorem im_TypeLevels_Reader_read___IIIIZ_I : Cond.instanceMethod ⟨"TypeLevels$Reader", "read", "([IIIIZ)I"⟩ ∈ et_Ts := et_in (List.mem_append_right _ (List.mem_of_getElem? (i := 434) (by decide +kernel))) (by decide +kernel)
theorem sl_TypeLevels_Reader_read___IIIIZ_I : Cond.selects "TypeLevels$Reader" ⟨"TypeLevels$Reader", "read", "([IIIIZ)I"⟩ ⟨"TypeLevels$Reader", "read", "([IIIIZ)I"⟩ ∈ et_Ts := et_in (List.mem_append_right _ (List.mem_of_getElem? (i := 435) (by decide +kernel))) (by decide +kernel)
theorem fl_X11_135 : Cond.fieldLink "TypeLevelsModel" 135 "TypeLevelsModel" "thrown" "I" ∈ et_Ts := et_in (List.mem_append_right _ (List.mem_of_getElem? (i := 1412) (by decide +kernel))) (by decide +kernel)
theorem cd_X11_isName : Cond.code yX11_isName cX11_isName 2 (some .boolean) ∈ et_Ts := et_in (List.mem_append_right _ (List.mem_of_getElem? (i := 1905) (by decide +kernel))) (by decide +kernel)
theorem in_TypeLevelsModel : Cond.initialized "TypeLevelsModel" ∈ et_Ts := et_in (List.mem_append_right _ (List.mem_of_getElem? (i := 12) (by decide +kernel))) (by decide +kernel)
theorem ca_X11_isName : ev_cal et_Ts yX11_isName cX11_isName 2 (some .boolean) 1 := ⟨cd_X11_isName, in_TypeLevelsModel, by decide +kernel, ⟨by decide +kernel, by decide +kernel⟩, by decide, by decide +kernel⟩
theorem ml_X11_427 : Cond.methodLink "TypeLevelsModel" 427 ⟨"TypeLevelsModel", "isName", "(I)Z"⟩ ∈ et_Ts := et_in (List.mem_append_right _ (List.mem_of_getElem? (i := 1902) (by decide +kernel))) (by decide +kernel)
theorem im_TypeLevelsModel_isName__I_Z : Cond.instanceMethod ⟨"TypeLevelsModel", "isName", "(I)Z"⟩ ∈ et_Ts := et_in (List.mem_append_right _ (List.mem_of_getElem? (i := 1904) (by decide +kernel))) (by decide +kernel)
theorem sl_TypeLevelsModel_isName__I_Z : Cond.selects "TypeLevelsModel" ⟨"TypeLevelsModel", "isName", "(I)Z"⟩ ⟨"TypeLevelsModel", "isName", "(I)Z"⟩ ∈ et_Ts := et_in (List.mem_append_left _ (List.mem_of_getElem? (i := 146) (by decide +kernel))) (by decide +kernel)
theorem cd_X11_fitting : Cond.code yX11_fitting cX11_fitting 5 (some .int) ∈ et_Ts := et_in (List.mem_append_right _ (List.mem_of_getElem? (i := 2143) (by decide +kernel))) (by decide +kernel)
theorem ca_X11_fitting : ev_cal et_Ts yX11_fitting cX11_fitting 5 (some .int) 0 := ⟨cd_X11_fitting, in_TypeLevelsModel, by decide +kernel, ⟨by decide +kernel, by decide +kernel⟩, by decide, by decide +kernel⟩
theorem ml_X11_557 : Cond.methodLink "TypeLevelsModel" 557 ⟨"TypeLevelsModel", "fitting", "()I"⟩ ∈ et_Ts := et_in (List.mem_append_right _ (List.mem_of_getElem? (i := 2140) (by decide +kernel))) (by decide +kernel)
theorem im_TypeLevelsModel_fitting___I : Cond.instanceMethod ⟨"TypeLevelsModel", "fitting", "()I"⟩ ∈ et_Ts := et_in (List.mem_append_right _ (List.mem_of_getElem? (i := 2142) (by decide +kernel))) (by decide +kernel)
theorem sl_TypeLevelsModel_fitting___I : Cond.selects "TypeLevelsModel" ⟨"TypeLevelsModel", "fitting", "()I"⟩ ⟨"TypeLevelsModel", "fitting", "()I"⟩ ∈ et_Ts := et_in (List.mem_append_left _ (List.mem_of_getElem? (i := 169) (by decide +kernel))) (by decide +kernel)
theorem fl_X11_153 : Cond.fieldLink "TypeLevelsModel" 153 "TypeLevelsModel" "read" "[B" ∈ et_Ts := et_in (List.mem_append_right _ (List.mem_of_getElem? (i := 1413) (by decide +kernel))) (by decide +kernel)
theorem fl_X11_156 : Cond.fieldLink "TypeLevelsModel" 156 "TypeLevelsModel" "length" "I" ∈ et_Ts := et_in (List.mem_append_right _ (List.mem_of_getElem? (i := 1414) (by decide +kernel))) (by decide +kernel)
theorem fl_X11_159 : Cond.fieldLink "TypeLevelsModel" 159 "TypeLevelsModel" "top" "I" ∈ et_Ts := et_in (List.mem_append_right _ (List.mem_of_getElem? (i := 1415) (by decide +kernel))) (by decide +kernel)
theorem fl_X11_162 : Cond.fieldLink "TypeLevelsModel" 162 "TypeLevelsModel" "at" "I" ∈ et_Ts := et_in (List.mem_append_right _ (List.mem_of_getElem? (i := 1416) (by decide +kernel))) (by decide +kernel)
theorem fl_X11_165 : Cond.fieldLink "TypeLevelsModel" 165 "TypeLevelsModel" "wrong" "I" ∈ et_Ts := et_in (List.mem_append_right _ (List.mem_of_getElem? (i := 1417) (by decide +kernel))) (by decide +kernel)
theorem fl_X11_13 : Cond.fieldLink "TypeLevelsModel" 13 "TypeLevelsModel" "text" "[B" ∈ et_Ts := et_in (List.mem_append_right _ (List.mem_of_getElem? (i := 1408) (by decide +kernel))) (by decide +kernel)
theorem fl_X11_150 : Cond.fieldLink "TypeLevelsModel" 150 "TypeLevelsModel" "typed" "I" ∈ et_Ts := et_in (List.mem_append_right _ (List.mem_of_getElem? (i := 1409) (by decide +kernel))) (by decide +kernel)
theorem cd_X11_begin : Cond.code yX11_begin cX11_begin 4 none ∈ et_Ts := et_in (List.mem_append_right _ (List.mem_of_getElem? (i := 1663) (by decide +kernel))) (by decide +kernel)
theorem ca_X11_begin : ev_cal et_Ts yX11_begin cX11_begin 4 none 3 := ⟨cd_X11_begin, in_TypeLevelsModel, by decide +kernel, ⟨by decide +kernel, by decide +kernel⟩, by decide, by decide +kernel⟩
theorem ml_X11_168 : Cond.methodLink "TypeLevelsModel" 168 ⟨"TypeLevelsModel", "begin", "([BII)V"⟩ ∈ et_Ts := et_in (List.mem_append_right _ (List.mem_of_getElem? (i := 1660) (by decide +kernel))) (by decide +kernel)
theorem im_TypeLevelsModel_begin___BII_V : Cond.instanceMethod ⟨"TypeLevelsModel", "begin", "([BII)V"⟩ ∈ et_Ts := et_in (List.mem_append_right _ (List.mem_of_getElem? (i := 1662) (by decide +kernel))) (by decide +kernel)
theorem sl_TypeLevelsModel_begin___BII_V : Cond.selects "TypeLevelsModel" ⟨"TypeLevelsModel", "begin", "([BII)V"⟩ ⟨"TypeLevelsModel", "begin", "([BII)V"⟩ ∈ et_Ts := et_in (List.mem_append_left _ (List.mem_of_getElem? (i := 91) (by decide +kernel))) (by decide +kernel)
theorem cd_X11_readText : Cond.code yX11_readText cX11_readText 3 (some .int) ∈ et_Ts := et_in (List.mem_append_right _ (List.mem_of_getElem? (i := 1930) (by decide +kernel))) (by decide +kernel)
theorem ca_X11_readText : ev_cal et_Ts yX11_readText cX11_readText 3 (some .int) 1 := ⟨cd_X11_readText, in_TypeLevelsModel, by decide +kernel, ⟨by decide +kernel, by decide +kernel⟩, by decide, by decide +kernel⟩
theorem ml_X11_443 : Cond.methodLink "TypeLevelsModel" 443 ⟨"TypeLevelsModel", "readText", "(Z)I"⟩ ∈ et_Ts := et_in (List.mem_append_right _ (List.mem_of_getElem? (i := 1927) (by decide +kernel))) (by decide +kernel)
theorem im_TypeLevelsModel_readText__Z_I : Cond.instanceMethod ⟨"TypeLevelsModel", "readText", "(Z)I"⟩ ∈ et_Ts := et_in (List.mem_append_right _ (List.mem_of_getElem? (i := 1929) (by decide +kernel))) (by decide +kernel)
theorem sl_TypeLevelsModel_readText__Z_I : Cond.selects "TypeLevelsModel" ⟨"TypeLevelsModel", "readText", "(Z)I"⟩ ⟨"TypeLevelsModel", "readText", "(Z)I"⟩ ∈ et_Ts := et_in (List.mem_append_left _ (List.mem_of_getElem? (i := 148) (by decide +kernel))) (by decide +kernel)
theorem cd_X11_sum : Cond.code yX11_sum cX11_sum 4 (some .int) ∈ et_Ts := et_in (List.mem_append_right _ (List.mem_of_getElem? (i := 1711) (by decide +kernel))) (by decide +kernel)
theorem ca_X11_sum : ev_cal et_Ts yX11_sum cX11_sum 4 (some .int) 0 := ⟨cd_X11_sum, in_TypeLevelsModel, by decide +kernel, ⟨by decide +kernel, by decide +kernel⟩, by decide, by decide +kernel⟩
theorem ml_X11_219 : Cond.methodLink "TypeLevelsModel" 219 ⟨"TypeLevelsModel", "sum", "()I"⟩ ∈ et_Ts := et_in (List.mem_append_right _ (List.mem_of_getElem? (i := 1708) (by decide +kernel))) (by decide +kernel)
theorem im_TypeLevelsModel_sum___I : Cond.instanceMethod ⟨"TypeLevelsModel", "sum", "()I"⟩ ∈ et_Ts := et_in (List.mem_append_right _ (List.mem_of_getElem? (i := 1710) (by decide +kernel))) (by decide +kernel)
theorem sl_TypeLevelsModel_sum___I : Cond.selects "TypeLevelsModel" ⟨"TypeLevelsModel", "sum", "()I"⟩ ⟨"TypeLevelsModel", "sum", "()I"⟩ ∈ et_Ts := et_in (List.mem_append_left _ (List.mem_of_getElem? (i := 103) (by decide +kernel))) (by decide +kernel)
theorem cd_X11_passes : Cond.code yX11_passes cX11_passes 2 (some .boolean) ∈ et_Ts := et_in (List.mem_append_right _ (List.mem_of_getElem? (i := 1687) (by decide +kernel))) (by decide +kernel)
theorem ca_X11_passes : ev_cal et_Ts yX11_passes cX11_passes 2 (some .boolean) 1 := ⟨cd_X11_passes, in_TypeLevelsModel, by decide +kernel, ⟨by decide +kernel, by decide +kernel⟩, by decide, by decide +kernel⟩
theorem ml_X11_180 : Cond.methodLink "TypeLevelsModel" 180 ⟨"TypeLevelsModel", "passes", "(C)Z"⟩ ∈ et_Ts := et_in (List.mem_append_right _ (List.mem_of_getElem? (i := 1684) (by decide +kernel))) (by decide +kernel)
theorem im_TypeLevelsModel_passes__C_Z : Cond.instanceMethod ⟨"TypeLevelsModel", "passes", "(C)Z"⟩ ∈ et_Ts := et_in (List.mem_append_right _ (List.mem_of_getElem? (i := 1686) (by decide +kernel))) (by decide +kernel)
theorem sl_TypeLevelsModel_passes__C_Z : Cond.selects "TypeLevelsModel" ⟨"TypeLevelsModel", "passes", "(C)Z"⟩ ⟨"TypeLevelsModel", "passes", "(C)Z"⟩ ∈ et_Ts := et_in (List.mem_append_left _ (List.mem_of_getElem? (i := 97) (by decide +kernel))) (by decide +kernel)
theorem cd_X11_names : Cond.code yX11_names cX11_names 3 (some .int) ∈ et_Ts := et_in (List.mem_append_right _ (List.mem_of_getElem? (i := 2165) (by decide +kernel))) (by decide +kernel)
theorem ca_X11_names : ev_cal et_Ts yX11_names cX11_names 3 (some .int) 0 := ⟨cd_X11_names, in_TypeLevelsModel, by decide +kernel, ⟨by decide +kernel, by decide +kernel⟩, by decide, by decide +kernel⟩
theorem ml_X11_566 : Cond.methodLink "TypeLevelsModel" 566 ⟨"TypeLevelsModel", "names", "()I"⟩ ∈ et_Ts := et_in (List.mem_append_right _ (List.mem_of_getElem? (i := 2162) (by decide +kernel))) (by decide +kernel)
theorem im_TypeLevelsModel_names___I : Cond.instanceMethod ⟨"TypeLevelsModel", "names", "()I"⟩ ∈ et_Ts := et_in (List.mem_append_right _ (List.mem_of_getElem? (i := 2164) (by decide +kernel))) (by decide +kernel)
theorem sl_TypeLevelsModel_names___I : Cond.selects "TypeLevelsModel" ⟨"TypeLevelsModel", "names", "()I"⟩ ⟨"TypeLevelsModel", "names", "()I"⟩ ∈ et_Ts := et_in (List.mem_append_left _ (List.mem_of_getElem? (i := 171) (by decide +kernel))) (by decide +kernel)
theorem fl_X11_9 : Cond.fieldLink "TypeLevelsModel" 9 "TypeLevelsModel" "now" "[I" ∈ et_Ts := et_in (List.mem_append_right _ (List.mem_of_getElem? (i := 1407) (by decide +kernel))) (by decide +kernel)
theorem cd_X11_weakOf : Cond.code yX11_weakOf cX11_weakOf 4 (some .int) ∈ et_Ts := et_in (List.mem_append_right _ (List.mem_of_getElem? (i := 1757) (by decide +kernel))) (by decide +kernel)
theorem ca_X11_weakOf : ev_cal et_Ts yX11_weakOf cX11_weakOf 4 (some .int) 1 := ⟨cd_X11_weakOf, in_TypeLevelsModel, by decide +kernel, ⟨by decide +kernel, by decide +kernel⟩, by decide, by decide +kernel⟩
theorem ml_X11_274 : Cond.methodLink "TypeLevelsModel" 274 ⟨"TypeLevelsModel", "weakOf", "([I)I"⟩ ∈ et_Ts := et_in (List.mem_append_right _ (List.mem_of_getElem? (i := 1755) (by decide +kernel))) (by decide +kernel)
theorem sm_TypeLevelsModel_weakOf___I_I : Cond.static ⟨"TypeLevelsModel", "weakOf", "([I)I"⟩ ∈ et_Ts := et_in (List.mem_append_right _ (List.mem_of_getElem? (i := 1756) (by decide +kernel))) (by decide +kernel)
theorem cd_X11_nodesOfAll : Cond.code yX11_nodesOfAll cX11_nodesOfAll 3 (some .int) ∈ et_Ts := et_in (List.mem_append_right _ (List.mem_of_getElem? (i := 2169) (by decide +kernel))) (by decide +kernel)
theorem ca_X11_nodesOfAll : ev_cal et_Ts yX11_nodesOfAll cX11_nodesOfAll 3 (some .int) 0 := ⟨cd_X11_nodesOfAll, in_TypeLevelsModel, by decide +kernel, ⟨by decide +kernel, by decide +kernel⟩, by decide, by decide +kernel⟩
theorem ml_X11_569 : Cond.methodLink "TypeLevelsModel" 569 ⟨"TypeLevelsModel", "nodesOfAll", "()I"⟩ ∈ et_Ts := et_in (List.mem_append_right _ (List.mem_of_getElem? (i := 2166) (by decide +kernel))) (by decide +kernel)
theorem im_TypeLevelsModel_nodesOfAll___I : Cond.instanceMethod ⟨"TypeLevelsModel", "nodesOfAll", "()I"⟩ ∈ et_Ts := et_in (List.mem_append_right _ (List.mem_of_getElem? (i := 2168) (by decide +kernel))) (by decide +kernel)
theorem sl_TypeLevelsModel_nodesOfAll___I : Cond.selects "TypeLevelsModel" ⟨"TypeLevelsModel", "nodesOfAll", "()I"⟩ ⟨"TypeLevelsModel", "nodesOfAll", "()I"⟩ ∈ et_Ts := et_in (List.mem_append_left _ (List.mem_of_getElem? (i := 172) (by decide +kernel))) (by decide +kernel)
theorem fl_X11_551 : Cond.fieldLink "TypeLevelsModel" 551 "TypeLevelsModel" "heardMany" "I" ∈ et_Ts := et_in (List.mem_append_right _ (List.mem_of_getElem? (i := 1482) (by decide +kernel))) (by decide +kernel)
theorem fl_X11_397 : Cond.fieldLink "TypeLevelsModel" 397 "TypeLevelsModel" "undoMany" "I" ∈ et_Ts := et_in (List.mem_append_right _ (List.mem_of_getElem? (i := 1457) (by decide +kernel))) (by decide +kernel)
theorem fl_X11_139 : Cond.fieldLink "TypeLevelsModel" 139 "TypeLevelsModel" "rowMany" "I" ∈ et_Ts := et_in (List.mem_append_right _ (List.mem_of_getElem? (i := 1411) (by decide +kernel))) (by decide +kernel)
theorem cd_X11_beginText : Cond.code yX11_beginText cX11_beginText 2 none ∈ et_Ts := et_in (List.mem_append_right _ (List.mem_of_getElem? (i := 1659) (by decide +kernel))) (by decide +kernel)
theorem ca_X11_beginText : ev_cal et_Ts yX11_beginText cX11_beginText 2 none 1 := ⟨cd_X11_beginText, in_TypeLevelsModel, by decide +kernel, ⟨by decide +kernel, by decide +kernel⟩, by decide, by decide +kernel⟩
theorem ml_X11_400 : Cond.methodLink "TypeLevelsModel" 400 ⟨"TypeLevelsModel", "beginText", "(I)V"⟩ ∈ et_Ts := et_in (List.mem_append_right _ (List.mem_of_getElem? (i := 1656) (by decide +kernel))) (by decide +kernel)
theorem im_TypeLevelsModel_beginText__I_V : Cond.instanceMethod ⟨"TypeLevelsModel", "beginText", "(I)V"⟩ ∈ et_Ts := et_in (List.mem_append_right _ (List.mem_of_getElem? (i := 1658) (by decide +kernel))) (by decide +kernel)
theorem sl_TypeLevelsModel_beginText__I_V : Cond.selects "TypeLevelsModel" ⟨"TypeLevelsModel", "beginText", "(I)V"⟩ ⟨"TypeLevelsModel", "beginText", "(I)V"⟩ ∈ et_Ts := et_in (List.mem_append_left _ (List.mem_of_getElem? (i := 90) (by decide +kernel))) (by decide +kernel)
theorem cd_X11_oneOf : Cond.code yX11_oneOf cX11_oneOf 3 (some .int) ∈ et_Ts := et_in (List.mem_append_right _ (List.mem_of_getElem? (i := 1667) (by decide +kernel))) (by decide +kernel)
theorem ca_X11_oneOf : ev_cal et_Ts yX11_oneOf cX11_oneOf 3 (some .int) 2 := ⟨cd_X11_oneOf, in_TypeLevelsModel, by decide +kernel, ⟨by decide +kernel, by decide +kernel⟩, by decide, by decide +kernel⟩
theorem ml_X11_188 : Cond.methodLink "TypeLevelsModel" 188 ⟨"TypeLevelsModel", "oneOf", "(CI)I"⟩ ∈ et_Ts := et_in (List.mem_append_right _ (List.mem_of_getElem? (i := 1664) (by decide +kernel))) (by decide +kernel)
theorem im_TypeLevelsModel_oneOf__CI_I : Cond.instanceMethod ⟨"TypeLevelsModel", "oneOf", "(CI)I"⟩ ∈ et_Ts := et_in (List.mem_append_right _ (List.mem_of_getElem? (i := 1666) (by decide +kernel))) (by decide +kernel)
theorem sl_TypeLevelsModel_oneOf__CI_I : Cond.selects "TypeLevelsModel" ⟨"TypeLevelsModel", "oneOf", "(CI)I"⟩ ⟨"TypeLevelsModel", "oneOf", "(CI)I"⟩ ∈ et_Ts := et_in (List.mem_append_left _ (List.mem_of_getElem? (i := 92) (by decide +kernel))) (by decide +kernel)
theorem cd_X11_need : Cond.code yX11_need cX11_need 2 none ∈ et_Ts := et_in (List.mem_append_right _ (List.mem_of_getElem? (i := 1683) (by decide +kernel))) (by decide +kernel)
theorem ca_X11_need : ev_cal et_Ts yX11_need cX11_need 2 none 1 := ⟨cd_X11_need, in_TypeLevelsModel, by decide +kernel, ⟨by decide +kernel, by decide +kernel⟩, by decide, by decide +kernel⟩
theorem ml_X11_201 : Cond.methodLink "TypeLevelsModel" 201 ⟨"TypeLevelsModel", "need", "(C)V"⟩ ∈ et_Ts := et_in (List.mem_append_right _ (List.mem_of_getElem? (i := 1680) (by decide +kernel))) (by decide +kernel)
theorem im_TypeLevelsModel_need__C_V : Cond.instanceMethod ⟨"TypeLevelsModel", "need", "(C)V"⟩ ∈ et_Ts := et_in (List.mem_append_right _ (List.mem_of_getElem? (i := 1682) (by decide +kernel))) (by decide +kernel)
theorem sl_TypeLevelsModel_need__C_V : Cond.selects "TypeLevelsModel" ⟨"TypeLevelsModel", "need", "(C)V"⟩ ⟨"TypeLevelsModel", "need", "(C)V"⟩ ∈ et_Ts := et_in (List.mem_append_left _ (List.mem_of_getElem? (i := 96) (by decide +kernel))) (by decide +kernel)
theorem cd_X11_readAll : Cond.code yX11_readAll cX11_readAll 2 (some .int) ∈ et_Ts := et_in (List.mem_append_right _ (List.mem_of_getElem? (i := 1691) (by decide +kernel))) (by decide +kernel)
theorem ca_X11_readAll : ev_cal et_Ts yX11_readAll cX11_readAll 2 (some .int) 1 := ⟨cd_X11_readAll, in_TypeLevelsModel, by decide +kernel, ⟨by decide +kernel, by decide +kernel⟩, by decide, by decide +kernel⟩
theorem ml_X11_403 : Cond.methodLink "TypeLevelsModel" 403 ⟨"TypeLevelsModel", "readAll", "(Z)I"⟩ ∈ et_Ts := et_in (List.mem_append_right _ (List.mem_of_getElem? (i := 1688) (by decide +kernel))) (by decide +kernel)
theorem im_TypeLevelsModel_readAll__Z_I : Cond.instanceMethod ⟨"TypeLevelsModel", "readAll", "(Z)I"⟩ ∈ et_Ts := et_in (List.mem_append_right _ (List.mem_of_getElem? (i := 1690) (by decide +kernel))) (by decide +kernel)
theorem sl_TypeLevelsModel_readAll__Z_I : Cond.selects "TypeLevelsModel" ⟨"TypeLevelsModel", "readAll", "(Z)I"⟩ ⟨"TypeLevelsModel", "readAll", "(Z)I"⟩ ∈ et_Ts := et_in (List.mem_append_left _ (List.mem_of_getElem? (i := 98) (by decide +kernel))) (by decide +kernel)
theorem cd_X11_wasRight : Cond.code yX11_wasRight cX11_wasRight 1 (some .boolean) ∈ et_Ts := et_in (List.mem_append_right _ (List.mem_of_getElem? (i := 1739) (by decide +kernel))) (by decide +kernel)
theorem ca_X11_wasRight : ev_cal et_Ts yX11_wasRight cX11_wasRight 1 (some .boolean) 0 := ⟨cd_X11_wasRight, in_TypeLevelsModel, by decide +kernel, ⟨by decide +kernel, by decide +kernel⟩, by decide, by decide +kernel⟩
theorem ml_X11_407 : Cond.methodLink "TypeLevelsModel" 407 ⟨"TypeLevelsModel", "wasRight", "()Z"⟩ ∈ et_Ts := et_in (List.mem_append_right _ (List.mem_of_getElem? (i := 1736) (by decide +kernel))) (by decide +kernel)
theorem im_TypeLevelsModel_wasRight___Z : Cond.instanceMethod ⟨"TypeLevelsModel", "wasRight", "()Z"⟩ ∈ et_Ts := et_in (List.mem_append_right _ (List.mem_of_getElem? (i := 1738) (by decide +kernel))) (by decide +kernel)
theorem sl_TypeLevelsModel_wasRight___Z : Cond.selects "TypeLevelsModel" ⟨"TypeLevelsModel", "wasRight", "()Z"⟩ ⟨"TypeLevelsModel", "wasRight", "()Z"⟩ ∈ et_Ts := et_in (List.mem_append_left _ (List.mem_of_getElem? (i := 110) (by decide +kernel))) (by decide +kernel)
theorem cd_X11_lost : Cond.code yX11_lost cX11_lost 1 (some .int) ∈ et_Ts := et_in (List.mem_append_right _ (List.mem_of_getElem? (i := 1909) (by decide +kernel))) (by decide +kernel)
theorem ca_X11_lost : ev_cal et_Ts yX11_lost cX11_lost 1 (some .int) 0 := ⟨cd_X11_lost, in_TypeLevelsModel, by decide +kernel, ⟨by decide +kernel, by decide +kernel⟩, by decide, by decide +kernel⟩
theorem ml_X11_430 : Cond.methodLink "TypeLevelsModel" 430 ⟨"TypeLevelsModel", "lost", "()I"⟩ ∈ et_Ts := et_in (List.mem_append_right _ (List.mem_of_getElem? (i := 1906) (by decide +kernel))) (by decide +kernel)
theorem im_TypeLevelsModel_lost___I : Cond.instanceMethod ⟨"TypeLevelsModel", "lost", "()I"⟩ ∈ et_Ts := et_in (List.mem_append_right _ (List.mem_of_getElem? (i := 1908) (by decide +kernel))) (by decide +kernel)
theorem sl_TypeLevelsModel_lost___I : Cond.selects "TypeLevelsModel" ⟨"TypeLevelsModel", "lost", "()I"⟩ ⟨"TypeLevelsModel", "lost", "()I"⟩ ∈ et_Ts := et_in (List.mem_append_left _ (List.mem_of_getElem? (i := 147) (by decide +kernel))) (by decide +kernel)
theorem cd_X11_in : Cond.code yX11_in cX11_in 3 (some .boolean) ∈ et_Ts := et_in (List.mem_append_right _ (List.mem_of_getElem? (i := 1651) (by decide +kernel))) (by decide +kernel)
theorem ca_X11_in : ev_cal et_Ts yX11_in cX11_in 3 (some .boolean) 3 := ⟨cd_X11_in, in_TypeLevelsModel, by decide +kernel, ⟨by decide +kernel, by decide +kernel⟩, by decide, by decide +kernel⟩
theorem ml_X11_142 : Cond.methodLink "TypeLevelsModel" 142 ⟨"TypeLevelsModel", "in", "(III)Z"⟩ ∈ et_Ts := et_in (List.mem_append_right _ (List.mem_of_getElem? (i := 1649) (by decide +kernel))) (by decide +kernel)
theorem sm_TypeLevelsModel_in__III_Z : Cond.static ⟨"TypeLevelsModel", "in", "(III)Z"⟩ ∈ et_Ts := et_in (List.mem_append_right _ (List.mem_of_getElem? (i := 1650) (by decide +kernel))) (by decide +kernel)
theorem cd_X11_fine : Cond.code yX11_fine cX11_fine 1 (some .boolean) ∈ et_Ts := et_in (List.mem_append_right _ (List.mem_of_getElem? (i := 1671) (by decide +kernel))) (by decide +kernel)
theorem ca_X11_fine : ev_cal et_Ts yX11_fine cX11_fine 1 (some .boolean) 0 := ⟨cd_X11_fine, in_TypeLevelsModel, by decide +kernel, ⟨by decide +kernel, by decide +kernel⟩, by decide, by decide +kernel⟩
theorem ml_X11_172 : Cond.methodLink "TypeLevelsModel" 172 ⟨"TypeLevelsModel", "fine", "()Z"⟩ ∈ et_Ts := et_in (List.mem_append_right _ (List.mem_of_getElem? (i := 1668) (by decide +kernel))) (by decide +kernel)
theorem im_TypeLevelsModel_fine___Z : Cond.instanceMethod ⟨"TypeLevelsModel", "fine", "()Z"⟩ ∈ et_Ts := et_in (List.mem_append_right _ (List.mem_of_getElem? (i := 1670) (by decide +kernel))) (by decide +kernel)
theorem sl_TypeLevelsModel_fine___Z : Cond.selects "TypeLevelsModel" ⟨"TypeLevelsModel", "fine", "()Z"⟩ ⟨"TypeLevelsModel", "fine", "()Z"⟩ ∈ et_Ts := et_in (List.mem_append_left _ (List.mem_of_getElem? (i := 93) (by decide +kernel))) (by decide +kernel)
theorem cd_X11_here : Cond.code yX11_here cX11_here 1 (some .int) ∈ et_Ts := et_in (List.mem_append_right _ (List.mem_of_getElem? (i := 1675) (by decide +kernel))) (by decide +kernel)
theorem ca_X11_here : ev_cal et_Ts yX11_here cX11_here 1 (some .int) 0 := ⟨cd_X11_here, in_TypeLevelsModel, by decide +kernel, ⟨by decide +kernel, by decide +kernel⟩, by decide, by decide +kernel⟩
theorem ml_X11_176 : Cond.methodLink "TypeLevelsModel" 176 ⟨"TypeLevelsModel", "here", "()I"⟩ ∈ et_Ts := et_in (List.mem_append_right _ (List.mem_of_getElem? (i := 1672) (by decide +kernel))) (by decide +kernel)
theorem im_TypeLevelsModel_here___I : Cond.instanceMethod ⟨"TypeLevelsModel", "here", "()I"⟩ ∈ et_Ts := et_in (List.mem_append_right _ (List.mem_of_getElem? (i := 1674) (by decide +kernel))) (by decide +kernel)
theorem sl_TypeLevelsModel_here___I : Cond.selects "TypeLevelsModel" ⟨"TypeLevelsModel", "here", "()I"⟩ ⟨"TypeLevelsModel", "here", "()I"⟩ ∈ et_Ts := et_in (List.mem_append_left _ (List.mem_of_getElem? (i := 94) (by decide +kernel))) (by decide +kernel)
theorem cd_X11_comparison : Cond.code yX11_comparison cX11_comparison 2 (some .int) ∈ et_Ts := et_in (List.mem_append_right _ (List.mem_of_getElem? (i := 1707) (by decide +kernel))) (by decide +kernel)
theorem ca_X11_comparison : ev_cal et_Ts yX11_comparison cX11_comparison 2 (some .int) 0 := ⟨cd_X11_comparison, in_TypeLevelsModel, by decide +kernel, ⟨by decide +kernel, by decide +kernel⟩, by decide, by decide +kernel⟩
theorem ml_X11_212 : Cond.methodLink "TypeLevelsModel" 212 ⟨"TypeLevelsModel", "comparison", "()I"⟩ ∈ et_Ts := et_in (List.mem_append_right _ (List.mem_of_getElem? (i := 1704) (by decide +kernel))) (by decide +kernel)
theorem im_TypeLevelsModel_comparison___I : Cond.instanceMethod ⟨"TypeLevelsModel", "comparison", "()I"⟩ ∈ et_Ts := et_in (List.mem_append_right _ (List.mem_of_getElem? (i := 1706) (by decide +kernel))) (by decide +kernel)
theorem sl_TypeLevelsModel_comparison___I : Cond.selects "TypeLevelsModel" ⟨"TypeLevelsModel", "comparison", "()I"⟩ ⟨"TypeLevelsModel", "comparison", "()I"⟩ ∈ et_Ts := et_in (List.mem_append_left _ (List.mem_of_getElem? (i := 102) (by decide +kernel))) (by decide +kernel)
theorem cd_X11_isFactor : Cond.code yX11_isFactor cX11_isFactor 2 (some .boolean) ∈ et_Ts := et_in (List.mem_append_right _ (List.mem_of_getElem? (i := 1723) (by decide +kernel))) (by decide +kernel)
theorem ca_X11_isFactor : ev_cal et_Ts yX11_isFactor cX11_isFactor 2 (some .boolean) 1 := ⟨cd_X11_isFactor, in_TypeLevelsModel, by decide +kernel, ⟨by decide +kernel, by decide +kernel⟩, by decide, by decide +kernel⟩
theorem ml_X11_232 : Cond.methodLink "TypeLevelsModel" 232 ⟨"TypeLevelsModel", "isFactor", "(I)Z"⟩ ∈ et_Ts := et_in (List.mem_append_right _ (List.mem_of_getElem? (i := 1720) (by decide +kernel))) (by decide +kernel)
theorem im_TypeLevelsModel_isFactor__I_Z : Cond.instanceMethod ⟨"TypeLevelsModel", "isFactor", "(I)Z"⟩ ∈ et_Ts := et_in (List.mem_append_right _ (List.mem_of_getElem? (i := 1722) (by decide +kernel))) (by decide +kernel)
theorem sl_TypeLevelsModel_isFactor__I_Z : Cond.selects "TypeLevelsModel" ⟨"TypeLevelsModel", "isFactor", "(I)Z"⟩ ⟨"TypeLevelsModel", "isFactor", "(I)Z"⟩ ∈ et_Ts := et_in (List.mem_append_left _ (List.mem_of_getElem? (i := 106) (by decide +kernel))) (by decide +kernel)
theorem cd_X11_fault : Cond.code yX11_fault cX11_fault 2 none ∈ et_Ts := et_in (List.mem_append_right _ (List.mem_of_getElem? (i := 1679) (by decide +kernel))) (by decide +kernel)
theorem ca_X11_fault : ev_cal et_Ts yX11_fault cX11_fault 2 none 1 := ⟨cd_X11_fault, in_TypeLevelsModel, by decide +kernel, ⟨by decide +kernel, by decide +kernel⟩, by decide, by decide +kernel⟩
theorem ml_X11_184 : Cond.methodLink "TypeLevelsModel" 184 ⟨"TypeLevelsModel", "fault", "(I)V"⟩ ∈ et_Ts := et_in (List.mem_append_right _ (List.mem_of_getElem? (i := 1676) (by decide +kernel))) (by decide +kernel)
theorem im_TypeLevelsModel_fault__I_V : Cond.instanceMethod ⟨"TypeLevelsModel", "fault", "(I)V"⟩ ∈ et_Ts := et_in (List.mem_append_right _ (List.mem_of_getElem? (i := 1678) (by decide +kernel))) (by decide +kernel)
theorem sl_TypeLevelsModel_fault__I_V : Cond.selects "TypeLevelsModel" ⟨"TypeLevelsModel", "fault", "(I)V"⟩ ⟨"TypeLevelsModel", "fault", "(I)V"⟩ ∈ et_Ts := et_in (List.mem_append_left _ (List.mem_of_getElem? (i := 95) (by decide +kernel))) (by decide +kernel)
theorem ml_X11_560 : Cond.methodLink "TypeLevelsModel" 560 ⟨"java/lang/Integer", "bitCount", "(I)I"⟩ ∈ et_Ts := et_in (List.mem_append_right _ (List.mem_of_getElem? (i := 2148) (by decide +kernel))) (by decide +kernel)
theorem cd_X11_tell : Cond.code yX11_tell cX11_tell 3 none ∈ et_Ts := et_in (List.mem_append_right _ (List.mem_of_getElem? (i := 1881) (by decide +kernel))) (by decide +kernel)
theorem ca_X11_tell : ev_cal et_Ts yX11_tell cX11_tell 3 none 1 := ⟨cd_X11_tell, in_TypeLevelsModel, by decide +kernel, ⟨by decide +kernel, by decide +kernel⟩, by decide, by decide +kernel⟩
theorem ml_X11_383 : Cond.methodLink "TypeLevelsModel" 383 ⟨"TypeLevelsModel", "tell", "(J)V"⟩ ∈ et_Ts := et_in (List.mem_append_right _ (List.mem_of_getElem? (i := 1878) (by decide +kernel))) (by decide +kernel)
theorem im_TypeLevelsModel_tell__J_V : Cond.instanceMethod ⟨"TypeLevelsModel", "tell", "(J)V"⟩ ∈ et_Ts := et_in (List.mem_append_right _ (List.mem_of_getElem? (i := 1880) (by decide +kernel))) (by decide +kernel)
theorem sl_TypeLevelsModel_tell__J_V : Cond.selects "TypeLevelsModel" ⟨"TypeLevelsModel", "tell", "(J)V"⟩ ⟨"TypeLevelsModel", "tell", "(J)V"⟩ ∈ et_Ts := et_in (List.mem_append_left _ (List.mem_of_getElem? (i := 143) (by decide +kernel))) (by decide +kernel)
theorem cd_X11_highOf : Cond.code yX11_highOf cX11_highOf 1 (some .int) ∈ et_Ts := et_in (List.mem_append_right _ (List.mem_of_getElem? (i := 2131) (by decide +kernel))) (by decide +kernel)
theorem ca_X11_highOf : ev_cal et_Ts yX11_highOf cX11_highOf 1 (some .int) 1 := ⟨cd_X11_highOf, in_TypeLevelsModel, by decide +kernel, ⟨by decide +kernel, by decide +kernel⟩, by decide, by decide +kernel⟩
theorem ml_X11_548 : Cond.methodLink "TypeLevelsModel" 548 ⟨"TypeLevelsModel", "highOf", "(I)I"⟩ ∈ et_Ts := et_in (List.mem_append_right _ (List.mem_of_getElem? (i := 2129) (by decide +kernel))) (by decide +kernel)
theorem sm_TypeLevelsModel_highOf__I_I : Cond.static ⟨"TypeLevelsModel", "highOf", "(I)I"⟩ ∈ et_Ts := et_in (List.mem_append_right _ (List.mem_of_getElem? (i := 2130) (by decide +kernel))) (by decide +kernel)
theorem fl_X11_129 : Cond.fieldLink "TypeLevelsModel" 129 "TypeLevelsModel" "heardOf" "[I" ∈ et_Ts := et_in (List.mem_append_right _ (List.mem_of_getElem? (i := 1480) (by decide +kernel))) (by decide +kernel)
theorem fl_X11_132 : Cond.fieldLink "TypeLevelsModel" 132 "TypeLevelsModel" "heardBy" "[I" ∈ et_Ts := et_in (List.mem_append_right _ (List.mem_of_getElem? (i := 1481) (by decide +kernel))) (by decide +kernel)
theorem ml_X11_3 : Cond.methodLink "TypeLevelsModel" 3 ⟨"java/lang/Object", "<init>", "()V"⟩ ∈ et_Ts := et_in (List.mem_append_right _ (List.mem_of_getElem? (i := 1406) (by decide +kernel))) (by decide +kernel)
theorem ar_1 : Cond.arrayClass (ev_ty 1) ∈ et_Ts := et_in (List.mem_append_right _ (List.mem_of_getElem? (i := 1373) (by decide +kernel))) (by decide +kernel)
theorem ar_3 : Cond.arrayClass (ev_ty 3) ∈ et_Ts := et_in (List.mem_append_right _ (List.mem_of_getElem? (i := 1636) (by decide +kernel))) (by decide +kernel)
theorem fl_X11_17 : Cond.fieldLink "TypeLevelsModel" 17 "TypeLevelsModel" "row" "[J" ∈ et_Ts := et_in (List.mem_append_right _ (List.mem_of_getElem? (i := 1410) (by decide +kernel))) (by decide +kernel)
theorem fl_X11_21 : Cond.fieldLink "TypeLevelsModel" 21 "TypeLevelsModel" "kind" "[I" ∈ et_Ts := et_in (List.mem_append_right _ (List.mem_of_getElem? (i := 1418) (by decide +kernel))) (by decide +kernel)
theorem fl_X11_24 : Cond.fieldLink "TypeLevelsModel" 24 "TypeLevelsModel" "one" "[I" ∈ et_Ts := et_in (List.mem_append_right _ (List.mem_of_getElem? (i := 1419) (by decide +kernel))) (by decide +kernel)
theorem fl_X11_27 : Cond.fieldLink "TypeLevelsModel" 27 "TypeLevelsModel" "two" "[I" ∈ et_Ts := et_in (List.mem_append_right _ (List.mem_of_getElem? (i := 1420) (by decide +kernel))) (by decide +kernel)
theorem fl_X11_30 : Cond.fieldLink "TypeLevelsModel" 30 "TypeLevelsModel" "three" "[I" ∈ et_Ts := et_in (List.mem_append_right _ (List.mem_of_getElem? (i := 1421) (by decide +kernel))) (by decide +kernel)
theorem fl_X11_33 : Cond.fieldLink "TypeLevelsModel" 33 "TypeLevelsModel" "place" "[I" ∈ et_Ts := et_in (List.mem_append_right _ (List.mem_of_getElem? (i := 1422) (by decide +kernel))) (by decide +kernel)
theorem fl_X11_36 : Cond.fieldLink "TypeLevelsModel" 36 "TypeLevelsModel" "sort" "[I" ∈ et_Ts := et_in (List.mem_append_right _ (List.mem_of_getElem? (i := 1427) (by decide +kernel))) (by decide +kernel)
theorem fl_X11_39 : Cond.fieldLink "TypeLevelsModel" 39 "TypeLevelsModel" "left" "[I" ∈ et_Ts := et_in (List.mem_append_right _ (List.mem_of_getElem? (i := 1428) (by decide +kernel))) (by decide +kernel)
theorem fl_X11_42 : Cond.fieldLink "TypeLevelsModel" 42 "TypeLevelsModel" "right" "[I" ∈ et_Ts := et_in (List.mem_append_right _ (List.mem_of_getElem? (i := 1429) (by decide +kernel))) (by decide +kernel)
theorem fl_X11_45 : Cond.fieldLink "TypeLevelsModel" 45 "TypeLevelsModel" "general" "[I" ∈ et_Ts := et_in (List.mem_append_right _ (List.mem_of_getElem? (i := 1430) (by decide +kernel))) (by decide +kernel)
theorem fl_X11_48 : Cond.fieldLink "TypeLevelsModel" 48 "TypeLevelsModel" "marked" "[I" ∈ et_Ts := et_in (List.mem_append_right _ (List.mem_of_getElem? (i := 1431) (by decide +kernel))) (by decide +kernel)
theorem fl_X11_51 : Cond.fieldLink "TypeLevelsModel" 51 "TypeLevelsModel" "copied" "[I" ∈ et_Ts := et_in (List.mem_append_right _ (List.mem_of_getElem? (i := 1432) (by decide +kernel))) (by decide +kernel)
theorem fl_X11_54 : Cond.fieldLink "TypeLevelsModel" 54 "TypeLevelsModel" "weak" "[I" ∈ et_Ts := et_in (List.mem_append_right _ (List.mem_of_getElem? (i := 1436) (by decide +kernel))) (by decide +kernel)
theorem fl_X11_57 : Cond.fieldLink "TypeLevelsModel" 57 "TypeLevelsModel" "bound" "[I" ∈ et_Ts := et_in (List.mem_append_right _ (List.mem_of_getElem? (i := 1440) (by decide +kernel))) (by decide +kernel)
theorem fl_X11_60 : Cond.fieldLink "TypeLevelsModel" 60 "TypeLevelsModel" "boundAs" "[I" ∈ et_Ts := et_in (List.mem_append_right _ (List.mem_of_getElem? (i := 1441) (by decide +kernel))) (by decide +kernel)
theorem fl_X11_63 : Cond.fieldLink "TypeLevelsModel" 63 "TypeLevelsModel" "fresh" "[I" ∈ et_Ts := et_in (List.mem_append_right _ (List.mem_of_getElem? (i := 1445) (by decide +kernel))) (by decide +kernel)
theorem fl_X11_66 : Cond.fieldLink "TypeLevelsModel" 66 "TypeLevelsModel" "foundAs" "[I" ∈ et_Ts := et_in (List.mem_append_right _ (List.mem_of_getElem? (i := 1447) (by decide +kernel))) (by decide +kernel)
theorem fl_X11_69 : Cond.fieldLink "TypeLevelsModel" 69 "TypeLevelsModel" "number" "[I" ∈ et_Ts := et_in (List.mem_append_right _ (List.mem_of_getElem? (i := 1449) (by decide +kernel))) (by decide +kernel)
theorem fl_X11_72 : Cond.fieldLink "TypeLevelsModel" 72 "TypeLevelsModel" "told" "[I" ∈ et_Ts := et_in (List.mem_append_right _ (List.mem_of_getElem? (i := 1452) (by decide +kernel))) (by decide +kernel)
theorem fl_X11_75 : Cond.fieldLink "TypeLevelsModel" 75 "TypeLevelsModel" "rows" "[I" ∈ et_Ts := et_in (List.mem_append_right _ (List.mem_of_getElem? (i := 1454) (by decide +kernel))) (by decide +kernel)
theorem fl_X11_78 : Cond.fieldLink "TypeLevelsModel" 78 "TypeLevelsModel" "sizes" "[I" ∈ et_Ts := et_in (List.mem_append_right _ (List.mem_of_getElem? (i := 1455) (by decide +kernel))) (by decide +kernel)
theorem fl_X11_81 : Cond.fieldLink "TypeLevelsModel" 81 "TypeLevelsModel" "undos" "[I" ∈ et_Ts := et_in (List.mem_append_right _ (List.mem_of_getElem? (i := 1456) (by decide +kernel))) (by decide +kernel)
theorem fl_X11_84 : Cond.fieldLink "TypeLevelsModel" 84 "TypeLevelsModel" "then" "[I" ∈ et_Ts := et_in (List.mem_append_right _ (List.mem_of_getElem? (i := 1458) (by decide +kernel))) (by decide +kernel)
theorem fl_X11_87 : Cond.fieldLink "TypeLevelsModel" 87 "TypeLevelsModel" "blamed" "[I" ∈ et_Ts := et_in (List.mem_append_right _ (List.mem_of_getElem? (i := 1459) (by decide +kernel))) (by decide +kernel)
theorem fl_X11_90 : Cond.fieldLink "TypeLevelsModel" 90 "TypeLevelsModel" "means" "[I" ∈ et_Ts := et_in (List.mem_append_right _ (List.mem_of_getElem? (i := 1460) (by decide +kernel))) (by decide +kernel)
theorem fl_X11_93 : Cond.fieldLink "TypeLevelsModel" 93 "TypeLevelsModel" "made" "[B" ∈ et_Ts := et_in (List.mem_append_right _ (List.mem_of_getElem? (i := 1461) (by decide +kernel))) (by decide +kernel)
theorem fl_X11_96 : Cond.fieldLink "TypeLevelsModel" 96 "TypeLevelsModel" "way" "[I" ∈ et_Ts := et_in (List.mem_append_right _ (List.mem_of_getElem? (i := 1462) (by decide +kernel))) (by decide +kernel)
theorem fl_X11_99 : Cond.fieldLink "TypeLevelsModel" 99 "TypeLevelsModel" "root" "[I" ∈ et_Ts := et_in (List.mem_append_right _ (List.mem_of_getElem? (i := 1463) (by decide +kernel))) (by decide +kernel)
theorem fl_X11_102 : Cond.fieldLink "TypeLevelsModel" 102 "TypeLevelsModel" "line" "[B" ∈ et_Ts := et_in (List.mem_append_right _ (List.mem_of_getElem? (i := 1464) (by decide +kernel))) (by decide +kernel)
theorem fl_X11_105 : Cond.fieldLink "TypeLevelsModel" 105 "TypeLevelsModel" "scopeOf" "[I" ∈ et_Ts := et_in (List.mem_append_right _ (List.mem_of_getElem? (i := 1465) (by decide +kernel))) (by decide +kernel)
theorem fl_X11_108 : Cond.fieldLink "TypeLevelsModel" 108 "TypeLevelsModel" "scopeAs" "[I" ∈ et_Ts := et_in (List.mem_append_right _ (List.mem_of_getElem? (i := 1466) (by decide +kernel))) (by decide +kernel)
theorem fl_X11_111 : Cond.fieldLink "TypeLevelsModel" 111 "TypeLevelsModel" "scopePart" "[I" ∈ et_Ts := et_in (List.mem_append_right _ (List.mem_of_getElem? (i := 1467) (by decide +kernel))) (by decide +kernel)
theorem fl_X11_114 : Cond.fieldLink "TypeLevelsModel" 114 "TypeLevelsModel" "scopeIn" "[I" ∈ et_Ts := et_in (List.mem_append_right _ (List.mem_of_getElem? (i := 1468) (by decide +kernel))) (by decide +kernel)
theorem fl_X11_117 : Cond.fieldLink "TypeLevelsModel" 117 "TypeLevelsModel" "around" "[I" ∈ et_Ts := et_in (List.mem_append_right _ (List.mem_of_getElem? (i := 1469) (by decide +kernel))) (by decide +kernel)
theorem fl_X11_120 : Cond.fieldLink "TypeLevelsModel" 120 "TypeLevelsModel" "todoPart" "[I" ∈ et_Ts := et_in (List.mem_append_right _ (List.mem_of_getElem? (i := 1471) (by decide +kernel))) (by decide +kernel)
theorem fl_X11_123 : Cond.fieldLink "TypeLevelsModel" 123 "TypeLevelsModel" "todoScope" "[I" ∈ et_Ts := et_in (List.mem_append_right _ (List.mem_of_getElem? (i := 1472) (by decide +kernel))) (by decide +kernel)
theorem fl_X11_126 : Cond.fieldLink "TypeLevelsModel" 126 "TypeLevelsModel" "todoValue" "[I" ∈ et_Ts := et_in (List.mem_append_right _ (List.mem_of_getElem? (i := 1473) (by decide +kernel))) (by decide +kernel)
theorem cd_X11_slotOf : Cond.code yX11_slotOf cX11_slotOf 3 (some .int) ∈ et_Ts := et_in (List.mem_append_right _ (List.mem_of_getElem? (i := 1742) (by decide +kernel))) (by decide +kernel)
theorem ca_X11_slotOf : ev_cal et_Ts yX11_slotOf cX11_slotOf 3 (some .int) 2 := ⟨cd_X11_slotOf, in_TypeLevelsModel, by decide +kernel, ⟨by decide +kernel, by decide +kernel⟩, by decide, by decide +kernel⟩
theorem ml_X11_146 : Cond.methodLink "TypeLevelsModel" 146 ⟨"TypeLevelsModel", "slotOf", "([II)I"⟩ ∈ et_Ts := et_in (List.mem_append_right _ (List.mem_of_getElem? (i := 1740) (by decide +kernel))) (by decide +kernel)
theorem sm_TypeLevelsModel_slotOf___II_I : Cond.static ⟨"TypeLevelsModel", "slotOf", "([II)I"⟩ ∈ et_Ts := et_in (List.mem_append_right _ (List.mem_of_getElem? (i := 1741) (by decide +kernel))) (by decide +kernel)
theorem cd_X11_remember : Cond.code yX11_remember cX11_remember 2 none ∈ et_Ts := et_in (List.mem_append_right _ (List.mem_of_getElem? (i := 1885) (by decide +kernel))) (by decide +kernel)
theorem ca_X11_remember : ev_cal et_Ts yX11_remember cX11_remember 2 none 0 := ⟨cd_X11_remember, in_TypeLevelsModel, by decide +kernel, ⟨by decide +kernel, by decide +kernel⟩, by decide, by decide +kernel⟩
theorem ml_X11_417 : Cond.methodLink "TypeLevelsModel" 417 ⟨"TypeLevelsModel", "remember", "()V"⟩ ∈ et_Ts := et_in (List.mem_append_right _ (List.mem_of_getElem? (i := 1882) (by decide +kernel))) (by decide +kernel)
theorem im_TypeLevelsModel_remember___V : Cond.instanceMethod ⟨"TypeLevelsModel", "remember", "()V"⟩ ∈ et_Ts := et_in (List.mem_append_right _ (List.mem_of_getElem? (i := 1884) (by decide +kernel))) (by decide +kernel)
theorem sl_TypeLevelsModel_remember___V : Cond.selects "TypeLevelsModel" ⟨"TypeLevelsModel", "remember", "()V"⟩ ⟨"TypeLevelsModel", "remember", "()V"⟩ ∈ et_Ts := et_in (List.mem_append_left _ (List.mem_of_getElem? (i := 144) (by decide +kernel))) (by decide +kernel)
theorem fl_X11_192 : Cond.fieldLink "TypeLevelsModel" 192 "TypeLevelsModel" "partMany" "I" ∈ et_Ts := et_in (List.mem_append_right _ (List.mem_of_getElem? (i := 1423) (by decide +kernel))) (by decide +kernel)
theorem fl_X11_195 : Cond.fieldLink "TypeLevelsModel" 195 "TypeLevelsModel" "open" "I" ∈ et_Ts := et_in (List.mem_append_right _ (List.mem_of_getElem? (i := 1424) (by decide +kernel))) (by decide +kernel)
theorem fl_X11_225 : Cond.fieldLink "TypeLevelsModel" 225 "TypeLevelsModel" "mayHole" "Z" ∈ et_Ts := et_in (List.mem_append_right _ (List.mem_of_getElem? (i := 1425) (by decide +kernel))) (by decide +kernel)
theorem fl_X11_239 : Cond.fieldLink "TypeLevelsModel" 239 "TypeLevelsModel" "hasHole" "Z" ∈ et_Ts := et_in (List.mem_append_right _ (List.mem_of_getElem? (i := 1426) (by decide +kernel))) (by decide +kernel)
theorem cd_X11_expression : Cond.code yX11_expression cX11_expression 6 (some .int) ∈ et_Ts := et_in (List.mem_append_right _ (List.mem_of_getElem? (i := 1695) (by decide +kernel))) (by decide +kernel)
theorem ca_X11_expression : ev_cal et_Ts yX11_expression cX11_expression 6 (some .int) 0 := ⟨cd_X11_expression, in_TypeLevelsModel, by decide +kernel, ⟨by decide +kernel, by decide +kernel⟩, by decide, by decide +kernel⟩
theorem ml_X11_205 : Cond.methodLink "TypeLevelsModel" 205 ⟨"TypeLevelsModel", "expression", "()I"⟩ ∈ et_Ts := et_in (List.mem_append_right _ (List.mem_of_getElem? (i := 1692) (by decide +kernel))) (by decide +kernel)
theorem im_TypeLevelsModel_expression___I : Cond.instanceMethod ⟨"TypeLevelsModel", "expression", "()I"⟩ ∈ et_Ts := et_in (List.mem_append_right _ (List.mem_of_getElem? (i := 1694) (by decide +kernel))) (by decide +kernel)
theorem sl_TypeLevelsModel_expression___I : Cond.selects "TypeLevelsModel" ⟨"TypeLevelsModel", "expression", "()I"⟩ ⟨"TypeLevelsModel", "expression", "()I"⟩ ∈ et_Ts := et_in (List.mem_append_left _ (List.mem_of_getElem? (i := 99) (by decide +kernel))) (by decide +kernel)
theorem cd_X11_term : Cond.code yX11_term cX11_term 3 (some .int) ∈ et_Ts := et_in (List.mem_append_right _ (List.mem_of_getElem? (i := 1715) (by decide +kernel))) (by decide +kernel)
theorem ca_X11_term : ev_cal et_Ts yX11_term cX11_term 3 (some .int) 0 := ⟨cd_X11_term, in_TypeLevelsModel, by decide +kernel, ⟨by decide +kernel, by decide +kernel⟩, by decide, by decide +kernel⟩
theorem ml_X11_222 : Cond.methodLink "TypeLevelsModel" 222 ⟨"TypeLevelsModel", "term", "()I"⟩ ∈ et_Ts := et_in (List.mem_append_right _ (List.mem_of_getElem? (i := 1712) (by decide +kernel))) (by decide +kernel)
theorem im_TypeLevelsModel_term___I : Cond.instanceMethod ⟨"TypeLevelsModel", "term", "()I"⟩ ∈ et_Ts := et_in (List.mem_append_right _ (List.mem_of_getElem? (i := 1714) (by decide +kernel))) (by decide +kernel)
theorem sl_TypeLevelsModel_term___I : Cond.selects "TypeLevelsModel" ⟨"TypeLevelsModel", "term", "()I"⟩ ⟨"TypeLevelsModel", "term", "()I"⟩ ∈ et_Ts := et_in (List.mem_append_left _ (List.mem_of_getElem? (i := 104) (by decide +kernel))) (by decide +kernel)
theorem cd_X11_factor : Cond.code yX11_factor cX11_factor 4 (some .int) ∈ et_Ts := et_in (List.mem_append_right _ (List.mem_of_getElem? (i := 1719) (by decide +kernel))) (by decide +kernel)
theorem ca_X11_factor : ev_cal et_Ts yX11_factor cX11_factor 4 (some .int) 0 := ⟨cd_X11_factor, in_TypeLevelsModel, by decide +kernel, ⟨by decide +kernel, by decide +kernel⟩, by decide, by decide +kernel⟩
theorem ml_X11_229 : Cond.methodLink "TypeLevelsModel" 229 ⟨"TypeLevelsModel", "factor", "()I"⟩ ∈ et_Ts := et_in (List.mem_append_right _ (List.mem_of_getElem? (i := 1716) (by decide +kernel))) (by decide +kernel)
theorem im_TypeLevelsModel_factor___I : Cond.instanceMethod ⟨"TypeLevelsModel", "factor", "()I"⟩ ∈ et_Ts := et_in (List.mem_append_right _ (List.mem_of_getElem? (i := 1718) (by decide +kernel))) (by decide +kernel)
theorem sl_TypeLevelsModel_factor___I : Cond.selects "TypeLevelsModel" ⟨"TypeLevelsModel", "factor", "()I"⟩ ⟨"TypeLevelsModel", "factor", "()I"⟩ ∈ et_Ts := et_in (List.mem_append_left _ (List.mem_of_getElem? (i := 105) (by decide +kernel))) (by decide +kernel)
theorem fl_X1_25 : Cond.fieldLink "TypeLevels$Code" 25 "TypeLevels$Code" "slot" "I" ∈ et_Ts := et_in (List.mem_append_right _ (List.mem_of_getElem? (i := 57) (by decide +kernel))) (by decide +kernel)
theorem fl_X1_22 : Cond.fieldLink "TypeLevels$Code" 22 "TypeLevels$Code" "sizes" "[I" ∈ et_Ts := et_in (List.mem_append_right _ (List.mem_of_getElem? (i := 56) (by decide +kernel))) (by decide +kernel)
theorem fl_X1_9 : Cond.fieldLink "TypeLevels$Code" 9 "TypeLevels$Code" "orders" "[I" ∈ et_Ts := et_in (List.mem_append_right _ (List.mem_of_getElem? (i := 52) (by decide +kernel))) (by decide +kernel)
theorem fl_X1_13 : Cond.fieldLink "TypeLevels$Code" 13 "TypeLevels$Code" "arguments" "[I" ∈ et_Ts := et_in (List.mem_append_right _ (List.mem_of_getElem? (i := 53) (by decide +kernel))) (by decide +kernel)
theorem fl_X1_16 : Cond.fieldLink "TypeLevels$Code" 16 "TypeLevels$Code" "places" "[I" ∈ et_Ts := et_in (List.mem_append_right _ (List.mem_of_getElem? (i := 54) (by decide +kernel))) (by decide +kernel)
theorem fl_X1_19 : Cond.fieldLink "TypeLevels$Code" 19 "TypeLevels$Code" "jumps" "[I" ∈ et_Ts := et_in (List.mem_append_right _ (List.mem_of_getElem? (i := 55) (by decide +kernel))) (by decide +kernel)
theorem ml_X1_1 : Cond.methodLink "TypeLevels$Code" 1 ⟨"java/lang/Object", "<init>", "()V"⟩ ∈ et_Ts := et_in (List.mem_append_right _ (List.mem_of_getElem? (i := 51) (by decide +kernel))) (by decide +kernel)
theorem ml_X2_5 : Cond.methodLink "TypeLevels$Finder" 5 ⟨"java/lang/Object", "<init>", "()V"⟩ ∈ et_Ts := et_in (List.mem_append_right _ (List.mem_of_getElem? (i := 211) (by decide +kernel))) (by decide +kernel)
theorem fl_X2_13 : Cond.fieldLink "TypeLevels$Finder" 13 "TypeLevels$Finder" "types" "[I" ∈ et_Ts := et_in (List.mem_append_right _ (List.mem_of_getElem? (i := 215) (by decide +kernel))) (by decide +kernel)
theorem ar_2 : Cond.arrayClass (ev_ty 2) ∈ et_Ts := et_in (List.mem_append_right _ (List.mem_of_getElem? (i := 267) (by decide +kernel))) (by decide +kernel)
theorem fl_X2_17 : Cond.fieldLink "TypeLevels$Finder" 17 "TypeLevels$Finder" "values" "[Z" ∈ et_Ts := et_in (List.mem_append_right _ (List.mem_of_getElem? (i := 216) (by decide +kernel))) (by decide +kernel)
theorem fl_X2_21 : Cond.fieldLink "TypeLevels$Finder" 21 "TypeLevels$Finder" "parts" "[I" ∈ et_Ts := et_in (List.mem_append_right _ (List.mem_of_getElem? (i := 217) (by decide +kernel))) (by decide +kernel)
theorem fl_X2_24 : Cond.fieldLink "TypeLevels$Finder" 24 "TypeLevels$Finder" "letters" "[I" ∈ et_Ts := et_in (List.mem_append_right _ (List.mem_of_getElem? (i := 218) (by decide +kernel))) (by decide +kernel)
theorem fl_X2_27 : Cond.fieldLink "TypeLevels$Finder" 27 "TypeLevels$Finder" "variables" "[I" ∈ et_Ts := et_in (List.mem_append_right _ (List.mem_of_getElem? (i := 219) (by decide +kernel))) (by decide +kernel)
theorem fl_X2_30 : Cond.fieldLink "TypeLevels$Finder" 30 "TypeLevels$Finder" "lengths" "[I" ∈ et_Ts := et_in (List.mem_append_right _ (List.mem_of_getElem? (i := 220) (by decide +kernel))) (by decide +kernel)
theorem fl_X2_33 : Cond.fieldLink "TypeLevels$Finder" 33 "TypeLevels$Finder" "rows" "[I" ∈ et_Ts := et_in (List.mem_append_right _ (List.mem_of_getElem? (i := 221) (by decide +kernel))) (by decide +kernel)
theorem fl_X2_36 : Cond.fieldLink "TypeLevels$Finder" 36 "TypeLevels$Finder" "store" "LTypeLevels$Store;" ∈ et_Ts := et_in (List.mem_append_right _ (List.mem_of_getElem? (i := 212) (by decide +kernel))) (by decide +kernel)
theorem fl_X2_40 : Cond.fieldLink "TypeLevels$Finder" 40 "TypeLevels$Finder" "code" "LTypeLevels$Code;" ∈ et_Ts := et_in (List.mem_append_right _ (List.mem_of_getElem? (i := 213) (by decide +kernel))) (by decide +kernel)
theorem fl_X2_44 : Cond.fieldLink "TypeLevels$Finder" 44 "TypeLevels$Finder" "table" "LTypeLevels$Table;" ∈ et_Ts := et_in (List.mem_append_right _ (List.mem_of_getElem? (i := 214) (by decide +kernel))) (by decide +kernel)
theorem fl_X3_18 : Cond.fieldLink "TypeLevels$Heard" 18 "TypeLevels$Heard" "size" "I" ∈ et_Ts := et_in (List.mem_append_right _ (List.mem_of_getElem? (i := 344) (by decide +kernel))) (by decide +kernel)
theorem cd_X3_highest : Cond.code yX3_highest cX3_highest 1 (some .int) ∈ et_Ts := et_in (List.mem_append_right _ (List.mem_of_getElem? (i := 1203) (by decide +kernel))) (by decide +kernel)
theorem ca_X3_highest : ev_cal et_Ts yX3_highest cX3_highest 1 (some .int) 1 := ⟨cd_X3_highest, in_TypeLevels_Heard, by decide +kernel, ⟨by decide +kernel, by decide +kernel⟩, by decide, by decide +kernel⟩
theorem ml_X3_25 : Cond.methodLink "TypeLevels$Heard" 25 ⟨"TypeLevels$Heard", "highest", "(I)I"⟩ ∈ et_Ts := et_in (List.mem_append_right _ (List.mem_of_getElem? (i := 1201) (by decide +kernel))) (by decide +kernel)
theorem sm_TypeLevels_Heard_highest__I_I : Cond.static ⟨"TypeLevels$Heard", "highest", "(I)I"⟩ ∈ et_Ts := et_in (List.mem_append_right _ (List.mem_of_getElem? (i := 1202) (by decide +kernel))) (by decide +kernel)
theorem fl_X3_11 : Cond.fieldLink "TypeLevels$Heard" 11 "TypeLevels$Heard" "whats" "[I" ∈ et_Ts := et_in (List.mem_append_right _ (List.mem_of_getElem? (i := 342) (by decide +kernel))) (by decide +kernel)
theorem fl_X3_15 : Cond.fieldLink "TypeLevels$Heard" 15 "TypeLevels$Heard" "numbers" "[I" ∈ et_Ts := et_in (List.mem_append_right _ (List.mem_of_getElem? (i := 343) (by decide +kernel))) (by decide +kernel)
theorem ml_X3_29 : Cond.methodLink "TypeLevels$Heard" 29 ⟨"TypeLevels$Table", "bits", "()I"⟩ ∈ et_Ts := et_in (List.mem_append_right _ (List.mem_of_getElem? (i := 1226) (by decide +kernel))) (by decide +kernel)
theorem fl_X3_22 : Cond.fieldLink "TypeLevels$Heard" 22 "TypeLevels$Heard" "HIGHEST" "[I" ∈ et_Ts := et_in (List.mem_append_right _ (List.mem_of_getElem? (i := 1204) (by decide +kernel))) (by decide +kernel)
theorem ml_X3_3 : Cond.methodLink "TypeLevels$Heard" 3 ⟨"java/lang/Object", "<init>", "()V"⟩ ∈ et_Ts := et_in (List.mem_append_right _ (List.mem_of_getElem? (i := 341) (by decide +kernel))) (by decide +kernel)
theorem ml_X4_3 : Cond.methodLink "TypeLevels$Machine" 3 ⟨"java/lang/Object", "<init>", "()V"⟩ ∈ et_Ts := et_in (List.mem_append_right _ (List.mem_of_getElem? (i := 273) (by decide +kernel))) (by decide +kernel)
theorem fl_X4_11 : Cond.fieldLink "TypeLevels$Machine" 11 "TypeLevels$Machine" "heap" "[I" ∈ et_Ts := et_in (List.mem_append_right _ (List.mem_of_getElem? (i := 275) (by decide +kernel))) (by decide +kernel)
theorem fl_X4_15 : Cond.fieldLink "TypeLevels$Machine" 15 "TypeLevels$Machine" "kinds" "[I" ∈ et_Ts := et_in (List.mem_append_right _ (List.mem_of_getElem? (i := 276) (by decide +kernel))) (by decide +kernel)
theorem fl_X4_18 : Cond.fieldLink "TypeLevels$Machine" 18 "TypeLevels$Machine" "datas" "[I" ∈ et_Ts := et_in (List.mem_append_right _ (List.mem_of_getElem? (i := 277) (by decide +kernel))) (by decide +kernel)
theorem fl_X4_21 : Cond.fieldLink "TypeLevels$Machine" 21 "TypeLevels$Machine" "returns" "[I" ∈ et_Ts := et_in (List.mem_append_right _ (List.mem_of_getElem? (i := 278) (by decide +kernel))) (by decide +kernel)
theorem fl_X4_24 : Cond.fieldLink "TypeLevels$Machine" 24 "TypeLevels$Machine" "saved" "[I" ∈ et_Ts := et_in (List.mem_append_right _ (List.mem_of_getElem? (i := 279) (by decide +kernel))) (by decide +kernel)
theorem fl_X4_27 : Cond.fieldLink "TypeLevels$Machine" 27 "TypeLevels$Machine" "code" "LTypeLevels$Code;" ∈ et_Ts := et_in (List.mem_append_right _ (List.mem_of_getElem? (i := 274) (by decide +kernel))) (by decide +kernel)
theorem ml_X5_3 : Cond.methodLink "TypeLevels$Past" 3 ⟨"java/lang/Object", "<init>", "()V"⟩ ∈ et_Ts := et_in (List.mem_append_right _ (List.mem_of_getElem? (i := 325) (by decide +kernel))) (by decide +kernel)
theorem fl_X5_11 : Cond.fieldLink "TypeLevels$Past" 11 "TypeLevels$Past" "states" "[I" ∈ et_Ts := et_in (List.mem_append_right _ (List.mem_of_getElem? (i := 326) (by decide +kernel))) (by decide +kernel)
theorem fl_X5_19 : Cond.fieldLink "TypeLevels$Past" 19 "TypeLevels$Past" "next" "I" ∈ et_Ts := et_in (List.mem_append_right _ (List.mem_of_getElem? (i := 327) (by decide +kernel))) (by decide +kernel)
theorem cd_X8_save : Cond.code yX8_save cX8_save 3 none ∈ et_Ts := et_in (List.mem_append_right _ (List.mem_of_getElem? (i := 817) (by decide +kernel))) (by decide +kernel)
theorem ca_X8_save : ev_cal et_Ts yX8_save cX8_save 3 none 2 := ⟨cd_X8_save, in_TypeLevels_Table, by decide +kernel, ⟨by decide +kernel, by decide +kernel⟩, by decide, by decide +kernel⟩
theorem ml_X5_22 : Cond.methodLink "TypeLevels$Past" 22 ⟨"TypeLevels$Table", "save", "([II)V"⟩ ∈ et_Ts := et_in (List.mem_append_right _ (List.mem_of_getElem? (i := 814) (by decide +kernel))) (by decide +kernel)
theorem im_TypeLevels_Table_save___II_V : Cond.instanceMethod ⟨"TypeLevels$Table", "save", "([II)V"⟩ ∈ et_Ts := et_in (List.mem_append_right _ (List.mem_of_getElem? (i := 815) (by decide +kernel))) (by decide +kernel)
theorem sl_TypeLevels_Table_save___II_V : Cond.selects "TypeLevels$Table" ⟨"TypeLevels$Table", "save", "([II)V"⟩ ⟨"TypeLevels$Table", "save", "([II)V"⟩ ∈ et_Ts := et_in (List.mem_append_right _ (List.mem_of_getElem? (i := 816) (by decide +kernel))) (by decide +kernel)
theorem fl_X5_15 : Cond.fieldLink "TypeLevels$Past" 15 "TypeLevels$Past" "size" "I" ∈ et_Ts := et_in (List.mem_append_right _ (List.mem_of_getElem? (i := 328) (by decide +kernel))) (by decide +kernel)
theorem cd_min : Cond.code Lib.Math.min.name Lib.Math.min.code 2 (some .int) ∈ et_Ts := et_in (List.mem_append_right _ (List.mem_of_getElem? (i := 439) (by decide +kernel))) (by decide +kernel)
theorem ml_X5_28 : Cond.methodLink "TypeLevels$Past" 28 ⟨"java/lang/Math", "min", "(II)I"⟩ ∈ et_Ts := et_in (List.mem_append_right _ (List.mem_of_getElem? (i := 821) (by decide +kernel))) (by decide +kernel)
theorem sm_java_lang_Math_min__II_I : Cond.static ⟨"java/lang/Math", "min", "(II)I"⟩ ∈ et_Ts := et_in (List.mem_append_right _ (List.mem_of_getElem? (i := 438) (by decide +kernel))) (by decide +kernel)
theorem in_java_lang_Math : Cond.initialized "java/lang/Math" ∈ et_Ts := et_in (List.mem_append_right _ (List.mem_of_getElem? (i := 13) (by decide +kernel))) (by decide +kernel)
theorem cd_X6_comparison : Cond.code yX6_comparison cX6_comparison 4 (some .int) ∈ et_Ts := et_in (List.mem_append_right _ (List.mem_of_getElem? (i := 497) (by decide +kernel))) (by decide +kernel)
theorem ca_X6_comparison : ev_cal et_Ts yX6_comparison cX6_comparison 4 (some .int) 1 := ⟨cd_X6_comparison, in_TypeLevels_Reader, by decide +kernel, ⟨by decide +kernel, by decide +kernel⟩, by decide, by decide +kernel⟩
theorem ml_X6_88 : Cond.methodLink "TypeLevels$Reader" 88 ⟨"TypeLevels$Reader", "comparison", "(I)I"⟩ ∈ et_Ts := et_in (List.mem_append_right _ (List.mem_of_getElem? (i := 494) (by decide +kernel))) (by decide +kernel)
theorem im_TypeLevels_Reader_comparison__I_I : Cond.instanceMethod ⟨"TypeLevels$Reader", "comparison", "(I)I"⟩ ∈ et_Ts := et_in (List.mem_append_right _ (List.mem_of_getElem? (i := 496) (by decide +kernel))) (by decide +kernel)
theorem sl_TypeLevels_Reader_comparison__I_I : Cond.selects "TypeLevels$Reader" ⟨"TypeLevels$Reader", "comparison", "(I)I"⟩ ⟨"TypeLevels$Reader", "comparison", "(I)I"⟩ ∈ et_Ts := et_in (List.mem_append_left _ (List.mem_of_getElem? (i := 10) (by decide +kernel))) (by decide +kernel)
theorem cd_X6_peek : Cond.code yX6_peek cX6_peek 1 (some .int) ∈ et_Ts := et_in (List.mem_append_right _ (List.mem_of_getElem? (i := 454) (by decide +kernel))) (by decide +kernel)
theorem ca_X6_peek : ev_cal et_Ts yX6_peek cX6_peek 1 (some .int) 0 := ⟨cd_X6_peek, in_TypeLevels_Reader, by decide +kernel, ⟨by decide +kernel, by decide +kernel⟩, by decide, by decide +kernel⟩
theorem ml_X6_52 : Cond.methodLink "TypeLevels$Reader" 52 ⟨"TypeLevels$Reader", "peek", "()I"⟩ ∈ et_Ts := et_in (List.mem_append_right _ (List.mem_of_getElem? (i := 451) (by decide +kernel))) (by decide +kernel)
theorem im_TypeLevels_Reader_peek___I : Cond.instanceMethod ⟨"TypeLevels$Reader", "peek", "()I"⟩ ∈ et_Ts := et_in (List.mem_append_right _ (List.mem_of_getElem? (i := 453) (by decide +kernel))) (by decide +kernel)
theorem sl_TypeLevels_Reader_peek___I : Cond.selects "TypeLevels$Reader" ⟨"TypeLevels$Reader", "peek", "()I"⟩ ⟨"TypeLevels$Reader", "peek", "()I"⟩ ∈ et_Ts := et_in (List.mem_append_left _ (List.mem_of_getElem? (i := 2) (by decide +kernel))) (by decide +kernel)
theorem cd_X6_isLetter : Cond.code yX6_isLetter cX6_isLetter 1 (some .boolean) ∈ et_Ts := et_in (List.mem_append_right _ (List.mem_of_getElem? (i := 473) (by decide +kernel))) (by decide +kernel)
theorem ca_X6_isLetter : ev_cal et_Ts yX6_isLetter cX6_isLetter 1 (some .boolean) 1 := ⟨cd_X6_isLetter, in_TypeLevels_Reader, by decide +kernel, ⟨by decide +kernel, by decide +kernel⟩, by decide, by decide +kernel⟩
theorem ml_X6_63 : Cond.methodLink "TypeLevels$Reader" 63 ⟨"TypeLevels$Reader", "isLetter", "(I)Z"⟩ ∈ et_Ts := et_in (List.mem_append_right _ (List.mem_of_getElem? (i := 471) (by decide +kernel))) (by decide +kernel)
theorem sm_TypeLevels_Reader_isLetter__I_Z : Cond.static ⟨"TypeLevels$Reader", "isLetter", "(I)Z"⟩ ∈ et_Ts := et_in (List.mem_append_right _ (List.mem_of_getElem? (i := 472) (by decide +kernel))) (by decide +kernel)
theorem cd_X6_isDigit : Cond.code yX6_isDigit cX6_isDigit 1 (some .boolean) ∈ et_Ts := et_in (List.mem_append_right _ (List.mem_of_getElem? (i := 532) (by decide +kernel))) (by decide +kernel)
theorem ca_X6_isDigit : ev_cal et_Ts yX6_isDigit cX6_isDigit 1 (some .boolean) 1 := ⟨cd_X6_isDigit, in_TypeLevels_Reader, by decide +kernel, ⟨by decide +kernel, by decide +kernel⟩, by decide, by decide +kernel⟩
theorem ml_X6_103 : Cond.methodLink "TypeLevels$Reader" 103 ⟨"TypeLevels$Reader", "isDigit", "(I)Z"⟩ ∈ et_Ts := et_in (List.mem_append_right _ (List.mem_of_getElem? (i := 530) (by decide +kernel))) (by decide +kernel)
theorem sm_TypeLevels_Reader_isDigit__I_Z : Cond.static ⟨"TypeLevels$Reader", "isDigit", "(I)Z"⟩ ∈ et_Ts := et_in (List.mem_append_right _ (List.mem_of_getElem? (i := 531) (by decide +kernel))) (by decide +kernel)
theorem cd_X6_sum : Cond.code yX6_sum cX6_sum 5 (some .int) ∈ et_Ts := et_in (List.mem_append_right _ (List.mem_of_getElem? (i := 501) (by decide +kernel))) (by decide +kernel)
theorem ca_X6_sum : ev_cal et_Ts yX6_sum cX6_sum 5 (some .int) 1 := ⟨cd_X6_sum, in_TypeLevels_Reader, by decide +kernel, ⟨by decide +kernel, by decide +kernel⟩, by decide, by decide +kernel⟩
theorem ml_X6_91 : Cond.methodLink "TypeLevels$Reader" 91 ⟨"TypeLevels$Reader", "sum", "(I)I"⟩ ∈ et_Ts := et_in (List.mem_append_right _ (List.mem_of_getElem? (i := 498) (by decide +kernel))) (by decide +kernel)
theorem im_TypeLevels_Reader_sum__I_I : Cond.instanceMethod ⟨"TypeLevels$Reader", "sum", "(I)I"⟩ ∈ et_Ts := et_in (List.mem_append_right _ (List.mem_of_getElem? (i := 500) (by decide +kernel))) (by decide +kernel)
theorem sl_TypeLevels_Reader_sum__I_I : Cond.selects "TypeLevels$Reader" ⟨"TypeLevels$Reader", "sum", "(I)I"⟩ ⟨"TypeLevels$Reader", "sum", "(I)I"⟩ ∈ et_Ts := et_in (List.mem_append_left _ (List.mem_of_getElem? (i := 11) (by decide +kernel))) (by decide +kernel)
theorem cd_X6_assignment : Cond.code yX6_assignment cX6_assignment 3 (some .int) ∈ et_Ts := et_in (List.mem_append_right _ (List.mem_of_getElem? (i := 493) (by decide +kernel))) (by decide +kernel)
theorem ca_X6_assignment : ev_cal et_Ts yX6_assignment cX6_assignment 3 (some .int) 1 := ⟨cd_X6_assignment, in_TypeLevels_Reader, by decide +kernel, ⟨by decide +kernel, by decide +kernel⟩, by decide, by decide +kernel⟩
theorem ml_X6_73 : Cond.methodLink "TypeLevels$Reader" 73 ⟨"TypeLevels$Reader", "assignment", "(I)I"⟩ ∈ et_Ts := et_in (List.mem_append_right _ (List.mem_of_getElem? (i := 490) (by decide +kernel))) (by decide +kernel)
theorem im_TypeLevels_Reader_assignment__I_I : Cond.instanceMethod ⟨"TypeLevels$Reader", "assignment", "(I)I"⟩ ∈ et_Ts := et_in (List.mem_append_right _ (List.mem_of_getElem? (i := 492) (by decide +kernel))) (by decide +kernel)
theorem sl_TypeLevels_Reader_assignment__I_I : Cond.selects "TypeLevels$Reader" ⟨"TypeLevels$Reader", "assignment", "(I)I"⟩ ⟨"TypeLevels$Reader", "assignment", "(I)I"⟩ ∈ et_Ts := et_in (List.mem_append_left _ (List.mem_of_getElem? (i := 9) (by decide +kernel))) (by decide +kernel)
theorem fl_X6_35 : Cond.fieldLink "TypeLevels$Reader" 35 "TypeLevels$Reader" "at" "I" ∈ et_Ts := et_in (List.mem_append_right _ (List.mem_of_getElem? (i := 80) (by decide +kernel))) (by decide +kernel)
theorem cd_X6_leaf : Cond.code yX6_leaf cX6_leaf 3 none ∈ et_Ts := et_in (List.mem_append_right _ (List.mem_of_getElem? (i := 529) (by decide +kernel))) (by decide +kernel)
theorem ca_X6_leaf : ev_cal et_Ts yX6_leaf cX6_leaf 3 none 1 := ⟨cd_X6_leaf, in_TypeLevels_Reader, by decide +kernel, ⟨by decide +kernel, by decide +kernel⟩, by decide, by decide +kernel⟩
theorem ml_X6_118 : Cond.methodLink "TypeLevels$Reader" 118 ⟨"TypeLevels$Reader", "leaf", "(I)V"⟩ ∈ et_Ts := et_in (List.mem_append_right _ (List.mem_of_getElem? (i := 526) (by decide +kernel))) (by decide +kernel)
theorem im_TypeLevels_Reader_leaf__I_V : Cond.instanceMethod ⟨"TypeLevels$Reader", "leaf", "(I)V"⟩ ∈ et_Ts := et_in (List.mem_append_right _ (List.mem_of_getElem? (i := 528) (by decide +kernel))) (by decide +kernel)
theorem sl_TypeLevels_Reader_leaf__I_V : Cond.selects "TypeLevels$Reader" ⟨"TypeLevels$Reader", "leaf", "(I)V"⟩ ⟨"TypeLevels$Reader", "leaf", "(I)V"⟩ ∈ et_Ts := et_in (List.mem_append_left _ (List.mem_of_getElem? (i := 18) (by decide +kernel))) (by decide +kernel)
theorem ml_X6_3 : Cond.methodLink "TypeLevels$Reader" 3 ⟨"java/lang/Object", "<init>", "()V"⟩ ∈ et_Ts := et_in (List.mem_append_right _ (List.mem_of_getElem? (i := 76) (by decide +kernel))) (by decide +kernel)
theorem fl_X6_9 : Cond.fieldLink "TypeLevels$Reader" 9 "TypeLevels$Reader" "code" "LTypeLevels$Code;" ∈ et_Ts := et_in (List.mem_append_right _ (List.mem_of_getElem? (i := 77) (by decide +kernel))) (by decide +kernel)
theorem fl_X6_15 : Cond.fieldLink "TypeLevels$Reader" 15 "TypeLevels$Reader" "signs" "[I" ∈ et_Ts := et_in (List.mem_append_right _ (List.mem_of_getElem? (i := 78) (by decide +kernel))) (by decide +kernel)
theorem fl_X6_19 : Cond.fieldLink "TypeLevels$Reader" 19 "TypeLevels$Reader" "refused" "I" ∈ et_Ts := et_in (List.mem_append_right _ (List.mem_of_getElem? (i := 81) (by decide +kernel))) (by decide +kernel)
theorem cd_X6_refuse : Cond.code yX6_refuse cX6_refuse 1 none ∈ et_Ts := et_in (List.mem_append_right _ (List.mem_of_getElem? (i := 466) (by decide +kernel))) (by decide +kernel)
theorem ca_X6_refuse : ev_cal et_Ts yX6_refuse cX6_refuse 1 none 0 := ⟨cd_X6_refuse, in_TypeLevels_Reader, by decide +kernel, ⟨by decide +kernel, by decide +kernel⟩, by decide, by decide +kernel⟩
theorem ml_X6_56 : Cond.methodLink "TypeLevels$Reader" 56 ⟨"TypeLevels$Reader", "refuse", "()V"⟩ ∈ et_Ts := et_in (List.mem_append_right _ (List.mem_of_getElem? (i := 463) (by decide +kernel))) (by decide +kernel)
theorem im_TypeLevels_Reader_refuse___V : Cond.instanceMethod ⟨"TypeLevels$Reader", "refuse", "()V"⟩ ∈ et_Ts := et_in (List.mem_append_right _ (List.mem_of_getElem? (i := 465) (by decide +kernel))) (by decide +kernel)
theorem sl_TypeLevels_Reader_refuse___V : Cond.selects "TypeLevels$Reader" ⟨"TypeLevels$Reader", "refuse", "()V"⟩ ⟨"TypeLevels$Reader", "refuse", "()V"⟩ ∈ et_Ts := et_in (List.mem_append_left _ (List.mem_of_getElem? (i := 5) (by decide +kernel))) (by decide +kernel)
theorem fl_X6_29 : Cond.fieldLink "TypeLevels$Reader" 29 "TypeLevels$Reader" "size" "I" ∈ et_Ts := et_in (List.mem_append_right _ (List.mem_of_getElem? (i := 79) (by decide +kernel))) (by decide +kernel)
theorem ml_X6_23 : Cond.methodLink "TypeLevels$Reader" 23 ⟨"java/lang/Math", "min", "(II)I"⟩ ∈ et_Ts := et_in (List.mem_append_right _ (List.mem_of_getElem? (i := 437) (by decide +kernel))) (by decide +kernel)
theorem cd_max : Cond.code Lib.Math.max.name Lib.Math.max.code 2 (some .int) ∈ et_Ts := et_in (List.mem_append_right _ (List.mem_of_getElem? (i := 442) (by decide +kernel))) (by decide +kernel)
theorem ml_X6_32 : Cond.methodLink "TypeLevels$Reader" 32 ⟨"java/lang/Math", "max", "(II)I"⟩ ∈ et_Ts := et_in (List.mem_append_right _ (List.mem_of_getElem? (i := 440) (by decide +kernel))) (by decide +kernel)
theorem sm_java_lang_Math_max__II_I : Cond.static ⟨"java/lang/Math", "max", "(II)I"⟩ ∈ et_Ts := et_in (List.mem_append_right _ (List.mem_of_getElem? (i := 441) (by decide +kernel))) (by decide +kernel)
theorem fl_X6_38 : Cond.fieldLink "TypeLevels$Reader" 38 "TypeLevels$Reader" "holes" "Z" ∈ et_Ts := et_in (List.mem_append_right _ (List.mem_of_getElem? (i := 82) (by decide +kernel))) (by decide +kernel)
theorem cd_X1_begin : Cond.code yX1_begin cX1_begin 2 none ∈ et_Ts := et_in (List.mem_append_right _ (List.mem_of_getElem? (i := 446) (by decide +kernel))) (by decide +kernel)
theorem ca_X1_begin : ev_cal et_Ts yX1_begin cX1_begin 2 none 1 := ⟨cd_X1_begin, in_TypeLevels_Code, by decide +kernel, ⟨by decide +kernel, by decide +kernel⟩, by decide, by decide +kernel⟩
theorem ml_X6_42 : Cond.methodLink "TypeLevels$Reader" 42 ⟨"TypeLevels$Code", "begin", "(I)V"⟩ ∈ et_Ts := et_in (List.mem_append_right _ (List.mem_of_getElem? (i := 443) (by decide +kernel))) (by decide +kernel)
theorem im_TypeLevels_Code_begin__I_V : Cond.instanceMethod ⟨"TypeLevels$Code", "begin", "(I)V"⟩ ∈ et_Ts := et_in (List.mem_append_right _ (List.mem_of_getElem? (i := 444) (by decide +kernel))) (by decide +kernel)
theorem sl_TypeLevels_Code_begin__I_V : Cond.selects "TypeLevels$Code" ⟨"TypeLevels$Code", "begin", "(I)V"⟩ ⟨"TypeLevels$Code", "begin", "(I)V"⟩ ∈ et_Ts := et_in (List.mem_append_right _ (List.mem_of_getElem? (i := 445) (by decide +kernel))) (by decide +kernel)
theorem cd_X6_expression : Cond.code yX6_expression cX6_expression 3 (some .int) ∈ et_Ts := et_in (List.mem_append_right _ (List.mem_of_getElem? (i := 450) (by decide +kernel))) (by decide +kernel)
theorem ca_X6_expression : ev_cal et_Ts yX6_expression cX6_expression 3 (some .int) 1 := ⟨cd_X6_expression, in_TypeLevels_Reader, by decide +kernel, ⟨by decide +kernel, by decide +kernel⟩, by decide, by decide +kernel⟩
theorem ml_X6_48 : Cond.methodLink "TypeLevels$Reader" 48 ⟨"TypeLevels$Reader", "expression", "(I)I"⟩ ∈ et_Ts := et_in (List.mem_append_right _ (List.mem_of_getElem? (i := 447) (by decide +kernel))) (by decide +kernel)
theorem im_TypeLevels_Reader_expression__I_I : Cond.instanceMethod ⟨"TypeLevels$Reader", "expression", "(I)I"⟩ ∈ et_Ts := et_in (List.mem_append_right _ (List.mem_of_getElem? (i := 449) (by decide +kernel))) (by decide +kernel)
theorem sl_TypeLevels_Reader_expression__I_I : Cond.selects "TypeLevels$Reader" ⟨"TypeLevels$Reader", "expression", "(I)I"⟩ ⟨"TypeLevels$Reader", "expression", "(I)I"⟩ ∈ et_Ts := et_in (List.mem_append_left _ (List.mem_of_getElem? (i := 1) (by decide +kernel))) (by decide +kernel)
theorem cd_X1_emit : Cond.code yX1_emit cX1_emit 6 (some .int) ∈ et_Ts := et_in (List.mem_append_right _ (List.mem_of_getElem? (i := 481) (by decide +kernel))) (by decide +kernel)
theorem ca_X1_emit : ev_cal et_Ts yX1_emit cX1_emit 6 (some .int) 3 := ⟨cd_X1_emit, in_TypeLevels_Code, by decide +kernel, ⟨by decide +kernel, by decide +kernel⟩, by decide, by decide +kernel⟩
theorem ml_X6_59 : Cond.methodLink "TypeLevels$Reader" 59 ⟨"TypeLevels$Code", "emit", "(III)I"⟩ ∈ et_Ts := et_in (List.mem_append_right _ (List.mem_of_getElem? (i := 478) (by decide +kernel))) (by decide +kernel)
theorem im_TypeLevels_Code_emit__III_I : Cond.instanceMethod ⟨"TypeLevels$Code", "emit", "(III)I"⟩ ∈ et_Ts := et_in (List.mem_append_right _ (List.mem_of_getElem? (i := 479) (by decide +kernel))) (by decide +kernel)
theorem sl_TypeLevels_Code_emit__III_I : Cond.selects "TypeLevels$Code" ⟨"TypeLevels$Code", "emit", "(III)I"⟩ ⟨"TypeLevels$Code", "emit", "(III)I"⟩ ∈ et_Ts := et_in (List.mem_append_right _ (List.mem_of_getElem? (i := 480) (by decide +kernel))) (by decide +kernel)
theorem cd_X6_term : Cond.code yX6_term cX6_term 4 (some .int) ∈ et_Ts := et_in (List.mem_append_right _ (List.mem_of_getElem? (i := 505) (by decide +kernel))) (by decide +kernel)
theorem ca_X6_term : ev_cal et_Ts yX6_term cX6_term 4 (some .int) 1 := ⟨cd_X6_term, in_TypeLevels_Reader, by decide +kernel, ⟨by decide +kernel, by decide +kernel⟩, by decide, by decide +kernel⟩
theorem ml_X6_94 : Cond.methodLink "TypeLevels$Reader" 94 ⟨"TypeLevels$Reader", "term", "(I)I"⟩ ∈ et_Ts := et_in (List.mem_append_right _ (List.mem_of_getElem? (i := 502) (by decide +kernel))) (by decide +kernel)
theorem im_TypeLevels_Reader_term__I_I : Cond.instanceMethod ⟨"TypeLevels$Reader", "term", "(I)I"⟩ ∈ et_Ts := et_in (List.mem_append_right _ (List.mem_of_getElem? (i := 504) (by decide +kernel))) (by decide +kernel)
theorem sl_TypeLevels_Reader_term__I_I : Cond.selects "TypeLevels$Reader" ⟨"TypeLevels$Reader", "term", "(I)I"⟩ ⟨"TypeLevels$Reader", "term", "(I)I"⟩ ∈ et_Ts := et_in (List.mem_append_left _ (List.mem_of_getElem? (i := 12) (by decide +kernel))) (by decide +kernel)
theorem cd_X6_factor : Cond.code yX6_factor cX6_factor 4 (some .int) ∈ et_Ts := et_in (List.mem_append_right _ (List.mem_of_getElem? (i := 509) (by decide +kernel))) (by decide +kernel)
theorem ca_X6_factor : ev_cal et_Ts yX6_factor cX6_factor 4 (some .int) 1 := ⟨cd_X6_factor, in_TypeLevels_Reader, by decide +kernel, ⟨by decide +kernel, by decide +kernel⟩, by decide, by decide +kernel⟩
theorem ml_X6_97 : Cond.methodLink "TypeLevels$Reader" 97 ⟨"TypeLevels$Reader", "factor", "(I)I"⟩ ∈ et_Ts := et_in (List.mem_append_right _ (List.mem_of_getElem? (i := 506) (by decide +kernel))) (by decide +kernel)
theorem im_TypeLevels_Reader_factor__I_I : Cond.instanceMethod ⟨"TypeLevels$Reader", "factor", "(I)I"⟩ ∈ et_Ts := et_in (List.mem_append_right _ (List.mem_of_getElem? (i := 508) (by decide +kernel))) (by decide +kernel)
theorem sl_TypeLevels_Reader_factor__I_I : Cond.selects "TypeLevels$Reader" ⟨"TypeLevels$Reader", "factor", "(I)I"⟩ ⟨"TypeLevels$Reader", "factor", "(I)I"⟩ ∈ et_Ts := et_in (List.mem_append_left _ (List.mem_of_getElem? (i := 13) (by decide +kernel))) (by decide +kernel)
theorem cd_X6_beginsFactor : Cond.code yX6_beginsFactor cX6_beginsFactor 2 (some .boolean) ∈ et_Ts := et_in (List.mem_append_right _ (List.mem_of_getElem? (i := 540) (by decide +kernel))) (by decide +kernel)
theorem ca_X6_beginsFactor : ev_cal et_Ts yX6_beginsFactor cX6_beginsFactor 2 (some .boolean) 1 := ⟨cd_X6_beginsFactor, in_TypeLevels_Reader, by decide +kernel, ⟨by decide +kernel, by decide +kernel⟩, by decide, by decide +kernel⟩
theorem ml_X6_100 : Cond.methodLink "TypeLevels$Reader" 100 ⟨"TypeLevels$Reader", "beginsFactor", "(I)Z"⟩ ∈ et_Ts := et_in (List.mem_append_right _ (List.mem_of_getElem? (i := 537) (by decide +kernel))) (by decide +kernel)
theorem im_TypeLevels_Reader_beginsFactor__I_Z : Cond.instanceMethod ⟨"TypeLevels$Reader", "beginsFactor", "(I)Z"⟩ ∈ et_Ts := et_in (List.mem_append_right _ (List.mem_of_getElem? (i := 539) (by decide +kernel))) (by decide +kernel)
theorem sl_TypeLevels_Reader_beginsFactor__I_Z : Cond.selects "TypeLevels$Reader" ⟨"TypeLevels$Reader", "beginsFactor", "(I)Z"⟩ ⟨"TypeLevels$Reader", "beginsFactor", "(I)Z"⟩ ∈ et_Ts := et_in (List.mem_append_left _ (List.mem_of_getElem? (i := 20) (by decide +kernel))) (by decide +kernel)
theorem ml_X7_5 : Cond.methodLink "TypeLevels$Store" 5 ⟨"java/lang/Object", "<init>", "()V"⟩ ∈ et_Ts := et_in (List.mem_append_right _ (List.mem_of_getElem? (i := 101) (by decide +kernel))) (by decide +kernel)
theorem fl_X7_11 : Cond.fieldLink "TypeLevels$Store" 11 "TypeLevels$Store" "kinds" "[I" ∈ et_Ts := et_in (List.mem_append_right _ (List.mem_of_getElem? (i := 102) (by decide +kernel))) (by decide +kernel)
theorem fl_X7_15 : Cond.fieldLink "TypeLevels$Store" 15 "TypeLevels$Store" "firsts" "[I" ∈ et_Ts := et_in (List.mem_append_right _ (List.mem_of_getElem? (i := 103) (by decide +kernel))) (by decide +kernel)
theorem fl_X7_18 : Cond.fieldLink "TypeLevels$Store" 18 "TypeLevels$Store" "seconds" "[I" ∈ et_Ts := et_in (List.mem_append_right _ (List.mem_of_getElem? (i := 104) (by decide +kernel))) (by decide +kernel)
theorem fl_X7_21 : Cond.fieldLink "TypeLevels$Store" 21 "TypeLevels$Store" "links" "[I" ∈ et_Ts := et_in (List.mem_append_right _ (List.mem_of_getElem? (i := 105) (by decide +kernel))) (by decide +kernel)
theorem fl_X7_24 : Cond.fieldLink "TypeLevels$Store" 24 "TypeLevels$Store" "marks" "[I" ∈ et_Ts := et_in (List.mem_append_right _ (List.mem_of_getElem? (i := 106) (by decide +kernel))) (by decide +kernel)
theorem fl_X7_27 : Cond.fieldLink "TypeLevels$Store" 27 "TypeLevels$Store" "labels" "[I" ∈ et_Ts := et_in (List.mem_append_right _ (List.mem_of_getElem? (i := 107) (by decide +kernel))) (by decide +kernel)
theorem fl_X7_30 : Cond.fieldLink "TypeLevels$Store" 30 "TypeLevels$Store" "work" "[I" ∈ et_Ts := et_in (List.mem_append_right _ (List.mem_of_getElem? (i := 108) (by decide +kernel))) (by decide +kernel)
theorem fl_X7_33 : Cond.fieldLink "TypeLevels$Store" 33 "TypeLevels$Store" "lefts" "[I" ∈ et_Ts := et_in (List.mem_append_right _ (List.mem_of_getElem? (i := 109) (by decide +kernel))) (by decide +kernel)
theorem fl_X7_36 : Cond.fieldLink "TypeLevels$Store" 36 "TypeLevels$Store" "rights" "[I" ∈ et_Ts := et_in (List.mem_append_right _ (List.mem_of_getElem? (i := 110) (by decide +kernel))) (by decide +kernel)
theorem fl_X7_39 : Cond.fieldLink "TypeLevels$Store" 39 "TypeLevels$Store" "trail" "[I" ∈ et_Ts := et_in (List.mem_append_right _ (List.mem_of_getElem? (i := 111) (by decide +kernel))) (by decide +kernel)
theorem fl_X7_42 : Cond.fieldLink "TypeLevels$Store" 42 "TypeLevels$Store" "fresh" "[I" ∈ et_Ts := et_in (List.mem_append_right _ (List.mem_of_getElem? (i := 112) (by decide +kernel))) (by decide +kernel)
theorem fl_X7_45 : Cond.fieldLink "TypeLevels$Store" 45 "TypeLevels$Store" "built" "[I" ∈ et_Ts := et_in (List.mem_append_right _ (List.mem_of_getElem? (i := 113) (by decide +kernel))) (by decide +kernel)
theorem fl_X7_48 : Cond.fieldLink "TypeLevels$Store" 48 "TypeLevels$Store" "plain" "[I" ∈ et_Ts := et_in (List.mem_append_right _ (List.mem_of_getElem? (i := 114) (by decide +kernel))) (by decide +kernel)
theorem fl_X8_48 : Cond.fieldLink "TypeLevels$Table" 48 "TypeLevels$Table" "size" "I" ∈ et_Ts := et_in (List.mem_append_right _ (List.mem_of_getElem? (i := 178) (by decide +kernel))) (by decide +kernel)
theorem cd_X8_shrink : Cond.code yX8_shrink cX8_shrink 3 none ∈ et_Ts := et_in (List.mem_append_right _ (List.mem_of_getElem? (i := 862) (by decide +kernel))) (by decide +kernel)
theorem ca_X8_shrink : ev_cal et_Ts yX8_shrink cX8_shrink 3 none 1 := ⟨cd_X8_shrink, in_TypeLevels_Table, by decide +kernel, ⟨by decide +kernel, by decide +kernel⟩, by decide, by decide +kernel⟩
theorem ml_X8_40 : Cond.methodLink "TypeLevels$Table" 40 ⟨"TypeLevels$Table", "shrink", "(I)V"⟩ ∈ et_Ts := et_in (List.mem_append_right _ (List.mem_of_getElem? (i := 859) (by decide +kernel))) (by decide +kernel)
theorem im_TypeLevels_Table_shrink__I_V : Cond.instanceMethod ⟨"TypeLevels$Table", "shrink", "(I)V"⟩ ∈ et_Ts := et_in (List.mem_append_right _ (List.mem_of_getElem? (i := 861) (by decide +kernel))) (by decide +kernel)
theorem sl_TypeLevels_Table_shrink__I_V : Cond.selects "TypeLevels$Table" ⟨"TypeLevels$Table", "shrink", "(I)V"⟩ ⟨"TypeLevels$Table", "shrink", "(I)V"⟩ ∈ et_Ts := et_in (List.mem_append_left _ (List.mem_of_getElem? (i := 54) (by decide +kernel))) (by decide +kernel)
theorem fl_X8_44 : Cond.fieldLink "TypeLevels$Table" 44 "TypeLevels$Table" "weak" "I" ∈ et_Ts := et_in (List.mem_append_right _ (List.mem_of_getElem? (i := 179) (by decide +kernel))) (by decide +kernel)
theorem ml_X8_3 : Cond.methodLink "TypeLevels$Table" 3 ⟨"java/lang/Object", "<init>", "()V"⟩ ∈ et_Ts := et_in (List.mem_append_right _ (List.mem_of_getElem? (i := 168) (by decide +kernel))) (by decide +kernel)
theorem fl_X8_9 : Cond.fieldLink "TypeLevels$Table" 9 "TypeLevels$Table" "letters" "[I" ∈ et_Ts := et_in (List.mem_append_right _ (List.mem_of_getElem? (i := 170) (by decide +kernel))) (by decide +kernel)
theorem fl_X8_15 : Cond.fieldLink "TypeLevels$Table" 15 "TypeLevels$Table" "values" "[I" ∈ et_Ts := et_in (List.mem_append_right _ (List.mem_of_getElem? (i := 171) (by decide +kernel))) (by decide +kernel)
theorem fl_X8_18 : Cond.fieldLink "TypeLevels$Table" 18 "TypeLevels$Table" "signs" "[I" ∈ et_Ts := et_in (List.mem_append_right _ (List.mem_of_getElem? (i := 172) (by decide +kernel))) (by decide +kernel)
theorem fl_X8_21 : Cond.fieldLink "TypeLevels$Table" 21 "TypeLevels$Table" "places" "[I" ∈ et_Ts := et_in (List.mem_append_right _ (List.mem_of_getElem? (i := 173) (by decide +kernel))) (by decide +kernel)
theorem fl_X8_24 : Cond.fieldLink "TypeLevels$Table" 24 "TypeLevels$Table" "lengths" "[I" ∈ et_Ts := et_in (List.mem_append_right _ (List.mem_of_getElem? (i := 174) (by decide +kernel))) (by decide +kernel)
theorem fl_X8_27 : Cond.fieldLink "TypeLevels$Table" 27 "TypeLevels$Table" "rows" "[I" ∈ et_Ts := et_in (List.mem_append_right _ (List.mem_of_getElem? (i := 175) (by decide +kernel))) (by decide +kernel)
theorem fl_X8_30 : Cond.fieldLink "TypeLevels$Table" 30 "TypeLevels$Table" "nextLengths" "[I" ∈ et_Ts := et_in (List.mem_append_right _ (List.mem_of_getElem? (i := 176) (by decide +kernel))) (by decide +kernel)
theorem fl_X8_33 : Cond.fieldLink "TypeLevels$Table" 33 "TypeLevels$Table" "nextRows" "[I" ∈ et_Ts := et_in (List.mem_append_right _ (List.mem_of_getElem? (i := 177) (by decide +kernel))) (by decide +kernel)
theorem fl_X8_36 : Cond.fieldLink "TypeLevels$Table" 36 "TypeLevels$Table" "store" "LTypeLevels$Store;" ∈ et_Ts := et_in (List.mem_append_right _ (List.mem_of_getElem? (i := 169) (by decide +kernel))) (by decide +kernel)
theorem ml_X8_60 : Cond.methodLink "TypeLevels$Table" 60 ⟨"TypeLevels$Table", "placeOf", "(I)I"⟩ ∈ et_Ts := et_in (List.mem_append_right _ (List.mem_of_getElem? (i := 545) (by decide +kernel))) (by decide +kernel)
theorem nv_copy : Cond.native ⟨"java/lang/System", "arraycopy", "(Ljava/lang/Object;ILjava/lang/Object;II)V"⟩ ∈ et_Ts := et_in (List.mem_append_right _ (List.mem_of_getElem? (i := 820) (by decide +kernel))) (by decide +kernel)
theorem ml_X8_111 : Cond.methodLink "TypeLevels$Table" 111 ⟨"java/lang/System", "arraycopy", "(Ljava/lang/Object;ILjava/lang/Object;II)V"⟩ ∈ et_Ts := et_in (List.mem_append_right _ (List.mem_of_getElem? (i := 818) (by decide +kernel))) (by decide +kernel)
theorem sm_java_lang_System_arraycopy__Ljava_lang_Object_ILjava_lang_Object_II_V : Cond.static ⟨"java/lang/System", "arraycopy", "(Ljava/lang/Object;ILjava/lang/Object;II)V"⟩ ∈ et_Ts := et_in (List.mem_append_right _ (List.mem_of_getElem? (i := 819) (by decide +kernel))) (by decide +kernel)
theorem in_java_lang_System : Cond.initialized "java/lang/System" ∈ et_Ts := et_in (List.mem_append_right _ (List.mem_of_getElem? (i := 14) (by decide +kernel))) (by decide +kernel)
theorem ml_X8_51 : Cond.methodLink "TypeLevels$Table" 51 ⟨"java/lang/Math", "max", "(II)I"⟩ ∈ et_Ts := et_in (List.mem_append_right _ (List.mem_of_getElem? (i := 863) (by decide +kernel))) (by decide +kernel)
theorem ml_X8_57 : Cond.methodLink "TypeLevels$Table" 57 ⟨"java/lang/Math", "min", "(II)I"⟩ ∈ et_Ts := et_in (List.mem_append_right _ (List.mem_of_getElem? (i := 864) (by decide +kernel))) (by decide +kernel)
theorem fl_X9_13 : Cond.fieldLink "TypeLevels$Told" 13 "TypeLevels$Told" "size" "I" ∈ et_Ts := et_in (List.mem_append_right _ (List.mem_of_getElem? (i := 39) (by decide +kernel))) (by decide +kernel)
theorem fl_X9_9 : Cond.fieldLink "TypeLevels$Told" 9 "TypeLevels$Told" "numbers" "[I" ∈ et_Ts := et_in (List.mem_append_right _ (List.mem_of_getElem? (i := 38) (by decide +kernel))) (by decide +kernel)
theorem ml_X9_1 : Cond.methodLink "TypeLevels$Told" 1 ⟨"java/lang/Object", "<init>", "()V"⟩ ∈ et_Ts := et_in (List.mem_append_right _ (List.mem_of_getElem? (i := 37) (by decide +kernel))) (by decide +kernel)
theorem cl_L_8 : Cond.classLink "TypeLevelsLaw" 8 "TypeLevels" ∈ et_Ts := et_in (List.mem_append_right _ (List.mem_of_getElem? (i := 24) (by decide +kernel))) (by decide +kernel)
theorem nt_X10 : Cond.instantiable "TypeLevels" 15 ∈ et_Ts := et_in (List.mem_append_right _ (List.mem_of_getElem? (i := 25) (by decide +kernel))) (by decide +kernel)
theorem cd_X10_init : Cond.code yX10_init cX10_init 1 none ∈ et_Ts := et_in (List.mem_append_right _ (List.mem_of_getElem? (i := 28) (by decide +kernel))) (by decide +kernel)
theorem ca_X10_init : ev_cal et_Ts yX10_init cX10_init 1 none 0 := ⟨cd_X10_init, in_TypeLevels, by decide +kernel, ⟨by decide +kernel, by decide +kernel⟩, by decide, by decide +kernel⟩
theorem ml_L_19 : Cond.methodLink "TypeLevelsLaw" 19 ⟨"TypeLevels", "<init>", "()V"⟩ ∈ et_Ts := et_in (List.mem_append_right _ (List.mem_of_getElem? (i := 26) (by decide +kernel))) (by decide +kernel)
theorem im_TypeLevels__init____V : Cond.instanceMethod ⟨"TypeLevels", "<init>", "()V"⟩ ∈ et_Ts := et_in (List.mem_append_right _ (List.mem_of_getElem? (i := 27) (by decide +kernel))) (by decide +kernel)
theorem cl_L_20 : Cond.classLink "TypeLevelsLaw" 20 "TypeLevelsModel" ∈ et_Ts := et_in (List.mem_append_right _ (List.mem_of_getElem? (i := 1401) (by decide +kernel))) (by decide +kernel)
theorem nt_X11 : Cond.instantiable "TypeLevelsModel" 76 ∈ et_Ts := et_in (List.mem_append_right _ (List.mem_of_getElem? (i := 1402) (by decide +kernel))) (by decide +kernel)
theorem cd_X11_init : Cond.code yX11_init cX11_init 1 none ∈ et_Ts := et_in (List.mem_append_right _ (List.mem_of_getElem? (i := 1405) (by decide +kernel))) (by decide +kernel)
theorem ca_X11_init : ev_cal et_Ts yX11_init cX11_init 1 none 0 := ⟨cd_X11_init, in_TypeLevelsModel, by decide +kernel, ⟨by decide +kernel, by decide +kernel⟩, by decide, by decide +kernel⟩
theorem ml_L_22 : Cond.methodLink "TypeLevelsLaw" 22 ⟨"TypeLevelsModel", "<init>", "()V"⟩ ∈ et_Ts := et_in (List.mem_append_right _ (List.mem_of_getElem? (i := 1403) (by decide +kernel))) (by decide +kernel)
theorem im_TypeLevelsModel__init____V : Cond.instanceMethod ⟨"TypeLevelsModel", "<init>", "()V"⟩ ∈ et_Ts := et_in (List.mem_append_right _ (List.mem_of_getElem? (i := 1404) (by decide +kernel))) (by decide +kernel)
theorem cd_X10_sign : Cond.code yX10_sign cX10_sign 3 (some .int) ∈ et_Ts := et_in (List.mem_append_right _ (List.mem_of_getElem? (i := 420) (by decide +kernel))) (by decide +kernel)
theorem ca_X10_sign : ev_cal et_Ts yX10_sign cX10_sign 3 (some .int) 1 := ⟨cd_X10_sign, in_TypeLevels, by decide +kernel, ⟨by decide +kernel, by decide +kernel⟩, by decide, by decide +kernel⟩
theorem ml_L_23 : Cond.methodLink "TypeLevelsLaw" 23 ⟨"TypeLevels", "sign", "(I)I"⟩ ∈ et_Ts := et_in (List.mem_append_right _ (List.mem_of_getElem? (i := 417) (by decide +kernel))) (by decide +kernel)
theorem im_TypeLevels_sign__I_I : Cond.instanceMethod ⟨"TypeLevels", "sign", "(I)I"⟩ ∈ et_Ts := et_in (List.mem_append_right _ (List.mem_of_getElem? (i := 418) (by decide +kernel))) (by decide +kernel)
theorem sl_TypeLevels_sign__I_I : Cond.selects "TypeLevels" ⟨"TypeLevels", "sign", "(I)I"⟩ ⟨"TypeLevels", "sign", "(I)I"⟩ ∈ et_Ts := et_in (List.mem_append_right _ (List.mem_of_getElem? (i := 419) (by decide +kernel))) (by decide +kernel)
theorem cd_X11_sign : Cond.code yX11_sign cX11_sign 3 (some .int) ∈ et_Ts := et_in (List.mem_append_right _ (List.mem_of_getElem? (i := 1644) (by decide +kernel))) (by decide +kernel)
theorem ca_X11_sign : ev_cal et_Ts yX11_sign cX11_sign 3 (some .int) 1 := ⟨cd_X11_sign, in_TypeLevelsModel, by decide +kernel, ⟨by decide +kernel, by decide +kernel⟩, by decide, by decide +kernel⟩
theorem ml_L_27 : Cond.methodLink "TypeLevelsLaw" 27 ⟨"TypeLevelsModel", "sign", "(I)I"⟩ ∈ et_Ts := et_in (List.mem_append_right _ (List.mem_of_getElem? (i := 1641) (by decide +kernel))) (by decide +kernel)
theorem im_TypeLevelsModel_sign__I_I : Cond.instanceMethod ⟨"TypeLevelsModel", "sign", "(I)I"⟩ ∈ et_Ts := et_in (List.mem_append_right _ (List.mem_of_getElem? (i := 1642) (by decide +kernel))) (by decide +kernel)
theorem sl_TypeLevelsModel_sign__I_I : Cond.selects "TypeLevelsModel" ⟨"TypeLevelsModel", "sign", "(I)I"⟩ ⟨"TypeLevelsModel", "sign", "(I)I"⟩ ∈ et_Ts := et_in (List.mem_append_right _ (List.mem_of_getElem? (i := 1643) (by decide +kernel))) (by decide +kernel)
theorem cd_X10_end : Cond.code yX10_end cX10_end 2 (some .boolean) ∈ et_Ts := et_in (List.mem_append_right _ (List.mem_of_getElem? (i := 424) (by decide +kernel))) (by decide +kernel)
theorem ca_X10_end : ev_cal et_Ts yX10_end cX10_end 2 (some .boolean) 1 := ⟨cd_X10_end, in_TypeLevels, by decide +kernel, ⟨by decide +kernel, by decide +kernel⟩, by decide, by decide +kernel⟩
theorem ml_L_28 : Cond.methodLink "TypeLevelsLaw" 28 ⟨"TypeLevels", "end", "(I)Z"⟩ ∈ et_Ts := et_in (List.mem_append_right _ (List.mem_of_getElem? (i := 421) (by decide +kernel))) (by decide +kernel)
theorem im_TypeLevels_end__I_Z : Cond.instanceMethod ⟨"TypeLevels", "end", "(I)Z"⟩ ∈ et_Ts := et_in (List.mem_append_right _ (List.mem_of_getElem? (i := 422) (by decide +kernel))) (by decide +kernel)
theorem sl_TypeLevels_end__I_Z : Cond.selects "TypeLevels" ⟨"TypeLevels", "end", "(I)Z"⟩ ⟨"TypeLevels", "end", "(I)Z"⟩ ∈ et_Ts := et_in (List.mem_append_right _ (List.mem_of_getElem? (i := 423) (by decide +kernel))) (by decide +kernel)
theorem cd_X11_end : Cond.code yX11_end cX11_end 2 (some .boolean) ∈ et_Ts := et_in (List.mem_append_right _ (List.mem_of_getElem? (i := 1648) (by decide +kernel))) (by decide +kernel)
theorem ca_X11_end : ev_cal et_Ts yX11_end cX11_end 2 (some .boolean) 1 := ⟨cd_X11_end, in_TypeLevelsModel, by decide +kernel, ⟨by decide +kernel, by decide +kernel⟩, by decide, by decide +kernel⟩
theorem ml_L_32 : Cond.methodLink "TypeLevelsLaw" 32 ⟨"TypeLevelsModel", "end", "(I)Z"⟩ ∈ et_Ts := et_in (List.mem_append_right _ (List.mem_of_getElem? (i := 1645) (by decide +kernel))) (by decide +kernel)
theorem im_TypeLevelsModel_end__I_Z : Cond.instanceMethod ⟨"TypeLevelsModel", "end", "(I)Z"⟩ ∈ et_Ts := et_in (List.mem_append_right _ (List.mem_of_getElem? (i := 1646) (by decide +kernel))) (by decide +kernel)
theorem sl_TypeLevelsModel_end__I_Z : Cond.selects "TypeLevelsModel" ⟨"TypeLevelsModel", "end", "(I)Z"⟩ ⟨"TypeLevelsModel", "end", "(I)Z"⟩ ∈ et_Ts := et_in (List.mem_append_right _ (List.mem_of_getElem? (i := 1647) (by decide +kernel))) (by decide +kernel)
theorem cd_X10_defines : Cond.code yX10_defines cX10_defines 6 (some .int) ∈ et_Ts := et_in (List.mem_append_right _ (List.mem_of_getElem? (i := 428) (by decide +kernel))) (by decide +kernel)
theorem ca_X10_defines : ev_cal et_Ts yX10_defines cX10_defines 6 (some .int) 0 := ⟨cd_X10_defines, in_TypeLevels, by decide +kernel, ⟨by decide +kernel, by decide +kernel⟩, by decide, by decide +kernel⟩
theorem ml_L_33 : Cond.methodLink "TypeLevelsLaw" 33 ⟨"TypeLevels", "defines", "()I"⟩ ∈ et_Ts := et_in (List.mem_append_right _ (List.mem_of_getElem? (i := 425) (by decide +kernel))) (by decide +kernel)
theorem im_TypeLevels_defines___I : Cond.instanceMethod ⟨"TypeLevels", "defines", "()I"⟩ ∈ et_Ts := et_in (List.mem_append_right _ (List.mem_of_getElem? (i := 426) (by decide +kernel))) (by decide +kernel)
theorem sl_TypeLevels_defines___I : Cond.selects "TypeLevels" ⟨"TypeLevels", "defines", "()I"⟩ ⟨"TypeLevels", "defines", "()I"⟩ ∈ et_Ts := et_in (List.mem_append_right _ (List.mem_of_getElem? (i := 427) (by decide +kernel))) (by decide +kernel)
theorem cd_X11_defines : Cond.code yX11_defines cX11_defines 6 (some .int) ∈ et_Ts := et_in (List.mem_append_right _ (List.mem_of_getElem? (i := 1655) (by decide +kernel))) (by decide +kernel)
theorem ca_X11_defines : ev_cal et_Ts yX11_defines cX11_defines 6 (some .int) 0 := ⟨cd_X11_defines, in_TypeLevelsModel, by decide +kernel, ⟨by decide +kernel, by decide +kernel⟩, by decide, by decide +kernel⟩
theorem ml_L_37 : Cond.methodLink "TypeLevelsLaw" 37 ⟨"TypeLevelsModel", "defines", "()I"⟩ ∈ et_Ts := et_in (List.mem_append_right _ (List.mem_of_getElem? (i := 1652) (by decide +kernel))) (by decide +kernel)
theorem im_TypeLevelsModel_defines___I : Cond.instanceMethod ⟨"TypeLevelsModel", "defines", "()I"⟩ ∈ et_Ts := et_in (List.mem_append_right _ (List.mem_of_getElem? (i := 1653) (by decide +kernel))) (by decide +kernel)
theorem sl_TypeLevelsModel_defines___I : Cond.selects "TypeLevelsModel" ⟨"TypeLevelsModel", "defines", "()I"⟩ ⟨"TypeLevelsModel", "defines", "()I"⟩ ∈ et_Ts := et_in (List.mem_append_right _ (List.mem_of_getElem? (i := 1654) (by decide +kernel))) (by decide +kernel)
theorem cd_X10_modes : Cond.code yX10_modes cX10_modes 3 (some .int) ∈ et_Ts := et_in (List.mem_append_right _ (List.mem_of_getElem? (i := 841) (by decide +kernel))) (by decide +kernel)
theorem ca_X10_modes : ev_cal et_Ts yX10_modes cX10_modes 3 (some .int) 1 := ⟨cd_X10_modes, in_TypeLevels, by decide +kernel, ⟨by decide +kernel, by decide +kernel⟩, by decide, by decide +kernel⟩
theorem ml_L_38 : Cond.methodLink "TypeLevelsLaw" 38 ⟨"TypeLevels", "modes", "(I)I"⟩ ∈ et_Ts := et_in (List.mem_append_right _ (List.mem_of_getElem? (i := 838) (by decide +kernel))) (by decide +kernel)
theorem im_TypeLevels_modes__I_I : Cond.instanceMethod ⟨"TypeLevels", "modes", "(I)I"⟩ ∈ et_Ts := et_in (List.mem_append_right _ (List.mem_of_getElem? (i := 839) (by decide +kernel))) (by decide +kernel)
theorem sl_TypeLevels_modes__I_I : Cond.selects "TypeLevels" ⟨"TypeLevels", "modes", "(I)I"⟩ ⟨"TypeLevels", "modes", "(I)I"⟩ ∈ et_Ts := et_in (List.mem_append_right _ (List.mem_of_getElem? (i := 840) (by decide +kernel))) (by decide +kernel)
theorem cd_X11_modes : Cond.code yX11_modes cX11_modes 3 (some .int) ∈ et_Ts := et_in (List.mem_append_right _ (List.mem_of_getElem? (i := 1893) (by decide +kernel))) (by decide +kernel)
theorem ca_X11_modes : ev_cal et_Ts yX11_modes cX11_modes 3 (some .int) 1 := ⟨cd_X11_modes, in_TypeLevelsModel, by decide +kernel, ⟨by decide +kernel, by decide +kernel⟩, by decide, by decide +kernel⟩
theorem ml_L_41 : Cond.methodLink "TypeLevelsLaw" 41 ⟨"TypeLevelsModel", "modes", "(I)I"⟩ ∈ et_Ts := et_in (List.mem_append_right _ (List.mem_of_getElem? (i := 1890) (by decide +kernel))) (by decide +kernel)
theorem im_TypeLevelsModel_modes__I_I : Cond.instanceMethod ⟨"TypeLevelsModel", "modes", "(I)I"⟩ ∈ et_Ts := et_in (List.mem_append_right _ (List.mem_of_getElem? (i := 1891) (by decide +kernel))) (by decide +kernel)
theorem sl_TypeLevelsModel_modes__I_I : Cond.selects "TypeLevelsModel" ⟨"TypeLevelsModel", "modes", "(I)I"⟩ ⟨"TypeLevelsModel", "modes", "(I)I"⟩ ∈ et_Ts := et_in (List.mem_append_right _ (List.mem_of_getElem? (i := 1892) (by decide +kernel))) (by decide +kernel)
theorem cd_X10_undo : Cond.code yX10_undo cX10_undo 1 (some .int) ∈ et_Ts := et_in (List.mem_append_right _ (List.mem_of_getElem? (i := 845) (by decide +kernel))) (by decide +kernel)
theorem ca_X10_undo : ev_cal et_Ts yX10_undo cX10_undo 1 (some .int) 0 := ⟨cd_X10_undo, in_TypeLevels, by decide +kernel, ⟨by decide +kernel, by decide +kernel⟩, by decide, by decide +kernel⟩
theorem ml_L_42 : Cond.methodLink "TypeLevelsLaw" 42 ⟨"TypeLevels", "undo", "()I"⟩ ∈ et_Ts := et_in (List.mem_append_right _ (List.mem_of_getElem? (i := 842) (by decide +kernel))) (by decide +kernel)
theorem im_TypeLevels_undo___I : Cond.instanceMethod ⟨"TypeLevels", "undo", "()I"⟩ ∈ et_Ts := et_in (List.mem_append_right _ (List.mem_of_getElem? (i := 843) (by decide +kernel))) (by decide +kernel)
theorem sl_TypeLevels_undo___I : Cond.selects "TypeLevels" ⟨"TypeLevels", "undo", "()I"⟩ ⟨"TypeLevels", "undo", "()I"⟩ ∈ et_Ts := et_in (List.mem_append_right _ (List.mem_of_getElem? (i := 844) (by decide +kernel))) (by decide +kernel)
theorem cd_X11_undo : Cond.code yX11_undo cX11_undo 2 (some .int) ∈ et_Ts := et_in (List.mem_append_right _ (List.mem_of_getElem? (i := 1897) (by decide +kernel))) (by decide +kernel)
theorem ca_X11_undo : ev_cal et_Ts yX11_undo cX11_undo 2 (some .int) 0 := ⟨cd_X11_undo, in_TypeLevelsModel, by decide +kernel, ⟨by decide +kernel, by decide +kernel⟩, by decide, by decide +kernel⟩
theorem ml_L_45 : Cond.methodLink "TypeLevelsLaw" 45 ⟨"TypeLevelsModel", "undo", "()I"⟩ ∈ et_Ts := et_in (List.mem_append_right _ (List.mem_of_getElem? (i := 1894) (by decide +kernel))) (by decide +kernel)
theorem im_TypeLevelsModel_undo___I : Cond.instanceMethod ⟨"TypeLevelsModel", "undo", "()I"⟩ ∈ et_Ts := et_in (List.mem_append_right _ (List.mem_of_getElem? (i := 1895) (by decide +kernel))) (by decide +kernel)
theorem sl_TypeLevelsModel_undo___I : Cond.selects "TypeLevelsModel" ⟨"TypeLevelsModel", "undo", "()I"⟩ ⟨"TypeLevelsModel", "undo", "()I"⟩ ∈ et_Ts := et_in (List.mem_append_right _ (List.mem_of_getElem? (i := 1896) (by decide +kernel))) (by decide +kernel)
theorem cd_X11_definition : Cond.code yX11_definition cX11_definition 4 (some .int) ∈ et_Ts := et_in (List.mem_append_right _ (List.mem_of_getElem? (i := 1901) (by decide +kernel))) (by decide +kernel)
theorem ca_X11_definition : ev_cal et_Ts yX11_definition cX11_definition 4 (some .int) 2 := ⟨cd_X11_definition, in_TypeLevelsModel, by decide +kernel, ⟨by decide +kernel, by decide +kernel⟩, by decide, by decide +kernel⟩
theorem ml_L_51 : Cond.methodLink "TypeLevelsLaw" 51 ⟨"TypeLevelsModel", "definition", "(II)I"⟩ ∈ et_Ts := et_in (List.mem_append_right _ (List.mem_of_getElem? (i := 1898) (by decide +kernel))) (by decide +kernel)
theorem im_TypeLevelsModel_definition__II_I : Cond.instanceMethod ⟨"TypeLevelsModel", "definition", "(II)I"⟩ ∈ et_Ts := et_in (List.mem_append_right _ (List.mem_of_getElem? (i := 1899) (by decide +kernel))) (by decide +kernel)
theorem sl_TypeLevelsModel_definition__II_I : Cond.selects "TypeLevelsModel" ⟨"TypeLevelsModel", "definition", "(II)I"⟩ ⟨"TypeLevelsModel", "definition", "(II)I"⟩ ∈ et_Ts := et_in (List.mem_append_right _ (List.mem_of_getElem? (i := 1900) (by decide +kernel))) (by decide +kernel)
theorem cd_X11_thrown : Cond.code yX11_thrown cX11_thrown 1 (some .int) ∈ et_Ts := et_in (List.mem_append_right _ (List.mem_of_getElem? (i := 1640) (by decide +kernel))) (by decide +kernel)
theorem ca_X11_thrown : ev_cal et_Ts yX11_thrown cX11_thrown 1 (some .int) 0 := ⟨cd_X11_thrown, in_TypeLevelsModel, by decide +kernel, ⟨by decide +kernel, by decide +kernel⟩, by decide, by decide +kernel⟩
theorem ml_L_52 : Cond.methodLink "TypeLevelsLaw" 52 ⟨"TypeLevelsModel", "thrown", "()I"⟩ ∈ et_Ts := et_in (List.mem_append_right _ (List.mem_of_getElem? (i := 1637) (by decide +kernel))) (by decide +kernel)
theorem im_TypeLevelsModel_thrown___I : Cond.instanceMethod ⟨"TypeLevelsModel", "thrown", "()I"⟩ ∈ et_Ts := et_in (List.mem_append_right _ (List.mem_of_getElem? (i := 1638) (by decide +kernel))) (by decide +kernel)
theorem sl_TypeLevelsModel_thrown___I : Cond.selects "TypeLevelsModel" ⟨"TypeLevelsModel", "thrown", "()I"⟩ ⟨"TypeLevelsModel", "thrown", "()I"⟩ ∈ et_Ts := et_in (List.mem_append_right _ (List.mem_of_getElem? (i := 1639) (by decide +kernel))) (by decide +kernel)
theorem cd_X10_scheme : Cond.code yX10_scheme cX10_scheme 2 (some .int) ∈ et_Ts := et_in (List.mem_append_right _ (List.mem_of_getElem? (i := 868) (by decide +kernel))) (by decide +kernel)
theorem ca_X10_scheme : ev_cal et_Ts yX10_scheme cX10_scheme 2 (some .int) 1 := ⟨cd_X10_scheme, in_TypeLevels, by decide +kernel, ⟨by decide +kernel, by decide +kernel⟩, by decide, by decide +kernel⟩
theorem ml_L_55 : Cond.methodLink "TypeLevelsLaw" 55 ⟨"TypeLevels", "scheme", "(I)I"⟩ ∈ et_Ts := et_in (List.mem_append_right _ (List.mem_of_getElem? (i := 865) (by decide +kernel))) (by decide +kernel)
theorem im_TypeLevels_scheme__I_I : Cond.instanceMethod ⟨"TypeLevels", "scheme", "(I)I"⟩ ∈ et_Ts := et_in (List.mem_append_right _ (List.mem_of_getElem? (i := 866) (by decide +kernel))) (by decide +kernel)
theorem sl_TypeLevels_scheme__I_I : Cond.selects "TypeLevels" ⟨"TypeLevels", "scheme", "(I)I"⟩ ⟨"TypeLevels", "scheme", "(I)I"⟩ ∈ et_Ts := et_in (List.mem_append_right _ (List.mem_of_getElem? (i := 867) (by decide +kernel))) (by decide +kernel)
theorem cd_X11_scheme : Cond.code yX11_scheme cX11_scheme 2 (some .int) ∈ et_Ts := et_in (List.mem_append_right _ (List.mem_of_getElem? (i := 1922) (by decide +kernel))) (by decide +kernel)
theorem ca_X11_scheme : ev_cal et_Ts yX11_scheme cX11_scheme 2 (some .int) 1 := ⟨cd_X11_scheme, in_TypeLevelsModel, by decide +kernel, ⟨by decide +kernel, by decide +kernel⟩, by decide, by decide +kernel⟩
theorem ml_L_58 : Cond.methodLink "TypeLevelsLaw" 58 ⟨"TypeLevelsModel", "scheme", "(I)I"⟩ ∈ et_Ts := et_in (List.mem_append_right _ (List.mem_of_getElem? (i := 1919) (by decide +kernel))) (by decide +kernel)
theorem im_TypeLevelsModel_scheme__I_I : Cond.instanceMethod ⟨"TypeLevelsModel", "scheme", "(I)I"⟩ ∈ et_Ts := et_in (List.mem_append_right _ (List.mem_of_getElem? (i := 1920) (by decide +kernel))) (by decide +kernel)
theorem sl_TypeLevelsModel_scheme__I_I : Cond.selects "TypeLevelsModel" ⟨"TypeLevelsModel", "scheme", "(I)I"⟩ ⟨"TypeLevelsModel", "scheme", "(I)I"⟩ ∈ et_Ts := et_in (List.mem_append_right _ (List.mem_of_getElem? (i := 1921) (by decide +kernel))) (by decide +kernel)
theorem cd_X10_type : Cond.code yX10_type cX10_type 2 (some .int) ∈ et_Ts := et_in (List.mem_append_right _ (List.mem_of_getElem? (i := 872) (by decide +kernel))) (by decide +kernel)
theorem ca_X10_type : ev_cal et_Ts yX10_type cX10_type 2 (some .int) 0 := ⟨cd_X10_type, in_TypeLevels, by decide +kernel, ⟨by decide +kernel, by decide +kernel⟩, by decide, by decide +kernel⟩
theorem ml_L_59 : Cond.methodLink "TypeLevelsLaw" 59 ⟨"TypeLevels", "type", "()I"⟩ ∈ et_Ts := et_in (List.mem_append_right _ (List.mem_of_getElem? (i := 869) (by decide +kernel))) (by decide +kernel)
theorem im_TypeLevels_type___I : Cond.instanceMethod ⟨"TypeLevels", "type", "()I"⟩ ∈ et_Ts := et_in (List.mem_append_right _ (List.mem_of_getElem? (i := 870) (by decide +kernel))) (by decide +kernel)
theorem sl_TypeLevels_type___I : Cond.selects "TypeLevels" ⟨"TypeLevels", "type", "()I"⟩ ⟨"TypeLevels", "type", "()I"⟩ ∈ et_Ts := et_in (List.mem_append_right _ (List.mem_of_getElem? (i := 871) (by decide +kernel))) (by decide +kernel)
theorem cd_X11_type : Cond.code yX11_type cX11_type 2 (some .int) ∈ et_Ts := et_in (List.mem_append_right _ (List.mem_of_getElem? (i := 1926) (by decide +kernel))) (by decide +kernel)
theorem ca_X11_type : ev_cal et_Ts yX11_type cX11_type 2 (some .int) 0 := ⟨cd_X11_type, in_TypeLevelsModel, by decide +kernel, ⟨by decide +kernel, by decide +kernel⟩, by decide, by decide +kernel⟩
theorem ml_L_62 : Cond.methodLink "TypeLevelsLaw" 62 ⟨"TypeLevelsModel", "type", "()I"⟩ ∈ et_Ts := et_in (List.mem_append_right _ (List.mem_of_getElem? (i := 1923) (by decide +kernel))) (by decide +kernel)
theorem im_TypeLevelsModel_type___I : Cond.instanceMethod ⟨"TypeLevelsModel", "type", "()I"⟩ ∈ et_Ts := et_in (List.mem_append_right _ (List.mem_of_getElem? (i := 1924) (by decide +kernel))) (by decide +kernel)
theorem sl_TypeLevelsModel_type___I : Cond.selects "TypeLevelsModel" ⟨"TypeLevelsModel", "type", "()I"⟩ ⟨"TypeLevelsModel", "type", "()I"⟩ ∈ et_Ts := et_in (List.mem_append_right _ (List.mem_of_getElem? (i := 1925) (by decide +kernel))) (by decide +kernel)
theorem cd_X10_blames : Cond.code yX10_blames cX10_blames 6 (some .int) ∈ et_Ts := et_in (List.mem_append_right _ (List.mem_of_getElem? (i := 895) (by decide +kernel))) (by decide +kernel)
theorem ca_X10_blames : ev_cal et_Ts yX10_blames cX10_blames 6 (some .int) 0 := ⟨cd_X10_blames, in_TypeLevels, by decide +kernel, ⟨by decide +kernel, by decide +kernel⟩, by decide, by decide +kernel⟩
theorem ml_L_63 : Cond.methodLink "TypeLevelsLaw" 63 ⟨"TypeLevels", "blames", "()I"⟩ ∈ et_Ts := et_in (List.mem_append_right _ (List.mem_of_getElem? (i := 892) (by decide +kernel))) (by decide +kernel)
theorem im_TypeLevels_blames___I : Cond.instanceMethod ⟨"TypeLevels", "blames", "()I"⟩ ∈ et_Ts := et_in (List.mem_append_right _ (List.mem_of_getElem? (i := 893) (by decide +kernel))) (by decide +kernel)
theorem sl_TypeLevels_blames___I : Cond.selects "TypeLevels" ⟨"TypeLevels", "blames", "()I"⟩ ⟨"TypeLevels", "blames", "()I"⟩ ∈ et_Ts := et_in (List.mem_append_right _ (List.mem_of_getElem? (i := 894) (by decide +kernel))) (by decide +kernel)
theorem cd_X11_blames : Cond.code yX11_blames cX11_blames 5 (some .int) ∈ et_Ts := et_in (List.mem_append_right _ (List.mem_of_getElem? (i := 1942) (by decide +kernel))) (by decide +kernel)
theorem ca_X11_blames : ev_cal et_Ts yX11_blames cX11_blames 5 (some .int) 0 := ⟨cd_X11_blames, in_TypeLevelsModel, by decide +kernel, ⟨by decide +kernel, by decide +kernel⟩, by decide, by decide +kernel⟩
theorem ml_L_66 : Cond.methodLink "TypeLevelsLaw" 66 ⟨"TypeLevelsModel", "blames", "()I"⟩ ∈ et_Ts := et_in (List.mem_append_right _ (List.mem_of_getElem? (i := 1939) (by decide +kernel))) (by decide +kernel)
theorem im_TypeLevelsModel_blames___I : Cond.instanceMethod ⟨"TypeLevelsModel", "blames", "()I"⟩ ∈ et_Ts := et_in (List.mem_append_right _ (List.mem_of_getElem? (i := 1940) (by decide +kernel))) (by decide +kernel)
theorem sl_TypeLevelsModel_blames___I : Cond.selects "TypeLevelsModel" ⟨"TypeLevelsModel", "blames", "()I"⟩ ⟨"TypeLevelsModel", "blames", "()I"⟩ ∈ et_Ts := et_in (List.mem_append_right _ (List.mem_of_getElem? (i := 1941) (by decide +kernel))) (by decide +kernel)
theorem cd_X10_hole : Cond.code yX10_hole cX10_hole 5 (some .int) ∈ et_Ts := et_in (List.mem_append_right _ (List.mem_of_getElem? (i := 907) (by decide +kernel))) (by decide +kernel)
theorem ca_X10_hole : ev_cal et_Ts yX10_hole cX10_hole 5 (some .int) 0 := ⟨cd_X10_hole, in_TypeLevels, by decide +kernel, ⟨by decide +kernel, by decide +kernel⟩, by decide, by decide +kernel⟩
theorem ml_L_67 : Cond.methodLink "TypeLevelsLaw" 67 ⟨"TypeLevels", "hole", "()I"⟩ ∈ et_Ts := et_in (List.mem_append_right _ (List.mem_of_getElem? (i := 904) (by decide +kernel))) (by decide +kernel)
theorem im_TypeLevels_hole___I : Cond.instanceMethod ⟨"TypeLevels", "hole", "()I"⟩ ∈ et_Ts := et_in (List.mem_append_right _ (List.mem_of_getElem? (i := 905) (by decide +kernel))) (by decide +kernel)
theorem sl_TypeLevels_hole___I : Cond.selects "TypeLevels" ⟨"TypeLevels", "hole", "()I"⟩ ⟨"TypeLevels", "hole", "()I"⟩ ∈ et_Ts := et_in (List.mem_append_right _ (List.mem_of_getElem? (i := 906) (by decide +kernel))) (by decide +kernel)
theorem cd_X11_hole : Cond.code yX11_hole cX11_hole 4 (some .int) ∈ et_Ts := et_in (List.mem_append_right _ (List.mem_of_getElem? (i := 1946) (by decide +kernel))) (by decide +kernel)
theorem ca_X11_hole : ev_cal et_Ts yX11_hole cX11_hole 4 (some .int) 0 := ⟨cd_X11_hole, in_TypeLevelsModel, by decide +kernel, ⟨by decide +kernel, by decide +kernel⟩, by decide, by decide +kernel⟩
theorem ml_L_70 : Cond.methodLink "TypeLevelsLaw" 70 ⟨"TypeLevelsModel", "hole", "()I"⟩ ∈ et_Ts := et_in (List.mem_append_right _ (List.mem_of_getElem? (i := 1943) (by decide +kernel))) (by decide +kernel)
theorem im_TypeLevelsModel_hole___I : Cond.instanceMethod ⟨"TypeLevelsModel", "hole", "()I"⟩ ∈ et_Ts := et_in (List.mem_append_right _ (List.mem_of_getElem? (i := 1944) (by decide +kernel))) (by decide +kernel)
theorem sl_TypeLevelsModel_hole___I : Cond.selects "TypeLevelsModel" ⟨"TypeLevelsModel", "hole", "()I"⟩ ⟨"TypeLevelsModel", "hole", "()I"⟩ ∈ et_Ts := et_in (List.mem_append_right _ (List.mem_of_getElem? (i := 1945) (by decide +kernel))) (by decide +kernel)
theorem cd_X10_parts : Cond.code yX10_parts cX10_parts 5 (some .int) ∈ et_Ts := et_in (List.mem_append_right _ (List.mem_of_getElem? (i := 946) (by decide +kernel))) (by decide +kernel)
theorem ca_X10_parts : ev_cal et_Ts yX10_parts cX10_parts 5 (some .int) 0 := ⟨cd_X10_parts, in_TypeLevels, by decide +kernel, ⟨by decide +kernel, by decide +kernel⟩, by decide, by decide +kernel⟩
theorem ml_L_71 : Cond.methodLink "TypeLevelsLaw" 71 ⟨"TypeLevels", "parts", "()I"⟩ ∈ et_Ts := et_in (List.mem_append_right _ (List.mem_of_getElem? (i := 943) (by decide +kernel))) (by decide +kernel)
theorem im_TypeLevels_parts___I : Cond.instanceMethod ⟨"TypeLevels", "parts", "()I"⟩ ∈ et_Ts := et_in (List.mem_append_right _ (List.mem_of_getElem? (i := 944) (by decide +kernel))) (by decide +kernel)
theorem sl_TypeLevels_parts___I : Cond.selects "TypeLevels" ⟨"TypeLevels", "parts", "()I"⟩ ⟨"TypeLevels", "parts", "()I"⟩ ∈ et_Ts := et_in (List.mem_append_right _ (List.mem_of_getElem? (i := 945) (by decide +kernel))) (by decide +kernel)
theorem cd_X11_parts : Cond.code yX11_parts cX11_parts 3 (some .int) ∈ et_Ts := et_in (List.mem_append_right _ (List.mem_of_getElem? (i := 1950) (by decide +kernel))) (by decide +kernel)
theorem ca_X11_parts : ev_cal et_Ts yX11_parts cX11_parts 3 (some .int) 0 := ⟨cd_X11_parts, in_TypeLevelsModel, by decide +kernel, ⟨by decide +kernel, by decide +kernel⟩, by decide, by decide +kernel⟩
theorem ml_L_74 : Cond.methodLink "TypeLevelsLaw" 74 ⟨"TypeLevelsModel", "parts", "()I"⟩ ∈ et_Ts := et_in (List.mem_append_right _ (List.mem_of_getElem? (i := 1947) (by decide +kernel))) (by decide +kernel)
theorem im_TypeLevelsModel_parts___I : Cond.instanceMethod ⟨"TypeLevelsModel", "parts", "()I"⟩ ∈ et_Ts := et_in (List.mem_append_right _ (List.mem_of_getElem? (i := 1948) (by decide +kernel))) (by decide +kernel)
theorem sl_TypeLevelsModel_parts___I : Cond.selects "TypeLevelsModel" ⟨"TypeLevelsModel", "parts", "()I"⟩ ⟨"TypeLevelsModel", "parts", "()I"⟩ ∈ et_Ts := et_in (List.mem_append_right _ (List.mem_of_getElem? (i := 1949) (by decide +kernel))) (by decide +kernel)
theorem cd_X10_general : Cond.code yX10_general cX10_general 3 (some .int) ∈ et_Ts := et_in (List.mem_append_right _ (List.mem_of_getElem? (i := 958) (by decide +kernel))) (by decide +kernel)
theorem ca_X10_general : ev_cal et_Ts yX10_general cX10_general 3 (some .int) 2 := ⟨cd_X10_general, in_TypeLevels, by decide +kernel, ⟨by decide +kernel, by decide +kernel⟩, by decide, by decide +kernel⟩
theorem ml_L_75 : Cond.methodLink "TypeLevelsLaw" 75 ⟨"TypeLevels", "general", "(II)I"⟩ ∈ et_Ts := et_in (List.mem_append_right _ (List.mem_of_getElem? (i := 955) (by decide +kernel))) (by decide +kernel)
theorem im_TypeLevels_general__II_I : Cond.instanceMethod ⟨"TypeLevels", "general", "(II)I"⟩ ∈ et_Ts := et_in (List.mem_append_right _ (List.mem_of_getElem? (i := 956) (by decide +kernel))) (by decide +kernel)
theorem sl_TypeLevels_general__II_I : Cond.selects "TypeLevels" ⟨"TypeLevels", "general", "(II)I"⟩ ⟨"TypeLevels", "general", "(II)I"⟩ ∈ et_Ts := et_in (List.mem_append_right _ (List.mem_of_getElem? (i := 957) (by decide +kernel))) (by decide +kernel)
theorem cd_X11_general : Cond.code yX11_general cX11_general 8 (some .int) ∈ et_Ts := et_in (List.mem_append_right _ (List.mem_of_getElem? (i := 1955) (by decide +kernel))) (by decide +kernel)
theorem ca_X11_general : ev_cal et_Ts yX11_general cX11_general 8 (some .int) 2 := ⟨cd_X11_general, in_TypeLevelsModel, by decide +kernel, ⟨by decide +kernel, by decide +kernel⟩, by decide, by decide +kernel⟩
theorem ml_L_78 : Cond.methodLink "TypeLevelsLaw" 78 ⟨"TypeLevelsModel", "general", "(II)I"⟩ ∈ et_Ts := et_in (List.mem_append_right _ (List.mem_of_getElem? (i := 1952) (by decide +kernel))) (by decide +kernel)
theorem im_TypeLevelsModel_general__II_I : Cond.instanceMethod ⟨"TypeLevelsModel", "general", "(II)I"⟩ ∈ et_Ts := et_in (List.mem_append_right _ (List.mem_of_getElem? (i := 1953) (by decide +kernel))) (by decide +kernel)
theorem sl_TypeLevelsModel_general__II_I : Cond.selects "TypeLevelsModel" ⟨"TypeLevelsModel", "general", "(II)I"⟩ ⟨"TypeLevelsModel", "general", "(II)I"⟩ ∈ et_Ts := et_in (List.mem_append_right _ (List.mem_of_getElem? (i := 1954) (by decide +kernel))) (by decide +kernel)
theorem cd_X10_one : Cond.code yX10_one cX10_one 5 (some .int) ∈ et_Ts := et_in (List.mem_append_right _ (List.mem_of_getElem? (i := 976) (by decide +kernel))) (by decide +kernel)
theorem ca_X10_one : ev_cal et_Ts yX10_one cX10_one 5 (some .int) 2 := ⟨cd_X10_one, in_TypeLevels, by decide +kernel, ⟨by decide +kernel, by decide +kernel⟩, by decide, by decide +kernel⟩
theorem ml_L_79 : Cond.methodLink "TypeLevelsLaw" 79 ⟨"TypeLevels", "one", "(II)I"⟩ ∈ et_Ts := et_in (List.mem_append_right _ (List.mem_of_getElem? (i := 973) (by decide +kernel))) (by decide +kernel)
theorem im_TypeLevels_one__II_I : Cond.instanceMethod ⟨"TypeLevels", "one", "(II)I"⟩ ∈ et_Ts := et_in (List.mem_append_right _ (List.mem_of_getElem? (i := 974) (by decide +kernel))) (by decide +kernel)
theorem sl_TypeLevels_one__II_I : Cond.selects "TypeLevels" ⟨"TypeLevels", "one", "(II)I"⟩ ⟨"TypeLevels", "one", "(II)I"⟩ ∈ et_Ts := et_in (List.mem_append_right _ (List.mem_of_getElem? (i := 975) (by decide +kernel))) (by decide +kernel)
theorem cd_X11_one : Cond.code yX11_one cX11_one 5 (some .int) ∈ et_Ts := et_in (List.mem_append_right _ (List.mem_of_getElem? (i := 1963) (by decide +kernel))) (by decide +kernel)
theorem ca_X11_one : ev_cal et_Ts yX11_one cX11_one 5 (some .int) 2 := ⟨cd_X11_one, in_TypeLevelsModel, by decide +kernel, ⟨by decide +kernel, by decide +kernel⟩, by decide, by decide +kernel⟩
theorem ml_L_82 : Cond.methodLink "TypeLevelsLaw" 82 ⟨"TypeLevelsModel", "one", "(II)I"⟩ ∈ et_Ts := et_in (List.mem_append_right _ (List.mem_of_getElem? (i := 1960) (by decide +kernel))) (by decide +kernel)
theorem im_TypeLevelsModel_one__II_I : Cond.instanceMethod ⟨"TypeLevelsModel", "one", "(II)I"⟩ ∈ et_Ts := et_in (List.mem_append_right _ (List.mem_of_getElem? (i := 1961) (by decide +kernel))) (by decide +kernel)
theorem sl_TypeLevelsModel_one__II_I : Cond.selects "TypeLevelsModel" ⟨"TypeLevelsModel", "one", "(II)I"⟩ ⟨"TypeLevelsModel", "one", "(II)I"⟩ ∈ et_Ts := et_in (List.mem_append_right _ (List.mem_of_getElem? (i := 1962) (by decide +kernel))) (by decide +kernel)
theorem cd_X10_applies : Cond.code yX10_applies cX10_applies 3 (some .int) ∈ et_Ts := et_in (List.mem_append_right _ (List.mem_of_getElem? (i := 983) (by decide +kernel))) (by decide +kernel)
theorem ca_X10_applies : ev_cal et_Ts yX10_applies cX10_applies 3 (some .int) 2 := ⟨cd_X10_applies, in_TypeLevels, by decide +kernel, ⟨by decide +kernel, by decide +kernel⟩, by decide, by decide +kernel⟩
theorem ml_L_83 : Cond.methodLink "TypeLevelsLaw" 83 ⟨"TypeLevels", "applies", "(II)I"⟩ ∈ et_Ts := et_in (List.mem_append_right _ (List.mem_of_getElem? (i := 980) (by decide +kernel))) (by decide +kernel)
theorem im_TypeLevels_applies__II_I : Cond.instanceMethod ⟨"TypeLevels", "applies", "(II)I"⟩ ∈ et_Ts := et_in (List.mem_append_right _ (List.mem_of_getElem? (i := 981) (by decide +kernel))) (by decide +kernel)
theorem sl_TypeLevels_applies__II_I : Cond.selects "TypeLevels" ⟨"TypeLevels", "applies", "(II)I"⟩ ⟨"TypeLevels", "applies", "(II)I"⟩ ∈ et_Ts := et_in (List.mem_append_right _ (List.mem_of_getElem? (i := 982) (by decide +kernel))) (by decide +kernel)
theorem cd_X11_applies : Cond.code yX11_applies cX11_applies 3 (some .int) ∈ et_Ts := et_in (List.mem_append_right _ (List.mem_of_getElem? (i := 1967) (by decide +kernel))) (by decide +kernel)
theorem ca_X11_applies : ev_cal et_Ts yX11_applies cX11_applies 3 (some .int) 2 := ⟨cd_X11_applies, in_TypeLevelsModel, by decide +kernel, ⟨by decide +kernel, by decide +kernel⟩, by decide, by decide +kernel⟩
theorem ml_L_86 : Cond.methodLink "TypeLevelsLaw" 86 ⟨"TypeLevelsModel", "applies", "(II)I"⟩ ∈ et_Ts := et_in (List.mem_append_right _ (List.mem_of_getElem? (i := 1964) (by decide +kernel))) (by decide +kernel)
theorem im_TypeLevelsModel_applies__II_I : Cond.instanceMethod ⟨"TypeLevelsModel", "applies", "(II)I"⟩ ∈ et_Ts := et_in (List.mem_append_right _ (List.mem_of_getElem? (i := 1965) (by decide +kernel))) (by decide +kernel)
theorem sl_TypeLevelsModel_applies__II_I : Cond.selects "TypeLevelsModel" ⟨"TypeLevelsModel", "applies", "(II)I"⟩ ⟨"TypeLevelsModel", "applies", "(II)I"⟩ ∈ et_Ts := et_in (List.mem_append_right _ (List.mem_of_getElem? (i := 1966) (by decide +kernel))) (by decide +kernel)
theorem cd_X10_behind : Cond.code yX10_behind cX10_behind 3 (some .int) ∈ et_Ts := et_in (List.mem_append_right _ (List.mem_of_getElem? (i := 991) (by decide +kernel))) (by decide +kernel)
theorem ca_X10_behind : ev_cal et_Ts yX10_behind cX10_behind 3 (some .int) 2 := ⟨cd_X10_behind, in_TypeLevels, by decide +kernel, ⟨by decide +kernel, by decide +kernel⟩, by decide, by decide +kernel⟩
theorem ml_L_87 : Cond.methodLink "TypeLevelsLaw" 87 ⟨"TypeLevels", "behind", "(II)I"⟩ ∈ et_Ts := et_in (List.mem_append_right _ (List.mem_of_getElem? (i := 988) (by decide +kernel))) (by decide +kernel)
theorem im_TypeLevels_behind__II_I : Cond.instanceMethod ⟨"TypeLevels", "behind", "(II)I"⟩ ∈ et_Ts := et_in (List.mem_append_right _ (List.mem_of_getElem? (i := 989) (by decide +kernel))) (by decide +kernel)
theorem sl_TypeLevels_behind__II_I : Cond.selects "TypeLevels" ⟨"TypeLevels", "behind", "(II)I"⟩ ⟨"TypeLevels", "behind", "(II)I"⟩ ∈ et_Ts := et_in (List.mem_append_right _ (List.mem_of_getElem? (i := 990) (by decide +kernel))) (by decide +kernel)
theorem cd_X11_behind : Cond.code yX11_behind cX11_behind 3 (some .int) ∈ et_Ts := et_in (List.mem_append_right _ (List.mem_of_getElem? (i := 2024) (by decide +kernel))) (by decide +kernel)
theorem ca_X11_behind : ev_cal et_Ts yX11_behind cX11_behind 3 (some .int) 2 := ⟨cd_X11_behind, in_TypeLevelsModel, by decide +kernel, ⟨by decide +kernel, by decide +kernel⟩, by decide, by decide +kernel⟩
theorem ml_L_90 : Cond.methodLink "TypeLevelsLaw" 90 ⟨"TypeLevelsModel", "behind", "(II)I"⟩ ∈ et_Ts := et_in (List.mem_append_right _ (List.mem_of_getElem? (i := 2021) (by decide +kernel))) (by decide +kernel)
theorem im_TypeLevelsModel_behind__II_I : Cond.instanceMethod ⟨"TypeLevelsModel", "behind", "(II)I"⟩ ∈ et_Ts := et_in (List.mem_append_right _ (List.mem_of_getElem? (i := 2022) (by decide +kernel))) (by decide +kernel)
theorem sl_TypeLevelsModel_behind__II_I : Cond.selects "TypeLevelsModel" ⟨"TypeLevelsModel", "behind", "(II)I"⟩ ⟨"TypeLevelsModel", "behind", "(II)I"⟩ ∈ et_Ts := et_in (List.mem_append_right _ (List.mem_of_getElem? (i := 2023) (by decide +kernel))) (by decide +kernel)
theorem cd_X10_flips : Cond.code yX10_flips cX10_flips 2 (some .int) ∈ et_Ts := et_in (List.mem_append_right _ (List.mem_of_getElem? (i := 995) (by decide +kernel))) (by decide +kernel)
theorem ca_X10_flips : ev_cal et_Ts yX10_flips cX10_flips 2 (some .int) 1 := ⟨cd_X10_flips, in_TypeLevels, by decide +kernel, ⟨by decide +kernel, by decide +kernel⟩, by decide, by decide +kernel⟩
theorem ml_L_91 : Cond.methodLink "TypeLevelsLaw" 91 ⟨"TypeLevels", "flips", "(I)I"⟩ ∈ et_Ts := et_in (List.mem_append_right _ (List.mem_of_getElem? (i := 992) (by decide +kernel))) (by decide +kernel)
theorem im_TypeLevels_flips__I_I : Cond.instanceMethod ⟨"TypeLevels", "flips", "(I)I"⟩ ∈ et_Ts := et_in (List.mem_append_right _ (List.mem_of_getElem? (i := 993) (by decide +kernel))) (by decide +kernel)
theorem sl_TypeLevels_flips__I_I : Cond.selects "TypeLevels" ⟨"TypeLevels", "flips", "(I)I"⟩ ⟨"TypeLevels", "flips", "(I)I"⟩ ∈ et_Ts := et_in (List.mem_append_right _ (List.mem_of_getElem? (i := 994) (by decide +kernel))) (by decide +kernel)
theorem cd_X11_flips : Cond.code yX11_flips cX11_flips 2 (some .int) ∈ et_Ts := et_in (List.mem_append_right _ (List.mem_of_getElem? (i := 2029) (by decide +kernel))) (by decide +kernel)
theorem ca_X11_flips : ev_cal et_Ts yX11_flips cX11_flips 2 (some .int) 1 := ⟨cd_X11_flips, in_TypeLevelsModel, by decide +kernel, ⟨by decide +kernel, by decide +kernel⟩, by decide, by decide +kernel⟩
theorem ml_L_94 : Cond.methodLink "TypeLevelsLaw" 94 ⟨"TypeLevelsModel", "flips", "(I)I"⟩ ∈ et_Ts := et_in (List.mem_append_right _ (List.mem_of_getElem? (i := 2026) (by decide +kernel))) (by decide +kernel)
theorem im_TypeLevelsModel_flips__I_I : Cond.instanceMethod ⟨"TypeLevelsModel", "flips", "(I)I"⟩ ∈ et_Ts := et_in (List.mem_append_right _ (List.mem_of_getElem? (i := 2027) (by decide +kernel))) (by decide +kernel)
theorem sl_TypeLevelsModel_flips__I_I : Cond.selects "TypeLevelsModel" ⟨"TypeLevelsModel", "flips", "(I)I"⟩ ⟨"TypeLevelsModel", "flips", "(I)I"⟩ ∈ et_Ts := et_in (List.mem_append_right _ (List.mem_of_getElem? (i := 2028) (by decide +kernel))) (by decide +kernel)
theorem cd_X10_ways : Cond.code yX10_ways cX10_ways 5 (some .int) ∈ et_Ts := et_in (List.mem_append_right _ (List.mem_of_getElem? (i := 999) (by decide +kernel))) (by decide +kernel)
theorem ca_X10_ways : ev_cal et_Ts yX10_ways cX10_ways 5 (some .int) 2 := ⟨cd_X10_ways, in_TypeLevels, by decide +kernel, ⟨by decide +kernel, by decide +kernel⟩, by decide, by decide +kernel⟩
theorem ml_L_95 : Cond.methodLink "TypeLevelsLaw" 95 ⟨"TypeLevels", "ways", "(II)I"⟩ ∈ et_Ts := et_in (List.mem_append_right _ (List.mem_of_getElem? (i := 996) (by decide +kernel))) (by decide +kernel)
theorem im_TypeLevels_ways__II_I : Cond.instanceMethod ⟨"TypeLevels", "ways", "(II)I"⟩ ∈ et_Ts := et_in (List.mem_append_right _ (List.mem_of_getElem? (i := 997) (by decide +kernel))) (by decide +kernel)
theorem sl_TypeLevels_ways__II_I : Cond.selects "TypeLevels" ⟨"TypeLevels", "ways", "(II)I"⟩ ⟨"TypeLevels", "ways", "(II)I"⟩ ∈ et_Ts := et_in (List.mem_append_right _ (List.mem_of_getElem? (i := 998) (by decide +kernel))) (by decide +kernel)
theorem cd_X11_ways : Cond.code yX11_ways cX11_ways 5 (some .int) ∈ et_Ts := et_in (List.mem_append_right _ (List.mem_of_getElem? (i := 2034) (by decide +kernel))) (by decide +kernel)
theorem ca_X11_ways : ev_cal et_Ts yX11_ways cX11_ways 5 (some .int) 2 := ⟨cd_X11_ways, in_TypeLevelsModel, by decide +kernel, ⟨by decide +kernel, by decide +kernel⟩, by decide, by decide +kernel⟩
theorem ml_L_98 : Cond.methodLink "TypeLevelsLaw" 98 ⟨"TypeLevelsModel", "ways", "(II)I"⟩ ∈ et_Ts := et_in (List.mem_append_right _ (List.mem_of_getElem? (i := 2031) (by decide +kernel))) (by decide +kernel)
theorem im_TypeLevelsModel_ways__II_I : Cond.instanceMethod ⟨"TypeLevelsModel", "ways", "(II)I"⟩ ∈ et_Ts := et_in (List.mem_append_right _ (List.mem_of_getElem? (i := 2032) (by decide +kernel))) (by decide +kernel)
theorem sl_TypeLevelsModel_ways__II_I : Cond.selects "TypeLevelsModel" ⟨"TypeLevelsModel", "ways", "(II)I"⟩ ⟨"TypeLevelsModel", "ways", "(II)I"⟩ ∈ et_Ts := et_in (List.mem_append_right _ (List.mem_of_getElem? (i := 2033) (by decide +kernel))) (by decide +kernel)
theorem cd_X10_sorts : Cond.code yX10_sorts cX10_sorts 7 (some .int) ∈ et_Ts := et_in (List.mem_append_right _ (List.mem_of_getElem? (i := 1020) (by decide +kernel))) (by decide +kernel)
theorem ca_X10_sorts : ev_cal et_Ts yX10_sorts cX10_sorts 7 (some .int) 0 := ⟨cd_X10_sorts, in_TypeLevels, by decide +kernel, ⟨by decide +kernel, by decide +kernel⟩, by decide, by decide +kernel⟩
theorem ml_L_99 : Cond.methodLink "TypeLevelsLaw" 99 ⟨"TypeLevels", "sorts", "()I"⟩ ∈ et_Ts := et_in (List.mem_append_right _ (List.mem_of_getElem? (i := 1017) (by decide +kernel))) (by decide +kernel)
theorem im_TypeLevels_sorts___I : Cond.instanceMethod ⟨"TypeLevels", "sorts", "()I"⟩ ∈ et_Ts := et_in (List.mem_append_right _ (List.mem_of_getElem? (i := 1018) (by decide +kernel))) (by decide +kernel)
theorem sl_TypeLevels_sorts___I : Cond.selects "TypeLevels" ⟨"TypeLevels", "sorts", "()I"⟩ ⟨"TypeLevels", "sorts", "()I"⟩ ∈ et_Ts := et_in (List.mem_append_right _ (List.mem_of_getElem? (i := 1019) (by decide +kernel))) (by decide +kernel)
theorem cd_X11_sorts : Cond.code yX11_sorts cX11_sorts 9 (some .int) ∈ et_Ts := et_in (List.mem_append_right _ (List.mem_of_getElem? (i := 2046) (by decide +kernel))) (by decide +kernel)
theorem ca_X11_sorts : ev_cal et_Ts yX11_sorts cX11_sorts 9 (some .int) 0 := ⟨cd_X11_sorts, in_TypeLevelsModel, by decide +kernel, ⟨by decide +kernel, by decide +kernel⟩, by decide, by decide +kernel⟩
theorem ml_L_102 : Cond.methodLink "TypeLevelsLaw" 102 ⟨"TypeLevelsModel", "sorts", "()I"⟩ ∈ et_Ts := et_in (List.mem_append_right _ (List.mem_of_getElem? (i := 2043) (by decide +kernel))) (by decide +kernel)
theorem im_TypeLevelsModel_sorts___I : Cond.instanceMethod ⟨"TypeLevelsModel", "sorts", "()I"⟩ ∈ et_Ts := et_in (List.mem_append_right _ (List.mem_of_getElem? (i := 2044) (by decide +kernel))) (by decide +kernel)
theorem sl_TypeLevelsModel_sorts___I : Cond.selects "TypeLevelsModel" ⟨"TypeLevelsModel", "sorts", "()I"⟩ ⟨"TypeLevelsModel", "sorts", "()I"⟩ ∈ et_Ts := et_in (List.mem_append_right _ (List.mem_of_getElem? (i := 2045) (by decide +kernel))) (by decide +kernel)
theorem cd_X10_largest : Cond.code yX10_largest cX10_largest 4 (some .int) ∈ et_Ts := et_in (List.mem_append_right _ (List.mem_of_getElem? (i := 1041) (by decide +kernel))) (by decide +kernel)
theorem ca_X10_largest : ev_cal et_Ts yX10_largest cX10_largest 4 (some .int) 0 := ⟨cd_X10_largest, in_TypeLevels, by decide +kernel, ⟨by decide +kernel, by decide +kernel⟩, by decide, by decide +kernel⟩
theorem ml_L_103 : Cond.methodLink "TypeLevelsLaw" 103 ⟨"TypeLevels", "largest", "()I"⟩ ∈ et_Ts := et_in (List.mem_append_right _ (List.mem_of_getElem? (i := 1038) (by decide +kernel))) (by decide +kernel)
theorem im_TypeLevels_largest___I : Cond.instanceMethod ⟨"TypeLevels", "largest", "()I"⟩ ∈ et_Ts := et_in (List.mem_append_right _ (List.mem_of_getElem? (i := 1039) (by decide +kernel))) (by decide +kernel)
theorem sl_TypeLevels_largest___I : Cond.selects "TypeLevels" ⟨"TypeLevels", "largest", "()I"⟩ ⟨"TypeLevels", "largest", "()I"⟩ ∈ et_Ts := et_in (List.mem_append_right _ (List.mem_of_getElem? (i := 1040) (by decide +kernel))) (by decide +kernel)
theorem cd_X11_largest : Cond.code yX11_largest cX11_largest 3 (some .int) ∈ et_Ts := et_in (List.mem_append_right _ (List.mem_of_getElem? (i := 2053) (by decide +kernel))) (by decide +kernel)
theorem ca_X11_largest : ev_cal et_Ts yX11_largest cX11_largest 3 (some .int) 0 := ⟨cd_X11_largest, in_TypeLevelsModel, by decide +kernel, ⟨by decide +kernel, by decide +kernel⟩, by decide, by decide +kernel⟩
theorem ml_L_106 : Cond.methodLink "TypeLevelsLaw" 106 ⟨"TypeLevelsModel", "largest", "()I"⟩ ∈ et_Ts := et_in (List.mem_append_right _ (List.mem_of_getElem? (i := 2050) (by decide +kernel))) (by decide +kernel)
theorem im_TypeLevelsModel_largest___I : Cond.instanceMethod ⟨"TypeLevelsModel", "largest", "()I"⟩ ∈ et_Ts := et_in (List.mem_append_right _ (List.mem_of_getElem? (i := 2051) (by decide +kernel))) (by decide +kernel)
theorem sl_TypeLevelsModel_largest___I : Cond.selects "TypeLevelsModel" ⟨"TypeLevelsModel", "largest", "()I"⟩ ⟨"TypeLevelsModel", "largest", "()I"⟩ ∈ et_Ts := et_in (List.mem_append_right _ (List.mem_of_getElem? (i := 2052) (by decide +kernel))) (by decide +kernel)
theorem cd_X10_comes : Cond.code yX10_comes cX10_comes 4 (some .int) ∈ et_Ts := et_in (List.mem_append_right _ (List.mem_of_getElem? (i := 1045) (by decide +kernel))) (by decide +kernel)
theorem ca_X10_comes : ev_cal et_Ts yX10_comes cX10_comes 4 (some .int) 0 := ⟨cd_X10_comes, in_TypeLevels, by decide +kernel, ⟨by decide +kernel, by decide +kernel⟩, by decide, by decide +kernel⟩
theorem ml_L_107 : Cond.methodLink "TypeLevelsLaw" 107 ⟨"TypeLevels", "comes", "()I"⟩ ∈ et_Ts := et_in (List.mem_append_right _ (List.mem_of_getElem? (i := 1042) (by decide +kernel))) (by decide +kernel)
theorem im_TypeLevels_comes___I : Cond.instanceMethod ⟨"TypeLevels", "comes", "()I"⟩ ∈ et_Ts := et_in (List.mem_append_right _ (List.mem_of_getElem? (i := 1043) (by decide +kernel))) (by decide +kernel)
theorem sl_TypeLevels_comes___I : Cond.selects "TypeLevels" ⟨"TypeLevels", "comes", "()I"⟩ ⟨"TypeLevels", "comes", "()I"⟩ ∈ et_Ts := et_in (List.mem_append_right _ (List.mem_of_getElem? (i := 1044) (by decide +kernel))) (by decide +kernel)
theorem cd_X11_comes : Cond.code yX11_comes cX11_comes 3 (some .int) ∈ et_Ts := et_in (List.mem_append_right _ (List.mem_of_getElem? (i := 2057) (by decide +kernel))) (by decide +kernel)
theorem ca_X11_comes : ev_cal et_Ts yX11_comes cX11_comes 3 (some .int) 0 := ⟨cd_X11_comes, in_TypeLevelsModel, by decide +kernel, ⟨by decide +kernel, by decide +kernel⟩, by decide, by decide +kernel⟩
theorem ml_L_110 : Cond.methodLink "TypeLevelsLaw" 110 ⟨"TypeLevelsModel", "comes", "()I"⟩ ∈ et_Ts := et_in (List.mem_append_right _ (List.mem_of_getElem? (i := 2054) (by decide +kernel))) (by decide +kernel)
theorem im_TypeLevelsModel_comes___I : Cond.instanceMethod ⟨"TypeLevelsModel", "comes", "()I"⟩ ∈ et_Ts := et_in (List.mem_append_right _ (List.mem_of_getElem? (i := 2055) (by decide +kernel))) (by decide +kernel)
theorem sl_TypeLevelsModel_comes___I : Cond.selects "TypeLevelsModel" ⟨"TypeLevelsModel", "comes", "()I"⟩ ⟨"TypeLevelsModel", "comes", "()I"⟩ ∈ et_Ts := et_in (List.mem_append_right _ (List.mem_of_getElem? (i := 2056) (by decide +kernel))) (by decide +kernel)
theorem cd_X10_gives : Cond.code yX10_gives cX10_gives 4 (some .int) ∈ et_Ts := et_in (List.mem_append_right _ (List.mem_of_getElem? (i := 1166) (by decide +kernel))) (by decide +kernel)
theorem ca_X10_gives : ev_cal et_Ts yX10_gives cX10_gives 4 (some .int) 2 := ⟨cd_X10_gives, in_TypeLevels, by decide +kernel, ⟨by decide +kernel, by decide +kernel⟩, by decide, by decide +kernel⟩
theorem ml_L_111 : Cond.methodLink "TypeLevelsLaw" 111 ⟨"TypeLevels", "gives", "(II)I"⟩ ∈ et_Ts := et_in (List.mem_append_right _ (List.mem_of_getElem? (i := 1163) (by decide +kernel))) (by decide +kernel)
theorem im_TypeLevels_gives__II_I : Cond.instanceMethod ⟨"TypeLevels", "gives", "(II)I"⟩ ∈ et_Ts := et_in (List.mem_append_right _ (List.mem_of_getElem? (i := 1164) (by decide +kernel))) (by decide +kernel)
theorem sl_TypeLevels_gives__II_I : Cond.selects "TypeLevels" ⟨"TypeLevels", "gives", "(II)I"⟩ ⟨"TypeLevels", "gives", "(II)I"⟩ ∈ et_Ts := et_in (List.mem_append_right _ (List.mem_of_getElem? (i := 1165) (by decide +kernel))) (by decide +kernel)
theorem cd_X11_gives : Cond.code yX11_gives cX11_gives 4 (some .int) ∈ et_Ts := et_in (List.mem_append_right _ (List.mem_of_getElem? (i := 2116) (by decide +kernel))) (by decide +kernel)
theorem ca_X11_gives : ev_cal et_Ts yX11_gives cX11_gives 4 (some .int) 2 := ⟨cd_X11_gives, in_TypeLevelsModel, by decide +kernel, ⟨by decide +kernel, by decide +kernel⟩, by decide, by decide +kernel⟩
theorem ml_L_114 : Cond.methodLink "TypeLevelsLaw" 114 ⟨"TypeLevelsModel", "gives", "(II)I"⟩ ∈ et_Ts := et_in (List.mem_append_right _ (List.mem_of_getElem? (i := 2113) (by decide +kernel))) (by decide +kernel)
theorem im_TypeLevelsModel_gives__II_I : Cond.instanceMethod ⟨"TypeLevelsModel", "gives", "(II)I"⟩ ∈ et_Ts := et_in (List.mem_append_right _ (List.mem_of_getElem? (i := 2114) (by decide +kernel))) (by decide +kernel)
theorem sl_TypeLevelsModel_gives__II_I : Cond.selects "TypeLevelsModel" ⟨"TypeLevelsModel", "gives", "(II)I"⟩ ⟨"TypeLevelsModel", "gives", "(II)I"⟩ ∈ et_Ts := et_in (List.mem_append_right _ (List.mem_of_getElem? (i := 2115) (by decide +kernel))) (by decide +kernel)
theorem cd_X10_finds : Cond.code yX10_finds cX10_finds 6 (some .int) ∈ et_Ts := et_in (List.mem_append_right _ (List.mem_of_getElem? (i := 1192) (by decide +kernel))) (by decide +kernel)
theorem ca_X10_finds : ev_cal et_Ts yX10_finds cX10_finds 6 (some .int) 2 := ⟨cd_X10_finds, in_TypeLevels, by decide +kernel, ⟨by decide +kernel, by decide +kernel⟩, by decide, by decide +kernel⟩
theorem ml_L_115 : Cond.methodLink "TypeLevelsLaw" 115 ⟨"TypeLevels", "finds", "(II)I"⟩ ∈ et_Ts := et_in (List.mem_append_right _ (List.mem_of_getElem? (i := 1189) (by decide +kernel))) (by decide +kernel)
theorem im_TypeLevels_finds__II_I : Cond.instanceMethod ⟨"TypeLevels", "finds", "(II)I"⟩ ∈ et_Ts := et_in (List.mem_append_right _ (List.mem_of_getElem? (i := 1190) (by decide +kernel))) (by decide +kernel)
theorem sl_TypeLevels_finds__II_I : Cond.selects "TypeLevels" ⟨"TypeLevels", "finds", "(II)I"⟩ ⟨"TypeLevels", "finds", "(II)I"⟩ ∈ et_Ts := et_in (List.mem_append_right _ (List.mem_of_getElem? (i := 1191) (by decide +kernel))) (by decide +kernel)
theorem cd_X11_finds : Cond.code yX11_finds cX11_finds 6 (some .int) ∈ et_Ts := et_in (List.mem_append_right _ (List.mem_of_getElem? (i := 2124) (by decide +kernel))) (by decide +kernel)
theorem ca_X11_finds : ev_cal et_Ts yX11_finds cX11_finds 6 (some .int) 2 := ⟨cd_X11_finds, in_TypeLevelsModel, by decide +kernel, ⟨by decide +kernel, by decide +kernel⟩, by decide, by decide +kernel⟩
theorem ml_L_118 : Cond.methodLink "TypeLevelsLaw" 118 ⟨"TypeLevelsModel", "finds", "(II)I"⟩ ∈ et_Ts := et_in (List.mem_append_right _ (List.mem_of_getElem? (i := 2121) (by decide +kernel))) (by decide +kernel)
theorem im_TypeLevelsModel_finds__II_I : Cond.instanceMethod ⟨"TypeLevelsModel", "finds", "(II)I"⟩ ∈ et_Ts := et_in (List.mem_append_right _ (List.mem_of_getElem? (i := 2122) (by decide +kernel))) (by decide +kernel)
theorem sl_TypeLevelsModel_finds__II_I : Cond.selects "TypeLevelsModel" ⟨"TypeLevelsModel", "finds", "(II)I"⟩ ⟨"TypeLevelsModel", "finds", "(II)I"⟩ ∈ et_Ts := et_in (List.mem_append_right _ (List.mem_of_getElem? (i := 2123) (by decide +kernel))) (by decide +kernel)
theorem cd_X10_heard : Cond.code yX10_heard cX10_heard 3 (some .int) ∈ et_Ts := et_in (List.mem_append_right _ (List.mem_of_getElem? (i := 1196) (by decide +kernel))) (by decide +kernel)
theorem ca_X10_heard : ev_cal et_Ts yX10_heard cX10_heard 3 (some .int) 2 := ⟨cd_X10_heard, in_TypeLevels, by decide +kernel, ⟨by decide +kernel, by decide +kernel⟩, by decide, by decide +kernel⟩
theorem ml_L_119 : Cond.methodLink "TypeLevelsLaw" 119 ⟨"TypeLevels", "heard", "(II)I"⟩ ∈ et_Ts := et_in (List.mem_append_right _ (List.mem_of_getElem? (i := 1193) (by decide +kernel))) (by decide +kernel)
theorem im_TypeLevels_heard__II_I : Cond.instanceMethod ⟨"TypeLevels", "heard", "(II)I"⟩ ∈ et_Ts := et_in (List.mem_append_right _ (List.mem_of_getElem? (i := 1194) (by decide +kernel))) (by decide +kernel)
theorem sl_TypeLevels_heard__II_I : Cond.selects "TypeLevels" ⟨"TypeLevels", "heard", "(II)I"⟩ ⟨"TypeLevels", "heard", "(II)I"⟩ ∈ et_Ts := et_in (List.mem_append_right _ (List.mem_of_getElem? (i := 1195) (by decide +kernel))) (by decide +kernel)
theorem cd_X11_heard : Cond.code yX11_heard cX11_heard 3 (some .int) ∈ et_Ts := et_in (List.mem_append_right _ (List.mem_of_getElem? (i := 2128) (by decide +kernel))) (by decide +kernel)
theorem ca_X11_heard : ev_cal et_Ts yX11_heard cX11_heard 3 (some .int) 2 := ⟨cd_X11_heard, in_TypeLevelsModel, by decide +kernel, ⟨by decide +kernel, by decide +kernel⟩, by decide, by decide +kernel⟩
theorem ml_L_122 : Cond.methodLink "TypeLevelsLaw" 122 ⟨"TypeLevelsModel", "heard", "(II)I"⟩ ∈ et_Ts := et_in (List.mem_append_right _ (List.mem_of_getElem? (i := 2125) (by decide +kernel))) (by decide +kernel)
theorem im_TypeLevelsModel_heard__II_I : Cond.instanceMethod ⟨"TypeLevelsModel", "heard", "(II)I"⟩ ∈ et_Ts := et_in (List.mem_append_right _ (List.mem_of_getElem? (i := 2126) (by decide +kernel))) (by decide +kernel)
theorem sl_TypeLevelsModel_heard__II_I : Cond.selects "TypeLevelsModel" ⟨"TypeLevelsModel", "heard", "(II)I"⟩ ⟨"TypeLevelsModel", "heard", "(II)I"⟩ ∈ et_Ts := et_in (List.mem_append_right _ (List.mem_of_getElem? (i := 2127) (by decide +kernel))) (by decide +kernel)
theorem cd_X10_forget : Cond.code yX10_forget cX10_forget 2 (some .int) ∈ et_Ts := et_in (List.mem_append_right _ (List.mem_of_getElem? (i := 1213) (by decide +kernel))) (by decide +kernel)
theorem ca_X10_forget : ev_cal et_Ts yX10_forget cX10_forget 2 (some .int) 0 := ⟨cd_X10_forget, in_TypeLevels, by decide +kernel, ⟨by decide +kernel, by decide +kernel⟩, by decide, by decide +kernel⟩
theorem ml_L_123 : Cond.methodLink "TypeLevelsLaw" 123 ⟨"TypeLevels", "forget", "()I"⟩ ∈ et_Ts := et_in (List.mem_append_right _ (List.mem_of_getElem? (i := 1210) (by decide +kernel))) (by decide +kernel)
theorem im_TypeLevels_forget___I : Cond.instanceMethod ⟨"TypeLevels", "forget", "()I"⟩ ∈ et_Ts := et_in (List.mem_append_right _ (List.mem_of_getElem? (i := 1211) (by decide +kernel))) (by decide +kernel)
theorem sl_TypeLevels_forget___I : Cond.selects "TypeLevels" ⟨"TypeLevels", "forget", "()I"⟩ ⟨"TypeLevels", "forget", "()I"⟩ ∈ et_Ts := et_in (List.mem_append_right _ (List.mem_of_getElem? (i := 1212) (by decide +kernel))) (by decide +kernel)
theorem cd_X11_forget : Cond.code yX11_forget cX11_forget 2 (some .int) ∈ et_Ts := et_in (List.mem_append_right _ (List.mem_of_getElem? (i := 2135) (by decide +kernel))) (by decide +kernel)
theorem ca_X11_forget : ev_cal et_Ts yX11_forget cX11_forget 2 (some .int) 0 := ⟨cd_X11_forget, in_TypeLevelsModel, by decide +kernel, ⟨by decide +kernel, by decide +kernel⟩, by decide, by decide +kernel⟩
theorem ml_L_126 : Cond.methodLink "TypeLevelsLaw" 126 ⟨"TypeLevelsModel", "forget", "()I"⟩ ∈ et_Ts := et_in (List.mem_append_right _ (List.mem_of_getElem? (i := 2132) (by decide +kernel))) (by decide +kernel)
theorem im_TypeLevelsModel_forget___I : Cond.instanceMethod ⟨"TypeLevelsModel", "forget", "()I"⟩ ∈ et_Ts := et_in (List.mem_append_right _ (List.mem_of_getElem? (i := 2133) (by decide +kernel))) (by decide +kernel)
theorem sl_TypeLevelsModel_forget___I : Cond.selects "TypeLevelsModel" ⟨"TypeLevelsModel", "forget", "()I"⟩ ⟨"TypeLevelsModel", "forget", "()I"⟩ ∈ et_Ts := et_in (List.mem_append_right _ (List.mem_of_getElem? (i := 2134) (by decide +kernel))) (by decide +kernel)
theorem cd_X10_fits : Cond.code yX10_fits cX10_fits 2 (some .int) ∈ et_Ts := et_in (List.mem_append_right _ (List.mem_of_getElem? (i := 1221) (by decide +kernel))) (by decide +kernel)
theorem ca_X10_fits : ev_cal et_Ts yX10_fits cX10_fits 2 (some .int) 0 := ⟨cd_X10_fits, in_TypeLevels, by decide +kernel, ⟨by decide +kernel, by decide +kernel⟩, by decide, by decide +kernel⟩
theorem ml_L_127 : Cond.methodLink "TypeLevelsLaw" 127 ⟨"TypeLevels", "fits", "()I"⟩ ∈ et_Ts := et_in (List.mem_append_right _ (List.mem_of_getElem? (i := 1218) (by decide +kernel))) (by decide +kernel)
theorem im_TypeLevels_fits___I : Cond.instanceMethod ⟨"TypeLevels", "fits", "()I"⟩ ∈ et_Ts := et_in (List.mem_append_right _ (List.mem_of_getElem? (i := 1219) (by decide +kernel))) (by decide +kernel)
theorem sl_TypeLevels_fits___I : Cond.selects "TypeLevels" ⟨"TypeLevels", "fits", "()I"⟩ ⟨"TypeLevels", "fits", "()I"⟩ ∈ et_Ts := et_in (List.mem_append_right _ (List.mem_of_getElem? (i := 1220) (by decide +kernel))) (by decide +kernel)
theorem cd_X11_fits : Cond.code yX11_fits cX11_fits 2 (some .int) ∈ et_Ts := et_in (List.mem_append_right _ (List.mem_of_getElem? (i := 2139) (by decide +kernel))) (by decide +kernel)
theorem ca_X11_fits : ev_cal et_Ts yX11_fits cX11_fits 2 (some .int) 0 := ⟨cd_X11_fits, in_TypeLevelsModel, by decide +kernel, ⟨by decide +kernel, by decide +kernel⟩, by decide, by decide +kernel⟩
theorem ml_L_130 : Cond.methodLink "TypeLevelsLaw" 130 ⟨"TypeLevelsModel", "fits", "()I"⟩ ∈ et_Ts := et_in (List.mem_append_right _ (List.mem_of_getElem? (i := 2136) (by decide +kernel))) (by decide +kernel)
theorem im_TypeLevelsModel_fits___I : Cond.instanceMethod ⟨"TypeLevelsModel", "fits", "()I"⟩ ∈ et_Ts := et_in (List.mem_append_right _ (List.mem_of_getElem? (i := 2137) (by decide +kernel))) (by decide +kernel)
theorem sl_TypeLevelsModel_fits___I : Cond.selects "TypeLevelsModel" ⟨"TypeLevelsModel", "fits", "()I"⟩ ⟨"TypeLevelsModel", "fits", "()I"⟩ ∈ et_Ts := et_in (List.mem_append_right _ (List.mem_of_getElem? (i := 2138) (by decide +kernel))) (by decide +kernel)
theorem cd_X10_asks : Cond.code yX10_asks cX10_asks 7 (some .int) ∈ et_Ts := et_in (List.mem_append_right _ (List.mem_of_getElem? (i := 1266) (by decide +kernel))) (by decide +kernel)
theorem ca_X10_asks : ev_cal et_Ts yX10_asks cX10_asks 7 (some .int) 0 := ⟨cd_X10_asks, in_TypeLevels, by decide +kernel, ⟨by decide +kernel, by decide +kernel⟩, by decide, by decide +kernel⟩
theorem ml_L_131 : Cond.methodLink "TypeLevelsLaw" 131 ⟨"TypeLevels", "asks", "()I"⟩ ∈ et_Ts := et_in (List.mem_append_right _ (List.mem_of_getElem? (i := 1263) (by decide +kernel))) (by decide +kernel)
theorem im_TypeLevels_asks___I : Cond.instanceMethod ⟨"TypeLevels", "asks", "()I"⟩ ∈ et_Ts := et_in (List.mem_append_right _ (List.mem_of_getElem? (i := 1264) (by decide +kernel))) (by decide +kernel)
theorem sl_TypeLevels_asks___I : Cond.selects "TypeLevels" ⟨"TypeLevels", "asks", "()I"⟩ ⟨"TypeLevels", "asks", "()I"⟩ ∈ et_Ts := et_in (List.mem_append_right _ (List.mem_of_getElem? (i := 1265) (by decide +kernel))) (by decide +kernel)
theorem cd_X11_asks : Cond.code yX11_asks cX11_asks 8 (some .int) ∈ et_Ts := et_in (List.mem_append_right _ (List.mem_of_getElem? (i := 2152) (by decide +kernel))) (by decide +kernel)
theorem ca_X11_asks : ev_cal et_Ts yX11_asks cX11_asks 8 (some .int) 0 := ⟨cd_X11_asks, in_TypeLevelsModel, by decide +kernel, ⟨by decide +kernel, by decide +kernel⟩, by decide, by decide +kernel⟩
theorem ml_L_134 : Cond.methodLink "TypeLevelsLaw" 134 ⟨"TypeLevelsModel", "asks", "()I"⟩ ∈ et_Ts := et_in (List.mem_append_right _ (List.mem_of_getElem? (i := 2149) (by decide +kernel))) (by decide +kernel)
theorem im_TypeLevelsModel_asks___I : Cond.instanceMethod ⟨"TypeLevelsModel", "asks", "()I"⟩ ∈ et_Ts := et_in (List.mem_append_right _ (List.mem_of_getElem? (i := 2150) (by decide +kernel))) (by decide +kernel)
theorem sl_TypeLevelsModel_asks___I : Cond.selects "TypeLevelsModel" ⟨"TypeLevelsModel", "asks", "()I"⟩ ⟨"TypeLevelsModel", "asks", "()I"⟩ ∈ et_Ts := et_in (List.mem_append_right _ (List.mem_of_getElem? (i := 2151) (by decide +kernel))) (by decide +kernel)
theorem cd_X10_law : Cond.code yX10_law cX10_law 5 (some .int) ∈ et_Ts := et_in (List.mem_append_right _ (List.mem_of_getElem? (i := 1277) (by decide +kernel))) (by decide +kernel)
theorem ca_X10_law : ev_cal et_Ts yX10_law cX10_law 5 (some .int) 1 := ⟨cd_X10_law, in_TypeLevels, by decide +kernel, ⟨by decide +kernel, by decide +kernel⟩, by decide, by decide +kernel⟩
theorem ml_L_135 : Cond.methodLink "TypeLevelsLaw" 135 ⟨"TypeLevels", "law", "(I)I"⟩ ∈ et_Ts := et_in (List.mem_append_right _ (List.mem_of_getElem? (i := 1274) (by decide +kernel))) (by decide +kernel)
theorem im_TypeLevels_law__I_I : Cond.instanceMethod ⟨"TypeLevels", "law", "(I)I"⟩ ∈ et_Ts := et_in (List.mem_append_right _ (List.mem_of_getElem? (i := 1275) (by decide +kernel))) (by decide +kernel)
theorem sl_TypeLevels_law__I_I : Cond.selects "TypeLevels" ⟨"TypeLevels", "law", "(I)I"⟩ ⟨"TypeLevels", "law", "(I)I"⟩ ∈ et_Ts := et_in (List.mem_append_right _ (List.mem_of_getElem? (i := 1276) (by decide +kernel))) (by decide +kernel)
theorem cd_X11_law : Cond.code yX11_law cX11_law 6 (some .int) ∈ et_Ts := et_in (List.mem_append_right _ (List.mem_of_getElem? (i := 2157) (by decide +kernel))) (by decide +kernel)
theorem ca_X11_law : ev_cal et_Ts yX11_law cX11_law 6 (some .int) 1 := ⟨cd_X11_law, in_TypeLevelsModel, by decide +kernel, ⟨by decide +kernel, by decide +kernel⟩, by decide, by decide +kernel⟩
theorem ml_L_138 : Cond.methodLink "TypeLevelsLaw" 138 ⟨"TypeLevelsModel", "law", "(I)I"⟩ ∈ et_Ts := et_in (List.mem_append_right _ (List.mem_of_getElem? (i := 2154) (by decide +kernel))) (by decide +kernel)
theorem im_TypeLevelsModel_law__I_I : Cond.instanceMethod ⟨"TypeLevelsModel", "law", "(I)I"⟩ ∈ et_Ts := et_in (List.mem_append_right _ (List.mem_of_getElem? (i := 2155) (by decide +kernel))) (by decide +kernel)
theorem sl_TypeLevelsModel_law__I_I : Cond.selects "TypeLevelsModel" ⟨"TypeLevelsModel", "law", "(I)I"⟩ ⟨"TypeLevelsModel", "law", "(I)I"⟩ ∈ et_Ts := et_in (List.mem_append_right _ (List.mem_of_getElem? (i := 2156) (by decide +kernel))) (by decide +kernel)
theorem cd_X10_count : Cond.code yX10_count cX10_count 2 (some .int) ∈ et_Ts := et_in (List.mem_append_right _ (List.mem_of_getElem? (i := 1290) (by decide +kernel))) (by decide +kernel)
theorem ca_X10_count : ev_cal et_Ts yX10_count cX10_count 2 (some .int) 1 := ⟨cd_X10_count, in_TypeLevels, by decide +kernel, ⟨by decide +kernel, by decide +kernel⟩, by decide, by decide +kernel⟩
theorem ml_L_139 : Cond.methodLink "TypeLevelsLaw" 139 ⟨"TypeLevels", "count", "(I)I"⟩ ∈ et_Ts := et_in (List.mem_append_right _ (List.mem_of_getElem? (i := 1287) (by decide +kernel))) (by decide +kernel)
theorem im_TypeLevels_count__I_I : Cond.instanceMethod ⟨"TypeLevels", "count", "(I)I"⟩ ∈ et_Ts := et_in (List.mem_append_right _ (List.mem_of_getElem? (i := 1288) (by decide +kernel))) (by decide +kernel)
theorem sl_TypeLevels_count__I_I : Cond.selects "TypeLevels" ⟨"TypeLevels", "count", "(I)I"⟩ ⟨"TypeLevels", "count", "(I)I"⟩ ∈ et_Ts := et_in (List.mem_append_right _ (List.mem_of_getElem? (i := 1289) (by decide +kernel))) (by decide +kernel)
theorem cd_X11_count : Cond.code yX11_count cX11_count 2 (some .int) ∈ et_Ts := et_in (List.mem_append_right _ (List.mem_of_getElem? (i := 2161) (by decide +kernel))) (by decide +kernel)
theorem ca_X11_count : ev_cal et_Ts yX11_count cX11_count 2 (some .int) 1 := ⟨cd_X11_count, in_TypeLevelsModel, by decide +kernel, ⟨by decide +kernel, by decide +kernel⟩, by decide, by decide +kernel⟩
theorem ml_L_142 : Cond.methodLink "TypeLevelsLaw" 142 ⟨"TypeLevelsModel", "count", "(I)I"⟩ ∈ et_Ts := et_in (List.mem_append_right _ (List.mem_of_getElem? (i := 2158) (by decide +kernel))) (by decide +kernel)
theorem im_TypeLevelsModel_count__I_I : Cond.instanceMethod ⟨"TypeLevelsModel", "count", "(I)I"⟩ ∈ et_Ts := et_in (List.mem_append_right _ (List.mem_of_getElem? (i := 2159) (by decide +kernel))) (by decide +kernel)
theorem sl_TypeLevelsModel_count__I_I : Cond.selects "TypeLevelsModel" ⟨"TypeLevelsModel", "count", "(I)I"⟩ ⟨"TypeLevelsModel", "count", "(I)I"⟩ ∈ et_Ts := et_in (List.mem_append_right _ (List.mem_of_getElem? (i := 2160) (by decide +kernel))) (by decide +kernel)
theorem cd_X11_row : Cond.code yX11_row cX11_row 2 (some .long) ∈ et_Ts := et_in (List.mem_append_right _ (List.mem_of_getElem? (i := 2173) (by decide +kernel))) (by decide +kernel)
theorem ca_X11_row : ev_cal et_Ts yX11_row cX11_row 2 (some .long) 1 := ⟨cd_X11_row, in_TypeLevelsModel, by decide +kernel, ⟨by decide +kernel, by decide +kernel⟩, by decide, by decide +kernel⟩
theorem ml_L_146 : Cond.methodLink "TypeLevelsLaw" 146 ⟨"TypeLevelsModel", "row", "(I)J"⟩ ∈ et_Ts := et_in (List.mem_append_right _ (List.mem_of_getElem? (i := 2170) (by decide +kernel))) (by decide +kernel)
theorem im_TypeLevelsModel_row__I_J : Cond.instanceMethod ⟨"TypeLevelsModel", "row", "(I)J"⟩ ∈ et_Ts := et_in (List.mem_append_right _ (List.mem_of_getElem? (i := 2171) (by decide +kernel))) (by decide +kernel)
theorem sl_TypeLevelsModel_row__I_J : Cond.selects "TypeLevelsModel" ⟨"TypeLevelsModel", "row", "(I)J"⟩ ⟨"TypeLevelsModel", "row", "(I)J"⟩ ∈ et_Ts := et_in (List.mem_append_right _ (List.mem_of_getElem? (i := 2172) (by decide +kernel))) (by decide +kernel)
def et_NW : List Cond := [Cond.methodLinkNest "TypeLevels" 25 ⟨"TypeLevels$Told", "<init>", "()V"⟩ "TypeLevels", Cond.methodLinkNest "TypeLevels" 32 ⟨"TypeLevels$Code", "<init>", "()V"⟩ "TypeLevels", Cond.methodLinkNest "TypeLevels" 48 ⟨"TypeLevels$Store", "<init>", "()V"⟩ "TypeLevels", Cond.methodLinkNest "TypeLevels" 83 ⟨"TypeLevels$Past", "<init>", "()V"⟩ "TypeLevels", Cond.methodLinkNest "TypeLevels" 90 ⟨"TypeLevels$Heard", "<init>", "()V"⟩ "TypeLevels"]
theorem nw_25 : Cond.methodLinkNest "TypeLevels" 25 ⟨"TypeLevels$Told", "<init>", "()V"⟩ "TypeLevels" ∈ et_NW := List.mem_of_getElem? (i := 0) rfl
theorem nw_32 : Cond.methodLinkNest "TypeLevels" 32 ⟨"TypeLevels$Code", "<init>", "()V"⟩ "TypeLevels" ∈ et_NW := List.mem_of_getElem? (i := 1) rfl
theorem nw_48 : Cond.methodLinkNest "TypeLevels" 48 ⟨"TypeLevels$Store", "<init>", "()V"⟩ "TypeLevels" ∈ et_NW := List.mem_of_getElem? (i := 2) rfl
theorem nw_83 : Cond.methodLinkNest "TypeLevels" 83 ⟨"TypeLevels$Past", "<init>", "()V"⟩ "TypeLevels" ∈ et_NW := List.mem_of_getElem? (i := 3) rfl
theorem nw_90 : Cond.methodLinkNest "TypeLevels" 90 ⟨"TypeLevels$Heard", "<init>", "()V"⟩ "TypeLevels" ∈ et_NW := List.mem_of_getElem? (i := 4) rfl
