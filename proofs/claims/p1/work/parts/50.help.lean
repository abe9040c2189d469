/-! ===== the two methods that throw, and the law's two helpers that catch ===== -/
section EVH
variable {l : Launch} {b hz N : Nat} {xs : Nat → Int32} {D : va_G} {sc : List ev_V}
def eh_ND : List Cond := [Cond.castable ev_nse ev_nse, Cond.declares ⟨"java/lang/RuntimeException", "<init>", "(Ljava/lang/String;)V"⟩, Cond.declares ⟨"java/lang/Exception", "<init>", "(Ljava/lang/String;)V"⟩, Cond.declares ⟨"java/lang/Throwable", "<init>", "(Ljava/lang/String;)V"⟩]
theorem eh_NDin : ∀ w ∈ eh_ND, w ∈ et_NW := by decide +kernel
theorem eh_NDot : ∀ w ∈ eh_ND, w.onTables = true := by decide +kernel
theorem eh_n : ∀ w ∈ ((ev_own "TypeLevels" 160).filter vx_no).filter (fun w => !goodWord w), w ∈ eh_ND := by decide +kernel
theorem eh_g0 : ∀ w ∈ ((ev_own "TypeLevels" 160).filter vx_no).filter goodWord, w ∈ lw_tbl := by decide +kernel
theorem eh_g : ∀ w ∈ ((ev_own "TypeLevels" 160).filter vx_no).filter goodWord, w ∈ et_Ts := fun w hw => et_in (eh_g0 w hw) (List.mem_filter.mp hw).2
theorem eh_at {args : Array Value} {s : State} (hts : ∀ w ∈ et_Ts, w.before args s = true) (hNW : ∀ w ∈ et_NW, va_Nw w s) : ∀ w ∈ (ev_own "TypeLevels" 160).filter vx_no, w.before args s = true :=
  vx_hat (B := eh_ND) (fun w hw => hts w (eh_g w hw)) eh_n (fun w hw => va_Nw.use (eh_NDot w hw) (hNW w (eh_NDin w hw)))
theorem eh_ot : ∀ w ∈ Cond.classLink "TypeLevels" 156 ev_nse :: Cond.initialized ev_nse :: (ev_own "TypeLevels" 160).filter vx_no, vx_ot w = true := by decide +kernel
theorem eh_cl : Cond.classLink "TypeLevels" 156 ev_nse ∈ et_Ts := et_in (List.mem_append_right _ (List.mem_of_getElem? (i := 1308) (by decide +kernel))) (by decide +kernel)
theorem eh_in : Cond.initialized ev_nse ∈ et_Ts := et_in (List.mem_append_right _ (List.mem_of_getElem? (i := 18) (by decide +kernel))) (by decide +kernel)
theorem eh_lcl : Cond.classLink "TypeLevelsLaw" 13 ev_nse ∈ et_Ts := et_in (List.mem_append_right _ (List.mem_of_getElem? (i := 1303) (by decide +kernel))) (by decide +kernel)
theorem eh_end {r : ev_R} (h5 : r.1 = 5) (h : ev_end r.1 r.2.2.2.1 = true) : r.2.2.2.1 = [] := by
  rw [h5] at h
  unfold ev_end at h
  split at h
  · rename_i e1 e2; cases e1
  · rename_i e1 e2; cases e1
  · rename_i e1 e2; cases e1
  · rename_i e1 e2; cases e1
  · rename_i e1 e2; exact e2
  · cases h
theorem eh_Wd {ws : va_W} {sz : Nat} {rs : List ev_V} {h : ev_H} {vo : Option Value} {t t' : State} {cl : List vw_C} (hW : ev_Wd b hz D cl ws sz rs h vo t) (hh : t'.heap = t.heap) (hv : t.vm.Alike t'.vm) : ev_Wd b hz D cl ws sz rs h vo t' := by
  obtain ⟨tys, ws', tl, g1, g2, g3, g4, g5, g6⟩ := hW
  exact ⟨tys, ws', tl, g1, g2, g3, va_K.moved hv g4, by rw [hh]; exact g5, g6⟩

theorem eh_xD_d0 : decode cX10_definition 23 = .ok (.new 156, 3) := by decide +kernel
theorem eh_xD_d3 : decode cX10_definition 26 = .ok (.dup, 1) := by decide +kernel
theorem eh_xD_d4 : decode cX10_definition 27 = .ok (.ldc 158, 2) := by decide +kernel
theorem eh_xD_d6 : decode cX10_definition 29 = .ok (.invokespecial 160, 3) := by decide +kernel
theorem eh_xD_d9 : decode cX10_definition 32 = .ok (.athrow, 1) := by decide +kernel
theorem eh_xD_pc : ∀ ck ∈ et_9, ∀ q ∈ ck, q.2.2.1 = 1 → q.2.2.2.1 = 5 → q.1 = 23 := by decide +kernel
theorem eh_xD {f : Nat} (hl : l.stackTraces = false) (IH : ev_snd l b hz N xs et_PR et_MT D et_cl et_df et_Ts et_NW sc f) {as : List ev_V} {h : ev_H} {r : ev_R} (hr : ev_run et_PR et_df sc ev_hl f 1 et_9 100000 0 (ev_args 0 as) [] h 0 0 = some r) (h5 : r.1 = 5) (hk : r.2.2.2.2.2.1 = 0) (hn : r.2.2.2.2.2.2 = 0) (hwd : ev_wd as ≤ 4)
    {tys : List (ClassId × FieldType)} {ws : va_W} {sz : Nat} {vs : List Value} (hw : ev_wrel b hz tys (ws.map Prod.fst) h ws) (has : ev_all (ev_rel b hz (ws.map Prod.fst)) as vs) (hD : va_D (va_A ws sz) ws) (Qc : Array Value → State → Outcome → State → Prop) :
    vx_Met l yX10_definition (Cond.code yX10_definition cX10_definition 4 (some .int) :: et_Ts) { frames := 10, cells := 1, slots := 6, locals := 400 } (ev_Pc b hz N xs et_NW D et_cl tys ws sz vs) Qc (vx_X (fun _ : Unit => True) (fun E _ t => E = ev_nse ∧ ev_Wd b hz D et_cl ws sz [] r.2.2.2.2.1 none t) (va_A ws sz)) 1 6 (va_A ws sz) := by
  refine vx_ofW (cc := cX10_definition) (maxL := 4) (ret := (some .int)) (by decide +kernel) rfl ?_
  intro p e s m args below meth c s₁ B hml hex hv
  obtain ⟨rfl, hsz, hX, hK, hP⟩ := hv
  have hx := B.exec
  have hb := B.bytes
  have hts0 := atoms_spec (ws := Cond.code yX10_definition cX10_definition 4 (some .int) :: et_Ts) B.pre
  have hts : ∀ w ∈ et_Ts, w.before vs.toArray s = true := fun w h => hts0 w (List.mem_cons_of_mem _ h)
  have hown : s.vm.findClass "TypeLevels" = some m.cls := findClass_of_methodNamed B.named
  have hlocks := B.notSynchronized
  have hnm : meth.name = yX10_definition.name := (name_of_methodNamed B.named B.method).1
  subst hsz
  have hA : ∀ q : Nat, s.heap.size ≤ q → va_A ws s.heap.size q := fun q h => Or.inr h
  have hle := lv_entry vs (n := 4) (by rw [ev_wd_ok has]; exact hwd)
  rw [lg_entry_eq]
  refine IH hr (i := 9) (y := yX10_definition) (cc := cX10_definition) (nL := 4) (ret := (some .int)) rfl rfl ⟨hx, hb, hml, hown, hts, hnm, by decide, by decide⟩ hX hA (by rw [hk]; exact Nat.zero_le _) (by rw [hn]; exact Nat.zero_le _) ?_ s.heap [] _ [] (L0 := ws.map Prod.fst) ⟨tys, ws, lv_args 0 vs, [], hK, hP, hD, va_S.rf, by rw [List.append_nil], hw, trivial, hle, ev_args_ok has 0⟩
  intro H locs lsC stC hSt
  obtain ⟨tys', ws', lv', t, hK', hP', hD', hS', hL0', hw', hst', hl', hlr'⟩ := hSt
  rcases ev_run_end f hr with h4 | ⟨q, ⟨ck, hck, hq⟩, hq1, hq2, hq3, hend⟩
  · rw [h5] at h4; cases h4
  have hpc : r.2.1 = 23 := by rw [← hq1]; exact eh_xD_pc ck hck q hq hq2 (hq3.trans h5)
  rw [eh_end h5 hend] at hst'
  cases ev_all_none hst'
  rw [hpc, hk, hn]
  obtain ⟨-, -, -, -, -, h6, h7, h8, ⟨sa, h9⟩, ⟨sb, h10⟩⟩ := hX
  refine ev_throw hx hb hl hown (hts _ eh_cl) (hts _ eh_in) h9 (eh_at hts h6) eh_ot h7 h8 hS' (by rw [hml]; exact hl'.1) eh_xD_d0 eh_xD_d3 eh_xD_d4 eh_xD_d6 eh_xD_d9 hex (by show 5 < 10; decide) (by show 0 + 90 ≤ 400; decide) (by show 0 + 1 ≤ 1; decide) (by show 0 + 6 ≤ 6; decide) hlocks (fun u hvm hsz2 hkeep => ⟨(), trivial, ⟨rfl, tys', ws', t, hL0', trivial, hw', va_K.moved hvm hK', fun k q hk => (hP' k q hk).kept (hkeep q.1 (hP' k q hk).lt), hD'⟩, ?_⟩) hS'.2.2 (Nat.le_refl _) (Nat.le_refl _)
  exact ⟨Nat.le_trans hS'.1 hsz2, fun q h1 h2 => by rw [hkeep q (Nat.lt_of_lt_of_le h1 hS'.1)]; exact hS'.2.1 q h1 h2⟩
theorem eh_xR_d0 : decode cX10_row 15 = .ok (.new 156, 3) := by decide +kernel
theorem eh_xR_d3 : decode cX10_row 18 = .ok (.dup, 1) := by decide +kernel
theorem eh_xR_d4 : decode cX10_row 19 = .ok (.ldc_w 315, 3) := by decide +kernel
theorem eh_xR_d7 : decode cX10_row 22 = .ok (.invokespecial 160, 3) := by decide +kernel
theorem eh_xR_d10 : decode cX10_row 25 = .ok (.athrow, 1) := by decide +kernel
theorem eh_xR_pc : ∀ ck ∈ et_27, ∀ q ∈ ck, q.2.2.1 = 1 → q.2.2.2.1 = 5 → q.1 = 15 := by decide +kernel
theorem eh_xR {f : Nat} (hl : l.stackTraces = false) (IH : ev_snd l b hz N xs et_PR et_MT D et_cl et_df et_Ts et_NW sc f) {as : List ev_V} {h : ev_H} {r : ev_R} (hr : ev_run et_PR et_df sc ev_hl f 1 et_27 100000 0 (ev_args 0 as) [] h 0 0 = some r) (h5 : r.1 = 5) (hk : r.2.2.2.2.2.1 = 0) (hn : r.2.2.2.2.2.2 = 0) (hwd : ev_wd as ≤ 2)
    {tys : List (ClassId × FieldType)} {ws : va_W} {sz : Nat} {vs : List Value} (hw : ev_wrel b hz tys (ws.map Prod.fst) h ws) (has : ev_all (ev_rel b hz (ws.map Prod.fst)) as vs) (hD : va_D (va_A ws sz) ws) (Qc : Array Value → State → Outcome → State → Prop) :
    vx_Met l yX10_row (Cond.code yX10_row cX10_row 2 (some .long) :: et_Ts) { frames := 10, cells := 1, slots := 6, locals := 400 } (ev_Pc b hz N xs et_NW D et_cl tys ws sz vs) Qc (vx_X (fun _ : Unit => True) (fun E _ t => E = ev_nse ∧ ev_Wd b hz D et_cl ws sz [] r.2.2.2.2.1 none t) (va_A ws sz)) 1 6 (va_A ws sz) := by
  refine vx_ofW (cc := cX10_row) (maxL := 2) (ret := (some .long)) (by decide +kernel) rfl ?_
  intro p e s m args below meth c s₁ B hml hex hv
  obtain ⟨rfl, hsz, hX, hK, hP⟩ := hv
  have hx := B.exec
  have hb := B.bytes
  have hts0 := atoms_spec (ws := Cond.code yX10_row cX10_row 2 (some .long) :: et_Ts) B.pre
  have hts : ∀ w ∈ et_Ts, w.before vs.toArray s = true := fun w h => hts0 w (List.mem_cons_of_mem _ h)
  have hown : s.vm.findClass "TypeLevels" = some m.cls := findClass_of_methodNamed B.named
  have hlocks := B.notSynchronized
  have hnm : meth.name = yX10_row.name := (name_of_methodNamed B.named B.method).1
  subst hsz
  have hA : ∀ q : Nat, s.heap.size ≤ q → va_A ws s.heap.size q := fun q h => Or.inr h
  have hle := lv_entry vs (n := 2) (by rw [ev_wd_ok has]; exact hwd)
  rw [lg_entry_eq]
  refine IH hr (i := 27) (y := yX10_row) (cc := cX10_row) (nL := 2) (ret := (some .long)) rfl rfl ⟨hx, hb, hml, hown, hts, hnm, by decide, by decide⟩ hX hA (by rw [hk]; exact Nat.zero_le _) (by rw [hn]; exact Nat.zero_le _) ?_ s.heap [] _ [] (L0 := ws.map Prod.fst) ⟨tys, ws, lv_args 0 vs, [], hK, hP, hD, va_S.rf, by rw [List.append_nil], hw, trivial, hle, ev_args_ok has 0⟩
  intro H locs lsC stC hSt
  obtain ⟨tys', ws', lv', t, hK', hP', hD', hS', hL0', hw', hst', hl', hlr'⟩ := hSt
  rcases ev_run_end f hr with h4 | ⟨q, ⟨ck, hck, hq⟩, hq1, hq2, hq3, hend⟩
  · rw [h5] at h4; cases h4
  have hpc : r.2.1 = 15 := by rw [← hq1]; exact eh_xR_pc ck hck q hq hq2 (hq3.trans h5)
  rw [eh_end h5 hend] at hst'
  cases ev_all_none hst'
  rw [hpc, hk, hn]
  obtain ⟨-, -, -, -, -, h6, h7, h8, ⟨sa, h9⟩, ⟨sb, h10⟩⟩ := hX
  refine ev_throwW hx hb hl hown (hts _ eh_cl) (hts _ eh_in) h10 (eh_at hts h6) eh_ot h7 h8 hS' (by rw [hml]; exact hl'.1) eh_xR_d0 eh_xR_d3 eh_xR_d4 eh_xR_d7 eh_xR_d10 hex (by show 5 < 10; decide) (by show 0 + 90 ≤ 400; decide) (by show 0 + 1 ≤ 1; decide) (by show 0 + 6 ≤ 6; decide) hlocks (fun u hvm hsz2 hkeep => ⟨(), trivial, ⟨rfl, tys', ws', t, hL0', trivial, hw', va_K.moved hvm hK', fun k q hk => (hP' k q hk).kept (hkeep q.1 (hP' k q hk).lt), hD'⟩, ?_⟩) hS'.2.2 (Nat.le_refl _) (Nat.le_refl _)
  exact ⟨Nat.le_trans hS'.1 hsz2, fun q h1 h2 => by rw [hkeep q (Nat.lt_of_lt_of_le h1 hS'.1)]; exact hS'.2.1 q h1 h2⟩
theorem ml_L_7 : Cond.methodLink "TypeLevelsLaw" 7 ⟨"TypeLevels", "definition", "(II)I"⟩ ∈ et_Ts := et_in (List.mem_append_right _ (List.mem_of_getElem? (i := 1304) (by decide +kernel))) (by decide +kernel)
theorem im_TypeLevels_definition__II_I : Cond.instanceMethod ⟨"TypeLevels", "definition", "(II)I"⟩ ∈ et_Ts := et_in (List.mem_append_right _ (List.mem_of_getElem? (i := 1305) (by decide +kernel))) (by decide +kernel)
theorem sl_TypeLevels_definition__II_I : Cond.selects "TypeLevels" ⟨"TypeLevels", "definition", "(II)I"⟩ ⟨"TypeLevels", "definition", "(II)I"⟩ ∈ et_Ts := et_in (List.mem_append_right _ (List.mem_of_getElem? (i := 1306) (by decide +kernel))) (by decide +kernel)
theorem ml_L_15 : Cond.methodLink "TypeLevelsLaw" 15 ⟨"TypeLevels", "row", "(I)J"⟩ ∈ et_Ts := et_in (List.mem_append_right _ (List.mem_of_getElem? (i := 1392) (by decide +kernel))) (by decide +kernel)
theorem im_TypeLevels_row__I_J : Cond.instanceMethod ⟨"TypeLevels", "row", "(I)J"⟩ ∈ et_Ts := et_in (List.mem_append_right _ (List.mem_of_getElem? (i := 1393) (by decide +kernel))) (by decide +kernel)
theorem sl_TypeLevels_row__I_J : Cond.selects "TypeLevels" ⟨"TypeLevels", "row", "(I)J"⟩ ⟨"TypeLevels", "row", "(I)J"⟩ ∈ et_Ts := et_in (List.mem_append_right _ (List.mem_of_getElem? (i := 1394) (by decide +kernel))) (by decide +kernel)
theorem cd_X10_definition : Cond.code yX10_definition cX10_definition 4 (some .int) ∈ et_Ts := et_in (List.mem_append_right _ (List.mem_of_getElem? (i := 1307) (by decide +kernel))) (by decide +kernel)
theorem cd_X10_row : Cond.code yX10_row cX10_row 2 (some .long) ∈ et_Ts := et_in (List.mem_append_right _ (List.mem_of_getElem? (i := 1395) (by decide +kernel))) (by decide +kernel)
theorem in_TypeLevelsLaw : Cond.initialized "TypeLevelsLaw" ∈ et_Ts := et_in (List.mem_append_right _ (List.mem_of_getElem? (i := 0) (by decide +kernel))) (by decide +kernel)
theorem ml_L_46 : Cond.methodLink "TypeLevelsLaw" 46 ⟨"TypeLevelsLaw", "definition", "(LTypeLevels;II[J)I"⟩ ∈ et_Ts := et_in (List.mem_append_right _ (List.mem_of_getElem? (i := 1300) (by decide +kernel))) (by decide +kernel)
theorem ml_L_143 : Cond.methodLink "TypeLevelsLaw" 143 ⟨"TypeLevelsLaw", "row", "(LTypeLevels;I[J)I"⟩ ∈ et_Ts := et_in (List.mem_append_right _ (List.mem_of_getElem? (i := 1389) (by decide +kernel))) (by decide +kernel)
theorem sm_TypeLevelsLaw_definition__LTypeLevels_II_J_I : Cond.static ⟨"TypeLevelsLaw", "definition", "(LTypeLevels;II[J)I"⟩ ∈ et_Ts := et_in (List.mem_append_right _ (List.mem_of_getElem? (i := 1301) (by decide +kernel))) (by decide +kernel)
theorem sm_TypeLevelsLaw_row__LTypeLevels_I_J_I : Cond.static ⟨"TypeLevelsLaw", "row", "(LTypeLevels;I[J)I"⟩ ∈ et_Ts := et_in (List.mem_append_right _ (List.mem_of_getElem? (i := 1390) (by decide +kernel))) (by decide +kernel)
theorem cw_D : Cond.codeWith yL_definition cL_definition 5 (some .int) [(0, 10, 13, 13)] ∈ et_Ts := et_in (List.mem_append_right _ (List.mem_of_getElem? (i := 1302) (by decide +kernel))) (by decide +kernel)
theorem cw_R : Cond.codeWith yL_row cL_row 4 (some .int) [(0, 8, 11, 13)] ∈ et_Ts := et_in (List.mem_append_right _ (List.mem_of_getElem? (i := 1391) (by decide +kernel))) (by decide +kernel)
theorem eh_hD_d0 : decode cL_definition 0 = .ok (.aload_n 3, 1) := by decide +kernel
theorem eh_hD_d1 : decode cL_definition 1 = .ok (.iconst 0, 1) := by decide +kernel
theorem eh_hD_d2 : decode cL_definition 2 = .ok (.aload_n 0, 1) := by decide +kernel
theorem eh_hD_d3 : decode cL_definition 3 = .ok (.iload_n 1, 1) := by decide +kernel
theorem eh_hD_d4 : decode cL_definition 4 = .ok (.iload_n 2, 1) := by decide +kernel
theorem eh_hD_d5 : decode cL_definition 5 = .ok (.invokevirtual 7, 3) := by decide +kernel
theorem eh_hD_d13 : decode cL_definition 13 = .ok (.astore 4, 2) := by decide +kernel
theorem eh_hD_d15 : decode cL_definition 15 = .ok (.iconst 1, 1) := by decide +kernel
theorem eh_hD_d16 : decode cL_definition 16 = .ok (.ireturn, 1) := by decide +kernel
theorem eh_hD {f : Nat} (hl : l.stackTraces = false) (IH : ev_snd l b hz N xs et_PR et_MT D et_cl et_df et_Ts et_NW sc f) {n n9 : Nat} {r0 r1 : Int × Int} {fs : List ev_V} {h : ev_H} {r : ev_R} (hr : ev_run et_PR et_df sc ev_hl f 1 et_9 100000 0 (ev_args 0 [.inr (.inr (n + 4)), .inl r0, .inl r1]) [] h 0 0 = some r) (h5 : r.1 = 5) (hk : r.2.2.2.2.2.1 = 0) (hn : r.2.2.2.2.2.2 = 0) (hrc : h[n]? = some (.inr (10, fs)))
    {tys : List (ClassId × FieldType)} {ws : va_W} {sz : Nat} {vs : List Value} (hw : ev_wrel b hz tys (ws.map Prod.fst) h ws) (has : ev_all (ev_rel b hz (ws.map Prod.fst)) [.inr (.inr (n + 4)), .inl r0, .inl r1, .inr (.inr (n9 + 4))] vs) (hD : va_D (va_A ws sz) ws) :
    vx_Met l yL_definition (Cond.codeWith yL_definition cL_definition 5 (some .int) [(0, 10, 13, 13)] :: et_Ts) { frames := 11, cells := 40, slots := 400, locals := 440 } (ev_Pc b hz N xs et_NW D et_cl tys ws sz vs) (va_Qi (fun v (_ : Unit) => v = 1) (fun _ t => ev_Wd b hz D et_cl ws sz [] r.2.2.2.2.1 none t) (va_A ws sz)) (vx_X (fun _ : Unit => False) (fun _ _ _ => True) (va_A ws sz)) 40 400 (va_A ws sz) := by
  refine vx_ofWH (cc := cL_definition) (maxL := 5) (ret := some .int) (hh := [(0, 10, 13, 13)]) (by decide +kernel) rfl ?_
  intro p e s m args below meth c s₁ B hml hv
  obtain ⟨rfl, hsz, hX, hK, hP⟩ := hv
  have hx := B.exec
  have hb := B.bytes
  have hret := B.returns
  have hts0 := atoms_spec (ws := Cond.codeWith yL_definition cL_definition 5 (some .int) [(0, 10, 13, 13)] :: et_Ts) B.pre
  have hts : ∀ w ∈ et_Ts, w.before vs.toArray s = true := fun w h => hts0 w (List.mem_cons_of_mem _ h)
  have htab : c.exceptionTable.toList = tableOf [(0, 10, 13, 13)] := vx_table (x := yL_definition) B (hts0 _ List.mem_cons_self)
  have hown : s.vm.findClass "TypeLevelsLaw" = some m.cls := findClass_of_methodNamed B.named
  have hlocks := B.notSynchronized
  subst hsz
  have hA : ∀ q : Nat, s.heap.size ≤ q → va_A ws s.heap.size q := fun q h => Or.inr h
  have hS : va_S (va_A ws s.heap.size) s.heap s.heap [] := va_S.rf
  obtain ⟨v0, t0, e0, ⟨a, ha, e1⟩, has1⟩ := ev_all_cons has
  subst e0 e1
  obtain ⟨v1, t1, e0, ⟨i0, e1, hi0⟩, has2⟩ := ev_all_cons has1
  subst e0 e1
  obtain ⟨v2, t2, e0, ⟨i1, e1, hi1⟩, has3⟩ := ev_all_cons has2
  subst e0 e1
  obtain ⟨v3, t3, e0, ⟨a9, ha9, e1⟩, has4⟩ := ev_all_cons has3
  subst e0 e1
  cases ev_all_none has4
  have has' : ev_all (ev_rel b hz (ws.map Prod.fst)) [.inr (.inr (n + 4)), .inl r0, .inl r1] [.ref a, .int i0, .int i1] := ⟨⟨a, ha, rfl⟩, ⟨i0, rfl, hi0⟩, ⟨i1, rfl, hi1⟩, trivial⟩
  obtain ⟨ec, hc1, vf, hc2, hc3⟩ := ev_wat hw hrc rfl ha
  subst hc2
  have hl1 := lv_entry [.ref a, .int i0, .int i1, .ref a9] (n := 5) (Nat.le_of_ble_eq_true rfl)
  rw [lg_entry_eq]
  generalize (lg_sl ([.ref a, .int i0, .int i1, .ref a9] : List Value) ++ List.replicate (5 - (lg_sl ([.ref a, .int i0, .int i1, .ref a9] : List Value)).length) Slot.unset).toArray = ls at hl1 ⊢
  have hl0 : lv_has ls 5 [(0, .ref a), (1, .int i0), (2, .int i1), (3, .ref a9)] := hl1
  refine lv_aload_n hx hb eh_hD_d0 rfl (lv_at hl0 3 rfl) ?_
  refine lv_iconst hx hb eh_hD_d1 rfl ?_
  refine lv_aload_n hx hb eh_hD_d2 rfl (lv_at hl0 0 rfl) ?_
  refine lv_iload_n hx hb eh_hD_d3 rfl (lv_at hl0 1 rfl) ?_
  refine lv_iload_n hx hb eh_hD_d4 rfl (lv_at hl0 2 rfl) ?_
  have hM := eh_xD (tys := tys) (ws := ws) (sz := s.heap.size) hl IH hr h5 hk hn (Nat.le_of_ble_eq_true rfl) hw has' hD (va_Qi (fun _ (_ : Unit) => False) (fun _ _ => True) (va_A ws s.heap.size))
  have hpre : ∀ U : State, U.heap = s.heap → s.WarmedH U.vm → ev_Pc b hz N xs et_NW D et_cl tys ws s.heap.size [.ref a, .int i0, .int i1] ([.ref a, .int i0, .int i1] : List Value).toArray U := fun U hU hW =>
    ⟨rfl, by rw [hU], ev_X_go hX et_NWok hS (fun _ h => h) hU hW, va_K.moved hW.alike hK, by rw [hU]; exact hP⟩
  refine vx_calli (vx_runV (As := [.int i0, .int i1]) (rest := [.int 0, .ref a9]) ⟨hx, hb, hml, hown, hts⟩ hM (cwV 2 hts (ev_goodin et_goodW (fun w hw => by
            rcases List.mem_append.mp hw with h | h
            · simp only [List.mem_cons, List.not_mem_nil, or_false] at h
              rcases h with rfl | rfl | rfl | rfl
              · exact ml_L_7
              · exact im_TypeLevels_definition__II_I
              · exact sl_TypeLevels_definition__II_I
              · exact in_TypeLevels
            · rcases List.mem_cons.mp h with rfl | h
              · exact cd_X10_definition
              · exact h)) rfl rfl rfl (by decide +kernel) ⟨by show 10 + 1 ≤ 11; decide, by show 8 + (4 + 11) + 400 ≤ 440; decide⟩) ⟨ev_blind et_NWok, va_recv hK hP (ci := 10) rfl hc1, hpre⟩ rfl rfl hl0.1 rfl (lv_room (Nat.le_of_ble_eq_true rfl)) eh_hD_d5 ⟨by show 0 + 1 ≤ 40; decide, by show 0 + 6 ≤ 400; decide⟩) hS (fun _ _ h => h) (fun _ h => h) (fun _ _ h => h) ?_ (fun v u t H1 locs1 ht hvm hp => hp.elim)
  intro E ce q9 u t H1 locs1 ht hvm _ hBX hsz1 hk1 hS1 hcell hcv hcl
  obtain ⟨hE, hWd⟩ := hBX
  subst hE
  refine ev_catch hown ⟨0, 10, 13, 13⟩ htab (by decide +kernel) (by decide) (hts _ eh_lcl) (va_Nw.use rfl (hX.2.2.2.2.2.1 _ (eh_NDin _ List.mem_cons_self))) hcell hcv hcl ?_
  refine lv_astore hx hb eh_hD_d13 hl0 (by decide) rfl (fun ls' hl' => ?_)
  refine lv_iconst hx hb eh_hD_d15 rfl ?_
  refine W.widen (k := 40) (n := 400) (by decide) (by decide) ?_
  exact vx_ret (W.iret (v := 1) hx hb hret (fun t' ht' hW => ⟨⟨1, (), rfl, rfl, eh_Wd hWd (ht'.trans ht.symm) (hvm.symm.trans hW.alike)⟩, hS1.F ht'⟩) hS1.2.2 eh_hD_d16 hlocks)
theorem eh_hR_d0 : decode cL_row 0 = .ok (.aload_n 2, 1) := by decide +kernel
theorem eh_hR_d1 : decode cL_row 1 = .ok (.iconst 0, 1) := by decide +kernel
theorem eh_hR_d2 : decode cL_row 2 = .ok (.aload_n 0, 1) := by decide +kernel
theorem eh_hR_d3 : decode cL_row 3 = .ok (.iload_n 1, 1) := by decide +kernel
theorem eh_hR_d4 : decode cL_row 4 = .ok (.invokevirtual 15, 3) := by decide +kernel
theorem eh_hR_d11 : decode cL_row 11 = .ok (.astore_n 3, 1) := by decide +kernel
theorem eh_hR_d12 : decode cL_row 12 = .ok (.iconst 1, 1) := by decide +kernel
theorem eh_hR_d13 : decode cL_row 13 = .ok (.ireturn, 1) := by decide +kernel
theorem eh_hR {f : Nat} (hl : l.stackTraces = false) (IH : ev_snd l b hz N xs et_PR et_MT D et_cl et_df et_Ts et_NW sc f) {n n9 : Nat} {r0 : Int × Int} {fs : List ev_V} {h : ev_H} {r : ev_R} (hr : ev_run et_PR et_df sc ev_hl f 1 et_27 100000 0 (ev_args 0 [.inr (.inr (n + 4)), .inl r0]) [] h 0 0 = some r) (h5 : r.1 = 5) (hk : r.2.2.2.2.2.1 = 0) (hn : r.2.2.2.2.2.2 = 0) (hrc : h[n]? = some (.inr (10, fs)))
    {tys : List (ClassId × FieldType)} {ws : va_W} {sz : Nat} {vs : List Value} (hw : ev_wrel b hz tys (ws.map Prod.fst) h ws) (has : ev_all (ev_rel b hz (ws.map Prod.fst)) [.inr (.inr (n + 4)), .inl r0, .inr (.inr (n9 + 4))] vs) (hD : va_D (va_A ws sz) ws) :
    vx_Met l yL_row (Cond.codeWith yL_row cL_row 4 (some .int) [(0, 8, 11, 13)] :: et_Ts) { frames := 11, cells := 40, slots := 400, locals := 440 } (ev_Pc b hz N xs et_NW D et_cl tys ws sz vs) (va_Qi (fun v (_ : Unit) => v = 1) (fun _ t => ev_Wd b hz D et_cl ws sz [] r.2.2.2.2.1 none t) (va_A ws sz)) (vx_X (fun _ : Unit => False) (fun _ _ _ => True) (va_A ws sz)) 40 400 (va_A ws sz) := by
  refine vx_ofWH (cc := cL_row) (maxL := 4) (ret := some .int) (hh := [(0, 8, 11, 13)]) (by decide +kernel) rfl ?_
  intro p e s m args below meth c s₁ B hml hv
  obtain ⟨rfl, hsz, hX, hK, hP⟩ := hv
  have hx := B.exec
  have hb := B.bytes
  have hret := B.returns
  have hts0 := atoms_spec (ws := Cond.codeWith yL_row cL_row 4 (some .int) [(0, 8, 11, 13)] :: et_Ts) B.pre
  have hts : ∀ w ∈ et_Ts, w.before vs.toArray s = true := fun w h => hts0 w (List.mem_cons_of_mem _ h)
  have htab : c.exceptionTable.toList = tableOf [(0, 8, 11, 13)] := vx_table (x := yL_row) B (hts0 _ List.mem_cons_self)
  have hown : s.vm.findClass "TypeLevelsLaw" = some m.cls := findClass_of_methodNamed B.named
  have hlocks := B.notSynchronized
  subst hsz
  have hA : ∀ q : Nat, s.heap.size ≤ q → va_A ws s.heap.size q := fun q h => Or.inr h
  have hS : va_S (va_A ws s.heap.size) s.heap s.heap [] := va_S.rf
  obtain ⟨v0, t0, e0, ⟨a, ha, e1⟩, has1⟩ := ev_all_cons has
  subst e0 e1
  obtain ⟨v1, t1, e0, ⟨i0, e1, hi0⟩, has2⟩ := ev_all_cons has1
  subst e0 e1
  have has3 := has2
  obtain ⟨v3, t3, e0, ⟨a9, ha9, e1⟩, has4⟩ := ev_all_cons has3
  subst e0 e1
  cases ev_all_none has4
  have has' : ev_all (ev_rel b hz (ws.map Prod.fst)) [.inr (.inr (n + 4)), .inl r0] [.ref a, .int i0] := ⟨⟨a, ha, rfl⟩, ⟨i0, rfl, hi0⟩, trivial⟩
  obtain ⟨ec, hc1, vf, hc2, hc3⟩ := ev_wat hw hrc rfl ha
  subst hc2
  have hl1 := lv_entry [.ref a, .int i0, .ref a9] (n := 4) (Nat.le_of_ble_eq_true rfl)
  rw [lg_entry_eq]
  generalize (lg_sl ([.ref a, .int i0, .ref a9] : List Value) ++ List.replicate (4 - (lg_sl ([.ref a, .int i0, .ref a9] : List Value)).length) Slot.unset).toArray = ls at hl1 ⊢
  have hl0 : lv_has ls 4 [(0, .ref a), (1, .int i0), (2, .ref a9)] := hl1
  refine lv_aload_n hx hb eh_hR_d0 rfl (lv_at hl0 2 rfl) ?_
  refine lv_iconst hx hb eh_hR_d1 rfl ?_
  refine lv_aload_n hx hb eh_hR_d2 rfl (lv_at hl0 0 rfl) ?_
  refine lv_iload_n hx hb eh_hR_d3 rfl (lv_at hl0 1 rfl) ?_
  have hM := eh_xR (tys := tys) (ws := ws) (sz := s.heap.size) hl IH hr h5 hk hn (Nat.le_of_ble_eq_true rfl) hw has' hD (va_Ql (fun _ (_ : Unit) => False) (fun _ _ => True) (va_A ws s.heap.size))
  have hpre : ∀ U : State, U.heap = s.heap → s.WarmedH U.vm → ev_Pc b hz N xs et_NW D et_cl tys ws s.heap.size [.ref a, .int i0] ([.ref a, .int i0] : List Value).toArray U := fun U hU hW =>
    ⟨rfl, by rw [hU], ev_X_go hX et_NWok hS (fun _ h => h) hU hW, va_K.moved hW.alike hK, by rw [hU]; exact hP⟩
  refine vx_calll (vx_runV (As := [.int i0]) (rest := [.int 0, .ref a9]) ⟨hx, hb, hml, hown, hts⟩ hM (cwV 1 hts (ev_goodin et_goodW (fun w hw => by
            rcases List.mem_append.mp hw with h | h
            · simp only [List.mem_cons, List.not_mem_nil, or_false] at h
              rcases h with rfl | rfl | rfl | rfl
              · exact ml_L_15
              · exact im_TypeLevels_row__I_J
              · exact sl_TypeLevels_row__I_J
              · exact in_TypeLevels
            · rcases List.mem_cons.mp h with rfl | h
              · exact cd_X10_row
              · exact h)) rfl rfl rfl (by decide +kernel) ⟨by show 10 + 1 ≤ 11; decide, by show 8 + (2 + 11) + 400 ≤ 440; decide⟩) ⟨ev_blind et_NWok, va_recv hK hP (ci := 10) rfl hc1, hpre⟩ rfl rfl hl0.1 rfl (lv_room (Nat.le_of_ble_eq_true rfl)) eh_hR_d4 ⟨by show 0 + 1 ≤ 40; decide, by show 0 + 6 ≤ 400; decide⟩) hS (fun _ _ h => h) (fun _ h => h) (fun _ _ h => h) ?_ (fun v u t H1 locs1 ht hvm hp => hp.elim)
  intro E ce q9 u t H1 locs1 ht hvm _ hBX hsz1 hk1 hS1 hcell hcv hcl
  obtain ⟨hE, hWd⟩ := hBX
  subst hE
  refine ev_catch hown ⟨0, 8, 11, 13⟩ htab (by decide +kernel) (by decide) (hts _ eh_lcl) (va_Nw.use rfl (hX.2.2.2.2.2.1 _ (eh_NDin _ List.mem_cons_self))) hcell hcv hcl ?_
  refine lv_astore_n hx hb eh_hR_d11 rfl hl0 (by decide) rfl (fun ls' hl' => ?_)
  refine lv_iconst hx hb eh_hR_d12 rfl ?_
  refine W.widen (k := 40) (n := 400) (by decide) (by decide) ?_
  exact vx_ret (W.iret (v := 1) hx hb hret (fun t' ht' hW => ⟨⟨1, (), rfl, rfl, eh_Wd hWd (ht'.trans ht.symm) (hvm.symm.trans hW.alike)⟩, hS1.F ht'⟩) hS1.2.2 eh_hR_d13 hlocks)
theorem eh_k6a : (List.range 137).all (fun i => (et_PR.getD i []).all fun ck => ck.all fun q => !(Nat.beq q.2.2.1 6) || (Nat.beq i 136 && (decide (q = (283, (.invokestatic 46, 3), (6, 9, 4, 504))) || decide (q = (871, (.invokestatic 143, 3), (6, 27, 3, 402)))))) = true := by decide +kernel
theorem eh_k6 {i : Nat} {T : ev_M} (hi : et_PR[i]? = some T) {q : ev_I} (hq : ∃ ck ∈ T, q ∈ ck) (h6 : q.2.2.1 = 6) : i = 136 ∧ (q = (283, (.invokestatic 46, 3), (6, 9, 4, 504)) ∨ q = (871, (.invokestatic 143, 3), (6, 27, 3, 402))) := by
  obtain ⟨ck, hck, hqc⟩ := hq
  have hlt : i < 137 := by
    by_cases h : i < 137
    · exact h
    · rw [List.getElem?_eq_none (show et_PR.length ≤ i from by have : et_PR.length = 137 := rfl; omega)] at hi; cases hi
  have h1 := List.all_eq_true.mp eh_k6a i (List.mem_range.mpr hlt)
  rw [List.getD_eq_getElem?_getD, hi] at h1
  have h2 := List.all_eq_true.mp (List.all_eq_true.mp h1 ck hck) q hqc
  rw [h6] at h2
  simp only [Bool.or_eq_true, Bool.and_eq_true, decide_eq_true_eq] at h2
  rcases h2 with h2 | h2
  · cases h2
  · exact ⟨Nat.eq_of_beq_eq_true h2.1, h2.2⟩
theorem eh_t4 {as : List ev_V} (h : ev_hty as = true) (hl : as.length = 4) : ∃ (n : Nat) (r0 r1 : Int × Int) (n9 : Nat), as = [.inr (.inr (n + 4)), .inl r0, .inl r1, .inr (.inr (n9 + 4))] := by
  unfold ev_hty at h
  split at h
  · exact ⟨_, _, _, _, rfl⟩
  · simp at hl
  · cases h
theorem eh_t3 {as : List ev_V} (h : ev_hty as = true) (hl : as.length = 3) : ∃ (n : Nat) (r0 : Int × Int) (n9 : Nat), as = [.inr (.inr (n + 4)), .inl r0, .inr (.inr (n9 + 4))] := by
  unfold ev_hty at h
  split at h
  · simp at hl
  · exact ⟨_, _, _, rfl⟩
  · cases h
end EVH
