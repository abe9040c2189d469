/-! ===== each step of the interpreter is one of the machine ===== -/
section EVS
variable {p : Program} {l : Launch} {e : Env} {R : Room} {s : State} {m : MethodId} {args : Array Value} {below : List Frame} {meth : Method} {c : Code} {Q : State → Prop} {b hz : Nat} {D : va_G} {cl : List vw_C} {A : Nat → Prop} {L0 : List Nat} {nL : Nat} {cells slots : Nat} {cc : ByteArray} {pc : Nat} {ls : ev_L} {st : List ev_V} {h : ev_H}
def ev_K (p : Program) (l : Launch) (e : Env) (R : Room) (s : State) (m : MethodId) (args : Array Value) (below : List Frame) (meth : Method) (c : Code) (Q : State → Prop) (b hz : Nat) (D : va_G) (cl : List vw_C) (A : Nat → Prop) (L0 : List Nat) (nL : Nat) (cells slots : Nat) (pc : Nat) (ls : ev_L) (st : List ev_V) (h : ev_H) : Prop :=
  ∀ (H : Heap) (locs : List Loc) (lsC : Array Slot) (stC : List Value), ev_St b hz D cl A L0 s nL ls st h H locs lsC stC → W p l e R s m args below meth c H locs cells slots Q (F0 m pc lsC stC)
def ev_hv (j : Nat) : Value := .int (Int32.ofInt (([5, 24, 9, 1, 9] : List Int).getD j 0))
/-- a known pushed value -/
theorem ev_pc_ok {n : Int} {v : Int32} (hv : v.toInt = n) : ev_rel b hz (L0) (.inl (n, n)) (.int v) := ⟨v, rfl, by rw [hv]; exact Int.le_refl _, by rw [hv]; exact Int.le_refl _⟩

theorem ev_ref_ok {n : Nat} {L : List Nat} {v : Value} (hv : ev_rel b hz L (.inr (.inr (n + 2))) v) : ∃ a, v = .ref a := by
  match n, hv with
  | 0, hv => exact ⟨_, hv⟩
  | 1, hv => exact ⟨_, hv⟩
  | n + 2, ⟨a, _, hv⟩ => exact ⟨a, hv⟩
theorem ev_iload_n_ok (hx : p.tables.exec = Jvm.exec) (hb : c.code = cc) {k : Fin 4} {x : ev_V} (hld : ev_ldI ls k.val = some x) (hdg : decode cc pc = .ok (.iload_n k, 1)) (kk : ev_K p l e R s m args below meth c Q b hz D cl A L0 nL cells slots (pc + 1) ls (x :: st) h) : ev_K p l e R s m args below meth c Q b hz D cl A L0 nL cells slots pc ls st h := by
  intro H locs lsC stC hSt
  obtain ⟨tys, ws, lv, t, hK, hP, hD, hS, hL0, hw, hst, hl, hlr⟩ := hSt
  unfold ev_ldI at hld
  split at hld
  · rename_i hq
    cases hld
    obtain ⟨j, v, h1, h2⟩ := ev_loc_ok hlr hq
    obtain ⟨i, rfl, h3⟩ := h2
    exact lv_iload_n hx hb hdg rfl (lv_at hl j h1) (kk H locs lsC _ ⟨tys, ws, lv, t, hK, hP, hD, hS, hL0, hw, ⟨⟨i, rfl, h3⟩, hst⟩, hl, hlr⟩)
  · cases hld
theorem ev_iload_ok (hx : p.tables.exec = Jvm.exec) (hb : c.code = cc) {k : Nat} {x : ev_V} (hld : ev_ldI ls k = some x) (hdg : decode cc pc = .ok (.iload k, 2)) (kk : ev_K p l e R s m args below meth c Q b hz D cl A L0 nL cells slots (pc + 2) ls (x :: st) h) : ev_K p l e R s m args below meth c Q b hz D cl A L0 nL cells slots pc ls st h := by
  intro H locs lsC stC hSt
  obtain ⟨tys, ws, lv, t, hK, hP, hD, hS, hL0, hw, hst, hl, hlr⟩ := hSt
  unfold ev_ldI at hld
  split at hld
  · rename_i hq
    cases hld
    obtain ⟨j, v, h1, h2⟩ := ev_loc_ok hlr hq
    obtain ⟨i, rfl, h3⟩ := h2
    exact lv_iload hx hb hdg (lv_at hl j h1) (kk H locs lsC _ ⟨tys, ws, lv, t, hK, hP, hD, hS, hL0, hw, ⟨⟨i, rfl, h3⟩, hst⟩, hl, hlr⟩)
  · cases hld
theorem ev_aload_n_ok (hx : p.tables.exec = Jvm.exec) (hb : c.code = cc) {k : Fin 4} {x : ev_V} (hld : ev_ldR ls k.val = some x) (hdg : decode cc pc = .ok (.aload_n k, 1)) (kk : ev_K p l e R s m args below meth c Q b hz D cl A L0 nL cells slots (pc + 1) ls (x :: st) h) : ev_K p l e R s m args below meth c Q b hz D cl A L0 nL cells slots pc ls st h := by
  intro H locs lsC stC hSt
  obtain ⟨tys, ws, lv, t, hK, hP, hD, hS, hL0, hw, hst, hl, hlr⟩ := hSt
  unfold ev_ldR at hld
  split at hld
  · rename_i hq
    cases hld
    obtain ⟨j, v, h1, h2⟩ := ev_loc_ok hlr hq
    obtain ⟨a, rfl⟩ := ev_ref_ok h2
    exact lv_aload_n hx hb hdg rfl (lv_at hl j h1) (kk H locs lsC _ ⟨tys, ws, lv, t, hK, hP, hD, hS, hL0, hw, ⟨h2, hst⟩, hl, hlr⟩)
  · cases hld
theorem ev_aload_ok (hx : p.tables.exec = Jvm.exec) (hb : c.code = cc) {k : Nat} {x : ev_V} (hld : ev_ldR ls k = some x) (hdg : decode cc pc = .ok (.aload k, 2)) (kk : ev_K p l e R s m args below meth c Q b hz D cl A L0 nL cells slots (pc + 2) ls (x :: st) h) : ev_K p l e R s m args below meth c Q b hz D cl A L0 nL cells slots pc ls st h := by
  intro H locs lsC stC hSt
  obtain ⟨tys, ws, lv, t, hK, hP, hD, hS, hL0, hw, hst, hl, hlr⟩ := hSt
  unfold ev_ldR at hld
  split at hld
  · rename_i hq
    cases hld
    obtain ⟨j, v, h1, h2⟩ := ev_loc_ok hlr hq
    obtain ⟨a, rfl⟩ := ev_ref_ok h2
    exact lv_aload hx hb hdg (lv_at hl j h1) (kk H locs lsC _ ⟨tys, ws, lv, t, hK, hP, hD, hS, hL0, hw, ⟨h2, hst⟩, hl, hlr⟩)
  · cases hld
theorem ev_lload_n_ok (hx : p.tables.exec = Jvm.exec) (hb : c.code = cc) {k : Fin 4} {x : ev_V} (hld : ev_ldJ ls k.val = some x) (hdg : decode cc pc = .ok (.lload_n k, 1)) (kk : ev_K p l e R s m args below meth c Q b hz D cl A L0 nL cells slots (pc + 1) ls (x :: st) h) : ev_K p l e R s m args below meth c Q b hz D cl A L0 nL cells slots pc ls st h := by
  intro H locs lsC stC hSt
  obtain ⟨tys, ws, lv, t, hK, hP, hD, hS, hL0, hw, hst, hl, hlr⟩ := hSt
  unfold ev_ldJ at hld
  split at hld
  · rename_i hq
    cases hld
    obtain ⟨j, v, h1, h2⟩ := ev_loc_ok hlr hq
    obtain ⟨i, rfl⟩ := h2
    exact lv_lload_n hx hb hdg rfl (lv_at hl j h1) (kk H locs lsC _ ⟨tys, ws, lv, t, hK, hP, hD, hS, hL0, hw, ⟨⟨i, rfl⟩, hst⟩, hl, hlr⟩)
  · cases hld
theorem ev_istore_n_ok (hx : p.tables.exec = Jvm.exec) (hb : c.code = cc) {k : Fin 4} {r : Int × Int} (hn : k.val < nL) (hdg : decode cc pc = .ok (.istore_n k, 1)) (kk : ev_K p l e R s m args below meth c Q b hz D cl A L0 nL cells slots (pc + 1) (ev_sto ls k.val (.inl r)) st h) : ev_K p l e R s m args below meth c Q b hz D cl A L0 nL cells slots pc ls (.inl r :: st) h := by
  intro H locs lsC stC hSt
  obtain ⟨tys, ws, lv, t, hK, hP, hD, hS, hL0, hw, hst, hl, hlr⟩ := hSt
  obtain ⟨v, stCv, ev, hv, hv1⟩ := ev_all_cons hst
  subst ev
  clear hst
  have hst := hv1
  obtain ⟨i, rfl, h3⟩ := hv
  exact lv_istore_n hx hb hdg rfl hl hn rfl (fun ls' hl' => kk H locs ls' _ ⟨tys, ws, _, t, hK, hP, hD, hS, hL0, hw, hst, hl', ev_sto_ok hlr _ ⟨i, rfl, h3⟩⟩)
theorem ev_istore_ok (hx : p.tables.exec = Jvm.exec) (hb : c.code = cc) {k : Nat} {r : Int × Int} (hn : k < nL) (hdg : decode cc pc = .ok (.istore k, 2)) (kk : ev_K p l e R s m args below meth c Q b hz D cl A L0 nL cells slots (pc + 2) (ev_sto ls k (.inl r)) st h) : ev_K p l e R s m args below meth c Q b hz D cl A L0 nL cells slots pc ls (.inl r :: st) h := by
  intro H locs lsC stC hSt
  obtain ⟨tys, ws, lv, t, hK, hP, hD, hS, hL0, hw, hst, hl, hlr⟩ := hSt
  obtain ⟨v, stCv, ev, hv, hv1⟩ := ev_all_cons hst
  subst ev
  clear hst
  have hst := hv1
  obtain ⟨i, rfl, h3⟩ := hv
  exact lv_istore hx hb hdg hl hn rfl (fun ls' hl' => kk H locs ls' _ ⟨tys, ws, _, t, hK, hP, hD, hS, hL0, hw, hst, hl', ev_sto_ok hlr _ ⟨i, rfl, h3⟩⟩)
theorem ev_astore_n_ok (hx : p.tables.exec = Jvm.exec) (hb : c.code = cc) {k : Fin 4} {n : Nat} (hn : k.val < nL) (hdg : decode cc pc = .ok (.astore_n k, 1)) (kk : ev_K p l e R s m args below meth c Q b hz D cl A L0 nL cells slots (pc + 1) (ev_sto ls k.val (.inr (.inr (n + 2)))) st h) : ev_K p l e R s m args below meth c Q b hz D cl A L0 nL cells slots pc ls (.inr (.inr (n + 2)) :: st) h := by
  intro H locs lsC stC hSt
  obtain ⟨tys, ws, lv, t, hK, hP, hD, hS, hL0, hw, hst, hl, hlr⟩ := hSt
  obtain ⟨v, stCv, ev, hv, hv1⟩ := ev_all_cons hst
  subst ev
  clear hst
  have hst := hv1
  obtain ⟨a, rfl⟩ := ev_ref_ok hv
  exact lv_astore_n hx hb hdg rfl hl hn rfl (fun ls' hl' => kk H locs ls' _ ⟨tys, ws, _, t, hK, hP, hD, hS, hL0, hw, hst, hl', ev_sto_ok hlr _ hv⟩)
theorem ev_lstore_ok (hx : p.tables.exec = Jvm.exec) (hb : c.code = cc) {k : Nat} (hn : k + 1 < nL) (hdg : decode cc pc = .ok (.lstore k, 2)) (kk : ev_K p l e R s m args below meth c Q b hz D cl A L0 nL cells slots (pc + 2) (ev_stoL ls k (.inr (.inr 0))) st h) : ev_K p l e R s m args below meth c Q b hz D cl A L0 nL cells slots pc ls (.inr (.inr 0) :: st) h := by
  intro H locs lsC stC hSt
  obtain ⟨tys, ws, lv, t, hK, hP, hD, hS, hL0, hw, hst, hl, hlr⟩ := hSt
  obtain ⟨v, stCi, e1, ⟨i, e2⟩, hi1⟩ := ev_all_cons hst
  subst e1 e2
  clear hst
  have hst := hi1
  exact lv_lstore hx hb hdg hl hn rfl (fun ls' hl' => kk H locs ls' _ ⟨tys, ws, _, t, hK, hP, hD, hS, hL0, hw, hst, hl', ev_stoL_ok hlr _ ⟨i, rfl⟩⟩)
theorem ev_iinc_ok (hx : p.tables.exec = Jvm.exec) (hb : c.code = cc) {k : Nat} {n : Int} {x : Int × Int} (hld : ev_loc ls k = some (.inl x)) (hn : k < nL) (hnn : (Int32.ofInt n).toInt = n) (hdg : decode cc pc = .ok (.iinc k n, 3)) (kk : ev_K p l e R s m args below meth c Q b hz D cl A L0 nL cells slots (pc + 3) (ev_sto ls k (ev_bin (fun a b => a + b) x (n, n))) st h) : ev_K p l e R s m args below meth c Q b hz D cl A L0 nL cells slots pc ls st h := by
  intro H locs lsC stC hSt
  obtain ⟨tys, ws, lv, t, hK, hP, hD, hS, hL0, hw, hst, hl, hlr⟩ := hSt
  obtain ⟨j, v, h1, h2⟩ := ev_loc_ok hlr hld
  obtain ⟨i, rfl, h3⟩ := h2
  exact lv_iinc hx hb hdg hl h1 rfl hn rfl (fun ls' hl' => kk H locs ls' _ ⟨tys, ws, _, t, hK, hP, hD, hS, hL0, hw, hst, hl', ev_sto_ok hlr _ (ev_bin_ok (f := fun a b => a + b) h3 ⟨by rw [hnn]; exact Int.le_refl _, by rw [hnn]; exact Int.le_refl _⟩)⟩)
theorem ev_iconst_ok (hx : p.tables.exec = Jvm.exec) (hb : c.code = cc) {n z : Int} (hv : (Int32.ofInt n).toInt = z) (hdg : decode cc pc = .ok (.iconst n, 1)) (kk : ev_K p l e R s m args below meth c Q b hz D cl A L0 nL cells slots (pc + 1) ls (.inl (z, z) :: st) h) : ev_K p l e R s m args below meth c Q b hz D cl A L0 nL cells slots pc ls st h := by
  intro H locs lsC stC hSt
  obtain ⟨tys, ws, lv, t, hK, hP, hD, hS, hL0, hw, hst, hl, hlr⟩ := hSt
  exact lv_iconst hx hb hdg rfl (kk H locs lsC _ ⟨tys, ws, lv, t, hK, hP, hD, hS, hL0, hw, ⟨ev_pc_ok hv, hst⟩, hl, hlr⟩)
theorem ev_bipush_ok (hx : p.tables.exec = Jvm.exec) (hb : c.code = cc) {n z : Int} (hv : ((Int8.ofInt n).toInt32).toInt = z) (hdg : decode cc pc = .ok (.bipush n, 2)) (kk : ev_K p l e R s m args below meth c Q b hz D cl A L0 nL cells slots (pc + 2) ls (.inl (z, z) :: st) h) : ev_K p l e R s m args below meth c Q b hz D cl A L0 nL cells slots pc ls st h := by
  intro H locs lsC stC hSt
  obtain ⟨tys, ws, lv, t, hK, hP, hD, hS, hL0, hw, hst, hl, hlr⟩ := hSt
  exact lv_bipush hx hb hdg rfl (kk H locs lsC _ ⟨tys, ws, lv, t, hK, hP, hD, hS, hL0, hw, ⟨ev_pc_ok hv, hst⟩, hl, hlr⟩)
theorem ev_sipush_ok (hx : p.tables.exec = Jvm.exec) (hb : c.code = cc) {n z : Int} (hv : ((Int16.ofInt n).toInt32).toInt = z) (hdg : decode cc pc = .ok (.sipush n, 3)) (kk : ev_K p l e R s m args below meth c Q b hz D cl A L0 nL cells slots (pc + 3) ls (.inl (z, z) :: st) h) : ev_K p l e R s m args below meth c Q b hz D cl A L0 nL cells slots pc ls st h := by
  intro H locs lsC stC hSt
  obtain ⟨tys, ws, lv, t, hK, hP, hD, hS, hL0, hw, hst, hl, hlr⟩ := hSt
  exact lv_sipush hx hb hdg rfl (kk H locs lsC _ ⟨tys, ws, lv, t, hK, hP, hD, hS, hL0, hw, ⟨ev_pc_ok hv, hst⟩, hl, hlr⟩)
theorem ev_ldc_ok (hx : p.tables.exec = Jvm.exec) (hb : c.code = cc) {own : String} (hown : s.vm.findClass own = some m.cls) {k : Nat} {v : Int32} {z : Int} (hv : v.toInt = z) (hc : (Cond.constant own k v).before args s = true) (hdg : decode cc pc = .ok (.ldc k, 2)) (kk : ev_K p l e R s m args below meth c Q b hz D cl A L0 nL cells slots (pc + 2) ls (.inl (z, z) :: st) h) : ev_K p l e R s m args below meth c Q b hz D cl A L0 nL cells slots pc ls st h := by
  intro H locs lsC stC hSt
  obtain ⟨tys, ws, lv, t, hK, hP, hD, hS, hL0, hw, hst, hl, hlr⟩ := hSt
  exact lv_ldc hx hb hown hc hdg (kk H locs lsC _ ⟨tys, ws, lv, t, hK, hP, hD, hS, hL0, hw, ⟨ev_pc_ok hv, hst⟩, hl, hlr⟩)
theorem ev_ldc_w_ok (hx : p.tables.exec = Jvm.exec) (hb : c.code = cc) {own : String} (hown : s.vm.findClass own = some m.cls) {k : Nat} {v : Int32} {z : Int} (hv : v.toInt = z) (hc : (Cond.constant own k v).before args s = true) (hdg : decode cc pc = .ok (.ldc_w k, 3)) (kk : ev_K p l e R s m args below meth c Q b hz D cl A L0 nL cells slots (pc + 3) ls (.inl (z, z) :: st) h) : ev_K p l e R s m args below meth c Q b hz D cl A L0 nL cells slots pc ls st h := by
  intro H locs lsC stC hSt
  obtain ⟨tys, ws, lv, t, hK, hP, hD, hS, hL0, hw, hst, hl, hlr⟩ := hSt
  exact lv_ldcw hx hb hown hc hdg (kk H locs lsC _ ⟨tys, ws, lv, t, hK, hP, hD, hS, hL0, hw, ⟨ev_pc_ok hv, hst⟩, hl, hlr⟩)
theorem ev_iadd_ok (hx : p.tables.exec = Jvm.exec) (hb : c.code = cc) {x y : Int × Int} (hdg : decode cc pc = .ok (.iadd, 1)) (kk : ev_K p l e R s m args below meth c Q b hz D cl A L0 nL cells slots (pc + 1) ls (ev_bin (fun a b => a + b) x y :: st) h) : ev_K p l e R s m args below meth c Q b hz D cl A L0 nL cells slots pc ls (.inl y :: .inl x :: st) h := by
  intro H locs lsC stC hSt
  obtain ⟨tys, ws, lv, t, hK, hP, hD, hS, hL0, hw, hst, hl, hlr⟩ := hSt
  obtain ⟨v, stCj, e1, ⟨j, e2, hj⟩, hj1⟩ := ev_all_cons hst
  subst e1 e2
  clear hst
  have hst := hj1
  obtain ⟨v, stCi, e1, ⟨i, e2, hi⟩, hi1⟩ := ev_all_cons hst
  subst e1 e2
  clear hst
  have hst := hi1
  exact lv_iadd hx hb hdg (kk H locs lsC _ ⟨tys, ws, lv, t, hK, hP, hD, hS, hL0, hw, ⟨ev_bin_ok (f := fun a b => a + b) hi hj, hst⟩, hl, hlr⟩)
theorem ev_isub_ok (hx : p.tables.exec = Jvm.exec) (hb : c.code = cc) {x y : Int × Int} (hdg : decode cc pc = .ok (.isub, 1)) (kk : ev_K p l e R s m args below meth c Q b hz D cl A L0 nL cells slots (pc + 1) ls (ev_bin (fun a b => a - b) x y :: st) h) : ev_K p l e R s m args below meth c Q b hz D cl A L0 nL cells slots pc ls (.inl y :: .inl x :: st) h := by
  intro H locs lsC stC hSt
  obtain ⟨tys, ws, lv, t, hK, hP, hD, hS, hL0, hw, hst, hl, hlr⟩ := hSt
  obtain ⟨v, stCj, e1, ⟨j, e2, hj⟩, hj1⟩ := ev_all_cons hst
  subst e1 e2
  clear hst
  have hst := hj1
  obtain ⟨v, stCi, e1, ⟨i, e2, hi⟩, hi1⟩ := ev_all_cons hst
  subst e1 e2
  clear hst
  have hst := hi1
  exact lv_isub hx hb hdg (kk H locs lsC _ ⟨tys, ws, lv, t, hK, hP, hD, hS, hL0, hw, ⟨ev_bin_ok (f := fun a b => a - b) hi hj, hst⟩, hl, hlr⟩)
theorem ev_imul_ok (hx : p.tables.exec = Jvm.exec) (hb : c.code = cc) {x y : Int × Int} (hdg : decode cc pc = .ok (.imul, 1)) (kk : ev_K p l e R s m args below meth c Q b hz D cl A L0 nL cells slots (pc + 1) ls (ev_bin (fun a b => a * b) x y :: st) h) : ev_K p l e R s m args below meth c Q b hz D cl A L0 nL cells slots pc ls (.inl y :: .inl x :: st) h := by
  intro H locs lsC stC hSt
  obtain ⟨tys, ws, lv, t, hK, hP, hD, hS, hL0, hw, hst, hl, hlr⟩ := hSt
  obtain ⟨v, stCj, e1, ⟨j, e2, hj⟩, hj1⟩ := ev_all_cons hst
  subst e1 e2
  clear hst
  have hst := hj1
  obtain ⟨v, stCi, e1, ⟨i, e2, hi⟩, hi1⟩ := ev_all_cons hst
  subst e1 e2
  clear hst
  have hst := hi1
  exact lv_imul hx hb hdg (kk H locs lsC _ ⟨tys, ws, lv, t, hK, hP, hD, hS, hL0, hw, ⟨ev_bin_ok (f := fun a b => a * b) hi hj, hst⟩, hl, hlr⟩)
theorem ev_ishr_ok (hx : p.tables.exec = Jvm.exec) (hb : c.code = cc) {x y : Int × Int} (hdg : decode cc pc = .ok (.ishr, 1)) (kk : ev_K p l e R s m args below meth c Q b hz D cl A L0 nL cells slots (pc + 1) ls (ev_bin (fun a b => a >>> (b &&& 31)) x y :: st) h) : ev_K p l e R s m args below meth c Q b hz D cl A L0 nL cells slots pc ls (.inl y :: .inl x :: st) h := by
  intro H locs lsC stC hSt
  obtain ⟨tys, ws, lv, t, hK, hP, hD, hS, hL0, hw, hst, hl, hlr⟩ := hSt
  obtain ⟨v, stCj, e1, ⟨j, e2, hj⟩, hj1⟩ := ev_all_cons hst
  subst e1 e2
  clear hst
  have hst := hj1
  obtain ⟨v, stCi, e1, ⟨i, e2, hi⟩, hi1⟩ := ev_all_cons hst
  subst e1 e2
  clear hst
  have hst := hi1
  exact lv_ishr hx hb hdg (kk H locs lsC _ ⟨tys, ws, lv, t, hK, hP, hD, hS, hL0, hw, ⟨ev_bin_ok (f := fun a b => a >>> (b &&& 31)) hi hj, hst⟩, hl, hlr⟩)
theorem ev_iand_ok (hx : p.tables.exec = Jvm.exec) (hb : c.code = cc) {x y : Int × Int} (hdg : decode cc pc = .ok (.iand, 1)) (kk : ev_K p l e R s m args below meth c Q b hz D cl A L0 nL cells slots (pc + 1) ls (ev_bin (fun a b => a &&& b) x y :: st) h) : ev_K p l e R s m args below meth c Q b hz D cl A L0 nL cells slots pc ls (.inl y :: .inl x :: st) h := by
  intro H locs lsC stC hSt
  obtain ⟨tys, ws, lv, t, hK, hP, hD, hS, hL0, hw, hst, hl, hlr⟩ := hSt
  obtain ⟨v, stCj, e1, ⟨j, e2, hj⟩, hj1⟩ := ev_all_cons hst
  subst e1 e2
  clear hst
  have hst := hj1
  obtain ⟨v, stCi, e1, ⟨i, e2, hi⟩, hi1⟩ := ev_all_cons hst
  subst e1 e2
  clear hst
  have hst := hi1
  exact lv_iand hx hb hdg (kk H locs lsC _ ⟨tys, ws, lv, t, hK, hP, hD, hS, hL0, hw, ⟨ev_bin_ok (f := fun a b => a &&& b) hi hj, hst⟩, hl, hlr⟩)
theorem ev_iushr_ok (hx : p.tables.exec = Jvm.exec) (hb : c.code = cc) {x y : Int × Int} (hdg : decode cc pc = .ok (.iushr, 1)) (kk : ev_K p l e R s m args below meth c Q b hz D cl A L0 nL cells slots (pc + 1) ls (ev_bin (fun a b => (a.toUInt32 >>> (b.toUInt32 &&& Int32.toUInt32 31)).toInt32) x y :: st) h) : ev_K p l e R s m args below meth c Q b hz D cl A L0 nL cells slots pc ls (.inl y :: .inl x :: st) h := by
  intro H locs lsC stC hSt
  obtain ⟨tys, ws, lv, t, hK, hP, hD, hS, hL0, hw, hst, hl, hlr⟩ := hSt
  obtain ⟨v, stCj, e1, ⟨j, e2, hj⟩, hj1⟩ := ev_all_cons hst
  subst e1 e2
  clear hst
  have hst := hj1
  obtain ⟨v, stCi, e1, ⟨i, e2, hi⟩, hi1⟩ := ev_all_cons hst
  subst e1 e2
  clear hst
  have hst := hi1
  exact lv_iushr hx hb hdg rfl (kk H locs lsC _ ⟨tys, ws, lv, t, hK, hP, hD, hS, hL0, hw, ⟨ev_bin_ok (f := fun a b => (a.toUInt32 >>> (b.toUInt32 &&& Int32.toUInt32 31)).toInt32) hi hj, hst⟩, hl, hlr⟩)
theorem ev_iandm_ok (hx : p.tables.exec = Jvm.exec) (hb : c.code = cc) {k : Nat} {y : Int × Int} (h1 : y.1 = 31) (h2 : y.2 = 31) (hk : k ≤ 31) (hdg : decode cc pc = .ok (.iand, 1)) (kk : ev_K p l e R s m args below meth c Q b hz D cl A L0 nL cells slots (pc + 1) ls (.inl (k, k) :: st) h) : ev_K p l e R s m args below meth c Q b hz D cl A L0 nL cells slots pc ls (.inl y :: .inr (.inl k) :: st) h := by
  intro H locs lsC stC hSt
  obtain ⟨tys, ws, lv, t, hK, hP, hD, hS, hL0, hw, hst, hl, hlr⟩ := hSt
  obtain ⟨v, stCj, e1, ⟨j, e2, hj⟩, hj1⟩ := ev_all_cons hst
  subst e1 e2
  clear hst
  have hst := hj1
  obtain ⟨v, stCi, e1, ⟨i, e2, hi⟩, hi1⟩ := ev_all_cons hst
  subst e1 e2
  clear hst
  have hst := hi1
  have ej : j = 31 := by
    apply Int32.toInt_inj.mp
    have q1 := hj.1
    have q2 := hj.2
    rw [h1] at q1
    rw [h2] at q2
    have : (31 : Int32).toInt = 31 := by decide
    omega
  subst ej
  refine lv_iand hx hb hdg (kk H locs lsC _ ⟨tys, ws, lv, t, hK, hP, hD, hS, hL0, hw, ⟨?_, hst⟩, hl, hlr⟩)
  rw [hi]
  exact ev_pc_ok (nI_toInt (n := k) (by omega))
theorem ev_i2b_ok (hx : p.tables.exec = Jvm.exec) (hb : c.code = cc) {x : Int × Int} (hdg : decode cc pc = .ok (.i2b, 1)) (kk : ev_K p l e R s m args below meth c Q b hz D cl A L0 nL cells slots (pc + 1) ls (ev_top :: st) h) : ev_K p l e R s m args below meth c Q b hz D cl A L0 nL cells slots pc ls (.inl x :: st) h := by
  intro H locs lsC stC hSt
  obtain ⟨tys, ws, lv, t, hK, hP, hD, hS, hL0, hw, hst, hl, hlr⟩ := hSt
  obtain ⟨v, stCj, e1, ⟨j, e2, hj⟩, hj1⟩ := ev_all_cons hst
  subst e1 e2
  clear hst
  have hst := hj1
  exact lv_i2b hx hb hdg rfl (kk H locs lsC _ ⟨tys, ws, lv, t, hK, hP, hD, hS, hL0, hw, ⟨ev_top_ok, hst⟩, hl, hlr⟩)
theorem ev_i2l_ok (hx : p.tables.exec = Jvm.exec) (hb : c.code = cc) {x : Int × Int} (hdg : decode cc pc = .ok (.i2l, 1)) (kk : ev_K p l e R s m args below meth c Q b hz D cl A L0 nL cells slots (pc + 1) ls (.inr (.inr 0) :: st) h) : ev_K p l e R s m args below meth c Q b hz D cl A L0 nL cells slots pc ls (.inl x :: st) h := by
  intro H locs lsC stC hSt
  obtain ⟨tys, ws, lv, t, hK, hP, hD, hS, hL0, hw, hst, hl, hlr⟩ := hSt
  obtain ⟨v, stCj, e1, ⟨j, e2, hj⟩, hj1⟩ := ev_all_cons hst
  subst e1 e2
  clear hst
  have hst := hj1
  exact lv_i2l hx hb hdg rfl (kk H locs lsC _ ⟨tys, ws, lv, t, hK, hP, hD, hS, hL0, hw, ⟨⟨_, rfl⟩, hst⟩, hl, hlr⟩)
theorem ev_dup_ok (hx : p.tables.exec = Jvm.exec) (hb : c.code = cc) {x : ev_V} (h1 : ev_ok1 x = true) (hdg : decode cc pc = .ok (.dup, 1)) (kk : ev_K p l e R s m args below meth c Q b hz D cl A L0 nL cells slots (pc + 1) ls (x :: x :: st) h) : ev_K p l e R s m args below meth c Q b hz D cl A L0 nL cells slots pc ls (x :: st) h := by
  intro H locs lsC stC hSt
  obtain ⟨tys, ws, lv, t, hK, hP, hD, hS, hL0, hw, hst, hl, hlr⟩ := hSt
  obtain ⟨v, stCv, ev, hv, hv1⟩ := ev_all_cons hst
  subst ev
  clear hst
  have hst := hv1
  exact lv_dup hx hb hdg (ev_rel_c1 hv h1) (kk H locs lsC _ ⟨tys, ws, lv, t, hK, hP, hD, hS, hL0, hw, ⟨hv, hv, hst⟩, hl, hlr⟩)
theorem ev_dup_x1_ok (hx : p.tables.exec = Jvm.exec) (hb : c.code = cc) {x y : ev_V} (h1 : ev_ok1 x = true) (h2 : ev_ok1 y = true) (hdg : decode cc pc = .ok (.dup_x1, 1)) (kk : ev_K p l e R s m args below meth c Q b hz D cl A L0 nL cells slots (pc + 1) ls (x :: y :: x :: st) h) : ev_K p l e R s m args below meth c Q b hz D cl A L0 nL cells slots pc ls (x :: y :: st) h := by
  intro H locs lsC stC hSt
  obtain ⟨tys, ws, lv, t, hK, hP, hD, hS, hL0, hw, hst, hl, hlr⟩ := hSt
  obtain ⟨v, stCv, ev, hv, hv1⟩ := ev_all_cons hst
  subst ev
  clear hst
  have hst := hv1
  obtain ⟨u, stCu, eu, hu, hu1⟩ := ev_all_cons hst
  subst eu
  clear hst
  have hst := hu1
  exact lv_dup_x1 hx hb hdg (ev_rel_c1 hv h1) (ev_rel_c1 hu h2) (kk H locs lsC _ ⟨tys, ws, lv, t, hK, hP, hD, hS, hL0, hw, ⟨hv, hu, hv, hst⟩, hl, hlr⟩)
theorem ev_pop_ok (hx : p.tables.exec = Jvm.exec) (hb : c.code = cc) {x : ev_V} (h1 : ev_ok1 x = true) (hdg : decode cc pc = .ok (.pop, 1)) (kk : ev_K p l e R s m args below meth c Q b hz D cl A L0 nL cells slots (pc + 1) ls st h) : ev_K p l e R s m args below meth c Q b hz D cl A L0 nL cells slots pc ls (x :: st) h := by
  intro H locs lsC stC hSt
  obtain ⟨tys, ws, lv, t, hK, hP, hD, hS, hL0, hw, hst, hl, hlr⟩ := hSt
  obtain ⟨v, stCv, ev, hv, hv1⟩ := ev_all_cons hst
  subst ev
  clear hst
  have hst := hv1
  exact lv_pop hx hb hdg (ev_rel_c1 hv h1) (kk H locs lsC _ ⟨tys, ws, lv, t, hK, hP, hD, hS, hL0, hw, hst, hl, hlr⟩)
theorem ev_goto_ok (hx : p.tables.exec = Jvm.exec) (hb : c.code = cc) {off : Int} {tgt : Nat} (ht : (pc : Int) + off = (tgt : Int)) (hdg : decode cc pc = .ok (.goto off, 3)) (kk : ev_K p l e R s m args below meth c Q b hz D cl A L0 nL cells slots tgt ls st h) : ev_K p l e R s m args below meth c Q b hz D cl A L0 nL cells slots pc ls st h := by
  intro H locs lsC stC hSt
  obtain ⟨tys, ws, lv, t, hK, hP, hD, hS, hL0, hw, hst, hl, hlr⟩ := hSt
  exact lv_goto hx hb hdg ht (kk H locs lsC _ ⟨tys, ws, lv, t, hK, hP, hD, hS, hL0, hw, hst, hl, hlr⟩)
theorem ev_icmp_lt_t (hx : p.tables.exec = Jvm.exec) (hb : c.code = cc) {off : Int} {tgt : Nat} {x y : Int × Int} (hc : ev_lt x y = some true) (ht : (pc : Int) + off = (tgt : Int)) (hdg : decode cc pc = .ok (.if_icmp .lt off, 3)) (kk : ev_K p l e R s m args below meth c Q b hz D cl A L0 nL cells slots tgt ls st h) : ev_K p l e R s m args below meth c Q b hz D cl A L0 nL cells slots pc ls (.inl y :: .inl x :: st) h := by
  intro H locs lsC stC hSt
  obtain ⟨tys, ws, lv, t, hK, hP, hD, hS, hL0, hw, hst, hl, hlr⟩ := hSt
  obtain ⟨v, stC1, e1, ⟨j, e2, hj⟩, hj1⟩ := ev_all_cons hst
  subst e1 e2
  clear hst
  have hst := hj1
  obtain ⟨v, stC2, e1, ⟨i, e2, hi⟩, hi1⟩ := ev_all_cons hst
  subst e1 e2
  clear hst
  have hst := hi1
  exact lv_icmp_lt hx hb hdg ht (fun _ => kk H locs lsC _ ⟨tys, ws, lv, t, hK, hP, hD, hS, hL0, hw, hst, hl, hlr⟩) (fun q => absurd (ev_lt_t hi hj hc) q)
theorem ev_icmp_lt_f (hx : p.tables.exec = Jvm.exec) (hb : c.code = cc) {off : Int} {tgt : Nat} {x y : Int × Int} (hc : ev_lt x y = some false) (ht : (pc : Int) + off = (tgt : Int)) (hdg : decode cc pc = .ok (.if_icmp .lt off, 3)) (kk : ev_K p l e R s m args below meth c Q b hz D cl A L0 nL cells slots (pc + 3) ls st h) : ev_K p l e R s m args below meth c Q b hz D cl A L0 nL cells slots pc ls (.inl y :: .inl x :: st) h := by
  intro H locs lsC stC hSt
  obtain ⟨tys, ws, lv, t, hK, hP, hD, hS, hL0, hw, hst, hl, hlr⟩ := hSt
  obtain ⟨v, stC1, e1, ⟨j, e2, hj⟩, hj1⟩ := ev_all_cons hst
  subst e1 e2
  clear hst
  have hst := hj1
  obtain ⟨v, stC2, e1, ⟨i, e2, hi⟩, hi1⟩ := ev_all_cons hst
  subst e1 e2
  clear hst
  have hst := hi1
  exact lv_icmp_lt hx hb hdg ht (fun q => absurd q (ev_lt_f hi hj hc)) (fun _ => kk H locs lsC _ ⟨tys, ws, lv, t, hK, hP, hD, hS, hL0, hw, hst, hl, hlr⟩)
theorem ev_if_lt_t (hx : p.tables.exec = Jvm.exec) (hb : c.code = cc) {off : Int} {tgt : Nat} {x : Int × Int} (hc : ev_lt x (0, 0) = some true) (ht : (pc : Int) + off = (tgt : Int)) (hdg : decode cc pc = .ok (.ifCond .lt off, 3)) (kk : ev_K p l e R s m args below meth c Q b hz D cl A L0 nL cells slots tgt ls st h) : ev_K p l e R s m args below meth c Q b hz D cl A L0 nL cells slots pc ls (.inl x :: st) h := by
  intro H locs lsC stC hSt
  obtain ⟨tys, ws, lv, t, hK, hP, hD, hS, hL0, hw, hst, hl, hlr⟩ := hSt
  have hj : ev_in (0, 0) (0 : Int32) := ⟨Int.le_refl 0, Int.le_refl 0⟩
  obtain ⟨v, stC2, e1, ⟨i, e2, hi⟩, hi1⟩ := ev_all_cons hst
  subst e1 e2
  clear hst
  have hst := hi1
  exact lv_if_lt hx hb hdg ht (fun _ => kk H locs lsC _ ⟨tys, ws, lv, t, hK, hP, hD, hS, hL0, hw, hst, hl, hlr⟩) (fun q => absurd (ev_lt_t hi hj hc) q)
theorem ev_if_lt_f (hx : p.tables.exec = Jvm.exec) (hb : c.code = cc) {off : Int} {tgt : Nat} {x : Int × Int} (hc : ev_lt x (0, 0) = some false) (ht : (pc : Int) + off = (tgt : Int)) (hdg : decode cc pc = .ok (.ifCond .lt off, 3)) (kk : ev_K p l e R s m args below meth c Q b hz D cl A L0 nL cells slots (pc + 3) ls st h) : ev_K p l e R s m args below meth c Q b hz D cl A L0 nL cells slots pc ls (.inl x :: st) h := by
  intro H locs lsC stC hSt
  obtain ⟨tys, ws, lv, t, hK, hP, hD, hS, hL0, hw, hst, hl, hlr⟩ := hSt
  have hj : ev_in (0, 0) (0 : Int32) := ⟨Int.le_refl 0, Int.le_refl 0⟩
  obtain ⟨v, stC2, e1, ⟨i, e2, hi⟩, hi1⟩ := ev_all_cons hst
  subst e1 e2
  clear hst
  have hst := hi1
  exact lv_if_lt hx hb hdg ht (fun q => absurd q (ev_lt_f hi hj hc)) (fun _ => kk H locs lsC _ ⟨tys, ws, lv, t, hK, hP, hD, hS, hL0, hw, hst, hl, hlr⟩)
theorem ev_icmp_ge_t (hx : p.tables.exec = Jvm.exec) (hb : c.code = cc) {off : Int} {tgt : Nat} {x y : Int × Int} (hc : ev_lt x y = some true) (ht : (pc : Int) + off = (tgt : Int)) (hdg : decode cc pc = .ok (.if_icmp .ge off, 3)) (kk : ev_K p l e R s m args below meth c Q b hz D cl A L0 nL cells slots (pc + 3) ls st h) : ev_K p l e R s m args below meth c Q b hz D cl A L0 nL cells slots pc ls (.inl y :: .inl x :: st) h := by
  intro H locs lsC stC hSt
  obtain ⟨tys, ws, lv, t, hK, hP, hD, hS, hL0, hw, hst, hl, hlr⟩ := hSt
  obtain ⟨v, stC1, e1, ⟨j, e2, hj⟩, hj1⟩ := ev_all_cons hst
  subst e1 e2
  clear hst
  have hst := hj1
  obtain ⟨v, stC2, e1, ⟨i, e2, hi⟩, hi1⟩ := ev_all_cons hst
  subst e1 e2
  clear hst
  have hst := hi1
  exact lv_icmp_ge hx hb hdg ht (fun q => absurd q (Int32.not_le.mpr (ev_lt_t hi hj hc))) (fun _ => kk H locs lsC _ ⟨tys, ws, lv, t, hK, hP, hD, hS, hL0, hw, hst, hl, hlr⟩)
theorem ev_icmp_ge_f (hx : p.tables.exec = Jvm.exec) (hb : c.code = cc) {off : Int} {tgt : Nat} {x y : Int × Int} (hc : ev_lt x y = some false) (ht : (pc : Int) + off = (tgt : Int)) (hdg : decode cc pc = .ok (.if_icmp .ge off, 3)) (kk : ev_K p l e R s m args below meth c Q b hz D cl A L0 nL cells slots tgt ls st h) : ev_K p l e R s m args below meth c Q b hz D cl A L0 nL cells slots pc ls (.inl y :: .inl x :: st) h := by
  intro H locs lsC stC hSt
  obtain ⟨tys, ws, lv, t, hK, hP, hD, hS, hL0, hw, hst, hl, hlr⟩ := hSt
  obtain ⟨v, stC1, e1, ⟨j, e2, hj⟩, hj1⟩ := ev_all_cons hst
  subst e1 e2
  clear hst
  have hst := hj1
  obtain ⟨v, stC2, e1, ⟨i, e2, hi⟩, hi1⟩ := ev_all_cons hst
  subst e1 e2
  clear hst
  have hst := hi1
  exact lv_icmp_ge hx hb hdg ht (fun _ => kk H locs lsC _ ⟨tys, ws, lv, t, hK, hP, hD, hS, hL0, hw, hst, hl, hlr⟩) (fun q => absurd (Int32.not_lt.mp (ev_lt_f hi hj hc)) q)
theorem ev_if_ge_t (hx : p.tables.exec = Jvm.exec) (hb : c.code = cc) {off : Int} {tgt : Nat} {x : Int × Int} (hc : ev_lt x (0, 0) = some true) (ht : (pc : Int) + off = (tgt : Int)) (hdg : decode cc pc = .ok (.ifCond .ge off, 3)) (kk : ev_K p l e R s m args below meth c Q b hz D cl A L0 nL cells slots (pc + 3) ls st h) : ev_K p l e R s m args below meth c Q b hz D cl A L0 nL cells slots pc ls (.inl x :: st) h := by
  intro H locs lsC stC hSt
  obtain ⟨tys, ws, lv, t, hK, hP, hD, hS, hL0, hw, hst, hl, hlr⟩ := hSt
  have hj : ev_in (0, 0) (0 : Int32) := ⟨Int.le_refl 0, Int.le_refl 0⟩
  obtain ⟨v, stC2, e1, ⟨i, e2, hi⟩, hi1⟩ := ev_all_cons hst
  subst e1 e2
  clear hst
  have hst := hi1
  exact lv_if_ge hx hb hdg ht (fun q => absurd q (Int32.not_le.mpr (ev_lt_t hi hj hc))) (fun _ => kk H locs lsC _ ⟨tys, ws, lv, t, hK, hP, hD, hS, hL0, hw, hst, hl, hlr⟩)
theorem ev_if_ge_f (hx : p.tables.exec = Jvm.exec) (hb : c.code = cc) {off : Int} {tgt : Nat} {x : Int × Int} (hc : ev_lt x (0, 0) = some false) (ht : (pc : Int) + off = (tgt : Int)) (hdg : decode cc pc = .ok (.ifCond .ge off, 3)) (kk : ev_K p l e R s m args below meth c Q b hz D cl A L0 nL cells slots tgt ls st h) : ev_K p l e R s m args below meth c Q b hz D cl A L0 nL cells slots pc ls (.inl x :: st) h := by
  intro H locs lsC stC hSt
  obtain ⟨tys, ws, lv, t, hK, hP, hD, hS, hL0, hw, hst, hl, hlr⟩ := hSt
  have hj : ev_in (0, 0) (0 : Int32) := ⟨Int.le_refl 0, Int.le_refl 0⟩
  obtain ⟨v, stC2, e1, ⟨i, e2, hi⟩, hi1⟩ := ev_all_cons hst
  subst e1 e2
  clear hst
  have hst := hi1
  exact lv_if_ge hx hb hdg ht (fun _ => kk H locs lsC _ ⟨tys, ws, lv, t, hK, hP, hD, hS, hL0, hw, hst, hl, hlr⟩) (fun q => absurd (Int32.not_lt.mp (ev_lt_f hi hj hc)) q)
theorem ev_icmp_gt_t (hx : p.tables.exec = Jvm.exec) (hb : c.code = cc) {off : Int} {tgt : Nat} {x y : Int × Int} (hc : ev_lt y x = some true) (ht : (pc : Int) + off = (tgt : Int)) (hdg : decode cc pc = .ok (.if_icmp .gt off, 3)) (kk : ev_K p l e R s m args below meth c Q b hz D cl A L0 nL cells slots tgt ls st h) : ev_K p l e R s m args below meth c Q b hz D cl A L0 nL cells slots pc ls (.inl y :: .inl x :: st) h := by
  intro H locs lsC stC hSt
  obtain ⟨tys, ws, lv, t, hK, hP, hD, hS, hL0, hw, hst, hl, hlr⟩ := hSt
  obtain ⟨v, stC1, e1, ⟨j, e2, hj⟩, hj1⟩ := ev_all_cons hst
  subst e1 e2
  clear hst
  have hst := hj1
  obtain ⟨v, stC2, e1, ⟨i, e2, hi⟩, hi1⟩ := ev_all_cons hst
  subst e1 e2
  clear hst
  have hst := hi1
  exact lv_icmp_gt hx hb hdg ht (fun _ => kk H locs lsC _ ⟨tys, ws, lv, t, hK, hP, hD, hS, hL0, hw, hst, hl, hlr⟩) (fun q => absurd (ev_lt_t hj hi hc) q)
theorem ev_icmp_gt_f (hx : p.tables.exec = Jvm.exec) (hb : c.code = cc) {off : Int} {tgt : Nat} {x y : Int × Int} (hc : ev_lt y x = some false) (ht : (pc : Int) + off = (tgt : Int)) (hdg : decode cc pc = .ok (.if_icmp .gt off, 3)) (kk : ev_K p l e R s m args below meth c Q b hz D cl A L0 nL cells slots (pc + 3) ls st h) : ev_K p l e R s m args below meth c Q b hz D cl A L0 nL cells slots pc ls (.inl y :: .inl x :: st) h := by
  intro H locs lsC stC hSt
  obtain ⟨tys, ws, lv, t, hK, hP, hD, hS, hL0, hw, hst, hl, hlr⟩ := hSt
  obtain ⟨v, stC1, e1, ⟨j, e2, hj⟩, hj1⟩ := ev_all_cons hst
  subst e1 e2
  clear hst
  have hst := hj1
  obtain ⟨v, stC2, e1, ⟨i, e2, hi⟩, hi1⟩ := ev_all_cons hst
  subst e1 e2
  clear hst
  have hst := hi1
  exact lv_icmp_gt hx hb hdg ht (fun q => absurd q (ev_lt_f hj hi hc)) (fun _ => kk H locs lsC _ ⟨tys, ws, lv, t, hK, hP, hD, hS, hL0, hw, hst, hl, hlr⟩)
theorem ev_if_gt_t (hx : p.tables.exec = Jvm.exec) (hb : c.code = cc) {off : Int} {tgt : Nat} {x : Int × Int} (hc : ev_lt (0, 0) x = some true) (ht : (pc : Int) + off = (tgt : Int)) (hdg : decode cc pc = .ok (.ifCond .gt off, 3)) (kk : ev_K p l e R s m args below meth c Q b hz D cl A L0 nL cells slots tgt ls st h) : ev_K p l e R s m args below meth c Q b hz D cl A L0 nL cells slots pc ls (.inl x :: st) h := by
  intro H locs lsC stC hSt
  obtain ⟨tys, ws, lv, t, hK, hP, hD, hS, hL0, hw, hst, hl, hlr⟩ := hSt
  have hj : ev_in (0, 0) (0 : Int32) := ⟨Int.le_refl 0, Int.le_refl 0⟩
  obtain ⟨v, stC2, e1, ⟨i, e2, hi⟩, hi1⟩ := ev_all_cons hst
  subst e1 e2
  clear hst
  have hst := hi1
  exact lv_if_gt hx hb hdg ht (fun _ => kk H locs lsC _ ⟨tys, ws, lv, t, hK, hP, hD, hS, hL0, hw, hst, hl, hlr⟩) (fun q => absurd (ev_lt_t hj hi hc) q)
theorem ev_if_gt_f (hx : p.tables.exec = Jvm.exec) (hb : c.code = cc) {off : Int} {tgt : Nat} {x : Int × Int} (hc : ev_lt (0, 0) x = some false) (ht : (pc : Int) + off = (tgt : Int)) (hdg : decode cc pc = .ok (.ifCond .gt off, 3)) (kk : ev_K p l e R s m args below meth c Q b hz D cl A L0 nL cells slots (pc + 3) ls st h) : ev_K p l e R s m args below meth c Q b hz D cl A L0 nL cells slots pc ls (.inl x :: st) h := by
  intro H locs lsC stC hSt
  obtain ⟨tys, ws, lv, t, hK, hP, hD, hS, hL0, hw, hst, hl, hlr⟩ := hSt
  have hj : ev_in (0, 0) (0 : Int32) := ⟨Int.le_refl 0, Int.le_refl 0⟩
  obtain ⟨v, stC2, e1, ⟨i, e2, hi⟩, hi1⟩ := ev_all_cons hst
  subst e1 e2
  clear hst
  have hst := hi1
  exact lv_if_gt hx hb hdg ht (fun q => absurd q (ev_lt_f hj hi hc)) (fun _ => kk H locs lsC _ ⟨tys, ws, lv, t, hK, hP, hD, hS, hL0, hw, hst, hl, hlr⟩)
theorem ev_icmp_le_t (hx : p.tables.exec = Jvm.exec) (hb : c.code = cc) {off : Int} {tgt : Nat} {x y : Int × Int} (hc : ev_lt y x = some true) (ht : (pc : Int) + off = (tgt : Int)) (hdg : decode cc pc = .ok (.if_icmp .le off, 3)) (kk : ev_K p l e R s m args below meth c Q b hz D cl A L0 nL cells slots (pc + 3) ls st h) : ev_K p l e R s m args below meth c Q b hz D cl A L0 nL cells slots pc ls (.inl y :: .inl x :: st) h := by
  intro H locs lsC stC hSt
  obtain ⟨tys, ws, lv, t, hK, hP, hD, hS, hL0, hw, hst, hl, hlr⟩ := hSt
  obtain ⟨v, stC1, e1, ⟨j, e2, hj⟩, hj1⟩ := ev_all_cons hst
  subst e1 e2
  clear hst
  have hst := hj1
  obtain ⟨v, stC2, e1, ⟨i, e2, hi⟩, hi1⟩ := ev_all_cons hst
  subst e1 e2
  clear hst
  have hst := hi1
  exact lv_icmp_le hx hb hdg ht (fun q => absurd q (Int32.not_le.mpr (ev_lt_t hj hi hc))) (fun _ => kk H locs lsC _ ⟨tys, ws, lv, t, hK, hP, hD, hS, hL0, hw, hst, hl, hlr⟩)
theorem ev_icmp_le_f (hx : p.tables.exec = Jvm.exec) (hb : c.code = cc) {off : Int} {tgt : Nat} {x y : Int × Int} (hc : ev_lt y x = some false) (ht : (pc : Int) + off = (tgt : Int)) (hdg : decode cc pc = .ok (.if_icmp .le off, 3)) (kk : ev_K p l e R s m args below meth c Q b hz D cl A L0 nL cells slots tgt ls st h) : ev_K p l e R s m args below meth c Q b hz D cl A L0 nL cells slots pc ls (.inl y :: .inl x :: st) h := by
  intro H locs lsC stC hSt
  obtain ⟨tys, ws, lv, t, hK, hP, hD, hS, hL0, hw, hst, hl, hlr⟩ := hSt
  obtain ⟨v, stC1, e1, ⟨j, e2, hj⟩, hj1⟩ := ev_all_cons hst
  subst e1 e2
  clear hst
  have hst := hj1
  obtain ⟨v, stC2, e1, ⟨i, e2, hi⟩, hi1⟩ := ev_all_cons hst
  subst e1 e2
  clear hst
  have hst := hi1
  exact lv_icmp_le hx hb hdg ht (fun _ => kk H locs lsC _ ⟨tys, ws, lv, t, hK, hP, hD, hS, hL0, hw, hst, hl, hlr⟩) (fun q => absurd (Int32.not_lt.mp (ev_lt_f hj hi hc)) q)
theorem ev_if_le_t (hx : p.tables.exec = Jvm.exec) (hb : c.code = cc) {off : Int} {tgt : Nat} {x : Int × Int} (hc : ev_lt (0, 0) x = some true) (ht : (pc : Int) + off = (tgt : Int)) (hdg : decode cc pc = .ok (.ifCond .le off, 3)) (kk : ev_K p l e R s m args below meth c Q b hz D cl A L0 nL cells slots (pc + 3) ls st h) : ev_K p l e R s m args below meth c Q b hz D cl A L0 nL cells slots pc ls (.inl x :: st) h := by
  intro H locs lsC stC hSt
  obtain ⟨tys, ws, lv, t, hK, hP, hD, hS, hL0, hw, hst, hl, hlr⟩ := hSt
  have hj : ev_in (0, 0) (0 : Int32) := ⟨Int.le_refl 0, Int.le_refl 0⟩
  obtain ⟨v, stC2, e1, ⟨i, e2, hi⟩, hi1⟩ := ev_all_cons hst
  subst e1 e2
  clear hst
  have hst := hi1
  exact lv_if_le hx hb hdg ht (fun q => absurd q (Int32.not_le.mpr (ev_lt_t hj hi hc))) (fun _ => kk H locs lsC _ ⟨tys, ws, lv, t, hK, hP, hD, hS, hL0, hw, hst, hl, hlr⟩)
theorem ev_if_le_f (hx : p.tables.exec = Jvm.exec) (hb : c.code = cc) {off : Int} {tgt : Nat} {x : Int × Int} (hc : ev_lt (0, 0) x = some false) (ht : (pc : Int) + off = (tgt : Int)) (hdg : decode cc pc = .ok (.ifCond .le off, 3)) (kk : ev_K p l e R s m args below meth c Q b hz D cl A L0 nL cells slots tgt ls st h) : ev_K p l e R s m args below meth c Q b hz D cl A L0 nL cells slots pc ls (.inl x :: st) h := by
  intro H locs lsC stC hSt
  obtain ⟨tys, ws, lv, t, hK, hP, hD, hS, hL0, hw, hst, hl, hlr⟩ := hSt
  have hj : ev_in (0, 0) (0 : Int32) := ⟨Int.le_refl 0, Int.le_refl 0⟩
  obtain ⟨v, stC2, e1, ⟨i, e2, hi⟩, hi1⟩ := ev_all_cons hst
  subst e1 e2
  clear hst
  have hst := hi1
  exact lv_if_le hx hb hdg ht (fun _ => kk H locs lsC _ ⟨tys, ws, lv, t, hK, hP, hD, hS, hL0, hw, hst, hl, hlr⟩) (fun q => absurd (Int32.not_lt.mp (ev_lt_f hj hi hc)) q)
theorem ev_icmp_eq_t (hx : p.tables.exec = Jvm.exec) (hb : c.code = cc) {off : Int} {tgt : Nat} {x y : Int × Int} (hc : ev_eq x y = some true) (ht : (pc : Int) + off = (tgt : Int)) (hdg : decode cc pc = .ok (.if_icmp .eq off, 3)) (kk : ev_K p l e R s m args below meth c Q b hz D cl A L0 nL cells slots tgt ls st h) : ev_K p l e R s m args below meth c Q b hz D cl A L0 nL cells slots pc ls (.inl y :: .inl x :: st) h := by
  intro H locs lsC stC hSt
  obtain ⟨tys, ws, lv, t, hK, hP, hD, hS, hL0, hw, hst, hl, hlr⟩ := hSt
  obtain ⟨v, stC1, e1, ⟨j, e2, hj⟩, hj1⟩ := ev_all_cons hst
  subst e1 e2
  clear hst
  have hst := hj1
  obtain ⟨v, stC2, e1, ⟨i, e2, hi⟩, hi1⟩ := ev_all_cons hst
  subst e1 e2
  clear hst
  have hst := hi1
  exact lv_icmp_eq hx hb hdg ht (fun _ => kk H locs lsC _ ⟨tys, ws, lv, t, hK, hP, hD, hS, hL0, hw, hst, hl, hlr⟩) (fun q => absurd (ev_eq_t hi hj hc) q)
theorem ev_icmp_eq_f (hx : p.tables.exec = Jvm.exec) (hb : c.code = cc) {off : Int} {tgt : Nat} {x y : Int × Int} (hc : ev_eq x y = some false) (ht : (pc : Int) + off = (tgt : Int)) (hdg : decode cc pc = .ok (.if_icmp .eq off, 3)) (kk : ev_K p l e R s m args below meth c Q b hz D cl A L0 nL cells slots (pc + 3) ls st h) : ev_K p l e R s m args below meth c Q b hz D cl A L0 nL cells slots pc ls (.inl y :: .inl x :: st) h := by
  intro H locs lsC stC hSt
  obtain ⟨tys, ws, lv, t, hK, hP, hD, hS, hL0, hw, hst, hl, hlr⟩ := hSt
  obtain ⟨v, stC1, e1, ⟨j, e2, hj⟩, hj1⟩ := ev_all_cons hst
  subst e1 e2
  clear hst
  have hst := hj1
  obtain ⟨v, stC2, e1, ⟨i, e2, hi⟩, hi1⟩ := ev_all_cons hst
  subst e1 e2
  clear hst
  have hst := hi1
  exact lv_icmp_eq hx hb hdg ht (fun q => absurd q (ev_eq_f hi hj hc)) (fun _ => kk H locs lsC _ ⟨tys, ws, lv, t, hK, hP, hD, hS, hL0, hw, hst, hl, hlr⟩)
theorem ev_if_eq_t (hx : p.tables.exec = Jvm.exec) (hb : c.code = cc) {off : Int} {tgt : Nat} {x : Int × Int} (hc : ev_eq x (0, 0) = some true) (ht : (pc : Int) + off = (tgt : Int)) (hdg : decode cc pc = .ok (.ifCond .eq off, 3)) (kk : ev_K p l e R s m args below meth c Q b hz D cl A L0 nL cells slots tgt ls st h) : ev_K p l e R s m args below meth c Q b hz D cl A L0 nL cells slots pc ls (.inl x :: st) h := by
  intro H locs lsC stC hSt
  obtain ⟨tys, ws, lv, t, hK, hP, hD, hS, hL0, hw, hst, hl, hlr⟩ := hSt
  have hj : ev_in (0, 0) (0 : Int32) := ⟨Int.le_refl 0, Int.le_refl 0⟩
  obtain ⟨v, stC2, e1, ⟨i, e2, hi⟩, hi1⟩ := ev_all_cons hst
  subst e1 e2
  clear hst
  have hst := hi1
  exact lv_if_eq hx hb hdg ht (fun _ => kk H locs lsC _ ⟨tys, ws, lv, t, hK, hP, hD, hS, hL0, hw, hst, hl, hlr⟩) (fun q => absurd (ev_eq_t hi hj hc) q)
theorem ev_if_eq_f (hx : p.tables.exec = Jvm.exec) (hb : c.code = cc) {off : Int} {tgt : Nat} {x : Int × Int} (hc : ev_eq x (0, 0) = some false) (ht : (pc : Int) + off = (tgt : Int)) (hdg : decode cc pc = .ok (.ifCond .eq off, 3)) (kk : ev_K p l e R s m args below meth c Q b hz D cl A L0 nL cells slots (pc + 3) ls st h) : ev_K p l e R s m args below meth c Q b hz D cl A L0 nL cells slots pc ls (.inl x :: st) h := by
  intro H locs lsC stC hSt
  obtain ⟨tys, ws, lv, t, hK, hP, hD, hS, hL0, hw, hst, hl, hlr⟩ := hSt
  have hj : ev_in (0, 0) (0 : Int32) := ⟨Int.le_refl 0, Int.le_refl 0⟩
  obtain ⟨v, stC2, e1, ⟨i, e2, hi⟩, hi1⟩ := ev_all_cons hst
  subst e1 e2
  clear hst
  have hst := hi1
  exact lv_if_eq hx hb hdg ht (fun q => absurd q (ev_eq_f hi hj hc)) (fun _ => kk H locs lsC _ ⟨tys, ws, lv, t, hK, hP, hD, hS, hL0, hw, hst, hl, hlr⟩)
theorem ev_icmp_ne_t (hx : p.tables.exec = Jvm.exec) (hb : c.code = cc) {off : Int} {tgt : Nat} {x y : Int × Int} (hc : ev_eq x y = some true) (ht : (pc : Int) + off = (tgt : Int)) (hdg : decode cc pc = .ok (.if_icmp .ne off, 3)) (kk : ev_K p l e R s m args below meth c Q b hz D cl A L0 nL cells slots (pc + 3) ls st h) : ev_K p l e R s m args below meth c Q b hz D cl A L0 nL cells slots pc ls (.inl y :: .inl x :: st) h := by
  intro H locs lsC stC hSt
  obtain ⟨tys, ws, lv, t, hK, hP, hD, hS, hL0, hw, hst, hl, hlr⟩ := hSt
  obtain ⟨v, stC1, e1, ⟨j, e2, hj⟩, hj1⟩ := ev_all_cons hst
  subst e1 e2
  clear hst
  have hst := hj1
  obtain ⟨v, stC2, e1, ⟨i, e2, hi⟩, hi1⟩ := ev_all_cons hst
  subst e1 e2
  clear hst
  have hst := hi1
  exact lv_icmp_ne hx hb hdg ht (fun q => absurd q (fun q => q (ev_eq_t hi hj hc))) (fun _ => kk H locs lsC _ ⟨tys, ws, lv, t, hK, hP, hD, hS, hL0, hw, hst, hl, hlr⟩)
theorem ev_icmp_ne_f (hx : p.tables.exec = Jvm.exec) (hb : c.code = cc) {off : Int} {tgt : Nat} {x y : Int × Int} (hc : ev_eq x y = some false) (ht : (pc : Int) + off = (tgt : Int)) (hdg : decode cc pc = .ok (.if_icmp .ne off, 3)) (kk : ev_K p l e R s m args below meth c Q b hz D cl A L0 nL cells slots tgt ls st h) : ev_K p l e R s m args below meth c Q b hz D cl A L0 nL cells slots pc ls (.inl y :: .inl x :: st) h := by
  intro H locs lsC stC hSt
  obtain ⟨tys, ws, lv, t, hK, hP, hD, hS, hL0, hw, hst, hl, hlr⟩ := hSt
  obtain ⟨v, stC1, e1, ⟨j, e2, hj⟩, hj1⟩ := ev_all_cons hst
  subst e1 e2
  clear hst
  have hst := hj1
  obtain ⟨v, stC2, e1, ⟨i, e2, hi⟩, hi1⟩ := ev_all_cons hst
  subst e1 e2
  clear hst
  have hst := hi1
  exact lv_icmp_ne hx hb hdg ht (fun _ => kk H locs lsC _ ⟨tys, ws, lv, t, hK, hP, hD, hS, hL0, hw, hst, hl, hlr⟩) (fun q => absurd q (ev_eq_f hi hj hc))
theorem ev_if_ne_t (hx : p.tables.exec = Jvm.exec) (hb : c.code = cc) {off : Int} {tgt : Nat} {x : Int × Int} (hc : ev_eq x (0, 0) = some true) (ht : (pc : Int) + off = (tgt : Int)) (hdg : decode cc pc = .ok (.ifCond .ne off, 3)) (kk : ev_K p l e R s m args below meth c Q b hz D cl A L0 nL cells slots (pc + 3) ls st h) : ev_K p l e R s m args below meth c Q b hz D cl A L0 nL cells slots pc ls (.inl x :: st) h := by
  intro H locs lsC stC hSt
  obtain ⟨tys, ws, lv, t, hK, hP, hD, hS, hL0, hw, hst, hl, hlr⟩ := hSt
  have hj : ev_in (0, 0) (0 : Int32) := ⟨Int.le_refl 0, Int.le_refl 0⟩
  obtain ⟨v, stC2, e1, ⟨i, e2, hi⟩, hi1⟩ := ev_all_cons hst
  subst e1 e2
  clear hst
  have hst := hi1
  exact lv_if_ne hx hb hdg ht (fun q => absurd q (fun q => q (ev_eq_t hi hj hc))) (fun _ => kk H locs lsC _ ⟨tys, ws, lv, t, hK, hP, hD, hS, hL0, hw, hst, hl, hlr⟩)
theorem ev_if_ne_f (hx : p.tables.exec = Jvm.exec) (hb : c.code = cc) {off : Int} {tgt : Nat} {x : Int × Int} (hc : ev_eq x (0, 0) = some false) (ht : (pc : Int) + off = (tgt : Int)) (hdg : decode cc pc = .ok (.ifCond .ne off, 3)) (kk : ev_K p l e R s m args below meth c Q b hz D cl A L0 nL cells slots tgt ls st h) : ev_K p l e R s m args below meth c Q b hz D cl A L0 nL cells slots pc ls (.inl x :: st) h := by
  intro H locs lsC stC hSt
  obtain ⟨tys, ws, lv, t, hK, hP, hD, hS, hL0, hw, hst, hl, hlr⟩ := hSt
  have hj : ev_in (0, 0) (0 : Int32) := ⟨Int.le_refl 0, Int.le_refl 0⟩
  obtain ⟨v, stC2, e1, ⟨i, e2, hi⟩, hi1⟩ := ev_all_cons hst
  subst e1 e2
  clear hst
  have hst := hi1
  exact lv_if_ne hx hb hdg ht (fun _ => kk H locs lsC _ ⟨tys, ws, lv, t, hK, hP, hD, hS, hL0, hw, hst, hl, hlr⟩) (fun q => absurd q (ev_eq_f hi hj hc))
end EVS
