/-! ===== the library's own methods ===== -/
section EVL
variable {p : Program} {l : Launch} {e : Env} {R : Room} {s : State} {m : MethodId} {args : Array Value} {below : List Frame} {meth : Method} {c : Code} {Q : State → Prop} {b hz : Nat} {D : va_G} {cl : List vw_C} {A : Nat → Prop} {L0 : List Nat} {nL : Nat} {cells slots : Nat} {cc : ByteArray} {pc : Nat} {ls : ev_L} {st : List ev_V} {h : ev_H}
theorem ev_sum {L : List Nat} : ∀ {st : List ev_V} {stC : List Value}, ev_all (ev_rel b hz L) st stC → (stC.map fun v => v.category).sum ≤ 2 * st.length
  | [], [], _ => Nat.le_refl _
  | x :: st, v :: stC, h => by
    have h1 := ev_rel_le2 h.1
    have h2 := ev_sum h.2
    rw [List.map_cons, List.sum_cons, List.length_cons]
    omega
  | [], _ :: _, h => h.elim
  | _ :: _, [], h => h.elim
theorem ev_oin_ok (hx : p.tables.exec = Jvm.exec) (hb : c.code = cc) (hml : c.maxLocals = nL) {own : String} (hown : s.vm.findClass own = some m.cls) {Ts : List Cond} (hts : ∀ w ∈ Ts, w.before args s = true) {idx n : Nat} (h1 : Cond.methodLink own idx Lib.objectInit ∈ Ts) (h2 : Cond.instanceMethod Lib.objectInit ∈ Ts) (h3 : Cond.code Lib.objectInit ⟨#[0xb1]⟩ 1 none ∈ Ts) (hfr : 1 ≤ R.frames) (hlo : 40 ≤ R.locals) (h4 : st.length ≤ 4)
    (hdg : decode cc pc = .ok (.invokespecial idx, 3)) (kk : ev_K p l e R s m args below meth c Q b hz D cl A L0 nL cells slots (pc + 3) ls st h) : ev_K p l e R s m args below meth c Q b hz D cl A L0 nL cells slots pc ls (.inr (.inr (n + 4)) :: st) h := by
  intro H locs lsC stC hSt
  obtain ⟨tys, ws, lv, t, hK, hP, hD, hS, hL0, hw, hst, hl, hlr⟩ := hSt
  obtain ⟨v, stC1, e1, ⟨a, ha, e2⟩, hst1⟩ := ev_all_cons hst
  subst e1 e2
  have hsum := ev_sum hst1
  have hrm : 2 * (F0 m pc lsC (.ref a :: stC1)).monitorRoom + (stC1.map fun v => v.category).sum ≤ 8 := lv_room (by omega)
  exact W.objInit hx hb hown (hts _ h1) (hts _ h2) (hts _ h3) rfl (by rw [hml]; exact hl.1) rfl hdg hfr (by omega) (kk H locs lsC _ ⟨tys, ws, lv, t, hK, hP, hD, hS, hL0, hw, hst1, hl, hlr⟩)
theorem ev_max_ok (hx : p.tables.exec = Jvm.exec) (hb : c.code = cc) (hml : c.maxLocals = nL) {own : String} (hown : s.vm.findClass own = some m.cls) {Ts : List Cond} (hts : ∀ w ∈ Ts, w.before args s = true) {idx : Nat} {x y : Int × Int} (h1 : Cond.methodLink own idx Lib.Math.max.name ∈ Ts) (h2 : Cond.static Lib.Math.max.name ∈ Ts) (h3 : Cond.initialized "java/lang/Math" ∈ Ts) (h5 : Cond.code Lib.Math.max.name Lib.Math.max.code 2 (some .int) ∈ Ts) (hfr : 1 ≤ R.frames) (hlo : 40 ≤ R.locals) (h4 : st.length ≤ 4) (hcc : cells ≤ R.cells) (hss : slots ≤ R.slots)
    (hdg : decode cc pc = .ok (.invokestatic idx, 3)) (kk : ev_K p l e R s m args below meth c Q b hz D cl A L0 nL cells slots (pc + 3) ls (ev_mm true x y :: st) h) : ev_K p l e R s m args below meth c Q b hz D cl A L0 nL cells slots pc ls (.inl y :: .inl x :: st) h := by
  intro H locs lsC stC hSt
  obtain ⟨tys, ws, lv, t, hK, hP, hD, hS, hL0, hw, hst, hl, hlr⟩ := hSt
  obtain ⟨v, stC1, e1, ⟨j, e2, hj⟩, hst1⟩ := ev_all_cons hst
  subst e1 e2
  obtain ⟨v, stC2, e1, ⟨i, e2, hi⟩, hst2⟩ := ev_all_cons hst1
  subst e1 e2
  have hsum := ev_sum hst2
  refine va_mmax hx hb (by rw [hml]; exact hl.1.symm) hown (hts _ h1) (hts _ h2) (hts _ h3) (hts _ h5) hfr (by omega) hcc hss hdg (kk H locs lsC _ ⟨tys, ws, lv, t, hK, hP, hD, hS, hL0, hw, ⟨?_, hst2⟩, hl, hlr⟩)
  exact ev_bin_ok (f := fun a b => if true then (if a < b then b else a) else (if b < a then b else a)) hi hj
theorem ev_min_ok (hx : p.tables.exec = Jvm.exec) (hb : c.code = cc) (hml : c.maxLocals = nL) {own : String} (hown : s.vm.findClass own = some m.cls) {Ts : List Cond} (hts : ∀ w ∈ Ts, w.before args s = true) {idx : Nat} {x y : Int × Int} (h1 : Cond.methodLink own idx Lib.Math.min.name ∈ Ts) (h2 : Cond.static Lib.Math.min.name ∈ Ts) (h3 : Cond.initialized "java/lang/Math" ∈ Ts) (h5 : Cond.code Lib.Math.min.name Lib.Math.min.code 2 (some .int) ∈ Ts) (hfr : 1 ≤ R.frames) (hlo : 40 ≤ R.locals) (h4 : st.length ≤ 4) (hcc : cells ≤ R.cells) (hss : slots ≤ R.slots)
    (hdg : decode cc pc = .ok (.invokestatic idx, 3)) (kk : ev_K p l e R s m args below meth c Q b hz D cl A L0 nL cells slots (pc + 3) ls (ev_mm false x y :: st) h) : ev_K p l e R s m args below meth c Q b hz D cl A L0 nL cells slots pc ls (.inl y :: .inl x :: st) h := by
  intro H locs lsC stC hSt
  obtain ⟨tys, ws, lv, t, hK, hP, hD, hS, hL0, hw, hst, hl, hlr⟩ := hSt
  obtain ⟨v, stC1, e1, ⟨j, e2, hj⟩, hst1⟩ := ev_all_cons hst
  subst e1 e2
  obtain ⟨v, stC2, e1, ⟨i, e2, hi⟩, hst2⟩ := ev_all_cons hst1
  subst e1 e2
  have hsum := ev_sum hst2
  refine va_mmin hx hb (by rw [hml]; exact hl.1.symm) hown (hts _ h1) (hts _ h2) (hts _ h3) (hts _ h5) hfr (by omega) hcc hss hdg (kk H locs lsC _ ⟨tys, ws, lv, t, hK, hP, hD, hS, hL0, hw, ⟨?_, hst2⟩, hl, hlr⟩)
  exact ev_bin_ok (f := fun a b => if false then (if a < b then b else a) else (if b < a then b else a)) hi hj
theorem ev_copy_ok (hx : p.tables.exec = Jvm.exec) (hb : c.code = cc) (hml : c.maxLocals = nL) {own : String} (hown : s.vm.findClass own = some m.cls) {Ts : List Cond} (hts : ∀ w ∈ Ts, w.before args s = true) {idx n0 n1 w0 w1 jn jd js : Nat} {rn rd rs : Int × Int} {f g : List (Nat × (Int × Int))} (h1 : Cond.methodLink own idx arraycopyName ∈ Ts) (h2 : Cond.native arraycopyName ∈ Ts) (h3 : Cond.static arraycopyName ∈ Ts) (h5 : Cond.initialized "java/lang/System" ∈ Ts) (hfr : 1 ≤ R.frames) (hlo : 40 ≤ R.locals) (h4 : st.length ≤ 4)
    (g0 : h[n0]? = some (.inl (0, w0, f))) (g1 : h[n1]? = some (.inl (0, w1, g))) (in1 : ev_ix rn 1000000 = some jn) (in2 : ev_ix rd 1000000 = some jd) (in3 : ev_ix rs 1000000 = some js) (hle0 : js + jn ≤ w0) (hle1 : jd + jn ≤ w1)
    (hdg : decode cc pc = .ok (.invokestatic idx, 3)) (kk : ev_K p l e R s m args below meth c Q b hz D cl A L0 nL cells slots (pc + 3) ls st (h.set n1 (.inl (0, w1, ev_cp f g js jd jn)))) : ev_K p l e R s m args below meth c Q b hz D cl A L0 nL cells slots pc ls (.inl rn :: .inl rd :: .inr (.inr (n1 + 4)) :: .inl rs :: .inr (.inr (n0 + 4)) :: st) h := by
  intro H locs lsC stC hSt
  obtain ⟨tys, ws, lv, t, hK, hP, hD, hS, hL0, hw, hst, hl, hlr⟩ := hSt
  obtain ⟨v, stC1, e1, ⟨in', e2, hin⟩, hst1⟩ := ev_all_cons hst
  subst e1 e2
  obtain ⟨v, stC2, e1, ⟨id', e2, hid⟩, hst2⟩ := ev_all_cons hst1
  subst e1 e2
  obtain ⟨v, stC3, e1, ⟨a1, ha1, e2⟩, hst3⟩ := ev_all_cons hst2
  subst e1 e2
  obtain ⟨v, stC4, e1, ⟨is', e2, his⟩, hst4⟩ := ev_all_cons hst3
  subst e1 e2
  obtain ⟨v, stC5, e1, ⟨a0, ha0, e2⟩, hst5⟩ := ev_all_cons hst4
  subst e1 e2
  have hsum := ev_sum hst5
  obtain ⟨e0, k0, k1⟩ := ev_wat hw g0 rfl ha0
  obtain ⟨c0, F, e1, m0, i0⟩ := (ev_crel_i (by decide)).mp k1
  subst e1
  obtain ⟨e0', k0', k1'⟩ := ev_wat hw g1 rfl ha1
  obtain ⟨c1, G, e1, m1, i1⟩ := (ev_crel_i (by decide)).mp k1'
  subst e1
  obtain ⟨t0, ht0⟩ := ev_mem_at m0
  obtain ⟨t1, ht1⟩ := ev_mem_at m1
  obtain ⟨-, -, q1, -, q2⟩ := ev_ix_ok in1 hin
  obtain ⟨-, -, q3, -, q4⟩ := ev_ix_ok in2 hid
  obtain ⟨-, -, q5, -, q6⟩ := ev_ix_ok in3 his
  refine va_copyi hx hb (by rw [hml]; exact hl.1.symm) hown (hts _ h1) (hts _ h2) (hts _ h3) (hts _ h5) hK hP hD hS n0 n1 t0 t1 k0 k0' ht0 ht1 rfl q6 q4 q2 (by rw [q5, q1]; exact hle0) (by rw [q3, q1]; exact hle1) (fun _ _ => rfl) hfr ?_ hdg (fun H1 locs1 hP1 hD1 hS1 => ?_)
  · have : nativeFrameWords "java/lang/System" "arraycopy" 5 ≤ 7 := by decide +kernel
    omega
  rw [q1, q3, q5] at hP1 hD1
  refine kk H1 locs1 lsC stC5 ⟨tys, _, lv, t, hK, hP1, hD1, hS1, ?_, ?_, ?_, hl, ?_⟩
  · rw [ev_mapset k0']; exact hL0
  · rw [ev_mapset k0']
    refine ev_all_set (R := fun c (q : Nat × va_E) => ev_crel b hz tys (ws.map Prod.fst) c q.2) ?_ hw n1
    refine (ev_crel_i (t := 0) (by decide)).mpr ⟨c1, _, rfl, m1, fun k => ?_⟩
    rw [ev_cp_get]
    unfold va_cpy
    by_cases hk : jd ≤ k ∧ k < jd + jn
    · rw [if_pos hk, if_pos hk]; exact i0 _
    · rw [if_neg hk, if_neg hk]; exact i1 _
  · rw [ev_mapset k0']; exact hst5
  · rw [ev_mapset k0']; exact hlr
end EVL
