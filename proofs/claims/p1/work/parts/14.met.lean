/-! ===== a run is a contract ===== -/
section EVM
abbrev ev_MI : Type := MethodName × ByteArray × Nat × Option FieldType
def ev_nh (y : MethodName) : Prop := y.cls ≠ "java/lang/invoke/MethodHandle" ∧ y.cls ≠ "java/lang/invoke/VarHandle"
/-- what the tables say of a method that is called -/
def ev_cal (Ts : List Cond) (y : MethodName) (cc : ByteArray) (nL : Nat) (ret : Option FieldType) (n : Nat) : Prop :=
  Cond.code y cc nL ret ∈ Ts ∧ Cond.initialized y.cls ∈ Ts ∧ plainName y.cls = true ∧ ev_nh y ∧ nL ≤ 20 ∧ (parseMethodDescriptor y.desc).map (fun d => d.parameters.length) = some n
/-- what they must say for an instruction that is no plain step -/
def ev_lc (MT : List ev_MI) (cl : List vw_C) (Ts NW : List Cond) (own : String) (ret : Option FieldType) (q : ev_I) : Prop := match q.2.2.1 with
  | 0 => True
  | 1 => (q.2.2.2.1 = 0 → q.2.1 = (.return_, 1) ∧ ret = none) ∧ (q.2.2.2.1 = 1 → q.2.1 = (.ireturn, 1) ∧ ret = some .int) ∧ (q.2.2.2.1 = 2 → q.2.1 = (.ireturn, 1) ∧ ret = some .boolean) ∧ (q.2.2.2.1 = 3 → q.2.1 = (.lreturn, 1) ∧ ret = some .long)
  | 2 => ∃ (idx : Nat) (y : MethodName) (cc : ByteArray) (nL : Nat) (rt : Option FieldType) (n : Nat) (T : u_T) (N : Nat), q.2.1 = (.invokevirtual idx, 3) ∧ MT[q.2.2.2.1]? = some (y, cc, nL, rt) ∧ ev_cal Ts y cc nL rt n ∧ q.2.2.2.2.1 = n + 1 ∧ q.2.2.2.2.2.toNat / 100 = nL ∧ Cond.methodLink own idx y ∈ Ts ∧ Cond.instanceMethod y ∈ Ts ∧ Cond.selects y.cls y y ∈ Ts ∧ cl[q.2.2.2.2.2.toNat % 100]? = some (y.cls, T, N)
  | 3 => ∃ (idx : Nat) (y : MethodName) (cc : ByteArray) (nL : Nat) (n : Nat), q.2.1 = (.invokespecial idx, 3) ∧ MT[q.2.2.2.1]? = some (y, cc, nL, none) ∧ ev_cal Ts y cc nL none n ∧ q.2.2.2.2.1 = n + 1 ∧ q.2.2.2.2.2.toNat / 100 = nL ∧ Cond.methodLink own idx y ∈ Ts ∧ Cond.instanceMethod y ∈ Ts ∧ y.name = "<init>"
  | 4 => ∃ (idx : Nat) (y : MethodName) (cc : ByteArray) (nL : Nat) (n : Nat) (host : String), q.2.1 = (.invokespecial idx, 3) ∧ MT[q.2.2.2.1]? = some (y, cc, nL, none) ∧ ev_cal Ts y cc nL none n ∧ q.2.2.2.2.1 = n + 1 ∧ q.2.2.2.2.2.toNat / 100 = nL ∧ Cond.methodLinkNest own idx y host ∈ NW ∧ Cond.instanceMethod y ∈ Ts ∧ y.name = "<init>"
  | 5 => ∃ (idx : Nat) (y : MethodName) (cc : ByteArray) (nL : Nat) (rt : Option FieldType) (n : Nat), q.2.1 = (.invokestatic idx, 3) ∧ MT[q.2.2.2.1]? = some (y, cc, nL, rt) ∧ ev_cal Ts y cc nL rt n ∧ q.2.2.2.2.1 = n ∧ q.2.2.2.2.2.toNat / 100 = nL ∧ Cond.methodLink own idx y ∈ Ts ∧ Cond.static y ∈ Ts
  | 6 => True
  | 7 => ∃ idx : Nat, q.2.1 = (.invokespecial idx, 3) ∧ Cond.methodLink own idx Lib.objectInit ∈ Ts ∧ Cond.instanceMethod Lib.objectInit ∈ Ts ∧ Cond.code Lib.objectInit ⟨#[0xb1]⟩ 1 none ∈ Ts
  | 8 => ∃ idx : Nat, q.2.1 = (.invokestatic idx, 3) ∧ Cond.methodLink own idx Lib.Math.max.name ∈ Ts ∧ Cond.static Lib.Math.max.name ∈ Ts ∧ Cond.initialized "java/lang/Math" ∈ Ts ∧ Cond.code Lib.Math.max.name Lib.Math.max.code 2 (some .int) ∈ Ts
  | 9 => ∃ idx : Nat, q.2.1 = (.invokestatic idx, 3) ∧ Cond.methodLink own idx Lib.Math.min.name ∈ Ts ∧ Cond.static Lib.Math.min.name ∈ Ts ∧ Cond.initialized "java/lang/Math" ∈ Ts ∧ Cond.code Lib.Math.min.name Lib.Math.min.code 2 (some .int) ∈ Ts
  | _ => ∃ idx : Nat, q.2.1 = (.invokestatic idx, 3) ∧ Cond.methodLink own idx arraycopyName ∈ Ts ∧ Cond.native arraycopyName ∈ Ts ∧ Cond.static arraycopyName ∈ Ts ∧ Cond.initialized "java/lang/System" ∈ Ts
def ev_ok (PR : List ev_M) (MT : List ev_MI) (cl : List vw_C) (df : List (List ev_V)) (Ts NW : List Cond) : Prop :=
  (∀ w ∈ Ts, goodWord w = true) ∧ (∀ w ∈ NW, ev_wm w) ∧
  ∀ (i : Nat) (T : ev_M), PR[i]? = some T → ∃ (y : MethodName) (cc : ByteArray) (nL : Nat) (ret : Option FieldType), MT[i]? = some (y, cc, nL, ret) ∧
    ∀ ck ∈ T, ∀ q ∈ ck, decode cc q.1 = .ok q.2.1 ∧ ev_lk cl df Ts y.cls y.name nL q ∧ ev_lc MT cl Ts NW y.cls ret q
theorem ev_wd_ok {b hz : Nat} {L : List Nat} : ∀ {as : List ev_V} {vs : List Value}, ev_all (ev_rel b hz L) as vs → (lg_sl vs).length = ev_wd as
  | [], [], _ => rfl
  | x :: as, v :: vs, h => by
    have hc := ev_rel_cat h.1
    show (List.flatMap (fun v : Value => if v.category = 2 then [Slot.val v, .second] else [.val v]) (v :: vs)).length = _
    rw [List.flatMap_cons, List.length_append]
    have ih := ev_wd_ok h.2
    unfold lg_sl at ih
    rw [ih]
    show _ = (bif ev_lng x then 2 else 1) + ev_wd as
    rw [← hc]
    by_cases q : v.category = 2
    · rw [if_pos q, q]; rfl
    · rw [if_neg q, show (v.category == 2) = false from by simpa using q]; rfl
  | [], _ :: _, h => h.elim
  | _ :: _, [], h => h.elim
/-- a contract's start and end, by the interpreter's cells -/
def ev_Pc (b hz N : Nat) (xs : Nat → Int32) (NW : List Cond) (D : va_G) (cl : List vw_C) (tys : List (ClassId × FieldType)) (ws : va_W) (sz : Nat) (vs : List Value) : Array Value → State → Prop :=
  va_Pc vs (fun U => U.heap.size = sz ∧ ev_X b hz N xs NW (va_A ws sz) U U.heap ∧ va_K D cl tys U ∧ va_P D cl ws U.heap)
def ev_Wd (b hz : Nat) (D : va_G) (cl : List vw_C) (ws : va_W) (sz : Nat) (rs : List ev_V) (h : ev_H) (vo : Option Value) (t : State) : Prop :=
  ∃ (tys : List (ClassId × FieldType)) (ws' : va_W) (tl : List Nat), ws'.map Prod.fst = ws.map Prod.fst ++ tl ∧ ev_all (ev_rel b hz (ws'.map Prod.fst)) rs vo.toList ∧ ev_wrel b hz tys (ws'.map Prod.fst) h ws' ∧ va_K D cl tys t ∧ va_P D cl ws' t.heap ∧ va_D (va_A ws sz) ws'
def ev_Q (b hz : Nat) (D : va_G) (cl : List vw_C) (ws : va_W) (sz : Nat) (rs : List ev_V) (h : ev_H) : Array Value → State → Outcome → State → Prop := fun _ st oc t =>
  (∃ vo : Option Value, oc = .returned vo ∧ ev_Wd b hz D cl ws sz rs h vo t) ∧ va_F (va_A ws sz) st t
/-- what a run gives, for one number of steps -/
def ev_snd (l : Launch) (b hz N : Nat) (xs : Nat → Int32) (PR : List ev_M) (MT : List ev_MI) (D : va_G) (cl : List vw_C) (df : List (List ev_V)) (Ts NW : List Cond) (sc : List ev_V) (f : Nat) : Prop :=
  ∀ {d : Nat} {T : ev_M} {stop pc : Nat} {ls : ev_L} {st : List ev_V} {h : ev_H} {k n : Nat} {r : ev_R}, ev_run PR df sc ev_hl f d T stop pc ls st h k n = some r →
    ∀ {i : Nat} {y : MethodName} {cc : ByteArray} {nL : Nat} {ret : Option FieldType}, PR[i]? = some T → MT[i]? = some (y, cc, nL, ret) →
    ∀ {p : Program} {e : Env} {R : Room} {s : State} {m : MethodId} {args : Array Value} {below : List Frame} {meth : Method} {c : Code} {Q : State → Prop} {A : Nat → Prop} {L0 : List Nat},
      ev_cx p R s m args meth c cc y.cls y.name nL d Ts → ev_X b hz N xs NW A s s.heap → (∀ q, s.heap.size ≤ q → A q) → r.2.2.2.2.2.1 ≤ R.cells → r.2.2.2.2.2.2 ≤ R.slots →
      ev_K p l e R s m args below meth c Q b hz D cl A L0 nL r.2.2.2.2.2.1 r.2.2.2.2.2.2 r.2.1 r.2.2.1 r.2.2.2.1 r.2.2.2.2.1 →
      ev_K p l e R s m args below meth c Q b hz D cl A L0 nL k n pc ls st h
variable {l : Launch} {b hz N : Nat} {xs : Nat → Int32} {PR : List ev_M} {MT : List ev_MI} {D : va_G} {cl : List vw_C} {df : List (List ev_V)} {Ts NW : List Cond} {sc : List ev_V}
theorem ev_met {f d : Nat} (hok : ev_ok PR MT cl df Ts NW) (IH : ev_snd l b hz N xs PR MT D cl df Ts NW sc f) {j : Nat} {U : ev_M} (hj : PR[j]? = some U) {y : MethodName} {cc : ByteArray} {nL : Nat} {ret : Option FieldType} {nn : Nat} (hm : MT[j]? = some (y, cc, nL, ret)) (hcal : ev_cal Ts y cc nL ret nn)
    {as : List ev_V} {h : ev_H} {r : ev_R} (hr : ev_run PR df sc ev_hl f d U 100000 0 (ev_args 0 as) [] h 0 0 = some r) (hr3 : r.1 ≤ 3) (hwd : ev_wd as ≤ nL)
    {tys : List (ClassId × FieldType)} {ws : va_W} {sz : Nat} {vs : List Value} (hw : ev_wrel b hz tys (ws.map Prod.fst) h ws) (has : ev_all (ev_rel b hz (ws.map Prod.fst)) as vs) (hD : va_D (va_A ws sz) ws) :
    Met l y (Cond.code y cc nL ret :: Ts) { frames := d, cells := r.2.2.2.2.2.1, slots := r.2.2.2.2.2.2, locals := 40 * d } (ev_Pc b hz N xs NW D cl tys ws sz vs) (ev_Q b hz D cl ws sz r.2.2.2.1 r.2.2.2.2.1) r.2.2.2.2.2.1 r.2.2.2.2.2.2 (va_A ws sz) := by
  obtain ⟨hcode, hini, hpl, hnh, hnL, -⟩ := hcal
  refine Met.ofW (cc := cc) (maxL := nL) (ret := ret) hpl rfl ?_
  intro p e s m args below meth c s₁ B hml hv
  obtain ⟨rfl, hsz, hX, hK, hP⟩ := hv
  have hx := B.exec
  have hb := B.bytes
  have hret := B.returns
  have hts0 := atoms_spec (ws := Cond.code y cc nL ret :: Ts) B.pre
  have hts : ∀ w ∈ Ts, w.before vs.toArray s = true := fun w h => hts0 w (List.mem_cons_of_mem _ h)
  have hown : s.vm.findClass y.cls = some m.cls := findClass_of_methodNamed B.named
  have hlocks := B.notSynchronized
  have hnm : meth.name = y.name := (name_of_methodNamed B.named B.method).1
  subst hsz
  have hA : ∀ q : Nat, s.heap.size ≤ q → va_A ws s.heap.size q := fun q h => Or.inr h
  have hl := lv_entry vs (n := nL) (by rw [ev_wd_ok has]; exact hwd)
  rw [lg_entry_eq]
  refine IH hr hj hm ⟨hx, hb, hml, hown, hts, hnm, Nat.le_refl _, Nat.le_refl _⟩ hX hA (Nat.le_refl _) (Nat.le_refl _) ?_ s.heap [] _ [] (L0 := ws.map Prod.fst) ⟨tys, ws, lv_args 0 vs, [], hK, hP, hD, va_S.rf, by rw [List.append_nil], hw, trivial, hl, ev_args_ok has 0⟩
  intro H locs lsC stC hSt
  obtain ⟨tys', ws', lv', t, hK', hP', hD', hS', hL0', hw', hst', hl', hlr'⟩ := hSt
  rcases ev_run_end f hr with h4 | ⟨q, ⟨ck, hck, hq⟩, hq1, hq2, hq3, hend⟩
  · omega
  obtain ⟨y', cc', nL', ret', hm', hall⟩ := hok.2.2 j U hj
  rw [hm] at hm'
  cases hm'
  obtain ⟨hdg, -, hlc⟩ := hall ck hck q hq
  unfold ev_lc at hlc
  rw [hq2] at hlc
  simp only at hlc
  obtain ⟨l0, l1, l2, l3⟩ := hlc
  rw [hq1] at hdg
  rw [hq3] at l0 l1 l2 l3
  have fin : ∀ (vo : Option Value) (t : State), t.heap = H → s.WarmedH t.vm → ev_all (ev_rel b hz (ws'.map Prod.fst)) r.2.2.2.1 vo.toList → ev_Q b hz D cl ws s.heap.size r.2.2.2.1 r.2.2.2.2.1 vs.toArray s (.returned vo) t := fun vo t ht hW hvo =>
    ⟨⟨vo, rfl, tys', ws', _, hL0', hvo, hw', va_K.moved hW.alike hK', by rw [ht]; exact hP', hD'⟩, hS'.F ht⟩
  unfold ev_end at hend
  split at hend
  · rename_i e1 e2
    obtain ⟨i1, i2⟩ := l0 e1
    rw [e2] at hst'
    cases ev_all_none hst'
    rw [i1] at hdg
    exact W.vret hx hb (by rw [hret, i2]) (fun t ht hW => fin none t ht hW (by rw [e2]; trivial)) hS'.2.2 hdg hlocks
  · rename_i r1 e1 e2
    obtain ⟨i1, i2⟩ := l1 e1
    rw [e2] at hst'
    obtain ⟨v, stC1, g1, g2, g3⟩ := ev_all_cons hst'
    cases ev_all_none g3
    obtain ⟨i, g4, g5⟩ := g2
    subst g1 g4
    rw [i1] at hdg
    exact W.iret hx hb (by rw [hret, i2]) (fun t ht hW => fin (some (.int i)) t ht hW (by rw [e2]; exact ⟨⟨i, rfl, g5⟩, trivial⟩)) hS'.2.2 hdg hlocks
  · rename_i r1 e1 e2
    obtain ⟨i1, i2⟩ := l2 e1
    rw [e2] at hst'
    obtain ⟨v, stC1, g1, g2, g3⟩ := ev_all_cons hst'
    cases ev_all_none g3
    have hn := (ev_may_ok (t := 1) (x := .inl r1) (ty := .boolean) hend g2 rfl).1
    obtain ⟨i, g4, g5⟩ := g2
    subst g1 g4
    rw [i1] at hdg
    exact W.zret hx hb (by rw [hret, i2]) hn (fun t ht hW => fin (some (.int i)) t ht hW (by rw [e2]; exact ⟨⟨i, rfl, g5⟩, trivial⟩)) hS'.2.2 hdg hlocks
  · rename_i e1 e2
    obtain ⟨i1, i2⟩ := l3 e1
    rw [e2] at hst'
    obtain ⟨v, stC1, g1, g2, g3⟩ := ev_all_cons hst'
    cases ev_all_none g3
    obtain ⟨i, g4⟩ := g2
    subst g1 g4
    rw [i1] at hdg
    exact W.lret hx hb (by rw [hret, i2]) (fun t ht hW => fin (some (.long i)) t ht hW (by rw [e2]; exact ⟨⟨i, rfl⟩, trivial⟩)) hS'.2.2 hdg hlocks
  · rename_i e1 e2
    rw [e1] at hr3
    omega
  · cases hend
end EVM
