/-! ===== steps that read and write cells ===== -/
section EVT
variable {p : Program} {l : Launch} {e : Env} {R : Room} {s : State} {m : MethodId} {args : Array Value} {below : List Frame} {meth : Method} {c : Code} {Q : State → Prop} {b hz : Nat} {D : va_G} {cl : List vw_C} {A : Nat → Prop} {L0 : List Nat} {nL : Nat} {cells slots : Nat} {cc : ByteArray} {pc : Nat} {ls : ev_L} {st : List ev_V} {h : ev_H}
theorem ev_crel_i {tys : List (ClassId × FieldType)} {L : List Nat} {t w : Nat} {mm : List (Nat × (Int × Int))} {e : va_E} (ht : ¬ t = 3) : ev_crel b hz tys L (.inl (t, w, mm)) e ↔ ∃ (cA : ClassId) (f : Nat → Int32), e = .inl (cA, w, .inl f) ∧ (cA, ev_ty t) ∈ tys ∧ ∀ j, ev_in (ev_get mm j) (f j) := by
  show (if t = 3 then _ else _) ↔ _
  rw [if_neg ht]
theorem ev_crel_l {tys : List (ClassId × FieldType)} {L : List Nat} {t w : Nat} {mm : List (Nat × (Int × Int))} {e : va_E} (ht : t = 3) : ev_crel b hz tys L (.inl (t, w, mm)) e ↔ ∃ (cA : ClassId) (f : Nat → Int64), e = .inl (cA, w, .inr (.inl f)) ∧ (cA, FieldType.long) ∈ tys := by
  show (if t = 3 then _ else _) ↔ _
  rw [if_pos ht]
theorem ev_crel_o {tys : List (ClassId × FieldType)} {L : List Nat} {ci : Nat} {fs : List ev_V} {vs : List Value} (h : ev_all (ev_rel b hz L) fs vs) : ev_crel b hz tys L (.inr (ci, fs)) (.inr (ci, vs)) := ⟨vs, rfl, h⟩
theorem ev_wat {tys : List (ClassId × FieldType)} {L : List Nat} {ws : va_W} (hw : ev_wrel b hz tys L h ws) {n : Nat} {x : ev_C} (hx : h[n]? = some x) (hL : L = ws.map Prod.fst) {a : Nat} (ha : L[n]? = some a) : ∃ e, ws[n]? = some (a, e) ∧ ev_crel b hz tys L x e := by
  obtain ⟨q, h1, h2⟩ := ev_all_get hw hx
  subst hL
  rw [List.getElem?_map, h1] at ha
  cases ha
  exact ⟨q.2, h1, h2⟩
theorem ev_mapset {ws : va_W} {n a : Nat} {e e' : va_E} (h1 : ws[n]? = some (a, e)) : (ws.set n (a, e')).map Prod.fst = ws.map Prod.fst := by
  apply List.ext_getElem?
  intro k
  rw [List.getElem?_map, List.getElem?_map, List.getElem?_set]
  by_cases hk : n = k
  · subst hk
    rw [if_pos rfl]
    by_cases hl : n < ws.length
    · rw [if_pos hl, h1]; rfl
    · rw [List.getElem?_eq_none (by omega)] at h1; cases h1
  · rw [if_neg hk]
theorem ev_getf_ok (hx : p.tables.exec = Jvm.exec) (hb : c.code = cc) {own : String} (hown : s.vm.findClass own = some m.cls) {Ts : List Cond} (hts : ∀ w ∈ Ts, w.before args s = true) {idx ci k n : Nat} {C : String} {T : u_T} {N : Nat} (hc : cl[ci]? = some (C, T, N)) (hin : ∀ w ∈ u_ws C T N, w ∈ Ts) (hk : k < N) (hlink : Cond.fieldLink own idx (T k).1 (T k).2.1 (T k).2.2.1 ∈ Ts)
    {fs : List ev_V} {x : ev_V} (h1 : h[n]? = some (.inr (ci, fs))) (h2 : fs[k]? = some x) (hdg : decode cc pc = .ok (.getfield idx, 3)) (kk : ev_K p l e R s m args below meth c Q b hz D cl A L0 nL cells slots (pc + 3) ls (x :: st) h) : ev_K p l e R s m args below meth c Q b hz D cl A L0 nL cells slots pc ls (.inr (.inr (n + 4)) :: st) h := by
  intro H locs lsC stC hSt
  obtain ⟨tys, ws, lv, t, hK, hP, hD, hS, hL0, hw, hst, hl, hlr⟩ := hSt
  obtain ⟨v, stC1, e1, ⟨a, ha, e2⟩, hst1⟩ := ev_all_cons hst
  subst e1 e2
  obtain ⟨e', g1, vs, g2, g3⟩ := ev_wat hw h1 rfl ha
  subst g2
  obtain ⟨v, g4, g5⟩ := ev_all_get g3 h2
  exact va_get hx hb hts hin hown hK hP n g1 hc k hk (hts _ hlink) (fun _ h => h) g4 hdg (kk H locs lsC _ ⟨tys, ws, lv, t, hK, hP, hD, hS, hL0, hw, ⟨g5, hst1⟩, hl, hlr⟩)
/-- a sort of field, and the type that its descriptor says -/
def ev_tc (t : Nat) (ty : FieldType) : Prop := match t with
  | 0 => ty = .int
  | 1 => ty = .boolean
  | _ => (∃ C, ty = .object C) ∨ ∃ u, ty = .array u
theorem ev_may_ok {t : Nat} {x : ev_V} {L : List Nat} {v : Value} {ty : FieldType} (h1 : ev_may t x = true) (h2 : ev_rel b hz L x v) (h3 : ev_tc t ty) : narrow ty v = v ∧ fits ty v = true := by
  unfold ev_may at h1
  split at h1
  · obtain ⟨i, rfl, -⟩ := h2
    cases h3
    exact ⟨rfl, rfl⟩
  · obtain ⟨i, rfl, h4, h5⟩ := h2
    cases h3
    simp only [Bool.and_eq_true, decide_eq_true_eq] at h1
    have h6 : i = 0 ∨ i = 1 := by
      have q0 : (0 : Int32).toInt = 0 := by decide
      have q1 : (1 : Int32).toInt = 1 := by decide
      by_cases q : i.toInt = 0
      · exact Or.inl (Int32.toInt_inj.mp (by omega))
      · exact Or.inr (Int32.toInt_inj.mp (by omega))
    rcases h6 with rfl | rfl
    · exact ⟨by decide +kernel, by decide +kernel⟩
    · exact ⟨by decide +kernel, by decide +kernel⟩
  · rename_i n
    have hv : v = .null ∨ ∃ a, v = .ref a := by
      match n, h2 with
      | 0, h2 => exact Or.inl h2
      | n + 1, h2 => exact Or.inr (ev_ref_ok h2)
    rcases h3 with ⟨C, rfl⟩ | ⟨u, rfl⟩ <;> rcases hv with rfl | ⟨a, rfl⟩ <;> exact ⟨rfl, rfl⟩
  · cases h1
theorem ev_putf_ok (hx : p.tables.exec = Jvm.exec) (hb : c.code = cc) {own : String} (hown : s.vm.findClass own = some m.cls) {Ts : List Cond} (hts : ∀ w ∈ Ts, w.before args s = true) {idx ci k n : Nat} {C : String} {T : u_T} {N : Nat} (hc : cl[ci]? = some (C, T, N)) (hin : ∀ w ∈ u_ws C T N, w ∈ Ts) (ty0 : Nat → FieldType) (hty : ∀ k, k < N → parseFieldDescriptor (T k).2.2.1 = some (ty0 k)) (hnm : ∀ a, a < N → ∀ b, b < N → a ≠ b → (T a).2.1 ≠ (T b).2.1) (hk : k < N) (hlink : Cond.fieldLink own idx (T k).1 (T k).2.1 (T k).2.2.1 ∈ Ts)
    (hfin : (T k).2.2.2 = true → meth.name = "<init>" ∧ (T k).1 = own) {tc : Nat} (htc : ev_tc tc (ty0 k))
    {fs : List ev_V} {x : ev_V} (h1 : h[n]? = some (.inr (ci, fs))) (h2 : ev_may tc x = true) (h3 : k < fs.length) (hdg : decode cc pc = .ok (.putfield idx, 3)) (kk : ev_K p l e R s m args below meth c Q b hz D cl A L0 nL cells slots (pc + 3) ls st (h.set n (.inr (ci, fs.set k x)))) : ev_K p l e R s m args below meth c Q b hz D cl A L0 nL cells slots pc ls (x :: .inr (.inr (n + 4)) :: st) h := by
  intro H locs lsC stC hSt
  obtain ⟨tys, ws, lv, t, hK, hP, hD, hS, hL0, hw, hst, hl, hlr⟩ := hSt
  obtain ⟨v, stC1, e1, hv, hst1⟩ := ev_all_cons hst
  subst e1
  obtain ⟨v', stC2, e1, ⟨a, ha, e2⟩, hst2⟩ := ev_all_cons hst1
  subst e1 e2
  obtain ⟨e', g1, vs, g2, g3⟩ := ev_wat hw h1 rfl ha
  subst g2
  obtain ⟨q1, q2⟩ := ev_may_ok h2 hv htc
  have hlen : k < vs.length := by rw [← ev_all_len g3]; exact h3
  have fin : ∀ (H1 : Heap) (locs1 : List Loc), va_P D cl (ws.set n (a, .inr (ci, vs.set k v))) H1 → va_D A (ws.set n (a, .inr (ci, vs.set k v))) → va_S A s.heap H1 locs1 → W p l e R s m args below meth c H1 locs1 cells slots Q (F0 m (pc + 3) lsC stC2) := fun H1 locs1 hP1 hD1 hS1 => by
    refine kk H1 locs1 lsC stC2 ⟨tys, _, lv, t, hK, hP1, hD1, hS1, ?_, ?_, ?_, hl, ?_⟩
    · rw [ev_mapset g1]; exact hL0
    · rw [ev_mapset g1]
      exact ev_all_set (R := fun c (q : Nat × va_E) => ev_crel b hz tys (ws.map Prod.fst) c q.2) (a := .inr (ci, fs.set k x)) (b := (a, .inr (ci, vs.set k v))) (ev_crel_o (ev_all_set hv g3 k)) hw n
    · rw [ev_mapset g1]; exact hst2
    · rw [ev_mapset g1]; exact hlr
  by_cases hf : (T k).2.2.2 = true
  · obtain ⟨i1, i2⟩ := hfin hf
    exact va_putF hx hb hts hin ty0 hty hnm hown hK hP hD hS n g1 hc k hk (hts _ hlink) (fun _ h => h) hf i1 i2 (hty k hk) q1 q2 hlen hdg fin
  · exact va_put hx hb hts hin ty0 hty hnm hown hK hP hD hS n g1 hc k hk (hts _ hlink) (fun _ h => h) (ev_nt hf) (hty k hk) q1 q2 hlen hdg fin
theorem ev_rel_app {tys t2 : List (ClassId × FieldType)} {ws : va_W} {q : Nat} {x : ev_C} {e : va_E} (hw : ev_wrel b hz tys (ws.map Prod.fst) h ws) (hx : ev_crel b hz (tys ++ t2) ((ws ++ [(q, e)]).map Prod.fst) x e) : ev_wrel b hz (tys ++ t2) ((ws ++ [(q, e)]).map Prod.fst) (h ++ [x]) (ws ++ [(q, e)]) := by
  refine ev_all_app ?_ ⟨hx, trivial⟩
  rw [List.map_append]
  exact ev_all_mono (fun _ _ hq => ev_crel_mono hq) hw
theorem ev_new_ok (hx : p.tables.exec = Jvm.exec) (hb : c.code = cc) (hA : ∀ q, s.heap.size ≤ q → A q) {own : String} (hown : s.vm.findClass own = some m.cls) {Ts : List Cond} (hts : ∀ w ∈ Ts, w.before args s = true) {idx ci : Nat} {C : String} {T : u_T} {N : Nat} (hc : cl[ci]? = some (C, T, N)) (hin : ∀ w ∈ u_ws C T N, w ∈ Ts) (ty0 : Nat → FieldType) (hty : ∀ k, k < N → parseFieldDescriptor (T k).2.2.1 = some (ty0 k))
    (hcl : Cond.classLink own idx C ∈ Ts) (hin2 : Cond.instantiable C N ∈ Ts) (hini : Cond.initialized C ∈ Ts) {fs : List ev_V} {vs : List Value} (hfs : ∀ j, j < N → defaultValue (ty0 j) = vp_V vs j) (hvs : ∀ b hz L, ev_all (ev_rel b hz L) fs vs) (hN : fs.length = N) (hcells : cells + 1 ≤ R.cells) (hslots : slots + fs.length ≤ R.slots)
    (hdg : decode cc pc = .ok (.new idx, 3)) (kk : ev_K p l e R s m args below meth c Q b hz D cl A L0 nL (cells + 1) (slots + fs.length) (pc + 3) ls (.inr (.inr (h.length + 4)) :: st) (h ++ [.inr (ci, fs)])) : ev_K p l e R s m args below meth c Q b hz D cl A L0 nL cells slots pc ls st h := by
  intro H locs lsC stC hSt
  obtain ⟨tys, ws, lv, t, hK, hP, hD, hS, hL0, hw, hst, hl, hlr⟩ := hSt
  have hlen : h.length = ws.length := ev_all_len hw
  subst hN
  refine va_new hx hb hts hin ty0 hty hown (hts _ hcl) (hts _ hin2) (hts _ hini) hK hP hD hS hA hc hfs hcells hslots hdg (fun q H1 hP1 hD1 hS1 => ?_)
  refine kk H1 locs lsC _ ⟨tys, _, lv, t ++ [q], hK, hP1, hD1, hS1, ?_, ?_, ⟨⟨q, ?_, rfl⟩, ?_⟩, hl, ?_⟩
  · rw [List.map_append, hL0, List.append_assoc]; rfl
  · have := ev_rel_app (t2 := []) (q := q) (x := .inr (ci, fs)) (e := .inr (ci, vs)) hw ⟨vs, rfl, hvs _ _ _⟩
    rw [List.append_nil] at this
    exact this
  · rw [List.map_append, List.getElem?_append_right (by rw [List.length_map]; omega), List.length_map, hlen, Nat.sub_self]; rfl
  · rw [List.map_append]; exact ev_all_mono (fun _ _ hq => ev_rel_mono hq) hst
  · rw [List.map_append]; exact ev_all_mono (fun _ _ hq => ⟨hq.1, ev_rel_mono hq.2⟩) hlr
theorem ev_newa_ok (hx : p.tables.exec = Jvm.exec) (hb : c.code = cc) (hA : ∀ q, s.heap.size ≤ q → A q) {Ts : List Cond} (hts : ∀ w ∈ Ts, w.before args s = true) {at' : ArrayType} {ty w : Nat} {r : Int × Int} (hty : newarray.typeOf at' = ev_ty ty) (ht3 : ty ≤ 3) (harr : Cond.arrayClass (ev_ty ty) ∈ Ts) (hix : ev_ix r 1000001 = some w) (hcells : cells + 1 ≤ R.cells) (hslots : slots + w ≤ R.slots)
    (hdg : decode cc pc = .ok (.newarray at', 2)) (kk : ev_K p l e R s m args below meth c Q b hz D cl A L0 nL (cells + 1) (slots + w) (pc + 2) ls (.inr (.inr (h.length + 4)) :: st) (h ++ [.inl (ty, w, [])])) : ev_K p l e R s m args below meth c Q b hz D cl A L0 nL cells slots pc ls (.inl r :: st) h := by
  intro H locs lsC stC hSt
  obtain ⟨tys, ws, lv, t, hK, hP, hD, hS, hL0, hw, hst, hl, hlr⟩ := hSt
  have hlen : h.length = ws.length := ev_all_len hw
  obtain ⟨v, stC1, e1, ⟨i, e2, hi⟩, hst1⟩ := ev_all_cons hst
  subst e1 e2
  obtain ⟨k1, k2, k3, k4, k5⟩ := ev_ix_ok hix hi
  have go : ∀ (a0 : vp_A), (∀ cA : ClassId, vp_cell cA a0 = arrV cA w (fun _ => defaultValue (ev_ty ty))) → (∀ tys' cA L, (cA, ev_ty ty) ∈ tys' → ev_crel b hz tys' L (.inl (ty, w, [])) (.inl (cA, a0))) → W p l e R s m args below meth c H locs cells slots Q (F0 m pc lsC (.int i :: stC1)) := fun a0 ha hrel => by
    refine va_newa hx hb (by rw [hty]; exact hts _ harr) hty hK hP hD hS hA ha k5 k3 ?_ hcells hslots hdg (fun q cA H1 hK1 hP1 hD1 hS1 => ?_)
    · have : componentBytes (ev_ty ty) ≤ 8 := by
        match ty, ht3 with
        | 0, _ => decide
        | 1, _ => decide
        | 2, _ => decide
        | 3, _ => decide
      calc w * componentBytes (ev_ty ty) ≤ 1000001 * 8 := Nat.mul_le_mul (by omega) this
        _ ≤ 536870912 := by decide
    · refine kk H1 locs lsC _ ⟨_, _, lv, t ++ [q], hK1, hP1, hD1, hS1, ?_, ?_, ⟨⟨q, ?_, rfl⟩, ?_⟩, hl, ?_⟩
      · rw [List.map_append, hL0, List.append_assoc]; rfl
      · exact ev_rel_app (t2 := [(cA, ev_ty ty)]) (q := q) (x := .inl (ty, w, [])) (e := .inl (cA, a0)) hw (hrel _ cA _ (List.mem_append_right _ List.mem_cons_self))
      · rw [List.map_append, List.getElem?_append_right (by rw [List.length_map]; omega), List.length_map, hlen, Nat.sub_self]; rfl
      · rw [List.map_append]; exact ev_all_mono (fun _ _ hq => ev_rel_mono hq) hst1
      · rw [List.map_append]; exact ev_all_mono (fun _ _ hq => ⟨hq.1, ev_rel_mono hq.2⟩) hlr
  have z : ∀ j : Nat, ev_in (ev_get [] j) (0 : Int32) := fun j => ⟨Int.le_refl 0, Int.le_refl 0⟩
  match ty, ht3, go with
  | 0, _, go => exact go (w, .inl fun _ => 0) (fun cA => rfl) (fun tys' cA L hm => (ev_crel_i (by decide)).mpr ⟨cA, _, rfl, hm, z⟩)
  | 1, _, go => exact go (w, .inl fun _ => 0) (fun cA => rfl) (fun tys' cA L hm => (ev_crel_i (by decide)).mpr ⟨cA, _, rfl, hm, z⟩)
  | 2, _, go => exact go (w, .inl fun _ => 0) (fun cA => rfl) (fun tys' cA L hm => (ev_crel_i (by decide)).mpr ⟨cA, _, rfl, hm, z⟩)
  | 3, _, go => exact go (w, .inr (.inl fun _ => 0)) (fun cA => rfl) (fun tys' cA L hm => (ev_crel_l rfl).mpr ⟨cA, _, rfl, hm⟩)
theorem ev_mem_at {α : Type} {x : α} {l : List α} (h : x ∈ l) : ∃ k : Nat, l[k]? = some x := by
  obtain ⟨k, hk⟩ := List.getElem?_of_mem h
  exact ⟨k, hk⟩
theorem ev_len_ok (hx : p.tables.exec = Jvm.exec) (hb : c.code = cc) {n : Nat} {o : Nat × Nat × List (Nat × (Int × Int))} (h1 : h[n]? = some (.inl o)) (h2 : o.2.1 ≤ 1000000) (hdg : decode cc pc = .ok (.arraylength, 1)) (kk : ev_K p l e R s m args below meth c Q b hz D cl A L0 nL cells slots (pc + 1) ls (.inl (o.2.1, o.2.1) :: st) h) : ev_K p l e R s m args below meth c Q b hz D cl A L0 nL cells slots pc ls (.inr (.inr (n + 4)) :: st) h := by
  intro H locs lsC stC hSt
  obtain ⟨tys, ws, lv, t, hK, hP, hD, hS, hL0, hw, hst, hl, hlr⟩ := hSt
  obtain ⟨v, stC1, e1, ⟨a, ha, e2⟩, hst1⟩ := ev_all_cons hst
  subst e1 e2
  obtain ⟨e', g1, g2⟩ := ev_wat hw h1 rfl ha
  have hv : (Int32.ofNat o.2.1).toInt = (o.2.1 : Int) := nI_toInt (n := o.2.1) (by omega)
  by_cases q3 : o.1 = 3
  · obtain ⟨cA, f, g3, g4⟩ := (ev_crel_l q3).mp g2
    subst g3
    obtain ⟨t0, ht⟩ := ev_mem_at g4
    exact va_alen hx hb hK hP n t0 g1 ht rfl hdg (kk H locs lsC _ ⟨tys, ws, lv, t, hK, hP, hD, hS, hL0, hw, ⟨ev_pc_ok hv, hst1⟩, hl, hlr⟩)
  · obtain ⟨cA, f, g3, g4, -⟩ := (ev_crel_i q3).mp g2
    subst g3
    obtain ⟨t0, ht⟩ := ev_mem_at g4
    exact va_alen hx hb hK hP n t0 g1 ht rfl hdg (kk H locs lsC _ ⟨tys, ws, lv, t, hK, hP, hD, hS, hL0, hw, ⟨ev_pc_ok hv, hst1⟩, hl, hlr⟩)
theorem ev_slen_ok (hx : p.tables.exec = Jvm.exec) (hb : c.code = cc) {N : Nat} {xs : Nat → Int32} (hX : va_X b N xs s s.heap) (hbl : b < s.heap.size) (hbA : ¬ A b) (hN : N ≤ 1000000) (hdg : decode cc pc = .ok (.arraylength, 1)) (kk : ev_K p l e R s m args below meth c Q b hz D cl A L0 nL cells slots (pc + 1) ls (.inl (N, N) :: st) h) : ev_K p l e R s m args below meth c Q b hz D cl A L0 nL cells slots pc ls (.inr (.inr 2) :: st) h := by
  intro H locs lsC stC hSt
  obtain ⟨tys, ws, lv, t, hK, hP, hD, hS, hL0, hw, hst, hl, hlr⟩ := hSt
  obtain ⟨v, stC1, e1, e2, hst1⟩ := ev_all_cons hst
  have e2 : v = .ref b := e2
  subst e1 e2
  exact va_slen hx hb hX hbl hbA hS hdg (kk H locs lsC _ ⟨tys, ws, lv, t, hK, hP, hD, hS, hL0, hw, ⟨ev_pc_ok (nI_toInt (n := N) (by omega)), hst1⟩, hl, hlr⟩)
theorem ev_sld_ok (hx : p.tables.exec = Jvm.exec) (hb : c.code = cc) {N : Nat} {xs : Nat → Int32} (hX : va_X b N xs s s.heap) (hbl : b < s.heap.size) (hbA : ¬ A b) (hN : N ≤ 1000000) {r : Int × Int} {j : Nat} {x : ev_V} (hix : ev_ix r N = some j) (hxs : ∀ L, ev_rel b hz L x (.int (xs j))) (hdg : decode cc pc = .ok (.iaload, 1)) (kk : ev_K p l e R s m args below meth c Q b hz D cl A L0 nL cells slots (pc + 1) ls (x :: st) h) : ev_K p l e R s m args below meth c Q b hz D cl A L0 nL cells slots pc ls (.inl r :: .inr (.inr 2) :: st) h := by
  intro H locs lsC stC hSt
  obtain ⟨tys, ws, lv, t, hK, hP, hD, hS, hL0, hw, hst, hl, hlr⟩ := hSt
  obtain ⟨v, stC1, e1, ⟨i, e2, hi⟩, hst1⟩ := ev_all_cons hst
  subst e1 e2
  obtain ⟨v, stC2, e1, e2, hst2⟩ := ev_all_cons hst1
  have e2 : v = .ref b := e2
  subst e1 e2
  obtain ⟨k1, k2, k3, k4, k5⟩ := ev_ix_ok hix hi
  refine va_sld hx hb hX hbl hbA hS k2 hdg (kk H locs lsC _ ⟨tys, ws, lv, t, hK, hP, hD, hS, hL0, hw, ⟨?_, hst2⟩, hl, hlr⟩)
  rw [k3]
  exact hxs _
theorem ev_hld_ok (hx : p.tables.exec = Jvm.exec) (hb : c.code = cc) (hT : va_T .int hz 5 ev_hv A s s.heap) {r : Int × Int} {j : Nat} {x : Int} (hix : ev_ix r 5 = some j) (hxs : ([5, 24, 9, 1, 9] : List Int)[j]? = some x) (hdg : decode cc pc = .ok (.iaload, 1)) (kk : ev_K p l e R s m args below meth c Q b hz D cl A L0 nL cells slots (pc + 1) ls (.inl (x, x) :: st) h) : ev_K p l e R s m args below meth c Q b hz D cl A L0 nL cells slots pc ls (.inl r :: .inr (.inr 3) :: st) h := by
  intro H locs lsC stC hSt
  obtain ⟨tys, ws, lv, t, hK, hP, hD, hS, hL0, hw, hst, hl, hlr⟩ := hSt
  obtain ⟨v, stC1, e1, ⟨i, e2, hi⟩, hst1⟩ := ev_all_cons hst
  subst e1 e2
  obtain ⟨v, stC2, e1, e2, hst2⟩ := ev_all_cons hst1
  have e2 : v = .ref hz := e2
  subst e1 e2
  obtain ⟨k1, k2, k3, k4, k5⟩ := ev_ix_ok hix hi
  refine va_ti hx hb hT hS k2 (v := .int (Int32.ofInt x)) ?_ hdg (kk H locs lsC _ ⟨tys, ws, lv, t, hK, hP, hD, hS, hL0, hw, ⟨ev_pc_ok ?_, hst2⟩, hl, hlr⟩)
  · rw [k3]
    unfold ev_hv
    rw [List.getD_eq_getElem?_getD, hxs]; rfl
  · have : x ∈ ([5, 24, 9, 1, 9] : List Int) := List.mem_of_getElem? hxs
    have key : ∀ x ∈ ([5, 24, 9, 1, 9] : List Int), (Int32.ofInt x).toInt = x := by decide
    exact key x this
theorem ev_gets_ok (hx : p.tables.exec = Jvm.exec) (hb : c.code = cc) {own : String} (hown : s.vm.findClass own = some m.cls) {Ts : List Cond} (hts : ∀ w ∈ Ts, w.before args s = true) {idx : Nat} (hlink : Cond.fieldLink own idx "TypeLevels$Heard" "HIGHEST" "[I" ∈ Ts) (hZ : va_Z "TypeLevels$Heard" "HIGHEST" "[I" (.ref hz) A s s.heap) (hdg : decode cc pc = .ok (.getstatic idx, 3)) (kk : ev_K p l e R s m args below meth c Q b hz D cl A L0 nL cells slots (pc + 3) ls (.inr (.inr 3) :: st) h) : ev_K p l e R s m args below meth c Q b hz D cl A L0 nL cells slots pc ls st h := by
  intro H locs lsC stC hSt
  obtain ⟨tys, ws, lv, t, hK, hP, hD, hS, hL0, hw, hst, hl, hlr⟩ := hSt
  exact va_gets hx hb hZ hS hown (hts _ hlink) (fun _ h => h) hdg (kk H locs lsC _ ⟨tys, ws, lv, t, hK, hP, hD, hS, hL0, hw, ⟨rfl, hst⟩, hl, hlr⟩)
theorem ev_ald_ok (hx : p.tables.exec = Jvm.exec) (hb : c.code = cc) {n w j : Nat} {mm : List (Nat × (Int × Int))} {r : Int × Int} (h1 : h[n]? = some (.inl (0, w, mm))) (hix : ev_ix r w = some j) (hdg : decode cc pc = .ok (.iaload, 1)) (kk : ev_K p l e R s m args below meth c Q b hz D cl A L0 nL cells slots (pc + 1) ls (.inl (ev_get mm j) :: st) h) : ev_K p l e R s m args below meth c Q b hz D cl A L0 nL cells slots pc ls (.inl r :: .inr (.inr (n + 4)) :: st) h := by
  intro H locs lsC stC hSt
  obtain ⟨tys, ws, lv, t, hK, hP, hD, hS, hL0, hw, hst, hl, hlr⟩ := hSt
  obtain ⟨v, stC1, e1, ⟨i, e2, hi⟩, hst1⟩ := ev_all_cons hst
  subst e1 e2
  obtain ⟨v, stC2, e1, ⟨a, ha, e2⟩, hst2⟩ := ev_all_cons hst1
  subst e1 e2
  obtain ⟨e', g1, g2⟩ := ev_wat hw h1 rfl ha
  obtain ⟨cA, f, g3, g4, g5⟩ := (ev_crel_i (by decide)).mp g2
  subst g3
  obtain ⟨t0, ht⟩ := ev_mem_at g4
  obtain ⟨k1, k2, k3, k4, k5⟩ := ev_ix_ok hix hi
  refine va_iald hx hb hK hP n t0 g1 ht k2 hdg (kk H locs lsC _ ⟨tys, ws, lv, t, hK, hP, hD, hS, hL0, hw, ⟨⟨_, rfl, ?_⟩, hst2⟩, hl, hlr⟩)
  rw [k3]
  exact g5 j
theorem ev_upd_in {mm : List (Nat × (Int × Int))} {f : Nat → Int32} (hf : ∀ j, ev_in (ev_get mm j) (f j)) {j : Nat} {x : Int × Int} {i : Int32} (hi : ev_in x i) : ∀ k, ev_in (ev_get (ev_put mm j x fun m => m) k) (upd f j i k) := by
  intro k
  rw [ev_get_put]
  by_cases hk : k = j
  · subst hk
    rw [if_pos rfl, pk_us]; exact hi
  · rw [if_neg hk, pk_un hk]; exact hf k
theorem ev_ast_ok (hx : p.tables.exec = Jvm.exec) (hb : c.code = cc) {n w j : Nat} {mm : List (Nat × (Int × Int))} {x r : Int × Int} (h1 : h[n]? = some (.inl (0, w, mm))) (hix : ev_ix r w = some j) (hdg : decode cc pc = .ok (.iastore, 1)) (kk : ev_K p l e R s m args below meth c Q b hz D cl A L0 nL cells slots (pc + 1) ls st (h.set n (.inl (0, w, ev_put mm j x fun m => m)))) : ev_K p l e R s m args below meth c Q b hz D cl A L0 nL cells slots pc ls (.inl x :: .inl r :: .inr (.inr (n + 4)) :: st) h := by
  intro H locs lsC stC hSt
  obtain ⟨tys, ws, lv, t, hK, hP, hD, hS, hL0, hw, hst, hl, hlr⟩ := hSt
  obtain ⟨v, stC0, e1, ⟨i0, e2, hi0⟩, hst0⟩ := ev_all_cons hst
  subst e1 e2
  obtain ⟨v, stC1, e1, ⟨i, e2, hi⟩, hst1⟩ := ev_all_cons hst0
  subst e1 e2
  obtain ⟨v, stC2, e1, ⟨a, ha, e2⟩, hst2⟩ := ev_all_cons hst1
  subst e1 e2
  obtain ⟨e', g1, g2⟩ := ev_wat hw h1 rfl ha
  obtain ⟨cA, f, g3, g4, g5⟩ := (ev_crel_i (by decide)).mp g2
  subst g3
  obtain ⟨t0, ht⟩ := ev_mem_at g4
  obtain ⟨k1, k2, k3, k4, k5⟩ := ev_ix_ok hix hi
  refine va_iast hx hb hK hP hD hS n t0 g1 ht k2 hdg (fun H1 locs1 hP1 hD1 hS1 => ?_)
  rw [k3] at hP1 hD1
  refine kk H1 locs1 lsC stC2 ⟨tys, _, lv, t, hK, hP1, hD1, hS1, ?_, ?_, ?_, hl, ?_⟩
  · rw [ev_mapset g1]; exact hL0
  · rw [ev_mapset g1]
    refine ev_all_set (R := fun c (q : Nat × va_E) => ev_crel b hz tys (ws.map Prod.fst) c q.2) ?_ hw n
    exact (ev_crel_i (t := 0) (by decide)).mpr ⟨cA, _, rfl, g4, ev_upd_in g5 hi0⟩
  · rw [ev_mapset g1]; exact hst2
  · rw [ev_mapset g1]; exact hlr
theorem ev_bst_ok (hx : p.tables.exec = Jvm.exec) (hb : c.code = cc) {n w j : Nat} {mm : List (Nat × (Int × Int))} {x r : Int × Int} (h1 : h[n]? = some (.inl (1, w, mm))) (hix : ev_ix r w = some j) (hdg : decode cc pc = .ok (.bastore, 1)) (kk : ev_K p l e R s m args below meth c Q b hz D cl A L0 nL cells slots (pc + 1) ls st (h.set n (.inl (1, w, ev_put mm j (-2147483648, 2147483647) fun m => m)))) : ev_K p l e R s m args below meth c Q b hz D cl A L0 nL cells slots pc ls (.inl x :: .inl r :: .inr (.inr (n + 4)) :: st) h := by
  intro H locs lsC stC hSt
  obtain ⟨tys, ws, lv, t, hK, hP, hD, hS, hL0, hw, hst, hl, hlr⟩ := hSt
  obtain ⟨v, stC0, e1, ⟨i0, e2, hi0⟩, hst0⟩ := ev_all_cons hst
  subst e1 e2
  obtain ⟨v, stC1, e1, ⟨i, e2, hi⟩, hst1⟩ := ev_all_cons hst0
  subst e1 e2
  obtain ⟨v, stC2, e1, ⟨a, ha, e2⟩, hst2⟩ := ev_all_cons hst1
  subst e1 e2
  obtain ⟨e', g1, g2⟩ := ev_wat hw h1 rfl ha
  obtain ⟨cA, f, g3, g4, g5⟩ := (ev_crel_i (by decide)).mp g2
  subst g3
  obtain ⟨t0, ht⟩ := ev_mem_at g4
  obtain ⟨k1, k2, k3, k4, k5⟩ := ev_ix_ok hix hi
  refine va_bast hx hb hK hP hD hS n t0 g1 ht k2 hdg (fun H1 locs1 hP1 hD1 hS1 => ?_)
  rw [k3] at hP1 hD1
  refine kk H1 locs1 lsC stC2 ⟨tys, _, lv, t, hK, hP1, hD1, hS1, ?_, ?_, ?_, hl, ?_⟩
  · rw [ev_mapset g1]; exact hL0
  · rw [ev_mapset g1]
    refine ev_all_set (R := fun c (q : Nat × va_E) => ev_crel b hz tys (ws.map Prod.fst) c q.2) ?_ hw n
    exact (ev_crel_i (t := 1) (by decide)).mpr ⟨cA, _, rfl, g4, ev_upd_in g5 ⟨Int32.le_toInt _, by have := Int32.toInt_le (vp_nar .byte i0); exact this⟩⟩
  · rw [ev_mapset g1]; exact hst2
  · rw [ev_mapset g1]; exact hlr
theorem ev_setself {α : Type} {l : List α} {n : Nat} {x : α} (h : l[n]? = some x) : l.set n x = l := by
  apply List.ext_getElem?
  intro k
  rw [List.getElem?_set]
  by_cases hk : n = k
  · subst hk
    rw [if_pos rfl]
    by_cases hl : n < l.length
    · rw [if_pos hl, h]
    · rw [List.getElem?_eq_none (by omega)] at h; cases h
  · rw [if_neg hk]
theorem ev_lst_ok (hx : p.tables.exec = Jvm.exec) (hb : c.code = cc) {n w j : Nat} {mm : List (Nat × (Int × Int))} {r : Int × Int} (h1 : h[n]? = some (.inl (3, w, mm))) (hix : ev_ix r w = some j) (hdg : decode cc pc = .ok (.lastore, 1)) (kk : ev_K p l e R s m args below meth c Q b hz D cl A L0 nL cells slots (pc + 1) ls st h) : ev_K p l e R s m args below meth c Q b hz D cl A L0 nL cells slots pc ls (.inr (.inr 0) :: .inl r :: .inr (.inr (n + 4)) :: st) h := by
  intro H locs lsC stC hSt
  obtain ⟨tys, ws, lv, t, hK, hP, hD, hS, hL0, hw, hst, hl, hlr⟩ := hSt
  obtain ⟨v, stC0, e1, ⟨i0, e2⟩, hst0⟩ := ev_all_cons hst
  subst e1 e2
  obtain ⟨v, stC1, e1, ⟨i, e2, hi⟩, hst1⟩ := ev_all_cons hst0
  subst e1 e2
  obtain ⟨v, stC2, e1, ⟨a, ha, e2⟩, hst2⟩ := ev_all_cons hst1
  subst e1 e2
  obtain ⟨e', g1, g2⟩ := ev_wat hw h1 rfl ha
  obtain ⟨cA, f, g3, g4⟩ := (ev_crel_l rfl).mp g2
  subst g3
  obtain ⟨t0, ht⟩ := ev_mem_at g4
  obtain ⟨k1, k2, k3, k4, k5⟩ := ev_ix_ok hix hi
  refine va_last hx hb hK hP hD hS n t0 g1 ht k2 hdg (fun H1 locs1 hP1 hD1 hS1 => ?_)
  refine kk H1 locs1 lsC stC2 ⟨tys, _, lv, t, hK, hP1, hD1, hS1, ?_, ?_, ?_, hl, ?_⟩
  · rw [ev_mapset g1]; exact hL0
  · rw [ev_mapset g1]
    have key := ev_all_set (R := fun c (q : Nat × va_E) => ev_crel b hz tys (ws.map Prod.fst) c q.2) (a := .inl (3, w, mm)) (b := (a, .inl (cA, w, .inr (.inl (vp_updL f i.toNatClampNeg i0))))) ((ev_crel_l rfl).mpr ⟨cA, _, rfl, g4⟩) hw n
    rw [ev_setself h1] at key
    exact key
  · rw [ev_mapset g1]; exact hst2
  · rw [ev_mapset g1]; exact hlr
theorem ev_tsw_in (hx : p.tables.exec = Jvm.exec) (hb : c.code = cc) {d lo hi off : Int} {offs : Array Int} {len tgt : Nat} {x : Int × Int} (hlo : lo ≤ x.1) (hhi : x.1 ≤ hi) (hxx : x.1 = x.2) (ho : offs.toList[(x.1 - lo).toNat]? = some off) (ht : (pc : Int) + off = (tgt : Int)) (hdg : decode cc pc = .ok (.tableswitch d lo hi offs, len)) (kk : ev_K p l e R s m args below meth c Q b hz D cl A L0 nL cells slots tgt ls st h) : ev_K p l e R s m args below meth c Q b hz D cl A L0 nL cells slots pc ls (.inl x :: st) h := by
  intro H locs lsC stC hSt
  obtain ⟨tys, ws, lv, t, hK, hP, hD, hS, hL0, hw, hst, hl, hlr⟩ := hSt
  obtain ⟨v, stC1, e1, ⟨i, e2, hi1, hi2⟩, hst1⟩ := ev_all_cons hst
  subst e1 e2
  have ex : i.toInt = x.1 := by omega
  exact lv_tableIn hx hb hdg (by omega) (by omega) (by rw [ex, ← Array.getElem?_toList]; exact ho) ht (kk H locs lsC _ ⟨tys, ws, lv, t, hK, hP, hD, hS, hL0, hw, hst1, hl, hlr⟩)
theorem ev_tsw_out (hx : p.tables.exec = Jvm.exec) (hb : c.code = cc) {d lo hi : Int} {offs : Array Int} {len tgt : Nat} {x : Int × Int} (ho : x.2 < lo ∨ hi < x.1) (ht : (pc : Int) + d = (tgt : Int)) (hdg : decode cc pc = .ok (.tableswitch d lo hi offs, len)) (kk : ev_K p l e R s m args below meth c Q b hz D cl A L0 nL cells slots tgt ls st h) : ev_K p l e R s m args below meth c Q b hz D cl A L0 nL cells slots pc ls (.inl x :: st) h := by
  intro H locs lsC stC hSt
  obtain ⟨tys, ws, lv, t, hK, hP, hD, hS, hL0, hw, hst, hl, hlr⟩ := hSt
  obtain ⟨v, stC1, e1, ⟨i, e2, hi1, hi2⟩, hst1⟩ := ev_all_cons hst
  subst e1 e2
  exact lv_tableOut hx hb hdg (by omega) ht (kk H locs lsC _ ⟨tys, ws, lv, t, hK, hP, hD, hS, hL0, hw, hst1, hl, hlr⟩)
theorem ev_lsw_ok (hx : p.tables.exec = Jvm.exec) (hb : c.code = cc) {d : Int} {ps : Array (Int × Int)} {len tgt : Nat} {x : Int × Int} (hp : (ps.toList.zip (ps.toList.drop 1)).all (fun (a, next) => a.1 < next.1) = true) (hxx : x.1 = x.2) (ht : (pc : Int) + Op.lookupswitch.offset ps.toList d x.1 = (tgt : Int)) (hdg : decode cc pc = .ok (.lookupswitch d ps, len)) (kk : ev_K p l e R s m args below meth c Q b hz D cl A L0 nL cells slots tgt ls st h) : ev_K p l e R s m args below meth c Q b hz D cl A L0 nL cells slots pc ls (.inl x :: st) h := by
  intro H locs lsC stC hSt
  obtain ⟨tys, ws, lv, t, hK, hP, hD, hS, hL0, hw, hst, hl, hlr⟩ := hSt
  obtain ⟨v, stC1, e1, ⟨i, e2, hi1, hi2⟩, hst1⟩ := ev_all_cons hst
  subst e1 e2
  have ex : i.toInt = x.1 := by omega
  exact lv_lookup hx hb hdg hp rfl (by rw [ex]; exact ht) (kk H locs lsC _ ⟨tys, ws, lv, t, hK, hP, hD, hS, hL0, hw, hst1, hl, hlr⟩)
end EVT
