/-! ===== a step of any kind ===== -/
section EVU
variable {p : Program} {l : Launch} {e : Env} {R : Room} {s : State} {m : MethodId} {args : Array Value} {below : List Frame} {meth : Method} {c : Code} {Q : State → Prop} {b hz : Nat} {D : va_G} {cl : List vw_C} {A : Nat → Prop} {L0 : List Nat} {nL : Nat} {cells slots : Nat} {cc : ByteArray} {pc : Nat} {ls : ev_L} {st : List ev_V} {h : ev_H}
def ev_cx (p : Program) (R : Room) (s : State) (m : MethodId) (args : Array Value) (meth : Method) (c : Code) (cc : ByteArray) (own nm : String) (nL d : Nat) (Ts : List Cond) : Prop :=
  p.tables.exec = Jvm.exec ∧ c.code = cc ∧ c.maxLocals = nL ∧ s.vm.findClass own = some m.cls ∧ (∀ w ∈ Ts, w.before args s = true) ∧ meth.name = nm ∧ d ≤ R.frames ∧ 40 * d ≤ R.locals
/-- what the tables must say for an instruction -/
def ev_lk (cl : List vw_C) (df : List (List ev_V)) (Ts : List Cond) (own nm : String) (nL : Nat) (q : ev_I) : Prop := match q.2.1.1 with
  | .iconst n => (Int32.ofInt n).toInt = q.2.2.2.2.2
  | .bipush n => ((Int8.ofInt n).toInt32).toInt = q.2.2.2.2.2
  | .sipush n => ((Int16.ofInt n).toInt32).toInt = q.2.2.2.2.2
  | .ldc k => ∃ v : Int32, Cond.constant own k v ∈ Ts ∧ v.toInt = q.2.2.2.2.2
  | .ldc_w k => ∃ v : Int32, Cond.constant own k v ∈ Ts ∧ v.toInt = q.2.2.2.2.2
  | .istore_n k => k.val < nL
  | .istore k => k < nL
  | .astore_n k => k.val < nL
  | .lstore k => k + 1 < nL
  | .iinc k n => k < nL ∧ (Int32.ofInt n).toInt = n
  | .getfield idx => ∃ (C : String) (T : u_T) (N : Nat), cl[q.2.2.2.1]? = some (C, T, N) ∧ (∀ w ∈ u_ws C T N, w ∈ Ts) ∧ q.2.2.2.2.1 < N ∧ Cond.fieldLink own idx (T q.2.2.2.2.1).1 (T q.2.2.2.2.1).2.1 (T q.2.2.2.2.1).2.2.1 ∈ Ts
  | .putfield idx => ∃ (C : String) (T : u_T) (N : Nat) (ty0 : Nat → FieldType), cl[q.2.2.2.1]? = some (C, T, N) ∧ (∀ w ∈ u_ws C T N, w ∈ Ts) ∧ (∀ k, k < N → parseFieldDescriptor (T k).2.2.1 = some (ty0 k)) ∧ (∀ a, a < N → ∀ b, b < N → a ≠ b → (T a).2.1 ≠ (T b).2.1) ∧ q.2.2.2.2.1 < N ∧ Cond.fieldLink own idx (T q.2.2.2.2.1).1 (T q.2.2.2.2.1).2.1 (T q.2.2.2.2.1).2.2.1 ∈ Ts ∧
      ((T q.2.2.2.2.1).2.2.2 = true → nm = "<init>" ∧ (T q.2.2.2.2.1).1 = own) ∧ ev_tc q.2.2.2.2.2.toNat (ty0 q.2.2.2.2.1)
  | .new idx => q.2.2.1 = 0 → ∃ (C : String) (T : u_T) (N : Nat) (ty0 : Nat → FieldType) (fs : List ev_V) (vs : List Value), cl[q.2.2.2.1]? = some (C, T, N) ∧ (∀ w ∈ u_ws C T N, w ∈ Ts) ∧ (∀ k, k < N → parseFieldDescriptor (T k).2.2.1 = some (ty0 k)) ∧ Cond.classLink own idx C ∈ Ts ∧ Cond.instantiable C N ∈ Ts ∧ Cond.initialized C ∈ Ts ∧ df[q.2.2.2.1]? = some fs ∧ (∀ j, j < N → defaultValue (ty0 j) = vp_V vs j) ∧ (∀ b hz L, ev_all (ev_rel b hz L) fs vs) ∧ fs.length = N
  | .newarray at' => newarray.typeOf at' = ev_ty q.2.2.2.1 ∧ q.2.2.2.1 ≤ 3 ∧ Cond.arrayClass (ev_ty q.2.2.2.1) ∈ Ts
  | .getstatic idx => Cond.fieldLink own idx "TypeLevels$Heard" "HIGHEST" "[I" ∈ Ts
  | .if_icmp _ off => ∃ t : Nat, (q.1 : Int) + off = (t : Int)
  | .ifCond _ off => ∃ t : Nat, (q.1 : Int) + off = (t : Int)
  | .lookupswitch _ ps => (ps.toList.zip (ps.toList.drop 1)).all (fun (a, next) => a.1 < next.1) = true
  | _ => True
theorem ev_psh_inv {x : Option ev_V} {r : Nat × ev_L × List ev_V × Option ev_H × Nat × Nat} (h : ev_psh pc ls st x = some r) : ∃ v, x = some v ∧ r = (pc, ls, v :: st, none, 0, 0) := by
  cases x with
  | none => cases h
  | some v => cases h; exact ⟨v, rfl, rfl⟩
theorem ev_jmp_inv {off : Int} {r : Nat × ev_L × List ev_V × Option ev_H × Nat × Nat} (h : ev_jmp pc off ls st = some r) : ∃ t : Nat, (pc : Int) + off = (t : Int) ∧ r = (t, ls, st, none, 0, 0) := by
  unfold ev_jmp at h
  split at h
  · rename_i t ht
    cases h
    exact ⟨t, ht, rfl⟩
  · cases h
theorem ev_br_inv {off : Int} {cnd : Option Bool} {r : Nat × ev_L × List ev_V × Option ev_H × Nat × Nat} (h : ev_br pc off ls st cnd = some r) : (cnd = some true ∧ ∃ t : Nat, (pc : Int) + off = (t : Int) ∧ r = (t, ls, st, none, 0, 0)) ∨ (cnd = some false ∧ r = (pc + 3, ls, st, none, 0, 0)) := by
  unfold ev_br at h
  split at h
  · cases h
  · exact Or.inl ⟨rfl, ev_jmp_inv h⟩
  · cases h; exact Or.inr ⟨rfl, rfl⟩
theorem ev_not_t {x : Option Bool} (h : ev_not x = some true) : x = some false := by
  rcases x with _ | _ | _ <;> cases h <;> rfl
theorem ev_not_f {x : Option Bool} (h : ev_not x = some false) : x = some true := by
  rcases x with _ | _ | _ <;> cases h <;> rfl
theorem ev_bif {α : Type} {t : Bool} {x r : α} (h : (bif t then some x else none) = some r) : t = true ∧ x = r := by
  cases t with
  | true => cases h; exact ⟨rfl, rfl⟩
  | false => cases h
theorem ev_bifO {α : Type} {t : Bool} {x : Option α} {r : α} (h : (bif t then x else none) = some r) : t = true ∧ x = some r := by
  cases t with
  | true => exact ⟨rfl, h⟩
  | false => cases h

set_option maxHeartbeats 4000000 in
theorem ev_step_ok {own nm : String} {d : Nat} {Ts : List Cond} (cx : ev_cx p R s m args meth c cc own nm nL d Ts) {N : Nat} {xs : Nat → Int32} {NW : List Cond} (hX : ev_X b hz N xs NW A s s.heap) (hA : ∀ q, s.heap.size ≤ q → A q) {sc : List ev_V} (hscN : sc.length = N) (hN : N ≤ 1000000) (hsc : ∀ j x, sc[j]? = some x → ∀ L, ev_rel b hz L x (.int (xs j))) {df : List (List ev_V)} {q : ev_I} (h0 : q.2.2.1 = 0) (hlk : ev_lk cl df Ts own nm nL q) (hdg : decode cc q.1 = .ok q.2.1)
    {r : Nat × ev_L × List ev_V × Option ev_H × Nat × Nat} (h1 : ev_step df sc [5, 24, 9, 1, 9] q ls st h = some r) (hcs : cells + r.2.2.2.2.1 ≤ R.cells) (hss : slots + r.2.2.2.2.2 ≤ R.slots)
    (kk : ev_K p l e R s m args below meth c Q b hz D cl A L0 nL (cells + r.2.2.2.2.1) (slots + r.2.2.2.2.2) r.1 r.2.1 r.2.2.1 (r.2.2.2.1.getD h)) : ev_K p l e R s m args below meth c Q b hz D cl A L0 nL cells slots q.1 ls st h := by
  obtain ⟨hx, hb, hml, hown, hts, hnm, -, -⟩ := cx
  obtain ⟨hXZ, hXT, hXX, hXb, hXA, -⟩ := hX
  unfold ev_step at h1
  unfold ev_lk at hlk
  split at h1

  · rename_i heq
    rw [heq] at hdg hlk
    obtain ⟨v, g1, g2⟩ := ev_psh_inv h1
    subst g2
    exact ev_aload_n_ok hx hb g1 hdg kk
  · rename_i heq
    rw [heq] at hdg hlk
    obtain ⟨v, g1, g2⟩ := ev_psh_inv h1
    subst g2
    exact ev_aload_ok hx hb g1 hdg kk
  · rename_i heq
    rw [heq] at hdg hlk
    obtain ⟨v, g1, g2⟩ := ev_psh_inv h1
    subst g2
    exact ev_iload_n_ok hx hb g1 hdg kk
  · rename_i heq
    rw [heq] at hdg hlk
    obtain ⟨v, g1, g2⟩ := ev_psh_inv h1
    subst g2
    exact ev_iload_ok hx hb g1 hdg kk
  · rename_i heq
    rw [heq] at hdg hlk
    obtain ⟨v, g1, g2⟩ := ev_psh_inv h1
    subst g2
    exact ev_lload_n_ok hx hb g1 hdg kk
  · rename_i heq
    rw [heq] at hdg hlk
    cases h1
    exact ev_iconst_ok hx hb hlk hdg kk
  · rename_i heq
    rw [heq] at hdg hlk
    cases h1
    exact ev_bipush_ok hx hb hlk hdg kk
  · rename_i heq
    rw [heq] at hdg hlk
    cases h1
    exact ev_sipush_ok hx hb hlk hdg kk
  · rename_i heq
    rw [heq] at hdg hlk
    cases h1
    obtain ⟨v, g1, g2⟩ := hlk
    exact ev_ldc_ok hx hb hown g2 (hts _ g1) hdg kk
  · rename_i heq
    rw [heq] at hdg hlk
    cases h1
    obtain ⟨v, g1, g2⟩ := hlk
    exact ev_ldc_w_ok hx hb hown g2 (hts _ g1) hdg kk
  · rename_i heq
    rw [heq] at hdg hlk
    unfold ev_sI at h1
    split at h1
    · rw [ev_fL_eq] at h1
      cases h1
      exact ev_istore_n_ok hx hb hlk hdg kk
    · cases h1
  · rename_i heq
    rw [heq] at hdg hlk
    unfold ev_sI at h1
    split at h1
    · rw [ev_fL_eq] at h1
      cases h1
      exact ev_istore_ok hx hb hlk hdg kk
    · cases h1
  · rename_i heq
    rw [heq] at hdg hlk
    unfold ev_sR at h1
    split at h1
    · rw [ev_fL_eq] at h1
      cases h1
      exact ev_astore_n_ok hx hb hlk hdg kk
    · cases h1
  · rename_i heq
    rw [heq] at hdg hlk
    unfold ev_sJ at h1
    split at h1
    · rw [ev_fL_eq] at h1
      cases h1
      exact ev_lstore_ok hx hb hlk hdg kk
    · cases h1
  · rename_i heq
    rw [heq] at hdg hlk
    unfold ev_inc at h1
    split at h1
    · rename_i x g1
      rw [ev_fV_eq, ev_fL_eq] at h1
      cases h1
      exact ev_iinc_ok hx hb g1 hlk.1 hlk.2 hdg kk
    · cases h1
  · rename_i heq
    rw [heq] at hdg hlk
    obtain ⟨C, T, N', g1, g2, g3, g4⟩ := hlk
    unfold ev_getf at h1
    split at h1
    · split at h1
      · rename_i o g5
        obtain ⟨g6, h1⟩ := ev_bifO h1
        obtain ⟨v, g7, g8⟩ := ev_psh_inv h1
        subst g8
        rw [ev_at_eq] at g5 g7
        have e6 := Nat.eq_of_beq_eq_true g6
        exact ev_getf_ok hx hb hown hts g1 g2 g3 g4 (fs := o.2) (by rw [g5, ← e6]) g7 hdg kk
      · cases h1
    · cases h1
  · rename_i heq
    rw [heq] at hdg hlk
    obtain ⟨C, T, N', ty0, g1, g2, t1, t2, g3, g4, t3, t4⟩ := hlk
    unfold ev_putf at h1
    split at h1
    · split at h1
      · rename_i o g5
        obtain ⟨g6, h1⟩ := ev_bifO h1
        rw [ev_fL_eq, ev_fL_eq] at h1
        cases h1
        rw [ev_at_eq] at g5
        simp only [Bool.and_eq_true] at g6
        have e6 := Nat.eq_of_beq_eq_true g6.1.1
        refine ev_putf_ok hx hb hown hts g1 g2 ty0 t1 t2 g3 g4 (fun f => by rw [hnm]; exact t3 f) t4 (fs := o.2) (by rw [g5, ← e6]) g6.1.2 (Nat.le_of_ble_eq_true g6.2) hdg ?_
        rw [e6] at kk
        exact kk
      · cases h1
    · cases h1
  · rename_i heq
    rw [heq] at hdg hlk
    obtain ⟨C, T, N', ty0, fs, vs, g1, g2, t1, t2, t3, t4, t5, t6, t7, t8⟩ := hlk h0
    unfold ev_new at h1
    split at h1
    · rename_i fs' g5
      rw [ev_fN_eq, ev_fN_eq, ev_fL_eq] at h1
      cases h1
      rw [ev_at_eq, t5] at g5
      cases g5
      exact ev_new_ok hx hb hA hown hts g1 g2 ty0 t1 t2 t3 t4 t6 t7 t8 hcs hss hdg kk
    · cases h1
  · rename_i heq
    rw [heq] at hdg hlk
    obtain ⟨t1, t2, t3⟩ := hlk
    unfold ev_newa at h1
    split at h1
    · split at h1
      · rename_i w' g5
        rw [ev_fN_eq, ev_fL_eq] at h1
        cases h1
        exact ev_newa_ok hx hb hA hts t1 t2 t3 g5 hcs hss hdg kk
      · cases h1
    · cases h1
  · rename_i heq
    rw [heq] at hdg hlk
    unfold ev_len at h1
    split at h1
    · rw [ev_fN_eq] at h1
      cases h1
      rw [hscN] at kk
      exact ev_slen_ok hx hb hXX hXb hXA hN hdg kk
    · split at h1
      · rename_i o g5
        obtain ⟨g6, h1⟩ := ev_bif h1
        subst h1
        rw [ev_at_eq] at g5
        exact ev_len_ok hx hb g5 (Nat.le_of_ble_eq_true g6) hdg kk
      · cases h1
    · cases h1
  · rename_i heq
    rw [heq] at hdg hlk
    unfold ev_ald at h1
    split at h1
    · split at h1
      · rename_i j g5
        obtain ⟨v, g7, g8⟩ := ev_psh_inv h1
        subst g8
        rw [ev_at_eq] at g7
        rw [hscN] at g5
        exact ev_sld_ok hx hb hXX hXb hXA hN g5 (hsc j v g7) hdg kk
      · cases h1
    · split at h1
      · rename_i j g5
        split at h1
        · rename_i v g6
          cases h1
          rw [ev_at_eq] at g6
          exact ev_hld_ok hx hb hXT g5 g6 hdg kk
        · cases h1
      · cases h1
    · split at h1
      · rename_i w' mm g5
        split at h1
        · rename_i j g6
          cases h1
          rw [ev_at_eq] at g5
          exact ev_ald_ok hx hb g5 g6 hdg kk
        · cases h1
      · cases h1
    · cases h1
  · rename_i heq
    rw [heq] at hdg hlk
    unfold ev_ast at h1
    split at h1
    · split at h1
      · rename_i w' mm g5
        split at h1
        · rename_i j g6
          rw [ev_put_out] at h1
          rw [ev_fL_eq] at h1
          cases h1
          rw [ev_at_eq] at g5
          exact ev_ast_ok hx hb g5 g6 hdg kk
        · cases h1
      · cases h1
    · cases h1
  · rename_i heq
    rw [heq] at hdg hlk
    unfold ev_bst at h1
    split at h1
    · split at h1
      · rename_i w' mm g5
        split at h1
        · rename_i j g6
          rw [ev_put_out] at h1
          rw [ev_fL_eq] at h1
          cases h1
          rw [ev_at_eq] at g5
          exact ev_bst_ok hx hb g5 g6 hdg kk
        · cases h1
      · cases h1
    · cases h1
  · rename_i heq
    rw [heq] at hdg hlk
    unfold ev_lst at h1
    split at h1
    · split at h1
      · rename_i w' mm g5
        split at h1
        · rename_i j g6
          cases h1
          rw [ev_at_eq] at g5
          exact ev_lst_ok hx hb g5 g6 hdg kk
        · cases h1
      · cases h1
    · cases h1
  · rename_i heq
    rw [heq] at hdg hlk
    cases h1
    exact ev_gets_ok hx hb hown hts hlk hXZ hdg kk
  · rename_i heq
    rw [heq] at hdg hlk
    unfold ev_ii at h1
    split at h1
    · cases h1
      exact ev_iadd_ok hx hb hdg kk
    · cases h1
  · rename_i heq
    rw [heq] at hdg hlk
    unfold ev_ii at h1
    split at h1
    · cases h1
      exact ev_isub_ok hx hb hdg kk
    · cases h1
  · rename_i heq
    rw [heq] at hdg hlk
    unfold ev_ii at h1
    split at h1
    · cases h1
      exact ev_imul_ok hx hb hdg kk
    · cases h1
  · rename_i heq
    rw [heq] at hdg hlk
    unfold ev_ii at h1
    split at h1
    · cases h1
      exact ev_ishr_ok hx hb hdg kk
    · cases h1
  · rename_i heq
    rw [heq] at hdg hlk
    unfold ev_ii at h1
    split at h1
    · cases h1
      exact ev_iushr_ok hx hb hdg kk
    · cases h1
  · rename_i heq
    rw [heq] at hdg hlk
    unfold ev_and at h1
    split at h1
    · cases h1
      exact ev_iand_ok hx hb hdg kk
    · obtain ⟨g6, h1⟩ := ev_bif h1
      subst h1
      simp only [Bool.and_eq_true, decide_eq_true_eq] at g6
      exact ev_iandm_ok hx hb g6.1.1 g6.1.2 (Nat.le_of_ble_eq_true g6.2) hdg kk
    · cases h1
  · rename_i heq
    rw [heq] at hdg hlk
    split at h1
    · cases h1
      exact ev_i2b_ok hx hb hdg kk
    · cases h1
  · rename_i heq
    rw [heq] at hdg hlk
    split at h1
    · cases h1
      exact ev_i2l_ok hx hb hdg kk
    · cases h1
  · rename_i heq
    rw [heq] at hdg hlk
    split at h1
    · obtain ⟨g6, h1⟩ := ev_bif h1
      subst h1
      exact ev_dup_ok hx hb g6 hdg kk
    · cases h1
  · rename_i heq
    rw [heq] at hdg hlk
    split at h1
    · obtain ⟨g6, h1⟩ := ev_bif h1
      subst h1
      simp only [Bool.and_eq_true] at g6
      exact ev_dup_x1_ok hx hb g6.1 g6.2 hdg kk
    · cases h1
  · rename_i heq
    rw [heq] at hdg hlk
    split at h1
    · obtain ⟨g6, h1⟩ := ev_bif h1
      subst h1
      exact ev_pop_ok hx hb g6 hdg kk
    · cases h1
  · rename_i heq
    rw [heq] at hdg hlk
    obtain ⟨t, g1, g2⟩ := ev_jmp_inv h1
    subst g2
    exact ev_goto_ok hx hb g1 hdg kk
  · rename_i heq
    rw [heq] at hdg hlk
    obtain ⟨t, ht⟩ := hlk
    unfold ev_cc at h1
    split at h1
    · rcases ev_br_inv h1 with ⟨g1, t', g2, g3⟩ | ⟨g1, g3⟩
      · subst g3
        exact ev_icmp_lt_t hx hb (g1) g2 hdg kk
      · subst g3
        exact ev_icmp_lt_f hx hb (g1) ht hdg kk
    · cases h1
  · rename_i heq
    rw [heq] at hdg hlk
    obtain ⟨t, ht⟩ := hlk
    unfold ev_cc at h1
    split at h1
    · rcases ev_br_inv h1 with ⟨g1, t', g2, g3⟩ | ⟨g1, g3⟩
      · subst g3
        exact ev_icmp_ge_f hx hb (ev_not_t g1) g2 hdg kk
      · subst g3
        exact ev_icmp_ge_t hx hb (ev_not_f g1) ht hdg kk
    · cases h1
  · rename_i heq
    rw [heq] at hdg hlk
    obtain ⟨t, ht⟩ := hlk
    unfold ev_cc at h1
    split at h1
    · rcases ev_br_inv h1 with ⟨g1, t', g2, g3⟩ | ⟨g1, g3⟩
      · subst g3
        exact ev_icmp_gt_t hx hb (g1) g2 hdg kk
      · subst g3
        exact ev_icmp_gt_f hx hb (g1) ht hdg kk
    · cases h1
  · rename_i heq
    rw [heq] at hdg hlk
    obtain ⟨t, ht⟩ := hlk
    unfold ev_cc at h1
    split at h1
    · rcases ev_br_inv h1 with ⟨g1, t', g2, g3⟩ | ⟨g1, g3⟩
      · subst g3
        exact ev_icmp_le_f hx hb (ev_not_t g1) g2 hdg kk
      · subst g3
        exact ev_icmp_le_t hx hb (ev_not_f g1) ht hdg kk
    · cases h1
  · rename_i heq
    rw [heq] at hdg hlk
    obtain ⟨t, ht⟩ := hlk
    unfold ev_cc at h1
    split at h1
    · rcases ev_br_inv h1 with ⟨g1, t', g2, g3⟩ | ⟨g1, g3⟩
      · subst g3
        exact ev_icmp_eq_t hx hb (g1) g2 hdg kk
      · subst g3
        exact ev_icmp_eq_f hx hb (g1) ht hdg kk
    · cases h1
  · rename_i heq
    rw [heq] at hdg hlk
    obtain ⟨t, ht⟩ := hlk
    unfold ev_cc at h1
    split at h1
    · rcases ev_br_inv h1 with ⟨g1, t', g2, g3⟩ | ⟨g1, g3⟩
      · subst g3
        exact ev_icmp_ne_f hx hb (ev_not_t g1) g2 hdg kk
      · subst g3
        exact ev_icmp_ne_t hx hb (ev_not_f g1) ht hdg kk
    · cases h1
  · rename_i heq
    rw [heq] at hdg hlk
    obtain ⟨t, ht⟩ := hlk
    unfold ev_c0 at h1
    split at h1
    · rcases ev_br_inv h1 with ⟨g1, t', g2, g3⟩ | ⟨g1, g3⟩
      · subst g3
        exact ev_if_lt_t hx hb (g1) g2 hdg kk
      · subst g3
        exact ev_if_lt_f hx hb (g1) ht hdg kk
    · cases h1
  · rename_i heq
    rw [heq] at hdg hlk
    obtain ⟨t, ht⟩ := hlk
    unfold ev_c0 at h1
    split at h1
    · rcases ev_br_inv h1 with ⟨g1, t', g2, g3⟩ | ⟨g1, g3⟩
      · subst g3
        exact ev_if_ge_f hx hb (ev_not_t g1) g2 hdg kk
      · subst g3
        exact ev_if_ge_t hx hb (ev_not_f g1) ht hdg kk
    · cases h1
  · rename_i heq
    rw [heq] at hdg hlk
    obtain ⟨t, ht⟩ := hlk
    unfold ev_c0 at h1
    split at h1
    · rcases ev_br_inv h1 with ⟨g1, t', g2, g3⟩ | ⟨g1, g3⟩
      · subst g3
        exact ev_if_gt_t hx hb (g1) g2 hdg kk
      · subst g3
        exact ev_if_gt_f hx hb (g1) ht hdg kk
    · cases h1
  · rename_i heq
    rw [heq] at hdg hlk
    obtain ⟨t, ht⟩ := hlk
    unfold ev_c0 at h1
    split at h1
    · rcases ev_br_inv h1 with ⟨g1, t', g2, g3⟩ | ⟨g1, g3⟩
      · subst g3
        exact ev_if_le_f hx hb (ev_not_t g1) g2 hdg kk
      · subst g3
        exact ev_if_le_t hx hb (ev_not_f g1) ht hdg kk
    · cases h1
  · rename_i heq
    rw [heq] at hdg hlk
    obtain ⟨t, ht⟩ := hlk
    unfold ev_c0 at h1
    split at h1
    · rcases ev_br_inv h1 with ⟨g1, t', g2, g3⟩ | ⟨g1, g3⟩
      · subst g3
        exact ev_if_eq_t hx hb (g1) g2 hdg kk
      · subst g3
        exact ev_if_eq_f hx hb (g1) ht hdg kk
    · cases h1
  · rename_i heq
    rw [heq] at hdg hlk
    obtain ⟨t, ht⟩ := hlk
    unfold ev_c0 at h1
    split at h1
    · rcases ev_br_inv h1 with ⟨g1, t', g2, g3⟩ | ⟨g1, g3⟩
      · subst g3
        exact ev_if_ne_f hx hb (ev_not_t g1) g2 hdg kk
      · subst g3
        exact ev_if_ne_t hx hb (ev_not_f g1) ht hdg kk
    · cases h1
  · rename_i heq
    rw [heq] at hdg hlk
    unfold ev_tsw at h1
    split at h1
    · split at h1
      · rename_i g0
        obtain ⟨t, g1, g2⟩ := ev_jmp_inv h1
        subst g2
        exact ev_tsw_out hx hb g0 g1 hdg kk
      · split at h1
        · rename_i g0
          split at h1
          · rename_i o' g3
            obtain ⟨t, g1, g2⟩ := ev_jmp_inv h1
            subst g2
            rw [ev_at_eq] at g3
            exact ev_tsw_in hx hb g0.2.1 g0.2.2 g0.1 g3 g1 hdg kk
          · cases h1
        · cases h1
    · cases h1
  · rename_i heq
    rw [heq] at hdg hlk
    unfold ev_lsw at h1
    split at h1
    · split at h1
      · rename_i g0
        obtain ⟨t, g1, g2⟩ := ev_jmp_inv h1
        subst g2
        exact ev_lsw_ok hx hb hlk g0 g1 hdg kk
      · cases h1
    · cases h1
  · cases h1
end EVU
