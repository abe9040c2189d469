/-! THE CLAIM OUT OF ONE WALK OF THE LAW'S BODY. Your part is whole_start (and what it stands on); all else here is the same for every law, but numbers. -/
def R_law : String := "TypeLevelsLaw"
def lw_P (b : Addr) (xs : List Int32) (args : Array Value) (s : State) : Prop := args = #[.ref b] ∧ s.IntsAt b xs ∧ xs.length ≤ 3 ∧ (Jvm.Cond.and given_1 narrow_1).before args s = true
def lw_Q (_ : Array Value) (s : State) (o : Outcome) (t : State) : Prop := o = .returned (some (.int 1)) ∧ Framed s o t [] 600002 7302232
def lw_Z (below : List Frame) (a : Array Value) (s : State) : State → Prop := fun t => ∃ o, t.status = .running ∧ Ended t below o ∧ lw_Q a s o t
/-- the law's own end, with 1 on the stack, nothing written that was there before, its room as the claim has it -/
theorem lw_ret {p : Program} {l : Launch} {e : Env} {s : State} {m : MethodId} {below : List Frame} {meth : Method} {c : Code} {b : Nat} (hx : p.tables.exec = Jvm.exec) (hb : c.code = code) (hr : meth.sig.returnType = ret) (hlocks : meth.locks = false) {pc : Nat} {H : Heap} {ls : Array Slot} (hdg : decode code pc = .ok (.ireturn, 1)) : W p l e room_1 s m #[Value.ref b] below meth c H [] 600002 7302232 (lw_Z below #[Value.ref b] s) (F0 m pc ls [.int 1]) := by
  intro T hT X
  obtain ⟨fs, hret, hrun, hended, hW, hframe⟩ := X.leave (v := some (.int 1)) (hlocks := hlocks) (fun h => by rw [hr] at h; cases h)
  have hmeth' : T.vm.method? m = some meth := X.method'
  refine ⟨T.setFrames fs, ?_, .returned (some (.int 1)), hrun, hended, rfl, ⟨_, rfl⟩, hW, hframe⟩
  jvm_step X.here [X.here.top, hx, hb, hdg, hmeth', hr, ret, narrow_b1]
  (try refine ⟨rfl, ?_⟩); (try refine ⟨rfl, ?_⟩)
  first | (intro acts; rw [hret _ acts rfl rfl rfl]) | rw [hret _ _ rfl rfl rfl]
  exact Steps.refl _
/-- what holds at the law's entry: the machine, the code, the tables' words (any of lw_tbl by 'hts w (by decide +kernel)'), the script of L ints xs at the cell b, what the Statement gives of the start (any of its parts by flat_of_before) -/
def lw_At (p : Program) (s : State) (m : MethodId) (meth : Method) (c : Code) (b L : Nat) (xs : Nat → Int32) : Prop :=
  p.tables.exec = Jvm.exec ∧ c.code = code ∧ meth.sig.returnType = ret ∧ c.maxLocals = 8 ∧ s.vm.findClass R_law = some m.cls ∧ (∀ w ∈ lw_tbl, w.before #[Value.ref b] s = true) ∧ va_X b L xs s s.heap ∧ b < s.heap.size ∧ meth.locks = false ∧ (Jvm.Cond.and given_1 narrow_1).before #[Value.ref b] s = true
-- ===== YOUR PART BEGINS =====
theorem ev_known {s : State} : ∀ (cl : List vw_C), (∀ q ∈ cl, ∃ (cC : ClassId) (iS : Nat → Nat), u_Kn s q.1 q.2.1 q.2.2 cC iS) → ∃ D : va_G, ∀ (c : Nat) (q : vw_C), cl[c]? = some q → u_Kn s q.1 q.2.1 q.2.2 (D.1 c) (D.2 c)
  | [], _ => ⟨(fun _ => 0, fun _ _ => 0), fun c q h => by simp at h⟩
  | a :: cl, h => by
    obtain ⟨cC, iS, h0⟩ := h a List.mem_cons_self
    obtain ⟨D, hD⟩ := ev_known cl (fun q hq => h q (List.mem_cons_of_mem _ hq))
    refine ⟨(fun c => match c with | 0 => cC | c + 1 => D.1 c, fun c => match c with | 0 => iS | c + 1 => D.2 c), fun c q hq => ?_⟩
    cases c with
    | zero => rw [List.getElem?_cons_zero] at hq; cases hq; exact h0
    | succ c => rw [List.getElem?_cons_succ] at hq; exact hD c q hq
theorem er_inv {o : Option ev_R} (h : er_ok o = true) : ∃ (pc : Nat) (ls : ev_L) (hp : ev_H) (k n : Nat), o = some (2, pc, ls, [.inl (1, 1)], hp, k, n) ∧ k ≤ 600002 ∧ n ≤ 7302232 := by
  unfold er_ok at h
  split at h
  · rename_i pc ls r hp k n
    simp only [Bool.and_eq_true, decide_eq_true_eq] at h
    obtain ⟨⟨⟨h1, h2⟩, h3⟩, h4⟩ := h
    have er : r = (1, 1) := Prod.ext h1 h2
    subst er
    exact ⟨pc, ls, hp, k, n, rfl, Nat.le_of_ble_eq_true h3, Nat.le_of_ble_eq_true h4⟩
  · cases h
theorem er_top {b hz : Nat} {xs : Nat → Int32} (L : Nat) : ∀ j x, (List.replicate L ev_top)[j]? = some x → ∀ M, ev_rel b hz M x (.int (xs j)) := fun j x h M => by
  have : x = ev_top := (List.mem_replicate.mp (List.mem_of_getElem? h)).2
  subst this
  exact ev_top_ok
/-- the runs' ends are the law's end -/
theorem whole_end {p : Program} {e : Env} {s : State} {m : MethodId} {below : List Frame} {meth : Method} {c : Code} (l : Launch) {b hz N : Nat} {xs : Nat → Int32} {D : va_G} {sc : List ev_V} (hx : p.tables.exec = Jvm.exec) (hb : c.code = code) (hr : meth.sig.returnType = ret) (hlocks : meth.locks = false)
    (snd : ∀ f, ev_snd l b hz N xs et_PR et_MT D et_cl et_df et_Ts et_NW sc f) (cx : ev_cx p room_1 s m #[Value.ref b] meth c code x.cls x.name 8 20 et_Ts) (hX : ev_X b hz N xs et_NW (fun q => s.heap.size ≤ q) s s.heap) {f : Nat} (hok : er_ok (ev_run et_PR et_df sc ev_hl f 20 et_136 100000 20 er_l [] er_h 110 178703) = true) :
    ev_K p l e room_1 s m #[Value.ref b] below meth c (lw_Z below #[Value.ref b] s) b hz D et_cl (fun q => s.heap.size ≤ q) [] 8 110 178703 20 er_l [] er_h := by
  obtain ⟨pc, ls, hp, k, n, g1, g2, g3⟩ := er_inv hok
  refine snd f g1 (i := 136) (y := x) (cc := code) (nL := 8) (ret := some .boolean) rfl rfl cx hX (fun _ h => h) g2 g3 ?_
  intro H locs lsC stC hSt
  obtain ⟨tys, ws, lv, t, hK, hP, hD, hS, hL0, hw, hst, hl, hlr⟩ := hSt
  obtain ⟨v, stC1, e1, ⟨i, e2, hi⟩, hst1⟩ := ev_all_cons hst
  cases ev_all_none hst1
  subst e1 e2
  have hi1 : i = 1 := by
    apply Int32.toInt_inj.mp
    have q1 : (1 : Int) ≤ i.toInt := hi.1
    have q2 : i.toInt ≤ (1 : Int) := hi.2
    have : (1 : Int32).toInt = 1 := by decide
    omega
  subst hi1
  rcases ev_run_end f g1 with h4 | ⟨q, ⟨ck, hck, hq⟩, hq1, hq2, hq3, hend⟩
  · cases h4
  have hdg := ed_136 ck hck q hq
  have hlc := (ek_136 ck hck q hq).2
  unfold ev_lc at hlc
  rw [hq2] at hlc
  obtain ⟨-, -, l2, -⟩ := hlc
  rw [(l2 hq3).1, hq1] at hdg
  exact va_forget hS.2.2 (W.widen g2 g3 (lw_ret hx hb hr hlocks hdg))
set_option maxHeartbeats 4000000 in
theorem whole_start {p : Program} {e : Env} {s : State} {m : MethodId} {below : List Frame} {meth : Method} {c : Code} (l : Launch) (hl : l.stackTraces = false) (hnm : meth.name = x.name) {b L : Nat} {xs : Nat → Int32} (hL : L ≤ 3) (C0 : lw_At p s m meth c b L xs) : W p l e room_1 s m #[Value.ref b] below meth c s.heap [] 0 0 (lw_Z below #[Value.ref b] s) (entryFrame m ([Value.ref b] : List Value).toArray 8) := by
  obtain ⟨hx, hb, hr0, hml, hown, hts, hXs, hbl, hlocks, hgv⟩ := C0
  have hflat := flat_of_before _ hgv
  have hAn : ∀ a : Nat, a < s.heap.size → ¬ (s.heap.size ≤ a) := fun a h1 h2 => by omega
  have hts' : ∀ w ∈ et_Ts, w.before #[Value.ref b] s = true := fun w hw => hts w (List.mem_filter.mp hw).1
  have tb : ∀ {w : Cond} (i : Nat), tables_1[i]? = some w → w.before #[Value.ref b] s = true := fun i h => hts _ (List.mem_append_right _ (List.mem_of_getElem? h))
  obtain ⟨hz, hze, hzT⟩ := va_Tof (args := #[Value.ref b]) (s := s) (tm := .static "TypeLevels$Heard" "HIGHEST" "[I") (ty := .int) (N := 5) (f := ev_hv) (A := fun q => s.heap.size ≤ q) (by decide) (hflat _ (by decide +kernel)) (va_eqt (z := 5) (hflat _ (by decide +kernel)))
    (fun j hj => by
      match j, hj with
      | 0, _ => exact va_eqt (z := 5) (hflat _ (by decide +kernel))
      | 1, _ => exact va_eqt (z := 24) (hflat _ (by decide +kernel))
      | 2, _ => exact va_eqt (z := 9) (hflat _ (by decide +kernel))
      | 3, _ => exact va_eqt (z := 1) (hflat _ (by decide +kernel))
      | 4, _ => exact va_eqt (z := 9) (hflat _ (by decide +kernel))
      | k + 5, h => exact absurd h (by omega)) hAn
  have hZ : va_Z "TypeLevels$Heard" "HIGHEST" "[I" (.ref hz) (fun q => s.heap.size ≤ q) s s.heap := va_Zof (tb 1205 (by decide +kernel)) (tb 10 (by decide +kernel)) hze hAn
  have hU : vx_Zq Jvm.Bundle.tN "UNASSIGNED_STACK" Jvm.Bundle.steD (fun q => s.heap.size ≤ q) s s.heap := vx_Zqof (tb 1335 (by decide +kernel)) (tb 15 (by decide +kernel)) (hflat _ (by decide +kernel)) hAn
  have hN : vx_Zq Jvm.Bundle.tN "SUPPRESSED_SENTINEL" Jvm.Bundle.listD (fun q => s.heap.size ≤ q) s s.heap := vx_Zqof (tb 1337 (by decide +kernel)) (tb 15 (by decide +kernel)) (hflat _ (by decide +kernel)) hAn
  have hNW : ∀ w ∈ et_NW, va_Nw w s := fun w hw => va_Nw.of (et_NWok w hw).1 (hts w (List.mem_append_right _ (et_NWt w hw)))
  have str : ∀ {k : Nat} {tx : String}, (Cond.stringRef "TypeLevels" k tx).before #[Value.ref b] s = true → (Cond.exactly (.string "TypeLevels" k) "java/lang/String").before #[Value.ref b] s = true → ∃ sa, vk_R "TypeLevels" k tx sa s := fun h1 h2 => by
    obtain ⟨a, c, cA, kA, q1, -⟩ := Cond.exactly_spec h2
    exact ⟨a, vk_R.of h1 q1⟩
  have hX : ev_X b hz L xs et_NW (fun q => s.heap.size ≤ q) s s.heap := ⟨hZ, hzT, hXs, hbl, hAn b hbl, hNW, hU, hN, str (tb 1347 (by decide +kernel)) (hflat _ (by decide +kernel)), str (tb 1396 (by decide +kernel)) (hflat _ (by decide +kernel))⟩
  obtain ⟨D, hDk⟩ := ev_known (s := s) et_cl (by
    intro q hq
    rcases List.mem_cons.mp hq with rfl | hq; exact u_known hts' eiX0 (hts' _ nt_X0)
    rcases List.mem_cons.mp hq with rfl | hq; exact u_known hts' eiX1 (hts' _ nt_X1)
    rcases List.mem_cons.mp hq with rfl | hq; exact u_known hts' eiX2 (hts' _ nt_X2)
    rcases List.mem_cons.mp hq with rfl | hq; exact u_known hts' eiX3 (hts' _ nt_X3)
    rcases List.mem_cons.mp hq with rfl | hq; exact u_known hts' eiX4 (hts' _ nt_X4)
    rcases List.mem_cons.mp hq with rfl | hq; exact u_known hts' eiX5 (hts' _ nt_X5)
    rcases List.mem_cons.mp hq with rfl | hq; exact u_known hts' eiX6 (hts' _ nt_X6)
    rcases List.mem_cons.mp hq with rfl | hq; exact u_known hts' eiX7 (hts' _ nt_X7)
    rcases List.mem_cons.mp hq with rfl | hq; exact u_known hts' eiX8 (hts' _ nt_X8)
    rcases List.mem_cons.mp hq with rfl | hq; exact u_known hts' eiX9 (hts' _ nt_X9)
    rcases List.mem_cons.mp hq with rfl | hq; exact u_known hts' eiX10 (hts' _ nt_X10)
    rcases List.mem_cons.mp hq with rfl | hq; exact u_known hts' eiX11 (hts' _ nt_X11)
    cases hq)
  have hK : va_K D et_cl [] s := ⟨hDk, fun k q h => by simp at h⟩
  have cx : ev_cx p room_1 s m #[Value.ref b] meth c code x.cls x.name 8 20 et_Ts := ⟨hx, hb, hml, hown, hts', hnm, by decide, by decide⟩
  have snd : ∀ (sc : List ev_V), sc.length = L → (∀ j x, sc[j]? = some x → ∀ M, ev_rel b hz M x (.int (xs j))) → ∀ f, ev_snd l b hz L xs et_PR et_MT D et_cl et_df et_Ts et_NW sc f := fun sc h1 h2 => ev_run_ok et_ok h1 (by omega) h2 (fun f IH => eh_hyp hl f IH)
  have hen := lv_entry [Value.ref b] (n := 8) (Nat.le_of_ble_eq_true rfl)
  rw [lg_entry_eq]
  have start : ∀ (sc : List ev_V) (hs : sc.length = L) (hr : ∀ j x, sc[j]? = some x → ∀ M, ev_rel b hz M x (.int (xs j))), ev_run et_PR et_df sc ev_hl 3000 20 et_136 20 0 [(0, .inr (.inr 2))] [] [] 0 0 = some (4, 20, er_l, [], er_h, 110, 178703) →
      ev_K p l e room_1 s m #[Value.ref b] below meth c (lw_Z below #[Value.ref b] s) b hz D et_cl (fun q => s.heap.size ≤ q) [] 8 110 178703 20 er_l [] er_h → W p l e room_1 s m #[Value.ref b] below meth c s.heap [] 0 0 (lw_Z below #[Value.ref b] s) (F0 m 0 (lg_sl [Value.ref b] ++ List.replicate (8 - (lg_sl [Value.ref b]).length) Slot.unset).toArray []) := fun sc hs hr hrun kk =>
    snd sc hs hr 3000 hrun (i := 136) (y := x) (cc := code) (nL := 8) (ret := some .boolean) rfl rfl cx hX (fun _ h => h) (by decide) (by decide) kk s.heap [] _ [] ⟨[], [], [(0, .ref b)], [], hK, fun k q h => by simp at h, ⟨fun i j p q h => by simp at h, fun k q h => by simp at h⟩, va_S.rf, rfl, trivial, trivial, hen, ⟨⟨rfl, rfl⟩, trivial⟩⟩
  have ends : ∀ (sc : List ev_V) (hs : sc.length = L) (hr : ∀ j x, sc[j]? = some x → ∀ M, ev_rel b hz M x (.int (xs j))) {f : Nat}, er_ok (ev_run et_PR et_df sc ev_hl f 20 et_136 100000 20 er_l [] er_h 110 178703) = true → ev_K p l e room_1 s m #[Value.ref b] below meth c (lw_Z below #[Value.ref b] s) b hz D et_cl (fun q => s.heap.size ≤ q) [] 8 110 178703 20 er_l [] er_h := fun sc hs hr f hok =>
    whole_end l hx hb hr0 hlocks (snd sc hs hr) cx hX hok
  match L, hL, snd, start, ends with
  | 0, _, _, start, ends => exact start [] rfl (er_top 0) er_s0 (ends [] rfl (er_top 0) er_e0)
  | 1, _, _, start, ends => exact start [ev_top] rfl (er_top 1) er_s1 (ends [ev_top] rfl (er_top 1) er_e1)
  | 2, _, _, start, ends => exact start [ev_top, ev_top] rfl (er_top 2) er_s2 (ends [ev_top, ev_top] rfl (er_top 2) er_e2)
  | 3, _, _, start, ends =>
    refine start [ev_top, ev_top, ev_top] rfl (er_top 3) er_s3 ?_
    obtain ⟨j, hj, hjx⟩ := pk_andE (xs 0) (m := 31) 5 (by decide)
    have fin : ∀ k : Nat, k = j → (∃ a1 a2 b1 b2 : Int, a1 ≤ (xs 1).toInt ∧ (xs 1).toInt ≤ a2 ∧ b1 ≤ (xs 2).toInt ∧ (xs 2).toInt ≤ b2 ∧ er_ok (er_run k (a1, a2) (b1, b2)) = true) → ev_K p l e room_1 s m #[Value.ref b] below meth c (lw_Z below #[Value.ref b] s) b hz D et_cl (fun q => s.heap.size ≤ q) [] 8 110 178703 20 er_l [] er_h := fun k hk h => by
      obtain ⟨a1, a2, b1, b2, q1, q2, q3, q4, hok⟩ := h
      subst hk
      refine ends [.inr (.inl k), .inl (a1, a2), .inl (b1, b2)] rfl (fun i z hi M => ?_) hok
      match i, hi with
      | 0, hi => cases hi; exact ⟨xs 0, rfl, hjx⟩
      | 1, hi => cases hi; exact ⟨xs 1, rfl, q1, q2⟩
      | 2, hi => cases hi; exact ⟨xs 2, rfl, q3, q4⟩
      | i + 3, hi => simp at hi
    have w1 := Int32.le_toInt (xs 1)
    have w2 := Int32.toInt_le (xs 1)
    have w3 := Int32.le_toInt (xs 2)
    have w4 := Int32.toInt_le (xs 2)
    match j, hj, fin with
    | 0, _, fin => exact fin 0 rfl (ec_0 _ _ w1 w2 w3 w4)
    | 1, _, fin => exact fin 1 rfl (ec_1 _ _ w1 w2 w3 w4)
    | 2, _, fin => exact fin 2 rfl (ec_2 _ _ w1 w2 w3 w4)
    | 3, _, fin => exact fin 3 rfl (ec_3 _ _ w1 w2 w3 w4)
    | 4, _, fin => exact fin 4 rfl (ec_4 _ _ w1 w2 w3 w4)
    | 5, _, fin => exact fin 5 rfl (ec_5 _ _ w1 w2 w3 w4)
    | 6, _, fin => exact fin 6 rfl (ec_6 _ _ w1 w2 w3 w4)
    | 7, _, fin => exact fin 7 rfl (ec_7 _ _ w1 w2 w3 w4)
    | 8, _, fin => exact fin 8 rfl (ec_8 _ _ w1 w2 w3 w4)
    | 9, _, fin => exact fin 9 rfl (ec_9 _ _ w1 w2 w3 w4)
    | 10, _, fin => exact fin 10 rfl (ec_10 _ _ w1 w2 w3 w4)
    | 11, _, fin => exact fin 11 rfl (ec_11 _ _ w1 w2 w3 w4)
    | 12, _, fin => exact fin 12 rfl (ec_12 _ _ w1 w2 w3 w4)
    | 13, _, fin => exact fin 13 rfl (ec_13 _ _ w1 w2 w3 w4)
    | 14, _, fin => exact fin 14 rfl (ec_14 _ _ w1 w2 w3 w4)
    | 15, _, fin => exact fin 15 rfl (ec_15 _ _ w1 w2 w3 w4)
    | 16, _, fin => exact fin 16 rfl (ec_16 _ _ w1 w2 w3 w4)
    | 17, _, fin => exact fin 17 rfl (ec_17 _ _ w1 w2 w3 w4)
    | 18, _, fin => exact fin 18 rfl (ec_18 _ _ w1 w2 w3 w4)
    | 19, _, fin => exact fin 19 rfl (ec_19 _ _ w1 w2 w3 w4)
    | 20, _, fin => exact fin 20 rfl (ec_20 _ _ w1 w2 w3 w4)
    | 21, _, fin => exact fin 21 rfl (ec_21 _ _ w1 w2 w3 w4)
    | 22, _, fin => exact fin 22 rfl (ec_22 _ _ w1 w2 w3 w4)
    | 23, _, fin => exact fin 23 rfl (ec_23 _ _ w1 w2 w3 w4)
    | 24, _, fin => exact fin 24 rfl (ec_24 _ _ w1 w2 w3 w4)
    | 25, _, fin => exact fin 25 rfl (ec_25 _ _ w1 w2 w3 w4)
    | 26, _, fin => exact fin 26 rfl (ec_26 _ _ w1 w2 w3 w4)
    | 27, _, fin => exact fin 27 rfl (ec_27 _ _ w1 w2 w3 w4)
    | 28, _, fin => exact fin 28 rfl (ec_28 _ _ w1 w2 w3 w4)
    | 29, _, fin => exact fin 29 rfl (ec_29 _ _ w1 w2 w3 w4)
    | 30, _, fin => exact fin 30 rfl (ec_30 _ _ w1 w2 w3 w4)
    | 31, _, fin => exact fin 31 rfl (ec_31 _ _ w1 w2 w3 w4)
    | k + 32, hj, _ => exact absurd hj (by omega)
  | k + 4, h, _, _, _ => exact absurd h (by omega)
-- ===== YOUR PART ENDS =====
set_option maxHeartbeats 4000000 in
theorem lw_walk (l : Launch) (hl : l.stackTraces = false) (b : Addr) (xs : List Int32) : MetFree l x (headSpec (Jvm.Cond.code x code maxLocals ret :: tables_1) room_1) (lw_P b xs) (fun _ _ _ _ _ => True) lw_Q := by
  refine MetFree.of_bodyS (code := code) (maxLocals := maxLocals) (ret := ret) (by decide) ?_ ?_
  · intro args s m h hn
    obtain ⟨meth, c, h1, h2, h3, h4, h5, h6, -, -⟩ := Cond.code_spec hn (atoms_spec (ws := Jvm.Cond.code x code maxLocals ret :: tables_1) h _ List.mem_cons_self)
    exact ⟨meth, c, h1, h2, h3, h4, h5, h6⟩
  · intro p e s m args below meth c s₁ B hml0 hP _
    obtain ⟨rfl, hx, hbd, hgv⟩ := hP
    obtain ⟨scr, harrAt, hlist, hof, hsmall⟩ := hx
    obtain ⟨hcb, hkn, -, -⟩ := State.arrayAt?_spec harrAt
    have hown : s.vm.findClass R_law = some m.cls := findClass_of_methodNamed B.named
    have hts0 : ∀ c ∈ (Jvm.Cond.code x code maxLocals ret :: tables_1), c.before #[Value.ref b] s = true := atoms_spec (ws := Jvm.Cond.code x code maxLocals ret :: tables_1) B.pre
    have hts : ∀ w ∈ lw_tbl, w.before #[Value.ref b] s = true := k2_hts_sels lw_privs (fun w hw => hts0 w (List.mem_cons_of_mem _ hw)) lw_privs_ok
    have hml : c.maxLocals = 8 := B.maxLocals_eq (hts0 _ List.mem_cons_self)
    have X₀ : Stand p l e room_1 s m #[Value.ref b] below meth c s₁ [] 0 0 := Stand.of_body B
    have hh0 : s₁.heap = s.heap := by rw [B.state]; rfl
    have hsz : scr.slots.size = xs.length := by rw [← Array.length_toList, hlist, List.length_map]
    have hval : ∀ j : Nat, j < xs.length → scr.slots[j]? = some (.int (xs.getD j 0)) := fun j hj => by
      rw [← Array.getElem?_toList, hlist]
      simp [hj]
    have hbl : b < s.heap.size := (Array.getElem?_eq_some_iff.mp hcb).1
    have hX : va_X b xs.length (fun j => xs.getD j 0) s s.heap := ⟨scr, hcb, hof, hkn, hsz, hval⟩
    have K : W p l e room_1 s m #[Value.ref b] below meth c s₁.heap [] 0 0 (lw_Z below #[Value.ref b] s) (entryFrame m ([Value.ref b] : List Value).toArray 8) := by
      rw [hh0]
      exact whole_start l hl (name_of_methodNamed B.named B.method).1 hbd ⟨B.exec, B.bytes, B.returns, hml, hown, hts, hX, hbl, B.notSynchronized, hgv⟩
    obtain ⟨t, a1, o, b1, b2, b3⟩ := K s₁ rfl X₀
    exact ⟨t, o, a1, b1, b2, b3⟩
theorem lw_pre_spec {args : Array Value} {s : State} (h : (Jvm.Cond.and given_1 narrow_1).before args s = true) (hr : rest_1_c.before args s = true) : ∃ (b : Addr) (xs : List Int32), lw_P b xs args s := by
  have hs := flat_of_before _ h
  have hq := flat_of_before _ hr
  have hc : (Cond.count 1).before args s = true := hs _ (by decide +kernel)
  have harr : (Cond.arrayOf (.arg 0) .int).before args s = true := hs _ (by decide +kernel)
  have hle : (Cond.le (.length (.arg 0)) (.int 3)).before args s = true := hs _ (by decide +kernel)
  have hlen : (Cond.isInt (.length (.arg 0))).before args s = true := hq _ (by decide +kernel)
  have hall : (Cond.all (.arg 0) (.isInt (.elem (.arg 0) (.index 0)))).before args s = true := hq _ (by decide +kernel)
  obtain ⟨b, xs, hb, hx⟩ := State.ints_of_pre rfl harr hlen hall
  have hsm : xs.length < 2 ^ 31 := hx.choose_spec.2.2.2
  have hev : (Term.length (.arg 0)).eval args s none [] s = some (.int xs.length.toInt32) := hx.length_eval hb
  have hv := Cond.le_ints hev (show (Term.int 3).eval args s none [] s = some (.int 3) from rfl)
  have hd : xs.length.toInt32 ≤ 3 := by
    simpa [Cond.before, Cond.holds, hv] using hle
  have hN : xs.length ≤ 3 := (Int32.ofNat_le_ofNat hsm (by decide)).mp (show Int32.ofNat xs.length ≤ Int32.ofNat 3 from hd)
  exact ⟨b, xs, Cond.one_arg hc (show args[0]? = some (.ref b) from hb), hx, hN, h⟩
theorem lw_comes (l : Launch) (hl : l.stackTraces = false) : Comes l x (Jvm.Cond.code x code maxLocals ret :: tables_1) room_1 (fun tb e args s => Calls_1 tb e args s ∧ rest_1 tb e args s ∧ Pre_1 tb e args s)
    (fun _ _ args s o t => lw_Q args s o t) := by
  intro p e ha hc hk s m args below hf hfit hheap happ hpre
  obtain ⟨b, xs, hP⟩ := lw_pre_spec hpre.2.2 hpre.2.1
  obtain ⟨k, o, h1, h2, h3, hQ⟩ := lw_walk l hl b xs p e ha hc hk s m args below hf ((Spec.applies_iff_loose hf).mp happ).1 hP trivial
  exact ⟨k, o, h1, h2, h3, hQ⟩
theorem lw_frame {s t : State} {o : Outcome} {args : Array Value} (h : Framed s o t [] 600002 7302232) :
    Framed s o t (fieldLocs frame_1_writes args s ++ arrayLocs frame_1_arrays args s ++ staticLocs frame_1_statics s) 600002 7302232 := h
theorem lw_limb (L : Cond) (hL : ∀ (args : Array Value) (s t : State), L.after args s (.returned (some (.int 1))) t = true) :
    ArmFor flags0 classFile x code maxLocals ret World_1 tables_1 room_1 Calls_1 rest_1 Pre_1
      (fun tb e a s o t => postC L tb e a s o t ∧ Framed s o t (fieldLocs frame_1_writes a s ++ arrayLocs frame_1_arrays a s ++ staticLocs frame_1_statics s) 600002 7302232) := by
  intro l hfl _ _ p e ha hc hk s m args below hf hfit hheap happ hpre
  obtain ⟨k, o, h1, h2, h3, rfl, hF⟩ := lw_comes l (by unfold Launch.stackTraces; rw [hfl]; decide +kernel) p e ha hc hk s m args below hf hfit hheap happ hpre
  exact ⟨k, _, h1, h2, h3, hL args s _, lw_frame hF⟩
theorem i_vc : Claimed_1_1 ∧ Claimed_1_2 := ⟨lw_limb limb_1_1 (fun args s t => by simp [limb_1_1, Cond.after, Cond.holds, Cond.value]), lw_limb limb_1_2 (fun args s t => Cond.after_iff.mpr (by
  first | (rw [show limb_1_2 = Cond.eq .result (.int 1) from rfl, Cond.eq_ints (x := 1) (y := 1) rfl rfl]; simp; done) | (simp [limb_1_2, Cond.value, Term.eval]; done)))⟩
