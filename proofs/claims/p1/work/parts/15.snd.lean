/-! ===== runs are sound ===== -/
section EVN
theorem ev_callQ {p : Program} {l : Launch} {e : Env} {R : Room} {s : State} {m : MethodId} {args : Array Value} {below : List Frame} {meth : Method} {c : Code} {Q : State → Prop} {b hz : Nat} {D : va_G} {cl : List vw_C} {A : Nat → Prop} {cells slots : Nat} {H : Heap} {locs : List Loc} {mc ms pc : Nat} {lsC : Array Slot} {st0 rest : List Value} {a : Array Value} {free : Addr → Prop} {ws : va_W} {rs : List ev_V} {h' : ev_H}
    (hr : va_Run p l e R s m args below meth c H locs cells slots mc ms (F0 m pc lsC st0) rest (ev_Q b hz D cl ws H.size rs h' a) free) (hS : va_S A s.heap H locs) (hA1 : ∀ q, va_A ws H.size q → A q) (hf : ∀ q, free q → A q)
    (kk : ∀ (vo : Option Value) (t : State) (H1 : Heap) (locs1 : List Loc), t.heap = H1 → s.vm.Alike t.vm → ev_Wd b hz D cl ws H.size rs h' vo t → va_S A s.heap H1 locs1 → W p l e R s m args below meth c H1 locs1 (cells + mc) (slots + ms) Q (F0 m (pc + 3) lsC (vo.toList ++ rest))) : W p l e R s m args below meth c H locs cells slots Q (F0 m pc lsC st0) := by
  intro T hT X
  obtain ⟨v, st₀, t, T', L, h0, X', hL, e1, e2, ⟨⟨vo, hv, hwd⟩, hz1, hk⟩, st⟩ := hr T hT X
  cases hv
  rw [h0] at hz1 hk
  obtain ⟨t2, a1, b1⟩ := kk v t T'.heap (locs ++ L) e1.symm (by rw [← e2]; exact X'.warmed.alike) hwd
    ⟨Nat.le_trans hS.1 (by rw [e1]; exact hz1), fun q h1 h2 => by rw [e1, hk q (Nat.lt_of_lt_of_le h1 hS.1) (fun z => h2 (hA1 q z))]; exact hS.2.1 q h1 h2, fun q hq => by
      rcases List.mem_append.mp hq with h | h
      · exact hS.2.2 q h
      · exact hf _ (hL q h)⟩ T' rfl X'
  exact ⟨t2, st t2 a1, b1⟩
variable {l : Launch} {b hz N : Nat} {xs : Nat → Int32} {PR : List ev_M} {MT : List ev_MI} {D : va_G} {cl : List vw_C} {df : List (List ev_V)} {Ts NW : List Cond} {sc : List ev_V}
/-- what is wanted of kind 6 -/
def ev_hyp (l : Launch) (b hz N : Nat) (xs : Nat → Int32) (PR : List ev_M) (MT : List ev_MI) (D : va_G) (cl : List vw_C) (df : List (List ev_V)) (Ts NW : List Cond) (sc : List ev_V) (f : Nat) : Prop :=
  ∀ {d' : Nat} {T : ev_M} {q : ev_I} {ls : ev_L} {st : List ev_V} {h : ev_H} {k n i : Nat} {y : MethodName} {cc : ByteArray} {nL : Nat} {ret : Option FieldType} {U : ev_M} {r' : ev_R}, (∃ ck ∈ T, q ∈ ck) → PR[i]? = some T → MT[i]? = some (y, cc, nL, ret) → q.2.2.1 = 6 →
    (st.take q.2.2.2.2.1).reverse.length = q.2.2.2.2.1 → (st.drop q.2.2.2.2.1).length ≤ 4 → ev_rcv 10 (st.take q.2.2.2.2.1).reverse h = true → ev_hty (st.take q.2.2.2.2.1).reverse = true → ev_wd (st.take q.2.2.2.2.1).reverse ≤ q.2.2.2.2.2.toNat / 100 → ev_wd (st.take q.2.2.2.2.1).reverse.dropLast ≤ q.2.2.2.2.2.toNat % 100 →
    PR[q.2.2.2.1]? = some U → ev_run PR df sc ev_hl f 1 U 100000 0 (ev_args 0 (st.take q.2.2.2.2.1).reverse.dropLast) [] h 0 0 = some r' → r'.1 = 5 → r'.2.2.2.2.2.1 = 0 → r'.2.2.2.2.2.2 = 0 →
    ∀ {p : Program} {e : Env} {R : Room} {s : State} {m : MethodId} {args : Array Value} {below : List Frame} {meth : Method} {c : Code} {Q : State → Prop} {A : Nat → Prop} {L0 : List Nat},
      ev_cx p R s m args meth c cc y.cls y.name nL (d' + 12) Ts → ev_X b hz N xs NW A s s.heap → (∀ q, s.heap.size ≤ q → A q) → k + 40 ≤ R.cells → n + 400 ≤ R.slots →
      ev_K p l e R s m args below meth c Q b hz D cl A L0 nL (k + 40) (n + 400) (q.1 + 3) ls (.inl (1, 1) :: st.drop q.2.2.2.2.1) r'.2.2.2.2.1 →
      ev_K p l e R s m args below meth c Q b hz D cl A L0 nL k n q.1 ls st h
theorem ev_goodin (hg : ∀ w ∈ Ts, goodWord w = true) {X : List Cond} (h : ∀ w ∈ X, w ∈ Ts) : GoodIn Ts X := fun w hw => ⟨h w hw, good_of_word (hg w (h w hw))⟩
theorem ev_blind (hNW : ∀ w ∈ NW, ev_wm w) {tys : List (ClassId × FieldType)} {ws : va_W} {sz : Nat} {vs : List Value} : FrameBlind (ev_Pc b hz N xs NW D cl tys ws sz vs) := fun a U g mk q => by
  obtain ⟨q0, q1, qX, qK, qP⟩ := q
  exact ⟨q0, q1, ev_X_calling qX hNW, va_K.moved (u := U) (U := U.calling g mk a) (Vm.Alike.refl U.vm) qK, qP⟩
/-- the rest of a call, whatever its kind -/
theorem ev_call_ok {f d : Nat} (hok : ev_ok PR MT cl df Ts NW) (IH : ev_snd l b hz N xs PR MT D cl df Ts NW sc f) {j : Nat} {U : ev_M} (hj : PR[j]? = some U) {y : MethodName} {cc : ByteArray} {nL : Nat} {ret : Option FieldType} {nn : Nat} (hm : MT[j]? = some (y, cc, nL, ret)) (hcal : ev_cal Ts y cc nL ret nn)
    {bN : Nat} {st : List ev_V} {h : ev_H} {r : ev_R} (hr : ev_run PR df sc ev_hl f d U 100000 0 (ev_args 0 (st.take bN).reverse) [] h 0 0 = some r) (hr3 : r.1 ≤ 3) (hwd : ev_wd (st.take bN).reverse ≤ nL)
    {p : Program} {e : Env} {R : Room} {s : State} {m : MethodId} {args : Array Value} {below : List Frame} {meth : Method} {c : Code} {Q : State → Prop} {A : Nat → Prop} {L0 : List Nat} {nL0 cells slots pc : Nat} {ls : ev_L} (hX : ev_X b hz N xs NW A s s.heap) (hA : ∀ q, s.heap.size ≤ q → A q)
    (kk : ev_K p l e R s m args below meth c Q b hz D cl A L0 nL0 (cells + r.2.2.2.2.2.1) (slots + r.2.2.2.2.2.2) (pc + 3) ls (r.2.2.2.1 ++ st.drop bN) r.2.2.2.2.1)
    (call : ∀ (H : Heap) (locs : List Loc) (lsC : Array Slot) (stC : List Value) (tys : List (ClassId × FieldType)) (ws : va_W), va_K D cl tys s → va_P D cl ws H → ev_wrel b hz tys (ws.map Prod.fst) h ws → ev_all (ev_rel b hz (ws.map Prod.fst)) st stC → lsC.size = nL0 →
      Met l y (Cond.code y cc nL ret :: Ts) { frames := d, cells := r.2.2.2.2.2.1, slots := r.2.2.2.2.2.2, locals := 40 * d } (ev_Pc b hz N xs NW D cl tys ws H.size (stC.take bN).reverse) (ev_Q b hz D cl ws H.size r.2.2.2.1 r.2.2.2.2.1) r.2.2.2.2.2.1 r.2.2.2.2.2.2 (va_A ws H.size) →
      (∀ U : State, U.heap = H → s.WarmedH U.vm → ev_Pc b hz N xs NW D cl tys ws H.size (stC.take bN).reverse (stC.take bN).reverse.toArray U) →
      va_Run p l e R s m args below meth c H locs cells slots r.2.2.2.2.2.1 r.2.2.2.2.2.2 (F0 m pc lsC stC) (stC.drop bN) (ev_Q b hz D cl ws H.size r.2.2.2.1 r.2.2.2.2.1 (stC.take bN).reverse.toArray) (va_A ws H.size)) :
    ev_K p l e R s m args below meth c Q b hz D cl A L0 nL0 cells slots pc ls st h := by
  intro H locs lsC stC hSt
  obtain ⟨tys, ws, lv, t, hK, hP, hD, hS, hL0, hw, hst, hl, hlr⟩ := hSt
  have hA1 : ∀ q, va_A ws H.size q → A q := fun q hq => by
    rcases hq with ⟨k, e', h1⟩ | h1
    · exact hD.2 k (q, e') h1
    · exact hA q (Nat.le_trans hS.1 h1)
  have hM := ev_met (tys := tys) (ws := ws) (sz := H.size) hok IH hj hm hcal hr hr3 hwd hw (ev_all_rev (ev_all_take hst bN)) hD.self
  have hpre : ∀ U : State, U.heap = H → s.WarmedH U.vm → ev_Pc b hz N xs NW D cl tys ws H.size (stC.take bN).reverse (stC.take bN).reverse.toArray U := fun U hU hW =>
    ⟨rfl, by rw [hU], ev_X_go hX hok.2.1 hS hA1 hU hW, va_K.moved hW.alike hK, by rw [hU]; exact hP⟩
  refine ev_callQ (call H locs lsC stC tys ws hK hP hw hst hl.1 hM hpre) hS hA1 hA1 (fun vo u H1 locs1 ht hvm hwd1 hS1 => ?_)
  obtain ⟨tys', ws', tl, g1, g2, g3, g4, g5, g6⟩ := hwd1
  refine kk H1 locs1 lsC _ ⟨tys', ws', lv, t ++ tl, va_K.moved hvm.symm g4, by rw [← ht]; exact g5, g6.weaken (fun _ q _ h => hA1 _ h), hS1, ?_, g3, ?_, hl, ?_⟩
  · rw [g1, hL0, List.append_assoc]
  · refine ev_all_app g2 ?_
    rw [g1]
    exact ev_all_mono (fun _ _ hq => ev_rel_mono hq) (ev_all_drop hst bN)
  · rw [g1]
    exact ev_all_mono (fun _ _ hq => ⟨hq.1, ev_rel_mono hq.2⟩) hlr
theorem ev_rcv_ok {ci bN : Nat} {st : List ev_V} {h : ev_H} (hrc : ev_rcv ci (st.take bN).reverse h = true) : ∃ (n : Nat) (as : List ev_V) (fs : List ev_V), (st.take bN).reverse = .inr (.inr (n + 4)) :: as ∧ h[n]? = some (.inr (ci, fs)) := by
  unfold ev_rcv at hrc
  split at hrc
  · rename_i n as heq
    split at hrc
    · rename_i o ho
      rw [ev_at_eq] at ho
      exact ⟨n, as, o.2, heq, by rw [ho, ← Nat.eq_of_beq_eq_true hrc]⟩
    · cases hrc
  · cases hrc
theorem ev_split {bN : Nat} {stC : List Value} {v : Value} {As : List Value} (h : (stC.take bN).reverse = v :: As) : stC = As.reverse ++ v :: stC.drop bN := by
  have h1 : stC.take bN = As.reverse ++ [v] := by
    rw [← List.reverse_reverse (stC.take bN), h, List.reverse_cons]
  conv => lhs; rw [← List.take_append_drop bN stC, h1]
  rw [List.append_assoc]; rfl
theorem ev_lib_ok {p : Program} {e : Env} {R : Room} {s : State} {m : MethodId} {args : Array Value} {below : List Frame} {meth : Method} {c : Code} {Q : State → Prop} {A : Nat → Prop} {L0 : List Nat} {nL cells slots d : Nat} {cc : ByteArray} {own nm : String} {ls : ev_L} {st : List ev_V} {h : ev_H} {ret : Option FieldType} (cx : ev_cx p R s m args meth c cc own nm nL (d + 1) Ts) {q : ev_I} {w : Nat} (hk : q.2.2.1 = w + 7) (hlc : ev_lc MT cl Ts NW own ret q) (hdg : decode cc q.1 = .ok q.2.1)
    {x : Nat × ev_L × List ev_V × Option ev_H × Nat × Nat} (h1 : ev_lib (w + 7) q ls st h = some x) (hcs : cells + x.2.2.2.2.1 ≤ R.cells) (hss : slots + x.2.2.2.2.2 ≤ R.slots) (kk : ev_K p l e R s m args below meth c Q b hz D cl A L0 nL (cells + x.2.2.2.2.1) (slots + x.2.2.2.2.2) x.1 x.2.1 x.2.2.1 (x.2.2.2.1.getD h)) : ev_K p l e R s m args below meth c Q b hz D cl A L0 nL cells slots q.1 ls st h := by
  obtain ⟨hx, hb, hml, hown, hts, hnm, hfr, hlo⟩ := cx
  unfold ev_lib at h1
  unfold ev_lc at hlc
  split at h1
  · rename_i e1
    rw [hk, e1] at hlc
    obtain ⟨idx, b1, b2, b3, b4⟩ := hlc
    rw [b1] at hdg
    split at h1
    · obtain ⟨g1, g2⟩ := ev_bif h1
      subst g2
      exact ev_oin_ok hx hb hml hown hts b2 b3 b4 (by omega) (by omega) (Nat.le_of_ble_eq_true g1) hdg kk
    · cases h1
  · rename_i e1
    rw [hk, e1] at hlc
    obtain ⟨idx, b1, b2, b3, b4, b5⟩ := hlc
    rw [b1] at hdg
    obtain ⟨g1, h1⟩ := ev_bifO h1
    unfold ev_ii at h1
    split at h1
    · cases h1
      have := Nat.le_of_ble_eq_true g1
      simp only [List.length_cons] at this
      exact ev_max_ok hx hb hml hown hts b2 b3 b4 b5 (by omega) (by omega) (by omega) hcs hss hdg kk
    · cases h1
  · rename_i e1
    rw [hk, e1] at hlc
    obtain ⟨idx, b1, b2, b3, b4, b5⟩ := hlc
    rw [b1] at hdg
    obtain ⟨g1, h1⟩ := ev_bifO h1
    unfold ev_ii at h1
    split at h1
    · cases h1
      have := Nat.le_of_ble_eq_true g1
      simp only [List.length_cons] at this
      exact ev_min_ok hx hb hml hown hts b2 b3 b4 b5 (by omega) (by omega) (by omega) hcs hss hdg kk
    · cases h1
  · rename_i e1
    rw [hk, e1] at hlc
    obtain ⟨idx, b1, b2, b3, b4, b5⟩ := hlc
    rw [b1] at hdg
    obtain ⟨g1, h1⟩ := ev_bifO h1
    unfold ev_copy at h1
    split at h1
    · split at h1
      · rename_i w0 f w1 g i1 i2
        split at h1
        · rename_i jn jd js j1 j2 j3
          obtain ⟨g2, h1⟩ := ev_bifO h1
          rw [ev_fL_eq, ev_fL_eq] at h1
          cases h1
          rw [ev_at_eq] at i1 i2
          simp only [Bool.and_eq_true] at g2
          have := Nat.le_of_ble_eq_true g1
          simp only [List.length_cons] at this
          exact ev_copy_ok hx hb hml hown hts b2 b3 b4 b5 (by omega) (by omega) (by omega) i1 i2 j1 j2 j3 (Nat.le_of_ble_eq_true g2.1.1) (Nat.le_of_ble_eq_true g2.1.2) hdg kk
        · cases h1
      · cases h1
    · cases h1
  · cases h1
set_option maxHeartbeats 2000000 in
theorem ev_run_ok (hok : ev_ok PR MT cl df Ts NW) (hscN : sc.length = N) (hN : N ≤ 1000000) (hsc : ∀ j x, sc[j]? = some x → ∀ L, ev_rel b hz L x (.int (xs j))) (hhyp : ∀ f, ev_snd l b hz N xs PR MT D cl df Ts NW sc f → ev_hyp l b hz N xs PR MT D cl df Ts NW sc f) : ∀ f, ev_snd l b hz N xs PR MT D cl df Ts NW sc f := by
  intro f
  induction f with
  | zero => intro d T stop pc ls st h k n r e; cases e
  | succ f IH =>
    intro d T stop pc ls st h k n r e i y cc nL ret hi hm p e' R s m args below meth c Q A L0 cx hX hA hcs hss kk
    obtain ⟨hx, hb, hml, hown, hts, hnm, hfr, hlo⟩ := id cx
    obtain ⟨y', cc', nL', ret', hm', hall⟩ := hok.2.2 i T hi
    rw [hm] at hm'
    cases hm'
    rcases ev_run_inv e with g | ⟨q, ⟨ck, hck, hq⟩, hpc, ⟨hk0, x, g1, g⟩ | ⟨-, -, g⟩ | ⟨hk6, d', hd, a1, a2, a3, a31, a4, a5, U, r', a6, a7, a8, a9, a10, g⟩ | ⟨hkk, d', hd, a1, a2, a3, a4, U, r', a5, a6, a7, g⟩ | ⟨w, d', hk7, hd, x, g1, g⟩⟩
    · subst g; exact kk
    · obtain ⟨hdg, hlk, -⟩ := hall ck hck q hq
      have hmono := ev_run_mono f g
      subst hpc
      exact ev_step_ok cx hX hA hscN hN hsc hk0 hlk hdg g1 (by omega) (by omega) (IH g hi hm cx hX hA hcs hss kk)
    · subst g; exact kk
    · subst hpc hd
      have hmono := ev_run_mono f g
      exact hhyp f IH ⟨ck, hck, hq⟩ hi hm hk6 a1 a2 a3 a31 a4 a5 a6 a7 a8 a9 a10 cx hX hA (by omega) (by omega) (IH g hi hm cx hX hA hcs hss kk)
    · obtain ⟨hdg, -, hlc⟩ := hall ck hck q hq
      subst hpc hd
      have hmono := ev_run_mono f g
      have kk2 := IH g hi hm cx hX hA hcs hss kk
      have cw : ∀ (nL' : Nat), nL' ≤ 20 → d' + 1 ≤ R.frames ∧ 8 + (nL' + 11) + 40 * d' ≤ R.locals := fun nL' h20 => ⟨hfr, by omega⟩
      unfold ev_lc at hlc
      rcases hkk with hkk | hkk | hkk | hkk
      · rw [hkk] at hlc
        obtain ⟨idx, y', cc', nL', rt, nn, T', N', b1, b2, b3, b4, b5, b6, b7, b8, b9⟩ := hlc
        rw [b1] at hdg
        obtain ⟨n0, as, fs, c1, c2⟩ := ev_rcv_ok (a3 (by omega))
        refine ev_call_ok (bN := q.2.2.2.2.1) hok IH a5 b2 b3 a6 a7 (by rw [← b5]; exact a4) hX hA kk2 ?_
        intro H locs lsC stC tys ws hK hP hw hst hsz hM hpre
        obtain ⟨hcode, hini, hpl, hnh, h20, hdesc⟩ := b3
        have hargs := ev_all_rev (ev_all_take hst q.2.2.2.2.1)
        have hlen := ev_all_len hargs
        rw [a1] at hlen
        rw [c1] at hargs
        obtain ⟨v, As, c3, ⟨a, c4, c5⟩, c6⟩ := ev_all_cons hargs
        subst c5
        have hsplit := ev_split c3
        rw [c3] at hM hpre hlen ⊢
        rw [List.length_cons, b4] at hlen
        have hsum := ev_sum (ev_all_drop hst q.2.2.2.2.1)
        obtain ⟨e0, c7, vs, c8, c9⟩ := ev_wat hw c2 rfl c4
        subst c8
        exact va_runV (As := As) (rest := stC.drop q.2.2.2.2.1) ⟨hx, hb, hml, hown, hts⟩ hM (cwV nn hts (ev_goodin hok.1 (fun w hw => by
            rcases List.mem_append.mp hw with h | h
            · simp only [List.mem_cons, List.not_mem_nil, or_false] at h
              rcases h with rfl | rfl | rfl | rfl
              · exact b6
              · exact b7
              · exact b8
              · exact hini
            · rcases List.mem_cons.mp h with rfl | h
              · exact hcode
              · exact h)) rfl rfl rfl ⟨rfl, hnh.1, hnh.2, hdesc⟩ (cw nL' h20)) ⟨ev_blind hok.2.1, va_recv hK hP b9 c7, hpre⟩ rfl (by omega) hsz hsplit (lv_room (by omega)) hdg ⟨by omega, by omega⟩
      · rw [hkk] at hlc
        obtain ⟨idx, y', cc', nL', nn, b1, b2, b3, b4, b5, b6, b7, b8⟩ := hlc
        rw [b1] at hdg
        obtain ⟨n0, as, fs, c1, c2⟩ := ev_rcv_ok (a3 (by omega))
        refine ev_call_ok (bN := q.2.2.2.2.1) hok IH a5 b2 b3 a6 a7 (by rw [← b5]; exact a4) hX hA kk2 ?_
        intro H locs lsC stC tys ws hK hP hw hst hsz hM hpre
        obtain ⟨hcode, hini, hpl, hnh, h20, hdesc⟩ := b3
        have hargs := ev_all_rev (ev_all_take hst q.2.2.2.2.1)
        have hlen := ev_all_len hargs
        rw [a1] at hlen
        rw [c1] at hargs
        obtain ⟨v, As, c3, ⟨a, c4, c5⟩, c6⟩ := ev_all_cons hargs
        subst c5
        have hsplit := ev_split c3
        rw [c3] at hM hpre hlen ⊢
        rw [List.length_cons, b4] at hlen
        have hsum := ev_sum (ev_all_drop hst q.2.2.2.2.1)
        exact va_runI (As := As) (rest := stC.drop q.2.2.2.2.1) ⟨hx, hb, hml, hown, hts⟩ hM (cwI nn hts (ev_goodin hok.1 (fun w hw => by
            rcases List.mem_cons.mp hw with rfl | h
            · exact hcode
            · exact h)) rfl rfl rfl (hts _ hini) (hts _ b6) (hts _ b7) b8 ⟨hnh.1, hnh.2, hdesc⟩ (cw nL' h20)) ⟨ev_blind hok.2.1, hpre⟩ rfl (by omega) hsz hsplit (lv_room (by omega)) hdg ⟨by omega, by omega⟩
      · rw [hkk] at hlc
        obtain ⟨idx, y', cc', nL', nn, host, b1, b2, b3, b4, b5, b6, b7, b8⟩ := hlc
        rw [b1] at hdg
        obtain ⟨n0, as, fs, c1, c2⟩ := ev_rcv_ok (a3 (by omega))
        refine ev_call_ok (bN := q.2.2.2.2.1) hok IH a5 b2 b3 a6 a7 (by rw [← b5]; exact a4) hX hA kk2 ?_
        intro H locs lsC stC tys ws hK hP hw hst hsz hM hpre
        obtain ⟨hcode, hini, hpl, hnh, h20, hdesc⟩ := b3
        have hargs := ev_all_rev (ev_all_take hst q.2.2.2.2.1)
        have hlen := ev_all_len hargs
        rw [a1] at hlen
        rw [c1] at hargs
        obtain ⟨v, As, c3, ⟨a, c4, c5⟩, c6⟩ := ev_all_cons hargs
        subst c5
        have hsplit := ev_split c3
        rw [c3] at hM hpre hlen ⊢
        rw [List.length_cons, b4] at hlen
        have hsum := ev_sum (ev_all_drop hst q.2.2.2.2.1)
        exact va_runIN (As := As) (rest := stC.drop q.2.2.2.2.1) ⟨hx, hb, hml, hown, hts⟩ hM ⟨va_cnB nn hts (ev_goodin hok.1 (fun w hw => by
            rcases List.mem_cons.mp hw with rfl | h
            · exact hcode
            · exact h)) rfl rfl rfl (hX.2.2.2.2.2.1 _ b6) (hts _ hini) ⟨hnh.1, hnh.2, hdesc⟩ (cw nL' h20), b8, hts _ b7⟩ ⟨ev_blind hok.2.1, hpre⟩ rfl (by omega) hsz hsplit (lv_room (by omega)) hdg ⟨by omega, by omega⟩
      · rw [hkk] at hlc
        obtain ⟨idx, y', cc', nL', rt, nn, b1, b2, b3, b4, b5, b6, b7⟩ := hlc
        rw [b1] at hdg
        refine ev_call_ok (bN := q.2.2.2.2.1) hok IH a5 b2 b3 a6 a7 (by rw [← b5]; exact a4) hX hA kk2 ?_
        intro H locs lsC stC tys ws hK hP hw hst hsz hM hpre
        obtain ⟨hcode, hini, hpl, hnh, h20, hdesc⟩ := b3
        have hargs := ev_all_rev (ev_all_take hst q.2.2.2.2.1)
        have hlen := ev_all_len hargs
        rw [a1, b4] at hlen
        have hsum := ev_sum (ev_all_drop hst q.2.2.2.2.1)
        exact va_runS (As := (stC.take q.2.2.2.2.1).reverse) (rest := stC.drop q.2.2.2.2.1) ⟨hx, hb, hml, hown, hts⟩ hM (va_cwS nn hts (ev_goodin hok.1 (fun w hw => by
            rcases List.mem_append.mp hw with h | h
            · simp only [List.mem_cons, List.not_mem_nil, or_false] at h
              rcases h with rfl | rfl | rfl
              · exact b6
              · exact b7
              · exact hini
            · rcases List.mem_cons.mp h with rfl | h
              · exact hcode
              · exact h)) rfl rfl rfl ⟨hnh.1, hnh.2, hdesc⟩ (cw nL' h20)) ⟨ev_blind hok.2.1, hpre⟩ rfl (by rw [b4]; exact hlen.symm) hsz (by rw [List.reverse_reverse, List.take_append_drop]) (lv_room (by omega)) hdg ⟨by omega, by omega⟩
    · obtain ⟨hdg, -, hlc⟩ := hall ck hck q hq
      subst hpc hd
      have hmono := ev_run_mono f g
      have kk2 := IH g hi hm cx hX hA hcs hss kk
      exact ev_lib_ok cx hk7 hlc hdg g1 (by omega) (by omega) kk2
end EVN
