section EVH2
variable {l : Launch} {b hz N : Nat} {xs : Nat → Int32} {D : va_G} {sc : List ev_V}
set_option maxHeartbeats 2000000 in
theorem eh_hyp (hl : l.stackTraces = false) (f : Nat) (IH : ev_snd l b hz N xs et_PR et_MT D et_cl et_df et_Ts et_NW sc f) : ev_hyp l b hz N xs et_PR et_MT D et_cl et_df et_Ts et_NW sc f := by
  intro d' T q ls st h k n i y cc nL ret U r' hq hi hm hk6 a1 a2 a3 a31 a4 a5 a6 a7 a8 a9 a10 p e R s m args below meth c Q A L0 cx hX hA hcs hss kk
  obtain ⟨hi136, hqq⟩ := eh_k6 hi hq hk6
  subst hi136
  have hm2 : some (y, cc, nL, ret) = some (x, code, 8, some .boolean) := hm.symm.trans rfl
  cases hm2
  obtain ⟨hx, hb, hml, hown, hts, hnm, hfr, hlo⟩ := cx
  obtain ⟨ck, hck, hqc⟩ := hq
  have hT : T = et_136 := Option.some.inj (hi.symm.trans rfl)
  subst hT
  have hdg := ed_136 ck hck q hqc
  rcases hqq with rfl | rfl
  · obtain ⟨n0, r0, r1, n9, e1⟩ := eh_t4 a31 a1
    obtain ⟨n', as', fs, e2, e3⟩ := ev_rcv_ok a3
    rw [e1] at e2 a7
    cases e2
    intro H locs lsC stC hSt
    obtain ⟨tys, ws, lv, t, hK, hP, hD, hS, hL0, hw, hst, hlv, hlr⟩ := hSt
    have hA1 : ∀ q, va_A ws H.size q → A q := fun q hq => by
      rcases hq with ⟨k, e', h1⟩ | h1
      · exact hD.2 k (q, e') h1
      · exact hA q (Nat.le_trans hS.1 h1)
    have hU : U = et_9 := Option.some.inj (a6.symm.trans rfl)
    subst hU
    have has := ev_all_rev (ev_all_take hst 4)
    have e1' : (st.take 4).reverse = _ := e1
    have hlen := ev_all_len has
    rw [e1'] at has hlen
    have hM := eh_hD (tys := tys) (ws := ws) (sz := H.size) hl IH a7 a8 a9 a10 e3 hw has hD.self
    have hsum := ev_sum (ev_all_drop hst 4)
    have hsum2 : ((stC.drop 4).map fun v => v.category).sum ≤ 8 := by
      have : (st.drop 4).length ≤ 4 := a2
      omega
    have hpre : ∀ U : State, U.heap = H → s.WarmedH U.vm → ev_Pc b hz N xs et_NW D et_cl tys ws H.size (stC.take 4).reverse (stC.take 4).reverse.toArray U := fun U hU hW =>
      ⟨rfl, by rw [hU], ev_X_go hX et_NWok hS hA1 hU hW, va_K.moved hW.alike hK, by rw [hU]; exact hP⟩
    refine vx_calli (vx_runSX (As := (stC.take 4).reverse) (rest := stC.drop 4) ⟨hx, hb, hml, hown, hts⟩ hM (vx_cwSW 4 hts (ev_goodin et_goodW (fun w hw => by
          rcases List.mem_append.mp hw with h | h
          · simp only [List.mem_cons, List.not_mem_nil, or_false] at h
            rcases h with rfl | rfl | rfl
            · exact ml_L_46
            · exact sm_TypeLevelsLaw_definition__LTypeLevels_II_J_I
            · exact in_TypeLevelsLaw
          · rcases List.mem_cons.mp h with rfl | h
            · exact cw_D
            · exact h)) rfl rfl rfl (by decide +kernel) ⟨by show 11 + 1 ≤ R.frames; omega, by show 8 + (5 + 11) + 440 ≤ R.locals; omega⟩) ⟨ev_blind et_NWok, hpre⟩ rfl (by rw [← hlen]; rfl) hlv.1 (by rw [List.reverse_reverse, List.take_append_drop]) (lv_room hsum2) hdg ⟨hcs, hss⟩) hS (fun _ _ h => hA1 _ h) hA1 (fun _ _ h => hA1 _ h) (fun E ce q9 u t H1 locs1 ht hvm hp => hp.elim) ?_
    intro v u t' H1 locs1 ht hvm hv hWd hsz1 hk1 hS1
    subst hv
    obtain ⟨tys', ws', tl, g1, g2, g3, g4, g5, g6⟩ := hWd
    refine kk H1 locs1 lsC _ ⟨tys', ws', lv, t ++ tl, va_K.moved hvm.symm g4, by rw [← ht]; exact g5, g6.weaken (fun _ q _ h => hA1 _ h), hS1, ?_, g3, ⟨⟨1, rfl, by decide, by decide⟩, ?_⟩, hlv, ?_⟩
    · rw [g1, hL0, List.append_assoc]
    · rw [g1]
      exact ev_all_mono (fun _ _ hq => ev_rel_mono hq) (ev_all_drop hst 4)
    · rw [g1]
      exact ev_all_mono (fun _ _ hq => ⟨hq.1, ev_rel_mono hq.2⟩) hlr
  · obtain ⟨n0, r0, n9, e1⟩ := eh_t3 a31 a1
    obtain ⟨n', as', fs, e2, e3⟩ := ev_rcv_ok a3
    rw [e1] at e2 a7
    cases e2
    intro H locs lsC stC hSt
    obtain ⟨tys, ws, lv, t, hK, hP, hD, hS, hL0, hw, hst, hlv, hlr⟩ := hSt
    have hA1 : ∀ q, va_A ws H.size q → A q := fun q hq => by
      rcases hq with ⟨k, e', h1⟩ | h1
      · exact hD.2 k (q, e') h1
      · exact hA q (Nat.le_trans hS.1 h1)
    have hU : U = et_27 := Option.some.inj (a6.symm.trans rfl)
    subst hU
    have has := ev_all_rev (ev_all_take hst 3)
    have e1' : (st.take 3).reverse = _ := e1
    have hlen := ev_all_len has
    rw [e1'] at has hlen
    have hM := eh_hR (tys := tys) (ws := ws) (sz := H.size) hl IH a7 a8 a9 a10 e3 hw has hD.self
    have hsum := ev_sum (ev_all_drop hst 3)
    have hsum2 : ((stC.drop 3).map fun v => v.category).sum ≤ 8 := by
      have : (st.drop 3).length ≤ 4 := a2
      omega
    have hpre : ∀ U : State, U.heap = H → s.WarmedH U.vm → ev_Pc b hz N xs et_NW D et_cl tys ws H.size (stC.take 3).reverse (stC.take 3).reverse.toArray U := fun U hU hW =>
      ⟨rfl, by rw [hU], ev_X_go hX et_NWok hS hA1 hU hW, va_K.moved hW.alike hK, by rw [hU]; exact hP⟩
    refine vx_calli (vx_runSX (As := (stC.take 3).reverse) (rest := stC.drop 3) ⟨hx, hb, hml, hown, hts⟩ hM (vx_cwSW 3 hts (ev_goodin et_goodW (fun w hw => by
          rcases List.mem_append.mp hw with h | h
          · simp only [List.mem_cons, List.not_mem_nil, or_false] at h
            rcases h with rfl | rfl | rfl
            · exact ml_L_143
            · exact sm_TypeLevelsLaw_row__LTypeLevels_I_J_I
            · exact in_TypeLevelsLaw
          · rcases List.mem_cons.mp h with rfl | h
            · exact cw_R
            · exact h)) rfl rfl rfl (by decide +kernel) ⟨by show 11 + 1 ≤ R.frames; omega, by show 8 + (4 + 11) + 440 ≤ R.locals; omega⟩) ⟨ev_blind et_NWok, hpre⟩ rfl (by rw [← hlen]; rfl) hlv.1 (by rw [List.reverse_reverse, List.take_append_drop]) (lv_room hsum2) hdg ⟨hcs, hss⟩) hS (fun _ _ h => hA1 _ h) hA1 (fun _ _ h => hA1 _ h) (fun E ce q9 u t H1 locs1 ht hvm hp => hp.elim) ?_
    intro v u t' H1 locs1 ht hvm hv hWd hsz1 hk1 hS1
    subst hv
    obtain ⟨tys', ws', tl, g1, g2, g3, g4, g5, g6⟩ := hWd
    refine kk H1 locs1 lsC _ ⟨tys', ws', lv, t ++ tl, va_K.moved hvm.symm g4, by rw [← ht]; exact g5, g6.weaken (fun _ q _ h => hA1 _ h), hS1, ?_, g3, ⟨⟨1, rfl, by decide, by decide⟩, ?_⟩, hlv, ?_⟩
    · rw [g1, hL0, List.append_assoc]
    · rw [g1]
      exact ev_all_mono (fun _ _ hq => ev_rel_mono hq) (ev_all_drop hst 3)
    · rw [g1]
      exact ev_all_mono (fun _ _ hq => ⟨hq.1, ev_rel_mono hq.2⟩) hlr
end EVH2
