/-! ===== a run of the interpreter, taken apart ===== -/
section EVW
abbrev ev_hl : List Int := [5, 24, 9, 1, 9]
def ev_callI (PR : List ev_M) (run : ev_F) (d : Nat) (T : ev_M) (stop : Nat) (q : ev_I) (pc : Nat) (ls : ev_L) (st : List ev_V) (h : ev_H) (k n : Nat) (r : ev_R) : Prop :=
  ∃ d', d = d' + 1 ∧ (st.take q.2.2.2.2.1).reverse.length = q.2.2.2.2.1 ∧ (st.drop q.2.2.2.2.1).length ≤ 4 ∧ (¬ q.2.2.1 = 5 → ev_rcv (q.2.2.2.2.2.toNat % 100) (st.take q.2.2.2.2.1).reverse h = true) ∧ ev_wd (st.take q.2.2.2.2.1).reverse ≤ q.2.2.2.2.2.toNat / 100 ∧
    ∃ (U : ev_M) (r' : ev_R), PR[q.2.2.2.1]? = some U ∧ run d' U 100000 0 (ev_args 0 (st.take q.2.2.2.2.1).reverse) [] h 0 0 = some r' ∧ r'.1 ≤ 3 ∧
      run (d' + 1) T stop (pc + 3) ls (r'.2.2.2.1 ++ st.drop q.2.2.2.2.1) r'.2.2.2.2.1 (k + r'.2.2.2.2.2.1) (n + r'.2.2.2.2.2.2) = some r
def ev_helpI (PR : List ev_M) (run : ev_F) (d : Nat) (T : ev_M) (stop : Nat) (q : ev_I) (pc : Nat) (ls : ev_L) (st : List ev_V) (h : ev_H) (k n : Nat) (r : ev_R) : Prop :=
  ∃ d', d = d' + 12 ∧ (st.take q.2.2.2.2.1).reverse.length = q.2.2.2.2.1 ∧ (st.drop q.2.2.2.2.1).length ≤ 4 ∧ ev_rcv 10 (st.take q.2.2.2.2.1).reverse h = true ∧ ev_hty (st.take q.2.2.2.2.1).reverse = true ∧ ev_wd (st.take q.2.2.2.2.1).reverse ≤ q.2.2.2.2.2.toNat / 100 ∧ ev_wd (st.take q.2.2.2.2.1).reverse.dropLast ≤ q.2.2.2.2.2.toNat % 100 ∧
    ∃ (U : ev_M) (r' : ev_R), PR[q.2.2.2.1]? = some U ∧ run 1 U 100000 0 (ev_args 0 (st.take q.2.2.2.2.1).reverse.dropLast) [] h 0 0 = some r' ∧ r'.1 = 5 ∧ r'.2.2.2.2.2.1 = 0 ∧ r'.2.2.2.2.2.2 = 0 ∧
      run (d' + 12) T stop (pc + 3) ls (.inl (1, 1) :: st.drop q.2.2.2.2.1) r'.2.2.2.2.1 (k + 40) (n + 400) = some r
def ev_goI (run : ev_F) (d : Nat) (T : ev_M) (stop : Nat) (h : ev_H) (k n : Nat) (o : ev_O) (r : ev_R) : Prop :=
  ∃ x, o = some x ∧ run d T stop x.1 x.2.1 x.2.2.1 (x.2.2.2.1.getD h) (k + x.2.2.2.2.1) (n + x.2.2.2.2.2) = some r
theorem ev_go_inv {run : ev_F} {d : Nat} {T : ev_M} {stop : Nat} {h : ev_H} {k n : Nat} {o : ev_O} {r : ev_R} (e : ev_go run d T stop h k n o = some r) : ev_goI run d T stop h k n o r := by
  unfold ev_go at e
  split at e
  · cases e
  · rename_i x
    rw [ev_fN_eq, ev_fS_eq, ev_fN_eq, ev_fN_eq] at e
    split at e
    · rename_i hx
      exact ⟨x, rfl, by rw [hx]; exact e⟩
    · rename_i h' hx
      exact ⟨x, rfl, by rw [hx]; exact e⟩
theorem ev_call_inv {PR : List ev_M} {run : ev_F} {d : Nat} {T : ev_M} {stop : Nat} {q : ev_I} {ls : ev_L} {st : List ev_V} {h : ev_H} {k n : Nat} {r : ev_R} (e : ev_call PR run d T stop q ls st h k n = some r) : ev_callI PR run d T stop q q.1 ls st h k n r := by
  unfold ev_call at e
  split at e
  · cases e
  · rename_i d'
    rw [ev_fL_eq, ev_fL_eq] at e
    obtain ⟨g, e⟩ := ev_bifO e
    simp only [Bool.and_eq_true, Bool.or_eq_true] at g
    split at e
    · cases e
    · rename_i U hU
      rw [ev_fL_eq] at e
      split at e
      · cases e
      · rename_i r' hr
        obtain ⟨g2, e⟩ := ev_bifO e
        rw [ev_fN_eq, ev_fN_eq, ev_fN_eq, ev_fS_eq] at e
        rw [ev_at_eq] at hU
        refine ⟨d', rfl, Nat.eq_of_beq_eq_true g.1.1.1, Nat.le_of_ble_eq_true g.1.1.2, fun h2 => ?_, Nat.le_of_ble_eq_true g.2, U, r', hU, hr, Nat.le_of_ble_eq_true g2, e⟩
        rcases g.1.2 with g3 | g3
        · exact absurd (Nat.eq_of_beq_eq_true g3) h2
        · exact g3
theorem ev_help_inv {PR : List ev_M} {run : ev_F} {d : Nat} {T : ev_M} {stop : Nat} {q : ev_I} {ls : ev_L} {st : List ev_V} {h : ev_H} {k n : Nat} {r : ev_R} (e : ev_help PR run d T stop q ls st h k n = some r) : ev_helpI PR run d T stop q q.1 ls st h k n r := by
  unfold ev_help at e
  split at e
  · rename_i d'
    rw [ev_fL_eq, ev_fL_eq] at e
    obtain ⟨g, e⟩ := ev_bifO e
    simp only [Bool.and_eq_true] at g
    split at e
    · cases e
    · rename_i U hU
      rw [ev_fL_eq] at e
      split at e
      · cases e
      · rename_i r' hr
        obtain ⟨g2, e⟩ := ev_bifO e
        rw [ev_fN_eq, ev_fN_eq, ev_fN_eq] at e
        rw [ev_at_eq] at hU
        simp only [Bool.and_eq_true] at g2
        exact ⟨d', rfl, Nat.eq_of_beq_eq_true g.1.1.1.1.1, Nat.le_of_ble_eq_true g.1.1.1.1.2, g.1.1.1.2, g.1.1.2, Nat.le_of_ble_eq_true g.1.2, Nat.le_of_ble_eq_true g.2, U, r', hU, hr, Nat.eq_of_beq_eq_true g2.1.1, Nat.eq_of_beq_eq_true g2.1.2, Nat.eq_of_beq_eq_true g2.2, e⟩
  · cases e
/-- the instruction that was fetched -/
theorem ev_fetch_inv {T : ev_M} {pc : Nat} {q : ev_I} (e : ev_fetch T pc = some q) : (∃ ck ∈ T, q ∈ ck) ∧ q.1 = pc := by
  unfold ev_fetch at e
  split at e
  · cases e
  · rename_i ck hc
    rw [ev_at_eq] at hc
    exact ⟨⟨ck, List.mem_of_getElem? hc, List.mem_of_find?_eq_some e⟩, Nat.eq_of_beq_eq_true (show Nat.beq q.1 pc = true from List.find?_some (p := fun q : ev_I => Nat.beq q.1 pc) e)⟩
theorem ev_run_inv {PR : List ev_M} {df : List (List ev_V)} {sc : List ev_V} {f d : Nat} {T : ev_M} {stop pc : Nat} {ls : ev_L} {st : List ev_V} {h : ev_H} {k n : Nat} {r : ev_R} (e : ev_run PR df sc ev_hl (f + 1) d T stop pc ls st h k n = some r) :
    r = (4, pc, ls, st, h, k, n) ∨ ∃ q : ev_I, (∃ ck ∈ T, q ∈ ck) ∧ q.1 = pc ∧
      ((q.2.2.1 = 0 ∧ ev_goI (ev_run PR df sc ev_hl f) d T stop h k n (ev_step df sc ev_hl q ls st h) r) ∨
       (q.2.2.1 = 1 ∧ ev_end q.2.2.2.1 st = true ∧ r = (q.2.2.2.1, pc, ls, st, h, k, n)) ∨
       (q.2.2.1 = 6 ∧ ev_helpI PR (ev_run PR df sc ev_hl f) d T stop q pc ls st h k n r) ∨
       ((q.2.2.1 = 2 ∨ q.2.2.1 = 3 ∨ q.2.2.1 = 4 ∨ q.2.2.1 = 5) ∧ ev_callI PR (ev_run PR df sc ev_hl f) d T stop q pc ls st h k n r) ∨
       (∃ w d', q.2.2.1 = w + 7 ∧ d = d' + 1 ∧ ev_goI (ev_run PR df sc ev_hl f) (d' + 1) T stop h k n (ev_lib (w + 7) q ls st h) r)) := by
  have e : ev_body PR df sc ev_hl (ev_run PR df sc ev_hl f) d T stop pc ls st h k n = some r := e
  unfold ev_body at e
  by_cases hp : Nat.beq pc stop = true
  · rw [hp] at e
    cases e
    exact Or.inl rfl
  · rw [ev_nt hp] at e
    right
    simp only [cond_false] at e
    split at e
    · cases e
    · rename_i q hq
      obtain ⟨g1, g2⟩ := ev_fetch_inv hq
      refine ⟨q, g1, g2, ?_⟩
      subst g2
      split at e
      · rename_i hk; exact Or.inl ⟨hk, ev_go_inv e⟩
      · rename_i hk
        obtain ⟨g3, e⟩ := ev_bif e
        exact Or.inr (Or.inl ⟨hk, g3, e.symm⟩)
      · rename_i hk; exact Or.inr (Or.inr (Or.inl ⟨hk, ev_help_inv e⟩))
      · rename_i hk; exact Or.inr (Or.inr (Or.inr (Or.inl ⟨Or.inl hk, ev_call_inv e⟩)))
      · rename_i hk; exact Or.inr (Or.inr (Or.inr (Or.inl ⟨Or.inr (Or.inl hk), ev_call_inv e⟩)))
      · rename_i hk; exact Or.inr (Or.inr (Or.inr (Or.inl ⟨Or.inr (Or.inr (Or.inl hk)), ev_call_inv e⟩)))
      · rename_i hk; exact Or.inr (Or.inr (Or.inr (Or.inl ⟨Or.inr (Or.inr (Or.inr hk)), ev_call_inv e⟩)))
      · rename_i w hk
        split at e
        · cases e
        · exact Or.inr (Or.inr (Or.inr (Or.inr ⟨w, _, hk, rfl, ev_go_inv e⟩)))
/-- cells and places only grow -/
theorem ev_run_mono {PR : List ev_M} {df : List (List ev_V)} {sc : List ev_V} : ∀ (f : Nat) {d : Nat} {T : ev_M} {stop pc : Nat} {ls : ev_L} {st : List ev_V} {h : ev_H} {k n : Nat} {r : ev_R}, ev_run PR df sc ev_hl f d T stop pc ls st h k n = some r → k ≤ r.2.2.2.2.2.1 ∧ n ≤ r.2.2.2.2.2.2
  | 0, _, _, _, _, _, _, _, _, _, _, e => by cases e
  | f + 1, d, T, stop, pc, ls, st, h, k, n, r, e => by
    rcases ev_run_inv e with g | ⟨q, -, -, ⟨-, x, -, g⟩ | ⟨-, -, g⟩ | ⟨-, d', -, -, -, -, -, -, -, U, r', -, -, -, -, -, g⟩ | ⟨-, d', -, -, -, -, -, U, r', -, -, -, g⟩ | ⟨w, d', -, -, x, -, g⟩⟩
    · subst g; exact ⟨Nat.le_refl _, Nat.le_refl _⟩
    · have := ev_run_mono f g; omega
    · subst g; exact ⟨Nat.le_refl _, Nat.le_refl _⟩
    · have := ev_run_mono f g; omega
    · have := ev_run_mono f g; omega
    · have := ev_run_mono f g; omega
/-- how a run ends -/
theorem ev_run_end {PR : List ev_M} {df : List (List ev_V)} {sc : List ev_V} : ∀ (f : Nat) {d : Nat} {T : ev_M} {stop pc : Nat} {ls : ev_L} {st : List ev_V} {h : ev_H} {k n : Nat} {r : ev_R}, ev_run PR df sc ev_hl f d T stop pc ls st h k n = some r → r.1 = 4 ∨ ∃ q : ev_I, (∃ ck ∈ T, q ∈ ck) ∧ q.1 = r.2.1 ∧ q.2.2.1 = 1 ∧ q.2.2.2.1 = r.1 ∧ ev_end r.1 r.2.2.2.1 = true
  | 0, _, _, _, _, _, _, _, _, _, _, e => by cases e
  | f + 1, d, T, stop, pc, ls, st, h, k, n, r, e => by
    rcases ev_run_inv e with g | ⟨q, g1, g2, ⟨-, x, -, g⟩ | ⟨g3, g4, g⟩ | ⟨-, d', -, -, -, -, -, -, -, U, r', -, -, -, -, -, g⟩ | ⟨-, d', -, -, -, -, -, U, r', -, -, -, g⟩ | ⟨w, d', -, -, x, -, g⟩⟩
    · subst g; exact Or.inl rfl
    · exact ev_run_end f g
    · subst g; exact Or.inr ⟨q, g1, g2, g3, rfl, g4⟩
    · exact ev_run_end f g
    · exact ev_run_end f g
    · exact ev_run_end f g
end EVW
