/-! ===== what lies outside the world and stays ===== -/
section EVX
/-- a word on the tables that a warmer table keeps -/
def ev_wm (w : Cond) : Prop := w.onTables = true ∧ ∀ s U : State, s.WarmedH U.vm → va_Nw w s → va_Nw w U
def ev_X (b hz N : Nat) (xs : Nat → Int32) (NW : List Cond) (A : Nat → Prop) (s : State) (H : Heap) : Prop :=
  va_Z "TypeLevels$Heard" "HIGHEST" "[I" (.ref hz) A s H ∧ va_T .int hz 5 ev_hv A s H ∧ va_X b N xs s H ∧ b < H.size ∧ ¬ A b ∧ (∀ w ∈ NW, va_Nw w s) ∧
  vx_Zq Jvm.Bundle.tN "UNASSIGNED_STACK" Jvm.Bundle.steD A s H ∧ vx_Zq Jvm.Bundle.tN "SUPPRESSED_SENTINEL" Jvm.Bundle.listD A s H ∧
  (∃ sa, vk_R "TypeLevels" 158 "no such definition, or nothing such of it" sa s) ∧ ∃ sa, vk_R "TypeLevels" 315 "the row has no such number" sa s
theorem ev_Nw_warm {w : Cond} (h1 : w.onTables = true) (h2 : w.warmB w.codeNames = true) {s U : State} (hW : s.WarmedH U.vm) (h : va_Nw w s) : va_Nw w U :=
  va_tabs h1 (rfl : (s.setVm U.vm).vm = U.vm) (Cond.pre_warmed (args := #[]) hW h2 h)
theorem ev_X_go {b hz N : Nat} {xs : Nat → Int32} {NW : List Cond} {A B : Nat → Prop} {s U : State} {H : Heap} {locs : List Loc} (hX : ev_X b hz N xs NW A s s.heap) (hNW : ∀ w ∈ NW, ev_wm w) (hS : va_S A s.heap H locs) (hAB : ∀ q, B q → A q) (hU : U.heap = H) (hW : s.WarmedH U.vm) : ev_X b hz N xs NW B U U.heap := by
  obtain ⟨h1, h2, h3, h4, h5, h6, h7, h8, ⟨sa, h9⟩, ⟨sb, h10⟩⟩ := hX
  rw [hU]
  exact ⟨va_Z.moved hW.alike (va_Z.narrow (va_Z.kept h1 hS.2.1) hAB), va_T.moved hW.alike (va_T.narrow (va_T.kept h2 hS.2.1) hAB), va_X.moved hW.alike (va_X.kept h3 (hS.2.1 b h4 h5)), Nat.lt_of_lt_of_le h4 hS.1, fun q => h5 (hAB b q),
    fun w hw => (hNW w hw).2 s U hW (h6 w hw), vx_Zq.moved hW.alike (vx_Zq.narrow (vx_Zq.kept h7 hS.2.1) hAB), vx_Zq.moved hW.alike (vx_Zq.narrow (vx_Zq.kept h8 hS.2.1) hAB), ⟨sa, vk_R.warm hW h9⟩, ⟨sb, vk_R.warm hW h10⟩⟩
theorem ev_X_calling {b hz N : Nat} {xs : Nat → Int32} {NW : List Cond} {A : Nat → Prop} {U : State} {g : JFrame} {mk : MethodId} {a : Array Value} (hX : ev_X b hz N xs NW A U U.heap) (hNW : ∀ w ∈ NW, ev_wm w) : ev_X b hz N xs NW A (U.calling g mk a) (U.calling g mk a).heap := by
  obtain ⟨h1, h2, h3, h4, h5, h6, h7, h8, ⟨sa, h9⟩, ⟨sb, h10⟩⟩ := hX
  have hr : U.vm.Alike (U.calling g mk a).vm := Vm.Alike.refl U.vm
  exact ⟨va_Z.moved hr h1, va_T.moved hr h2, va_X.moved hr h3, h4, h5, fun w hw => va_Nw.same (u := U) (U := U.calling g mk a) (hNW w hw).1 rfl (h6 w hw), vx_Zq.moved hr h7, vx_Zq.moved hr h8, ⟨sa, vk_R.same (u := U) (U := U.calling g mk a) rfl h9⟩, ⟨sb, vk_R.same (u := U) (U := U.calling g mk a) rfl h10⟩⟩
end EVX
