theorem et_goodW : ∀ w ∈ et_Ts, goodWord w = true := fun w h => (List.mem_filter.mp h).2
theorem et_NWok : ∀ w ∈ et_NW, ev_wm w := ev_f1 ⟨rfl, fun s U hW h => va_Nw.warmM hW h⟩ (ev_f1 ⟨rfl, fun s U hW h => va_Nw.warmM hW h⟩ (ev_f1 ⟨rfl, fun s U hW h => va_Nw.warmM hW h⟩ (ev_f1 ⟨rfl, fun s U hW h => va_Nw.warmM hW h⟩ (ev_f1 ⟨rfl, fun s U hW h => va_Nw.warmM hW h⟩ (ev_f1 ⟨rfl, fun s U hW h => ev_Nw_warm rfl rfl hW h⟩ (ev_f1 ⟨rfl, fun s U hW h => ev_Nw_warm rfl rfl hW h⟩ (ev_f1 ⟨rfl, fun s U hW h => ev_Nw_warm rfl rfl hW h⟩ (ev_f1 ⟨rfl, fun s U hW h => ev_Nw_warm rfl rfl hW h⟩ ev_f0))))))))
theorem et_NWt : ∀ w ∈ et_NW, w ∈ tables_1 := by decide +kernel
/-- a place of a list, one by one -/
theorem ev_g0 {α β : Type} {P : α → β → Prop} : ∀ (i : Nat) (a : α), ([] : List α)[i]? = some a → ∃ b, ([] : List β)[i]? = some b ∧ P a b := fun i a h => by simp at h
theorem ev_g1 {α β : Type} {P : α → β → Prop} {x : α} {y : β} {l : List α} {m : List β} (h : P x y) (t : ∀ (i : Nat) (a : α), l[i]? = some a → ∃ b, m[i]? = some b ∧ P a b) : ∀ (i : Nat) (a : α), (x :: l)[i]? = some a → ∃ b, (y :: m)[i]? = some b ∧ P a b := fun i a e => by
  cases i with
  | zero => rw [List.getElem?_cons_zero] at e; cases e; exact ⟨y, by rw [List.getElem?_cons_zero], h⟩
  | succ i => rw [List.getElem?_cons_succ] at e; rw [List.getElem?_cons_succ]; exact t i a e
def ev_mrow (T : ev_M) (q : ev_MI) : Prop := ∀ ck ∈ T, ∀ z ∈ ck, decode q.2.1 z.1 = .ok z.2.1 ∧ ev_lk et_cl et_df et_Ts q.1.cls q.1.name q.2.2.1 z ∧ ev_lc et_MT et_cl et_Ts et_NW q.1.cls q.2.2.2 z
theorem em_0 : ev_mrow et_0 (yJ6_bitCount_0f7a4, cJ6_bitCount_0f7a4, 1, (some .int)) := fun ck h z hz => ⟨ed_0 ck h z hz, ek_0 ck h z hz⟩
theorem em_1 : ev_mrow et_1 (yX0_init, cX0_init, 3, none) := fun ck h z hz => ⟨ed_1 ck h z hz, ek_1 ck h z hz⟩
theorem em_2 : ev_mrow et_2 (yX10_applies, cX10_applies, 3, (some .int)) := fun ck h z hz => ⟨ed_2 ck h z hz, ek_2 ck h z hz⟩
theorem em_3 : ev_mrow et_3 (yX10_asks, cX10_asks, 7, (some .int)) := fun ck h z hz => ⟨ed_3 ck h z hz, ek_3 ck h z hz⟩
theorem em_4 : ev_mrow et_4 (yX10_behind, cX10_behind, 3, (some .int)) := fun ck h z hz => ⟨ed_4 ck h z hz, ek_4 ck h z hz⟩
theorem em_5 : ev_mrow et_5 (yX10_blames, cX10_blames, 6, (some .int)) := fun ck h z hz => ⟨ed_5 ck h z hz, ek_5 ck h z hz⟩
theorem em_6 : ev_mrow et_6 (yX10_comes, cX10_comes, 4, (some .int)) := fun ck h z hz => ⟨ed_6 ck h z hz, ek_6 ck h z hz⟩
theorem em_7 : ev_mrow et_7 (yX10_count, cX10_count, 2, (some .int)) := fun ck h z hz => ⟨ed_7 ck h z hz, ek_7 ck h z hz⟩
theorem em_8 : ev_mrow et_8 (yX10_defines, cX10_defines, 6, (some .int)) := fun ck h z hz => ⟨ed_8 ck h z hz, ek_8 ck h z hz⟩
theorem em_9 : ev_mrow et_9 (yX10_definition, cX10_definition, 4, (some .int)) := fun ck h z hz => ⟨ed_9 ck h z hz, ek_9 ck h z hz⟩
theorem em_10 : ev_mrow et_10 (yX10_end, cX10_end, 2, (some .boolean)) := fun ck h z hz => ⟨ed_10 ck h z hz, ek_10 ck h z hz⟩
theorem em_11 : ev_mrow et_11 (yX10_finds, cX10_finds, 6, (some .int)) := fun ck h z hz => ⟨ed_11 ck h z hz, ek_11 ck h z hz⟩
theorem em_12 : ev_mrow et_12 (yX10_fits, cX10_fits, 2, (some .int)) := fun ck h z hz => ⟨ed_12 ck h z hz, ek_12 ck h z hz⟩
theorem em_13 : ev_mrow et_13 (yX10_flips, cX10_flips, 2, (some .int)) := fun ck h z hz => ⟨ed_13 ck h z hz, ek_13 ck h z hz⟩
theorem em_14 : ev_mrow et_14 (yX10_forget, cX10_forget, 2, (some .int)) := fun ck h z hz => ⟨ed_14 ck h z hz, ek_14 ck h z hz⟩
theorem em_15 : ev_mrow et_15 (yX10_general, cX10_general, 3, (some .int)) := fun ck h z hz => ⟨ed_15 ck h z hz, ek_15 ck h z hz⟩
theorem em_16 : ev_mrow et_16 (yX10_gives, cX10_gives, 4, (some .int)) := fun ck h z hz => ⟨ed_16 ck h z hz, ek_16 ck h z hz⟩
theorem em_17 : ev_mrow et_17 (yX10_heard, cX10_heard, 3, (some .int)) := fun ck h z hz => ⟨ed_17 ck h z hz, ek_17 ck h z hz⟩
theorem em_18 : ev_mrow et_18 (yX10_hole, cX10_hole, 5, (some .int)) := fun ck h z hz => ⟨ed_18 ck h z hz, ek_18 ck h z hz⟩
theorem em_19 : ev_mrow et_19 (yX10_init, cX10_init, 1, none) := fun ck h z hz => ⟨ed_19 ck h z hz, ek_19 ck h z hz⟩
theorem em_20 : ev_mrow et_20 (yX10_largest, cX10_largest, 4, (some .int)) := fun ck h z hz => ⟨ed_20 ck h z hz, ek_20 ck h z hz⟩
theorem em_21 : ev_mrow et_21 (yX10_law, cX10_law, 5, (some .int)) := fun ck h z hz => ⟨ed_21 ck h z hz, ek_21 ck h z hz⟩
theorem em_22 : ev_mrow et_22 (yX10_modes, cX10_modes, 3, (some .int)) := fun ck h z hz => ⟨ed_22 ck h z hz, ek_22 ck h z hz⟩
theorem em_23 : ev_mrow et_23 (yX10_one, cX10_one, 5, (some .int)) := fun ck h z hz => ⟨ed_23 ck h z hz, ek_23 ck h z hz⟩
theorem em_24 : ev_mrow et_24 (yX10_parts, cX10_parts, 5, (some .int)) := fun ck h z hz => ⟨ed_24 ck h z hz, ek_24 ck h z hz⟩
theorem em_25 : ev_mrow et_25 (yX10_readDefinition, cX10_readDefinition, 2, (some .int)) := fun ck h z hz => ⟨ed_25 ck h z hz, ek_25 ck h z hz⟩
theorem em_26 : ev_mrow et_26 (yX10_readText, cX10_readText, 3, (some .int)) := fun ck h z hz => ⟨ed_26 ck h z hz, ek_26 ck h z hz⟩
theorem em_27 : ev_mrow et_27 (yX10_row, cX10_row, 2, (some .long)) := fun ck h z hz => ⟨ed_27 ck h z hz, ek_27 ck h z hz⟩
theorem em_28 : ev_mrow et_28 (yX10_scheme, cX10_scheme, 2, (some .int)) := fun ck h z hz => ⟨ed_28 ck h z hz, ek_28 ck h z hz⟩
theorem em_29 : ev_mrow et_29 (yX10_sign, cX10_sign, 3, (some .int)) := fun ck h z hz => ⟨ed_29 ck h z hz, ek_29 ck h z hz⟩
theorem em_30 : ev_mrow et_30 (yX10_sorts, cX10_sorts, 7, (some .int)) := fun ck h z hz => ⟨ed_30 ck h z hz, ek_30 ck h z hz⟩
theorem em_31 : ev_mrow et_31 (yX10_type, cX10_type, 2, (some .int)) := fun ck h z hz => ⟨ed_31 ck h z hz, ek_31 ck h z hz⟩
theorem em_32 : ev_mrow et_32 (yX10_undo, cX10_undo, 1, (some .int)) := fun ck h z hz => ⟨ed_32 ck h z hz, ek_32 ck h z hz⟩
theorem em_33 : ev_mrow et_33 (yX10_ways, cX10_ways, 5, (some .int)) := fun ck h z hz => ⟨ed_33 ck h z hz, ek_33 ck h z hz⟩
theorem em_34 : ev_mrow et_34 (yX11_applies, cX11_applies, 3, (some .int)) := fun ck h z hz => ⟨ed_34 ck h z hz, ek_34 ck h z hz⟩
theorem em_35 : ev_mrow et_35 (yX11_asks, cX11_asks, 8, (some .int)) := fun ck h z hz => ⟨ed_35 ck h z hz, ek_35 ck h z hz⟩
theorem em_36 : ev_mrow et_36 (yX11_begin, cX11_begin, 4, none) := fun ck h z hz => ⟨ed_36 ck h z hz, ek_36 ck h z hz⟩
theorem em_37 : ev_mrow et_37 (yX11_beginText, cX11_beginText, 2, none) := fun ck h z hz => ⟨ed_37 ck h z hz, ek_37 ck h z hz⟩
theorem em_38 : ev_mrow et_38 (yX11_behind, cX11_behind, 3, (some .int)) := fun ck h z hz => ⟨ed_38 ck h z hz, ek_38 ck h z hz⟩
theorem em_39 : ev_mrow et_39 (yX11_blames, cX11_blames, 5, (some .int)) := fun ck h z hz => ⟨ed_39 ck h z hz, ek_39 ck h z hz⟩
theorem em_40 : ev_mrow et_40 (yX11_comes, cX11_comes, 3, (some .int)) := fun ck h z hz => ⟨ed_40 ck h z hz, ek_40 ck h z hz⟩
theorem em_41 : ev_mrow et_41 (yX11_comparison, cX11_comparison, 2, (some .int)) := fun ck h z hz => ⟨ed_41 ck h z hz, ek_41 ck h z hz⟩
theorem em_42 : ev_mrow et_42 (yX11_count, cX11_count, 2, (some .int)) := fun ck h z hz => ⟨ed_42 ck h z hz, ek_42 ck h z hz⟩
theorem em_43 : ev_mrow et_43 (yX11_defines, cX11_defines, 6, (some .int)) := fun ck h z hz => ⟨ed_43 ck h z hz, ek_43 ck h z hz⟩
theorem em_44 : ev_mrow et_44 (yX11_definition, cX11_definition, 4, (some .int)) := fun ck h z hz => ⟨ed_44 ck h z hz, ek_44 ck h z hz⟩
theorem em_45 : ev_mrow et_45 (yX11_end, cX11_end, 2, (some .boolean)) := fun ck h z hz => ⟨ed_45 ck h z hz, ek_45 ck h z hz⟩
theorem em_46 : ev_mrow et_46 (yX11_expression, cX11_expression, 6, (some .int)) := fun ck h z hz => ⟨ed_46 ck h z hz, ek_46 ck h z hz⟩
theorem em_47 : ev_mrow et_47 (yX11_factor, cX11_factor, 4, (some .int)) := fun ck h z hz => ⟨ed_47 ck h z hz, ek_47 ck h z hz⟩
theorem em_48 : ev_mrow et_48 (yX11_fault, cX11_fault, 2, none) := fun ck h z hz => ⟨ed_48 ck h z hz, ek_48 ck h z hz⟩
theorem em_49 : ev_mrow et_49 (yX11_finds, cX11_finds, 6, (some .int)) := fun ck h z hz => ⟨ed_49 ck h z hz, ek_49 ck h z hz⟩
theorem em_50 : ev_mrow et_50 (yX11_fine, cX11_fine, 1, (some .boolean)) := fun ck h z hz => ⟨ed_50 ck h z hz, ek_50 ck h z hz⟩
theorem em_51 : ev_mrow et_51 (yX11_fits, cX11_fits, 2, (some .int)) := fun ck h z hz => ⟨ed_51 ck h z hz, ek_51 ck h z hz⟩
theorem em_52 : ev_mrow et_52 (yX11_fitting, cX11_fitting, 5, (some .int)) := fun ck h z hz => ⟨ed_52 ck h z hz, ek_52 ck h z hz⟩
theorem em_53 : ev_mrow et_53 (yX11_flips, cX11_flips, 2, (some .int)) := fun ck h z hz => ⟨ed_53 ck h z hz, ek_53 ck h z hz⟩
theorem em_54 : ev_mrow et_54 (yX11_forget, cX11_forget, 2, (some .int)) := fun ck h z hz => ⟨ed_54 ck h z hz, ek_54 ck h z hz⟩
theorem em_55 : ev_mrow et_55 (yX11_general, cX11_general, 8, (some .int)) := fun ck h z hz => ⟨ed_55 ck h z hz, ek_55 ck h z hz⟩
theorem em_56 : ev_mrow et_56 (yX11_gives, cX11_gives, 4, (some .int)) := fun ck h z hz => ⟨ed_56 ck h z hz, ek_56 ck h z hz⟩
theorem em_57 : ev_mrow et_57 (yX11_heard, cX11_heard, 3, (some .int)) := fun ck h z hz => ⟨ed_57 ck h z hz, ek_57 ck h z hz⟩
theorem em_58 : ev_mrow et_58 (yX11_here, cX11_here, 1, (some .int)) := fun ck h z hz => ⟨ed_58 ck h z hz, ek_58 ck h z hz⟩
theorem em_59 : ev_mrow et_59 (yX11_highOf, cX11_highOf, 1, (some .int)) := fun ck h z hz => ⟨ed_59 ck h z hz, ek_59 ck h z hz⟩
theorem em_60 : ev_mrow et_60 (yX11_hole, cX11_hole, 4, (some .int)) := fun ck h z hz => ⟨ed_60 ck h z hz, ek_60 ck h z hz⟩
theorem em_61 : ev_mrow et_61 (yX11_in, cX11_in, 3, (some .boolean)) := fun ck h z hz => ⟨ed_61 ck h z hz, ek_61 ck h z hz⟩
theorem em_62 : ev_mrow et_62 (yX11_init, cX11_init, 1, none) := fun ck h z hz => ⟨ed_62 ck h z hz, ek_62 ck h z hz⟩
theorem em_63 : ev_mrow et_63 (yX11_isFactor, cX11_isFactor, 2, (some .boolean)) := fun ck h z hz => ⟨ed_63 ck h z hz, ek_63 ck h z hz⟩
theorem em_64 : ev_mrow et_64 (yX11_isName, cX11_isName, 2, (some .boolean)) := fun ck h z hz => ⟨ed_64 ck h z hz, ek_64 ck h z hz⟩
theorem em_65 : ev_mrow et_65 (yX11_largest, cX11_largest, 3, (some .int)) := fun ck h z hz => ⟨ed_65 ck h z hz, ek_65 ck h z hz⟩
theorem em_66 : ev_mrow et_66 (yX11_law, cX11_law, 6, (some .int)) := fun ck h z hz => ⟨ed_66 ck h z hz, ek_66 ck h z hz⟩
theorem em_67 : ev_mrow et_67 (yX11_lost, cX11_lost, 1, (some .int)) := fun ck h z hz => ⟨ed_67 ck h z hz, ek_67 ck h z hz⟩
theorem em_68 : ev_mrow et_68 (yX11_modes, cX11_modes, 3, (some .int)) := fun ck h z hz => ⟨ed_68 ck h z hz, ek_68 ck h z hz⟩
theorem em_69 : ev_mrow et_69 (yX11_names, cX11_names, 3, (some .int)) := fun ck h z hz => ⟨ed_69 ck h z hz, ek_69 ck h z hz⟩
theorem em_70 : ev_mrow et_70 (yX11_need, cX11_need, 2, none) := fun ck h z hz => ⟨ed_70 ck h z hz, ek_70 ck h z hz⟩
theorem em_71 : ev_mrow et_71 (yX11_nodesOfAll, cX11_nodesOfAll, 3, (some .int)) := fun ck h z hz => ⟨ed_71 ck h z hz, ek_71 ck h z hz⟩
theorem em_72 : ev_mrow et_72 (yX11_one, cX11_one, 5, (some .int)) := fun ck h z hz => ⟨ed_72 ck h z hz, ek_72 ck h z hz⟩
theorem em_73 : ev_mrow et_73 (yX11_oneOf, cX11_oneOf, 3, (some .int)) := fun ck h z hz => ⟨ed_73 ck h z hz, ek_73 ck h z hz⟩
theorem em_74 : ev_mrow et_74 (yX11_parts, cX11_parts, 3, (some .int)) := fun ck h z hz => ⟨ed_74 ck h z hz, ek_74 ck h z hz⟩
theorem em_75 : ev_mrow et_75 (yX11_passes, cX11_passes, 2, (some .boolean)) := fun ck h z hz => ⟨ed_75 ck h z hz, ek_75 ck h z hz⟩
theorem em_76 : ev_mrow et_76 (yX11_readAll, cX11_readAll, 2, (some .int)) := fun ck h z hz => ⟨ed_76 ck h z hz, ek_76 ck h z hz⟩
theorem em_77 : ev_mrow et_77 (yX11_readText, cX11_readText, 3, (some .int)) := fun ck h z hz => ⟨ed_77 ck h z hz, ek_77 ck h z hz⟩
theorem em_78 : ev_mrow et_78 (yX11_remember, cX11_remember, 2, none) := fun ck h z hz => ⟨ed_78 ck h z hz, ek_78 ck h z hz⟩
theorem em_79 : ev_mrow et_79 (yX11_row, cX11_row, 2, (some .long)) := fun ck h z hz => ⟨ed_79 ck h z hz, ek_79 ck h z hz⟩
theorem em_80 : ev_mrow et_80 (yX11_scheme, cX11_scheme, 2, (some .int)) := fun ck h z hz => ⟨ed_80 ck h z hz, ek_80 ck h z hz⟩
theorem em_81 : ev_mrow et_81 (yX11_sign, cX11_sign, 3, (some .int)) := fun ck h z hz => ⟨ed_81 ck h z hz, ek_81 ck h z hz⟩
theorem em_82 : ev_mrow et_82 (yX11_slotOf, cX11_slotOf, 3, (some .int)) := fun ck h z hz => ⟨ed_82 ck h z hz, ek_82 ck h z hz⟩
theorem em_83 : ev_mrow et_83 (yX11_sorts, cX11_sorts, 9, (some .int)) := fun ck h z hz => ⟨ed_83 ck h z hz, ek_83 ck h z hz⟩
theorem em_84 : ev_mrow et_84 (yX11_sum, cX11_sum, 4, (some .int)) := fun ck h z hz => ⟨ed_84 ck h z hz, ek_84 ck h z hz⟩
theorem em_85 : ev_mrow et_85 (yX11_tell, cX11_tell, 3, none) := fun ck h z hz => ⟨ed_85 ck h z hz, ek_85 ck h z hz⟩
theorem em_86 : ev_mrow et_86 (yX11_term, cX11_term, 3, (some .int)) := fun ck h z hz => ⟨ed_86 ck h z hz, ek_86 ck h z hz⟩
theorem em_87 : ev_mrow et_87 (yX11_thrown, cX11_thrown, 1, (some .int)) := fun ck h z hz => ⟨ed_87 ck h z hz, ek_87 ck h z hz⟩
theorem em_88 : ev_mrow et_88 (yX11_type, cX11_type, 2, (some .int)) := fun ck h z hz => ⟨ed_88 ck h z hz, ek_88 ck h z hz⟩
theorem em_89 : ev_mrow et_89 (yX11_undo, cX11_undo, 2, (some .int)) := fun ck h z hz => ⟨ed_89 ck h z hz, ek_89 ck h z hz⟩
theorem em_90 : ev_mrow et_90 (yX11_wasRight, cX11_wasRight, 1, (some .boolean)) := fun ck h z hz => ⟨ed_90 ck h z hz, ek_90 ck h z hz⟩
theorem em_91 : ev_mrow et_91 (yX11_ways, cX11_ways, 5, (some .int)) := fun ck h z hz => ⟨ed_91 ck h z hz, ek_91 ck h z hz⟩
theorem em_92 : ev_mrow et_92 (yX11_weakOf, cX11_weakOf, 4, (some .int)) := fun ck h z hz => ⟨ed_92 ck h z hz, ek_92 ck h z hz⟩
theorem em_93 : ev_mrow et_93 (yX1_begin, cX1_begin, 2, none) := fun ck h z hz => ⟨ed_93 ck h z hz, ek_93 ck h z hz⟩
theorem em_94 : ev_mrow et_94 (yX1_emit, cX1_emit, 6, (some .int)) := fun ck h z hz => ⟨ed_94 ck h z hz, ek_94 ck h z hz⟩
theorem em_95 : ev_mrow et_95 (yX1_init, cX1_init, 1, none) := fun ck h z hz => ⟨ed_95 ck h z hz, ek_95 ck h z hz⟩
theorem em_96 : ev_mrow et_96 (yX2_init, cX2_init, 4, none) := fun ck h z hz => ⟨ed_96 ck h z hz, ek_96 ck h z hz⟩
theorem em_97 : ev_mrow et_97 (yX3_add, cX3_add, 3, (some .boolean)) := fun ck h z hz => ⟨ed_97 ck h z hz, ek_97 ck h z hz⟩
theorem em_98 : ev_mrow et_98 (yX3_clear, cX3_clear, 1, none) := fun ck h z hz => ⟨ed_98 ck h z hz, ek_98 ck h z hz⟩
theorem em_99 : ev_mrow et_99 (yX3_fitting, cX3_fitting, 4, (some .int)) := fun ck h z hz => ⟨ed_99 ck h z hz, ek_99 ck h z hz⟩
theorem em_100 : ev_mrow et_100 (yX3_highest, cX3_highest, 1, (some .int)) := fun ck h z hz => ⟨ed_100 ck h z hz, ek_100 ck h z hz⟩
theorem em_101 : ev_mrow et_101 (yX3_init, cX3_init, 1, none) := fun ck h z hz => ⟨ed_101 ck h z hz, ek_101 ck h z hz⟩
theorem em_102 : ev_mrow et_102 (yX3_size, cX3_size, 1, (some .int)) := fun ck h z hz => ⟨ed_102 ck h z hz, ek_102 ck h z hz⟩
theorem em_103 : ev_mrow et_103 (yX4_init, cX4_init, 2, none) := fun ck h z hz => ⟨ed_103 ck h z hz, ek_103 ck h z hz⟩
theorem em_104 : ev_mrow et_104 (yX5_init, cX5_init, 1, none) := fun ck h z hz => ⟨ed_104 ck h z hz, ek_104 ck h z hz⟩
theorem em_105 : ev_mrow et_105 (yX5_keep, cX5_keep, 3, none) := fun ck h z hz => ⟨ed_105 ck h z hz, ek_105 ck h z hz⟩
theorem em_106 : ev_mrow et_106 (yX5_size, cX5_size, 1, (some .int)) := fun ck h z hz => ⟨ed_106 ck h z hz, ek_106 ck h z hz⟩
theorem em_107 : ev_mrow et_107 (yX6_assignment, cX6_assignment, 3, (some .int)) := fun ck h z hz => ⟨ed_107 ck h z hz, ek_107 ck h z hz⟩
theorem em_108 : ev_mrow et_108 (yX6_beginsFactor, cX6_beginsFactor, 2, (some .boolean)) := fun ck h z hz => ⟨ed_108 ck h z hz, ek_108 ck h z hz⟩
theorem em_109 : ev_mrow et_109 (yX6_comparison, cX6_comparison, 4, (some .int)) := fun ck h z hz => ⟨ed_109 ck h z hz, ek_109 ck h z hz⟩
theorem em_110 : ev_mrow et_110 (yX6_expression, cX6_expression, 3, (some .int)) := fun ck h z hz => ⟨ed_110 ck h z hz, ek_110 ck h z hz⟩
theorem em_111 : ev_mrow et_111 (yX6_factor, cX6_factor, 4, (some .int)) := fun ck h z hz => ⟨ed_111 ck h z hz, ek_111 ck h z hz⟩
theorem em_112 : ev_mrow et_112 (yX6_init, cX6_init, 2, none) := fun ck h z hz => ⟨ed_112 ck h z hz, ek_112 ck h z hz⟩
theorem em_113 : ev_mrow et_113 (yX6_isDigit, cX6_isDigit, 1, (some .boolean)) := fun ck h z hz => ⟨ed_113 ck h z hz, ek_113 ck h z hz⟩
theorem em_114 : ev_mrow et_114 (yX6_isLetter, cX6_isLetter, 1, (some .boolean)) := fun ck h z hz => ⟨ed_114 ck h z hz, ek_114 ck h z hz⟩
theorem em_115 : ev_mrow et_115 (yX6_leaf, cX6_leaf, 3, none) := fun ck h z hz => ⟨ed_115 ck h z hz, ek_115 ck h z hz⟩
theorem em_116 : ev_mrow et_116 (yX6_peek, cX6_peek, 1, (some .int)) := fun ck h z hz => ⟨ed_116 ck h z hz, ek_116 ck h z hz⟩
theorem em_117 : ev_mrow et_117 (yX6_read, cX6_read, 6, (some .int)) := fun ck h z hz => ⟨ed_117 ck h z hz, ek_117 ck h z hz⟩
theorem em_118 : ev_mrow et_118 (yX6_refuse, cX6_refuse, 1, none) := fun ck h z hz => ⟨ed_118 ck h z hz, ek_118 ck h z hz⟩
theorem em_119 : ev_mrow et_119 (yX6_sum, cX6_sum, 5, (some .int)) := fun ck h z hz => ⟨ed_119 ck h z hz, ek_119 ck h z hz⟩
theorem em_120 : ev_mrow et_120 (yX6_term, cX6_term, 4, (some .int)) := fun ck h z hz => ⟨ed_120 ck h z hz, ek_120 ck h z hz⟩
theorem em_121 : ev_mrow et_121 (yX7_init, cX7_init, 1, none) := fun ck h z hz => ⟨ed_121 ck h z hz, ek_121 ck h z hz⟩
theorem em_122 : ev_mrow et_122 (yX8_allNodes, cX8_allNodes, 3, (some .int)) := fun ck h z hz => ⟨ed_122 ck h z hz, ek_122 ck h z hz⟩
theorem em_123 : ev_mrow et_123 (yX8_bits, cX8_bits, 3, (some .int)) := fun ck h z hz => ⟨ed_123 ck h z hz, ek_123 ck h z hz⟩
theorem em_124 : ev_mrow et_124 (yX8_clear, cX8_clear, 1, none) := fun ck h z hz => ⟨ed_124 ck h z hz, ek_124 ck h z hz⟩
theorem em_125 : ev_mrow et_125 (yX8_init, cX8_init, 3, none) := fun ck h z hz => ⟨ed_125 ck h z hz, ek_125 ck h z hz⟩
theorem em_126 : ev_mrow et_126 (yX8_knows, cX8_knows, 2, (some .boolean)) := fun ck h z hz => ⟨ed_126 ck h z hz, ek_126 ck h z hz⟩
theorem em_127 : ev_mrow et_127 (yX8_placeOf, cX8_placeOf, 2, (some .int)) := fun ck h z hz => ⟨ed_127 ck h z hz, ek_127 ck h z hz⟩
theorem em_128 : ev_mrow et_128 (yX8_save, cX8_save, 3, none) := fun ck h z hz => ⟨ed_128 ck h z hz, ek_128 ck h z hz⟩
theorem em_129 : ev_mrow et_129 (yX8_shrink, cX8_shrink, 3, none) := fun ck h z hz => ⟨ed_129 ck h z hz, ek_129 ck h z hz⟩
theorem em_130 : ev_mrow et_130 (yX8_size, cX8_size, 1, (some .int)) := fun ck h z hz => ⟨ed_130 ck h z hz, ek_130 ck h z hz⟩
theorem em_131 : ev_mrow et_131 (yX8_weakTotal, cX8_weakTotal, 1, (some .int)) := fun ck h z hz => ⟨ed_131 ck h z hz, ek_131 ck h z hz⟩
theorem em_132 : ev_mrow et_132 (yX9_add, cX9_add, 2, none) := fun ck h z hz => ⟨ed_132 ck h z hz, ek_132 ck h z hz⟩
theorem em_133 : ev_mrow et_133 (yX9_clear, cX9_clear, 1, none) := fun ck h z hz => ⟨ed_133 ck h z hz, ek_133 ck h z hz⟩
theorem em_134 : ev_mrow et_134 (yX9_init, cX9_init, 1, none) := fun ck h z hz => ⟨ed_134 ck h z hz, ek_134 ck h z hz⟩
theorem em_135 : ev_mrow et_135 (yX9_size, cX9_size, 1, (some .int)) := fun ck h z hz => ⟨ed_135 ck h z hz, ek_135 ck h z hz⟩
theorem em_136 : ev_mrow et_136 (x, code, 8, (some .boolean)) := fun ck h z hz => ⟨ed_136 ck h z hz, ek_136 ck h z hz⟩
set_option maxRecDepth 10000 in
theorem et_rows : ∀ (i : Nat) (T : ev_M), et_PR[i]? = some T → ∃ q, et_MT[i]? = some q ∧ ev_mrow T q :=
  ev_g1 em_0
  (ev_g1 em_1
  (ev_g1 em_2
  (ev_g1 em_3
  (ev_g1 em_4
  (ev_g1 em_5
  (ev_g1 em_6
  (ev_g1 em_7
  (ev_g1 em_8
  (ev_g1 em_9
  (ev_g1 em_10
  (ev_g1 em_11
  (ev_g1 em_12
  (ev_g1 em_13
  (ev_g1 em_14
  (ev_g1 em_15
  (ev_g1 em_16
  (ev_g1 em_17
  (ev_g1 em_18
  (ev_g1 em_19
  (ev_g1 em_20
  (ev_g1 em_21
  (ev_g1 em_22
  (ev_g1 em_23
  (ev_g1 em_24
  (ev_g1 em_25
  (ev_g1 em_26
  (ev_g1 em_27
  (ev_g1 em_28
  (ev_g1 em_29
  (ev_g1 em_30
  (ev_g1 em_31
  (ev_g1 em_32
  (ev_g1 em_33
  (ev_g1 em_34
  (ev_g1 em_35
  (ev_g1 em_36
  (ev_g1 em_37
  (ev_g1 em_38
  (ev_g1 em_39
  (ev_g1 em_40
  (ev_g1 em_41
  (ev_g1 em_42
  (ev_g1 em_43
  (ev_g1 em_44
  (ev_g1 em_45
  (ev_g1 em_46
  (ev_g1 em_47
  (ev_g1 em_48
  (ev_g1 em_49
  (ev_g1 em_50
  (ev_g1 em_51
  (ev_g1 em_52
  (ev_g1 em_53
  (ev_g1 em_54
  (ev_g1 em_55
  (ev_g1 em_56
  (ev_g1 em_57
  (ev_g1 em_58
  (ev_g1 em_59
  (ev_g1 em_60
  (ev_g1 em_61
  (ev_g1 em_62
  (ev_g1 em_63
  (ev_g1 em_64
  (ev_g1 em_65
  (ev_g1 em_66
  (ev_g1 em_67
  (ev_g1 em_68
  (ev_g1 em_69
  (ev_g1 em_70
  (ev_g1 em_71
  (ev_g1 em_72
  (ev_g1 em_73
  (ev_g1 em_74
  (ev_g1 em_75
  (ev_g1 em_76
  (ev_g1 em_77
  (ev_g1 em_78
  (ev_g1 em_79
  (ev_g1 em_80
  (ev_g1 em_81
  (ev_g1 em_82
  (ev_g1 em_83
  (ev_g1 em_84
  (ev_g1 em_85
  (ev_g1 em_86
  (ev_g1 em_87
  (ev_g1 em_88
  (ev_g1 em_89
  (ev_g1 em_90
  (ev_g1 em_91
  (ev_g1 em_92
  (ev_g1 em_93
  (ev_g1 em_94
  (ev_g1 em_95
  (ev_g1 em_96
  (ev_g1 em_97
  (ev_g1 em_98
  (ev_g1 em_99
  (ev_g1 em_100
  (ev_g1 em_101
  (ev_g1 em_102
  (ev_g1 em_103
  (ev_g1 em_104
  (ev_g1 em_105
  (ev_g1 em_106
  (ev_g1 em_107
  (ev_g1 em_108
  (ev_g1 em_109
  (ev_g1 em_110
  (ev_g1 em_111
  (ev_g1 em_112
  (ev_g1 em_113
  (ev_g1 em_114
  (ev_g1 em_115
  (ev_g1 em_116
  (ev_g1 em_117
  (ev_g1 em_118
  (ev_g1 em_119
  (ev_g1 em_120
  (ev_g1 em_121
  (ev_g1 em_122
  (ev_g1 em_123
  (ev_g1 em_124
  (ev_g1 em_125
  (ev_g1 em_126
  (ev_g1 em_127
  (ev_g1 em_128
  (ev_g1 em_129
  (ev_g1 em_130
  (ev_g1 em_131
  (ev_g1 em_132
  (ev_g1 em_133
  (ev_g1 em_134
  (ev_g1 em_135
  (ev_g1 em_136
  (ev_g0)))))))))))))))))))))))))))))))))))))))))))))))))))))))))))))))))))))))))))))))))))))))))))))))))))))))))))))))))))))))))))))))))))))))))
theorem et_ok : ev_ok et_PR et_MT et_cl et_df et_Ts et_NW := ⟨et_goodW, et_NWok, fun i T h => by
  obtain ⟨⟨y, cc, nL, ret⟩, h1, h2⟩ := et_rows i T h
  exact ⟨y, cc, nL, ret, h1, h2⟩⟩
