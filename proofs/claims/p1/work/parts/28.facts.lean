set_option maxRecDepth 10000 in
theorem ed_134 : ∀ ck ∈ et_134, ∀ q ∈ ck, decode cX9_init q.1 = .ok q.2.1 := by decide +kernel
set_option maxRecDepth 10000 in
theorem ek_134 : ∀ ck ∈ et_134, ∀ q ∈ ck, ev_lk et_cl et_df et_Ts yX9_init.cls yX9_init.name 1 q ∧ ev_lc et_MT et_cl et_Ts et_NW yX9_init.cls none q :=
  ev_f1 (ev_f1 (⟨trivial, trivial⟩)
  (ev_f1 (⟨trivial, ⟨1, rfl, ml_X9_1, im_java_lang_Object__init____V, cd_object⟩⟩)
  (ev_f1 (⟨trivial, trivial⟩)
  (ev_f1 (⟨(show _ = _ from by decide +kernel), trivial⟩)
  (ev_f1 (⟨⟨rfl, by decide, ar_0⟩, trivial⟩)
  (ev_f1 (⟨⟨RX9, TX9, 2, tyX9, rfl, eiX9, tyX9_ok, nmX9, by decide, fl_X9_9, fun _ => ⟨rfl, rfl⟩, Or.inr ⟨_, rfl⟩⟩, trivial⟩)
  (ev_f1 (⟨trivial, ⟨fun _ => ⟨rfl, rfl⟩, fun h => (by cases h), fun h => (by cases h), fun h => (by cases h)⟩⟩)
  (ev_f0))))))))
  (ev_f0)
set_option maxRecDepth 10000 in
theorem ed_135 : ∀ ck ∈ et_135, ∀ q ∈ ck, decode cX9_size q.1 = .ok q.2.1 := by decide +kernel
set_option maxRecDepth 10000 in
theorem ek_135 : ∀ ck ∈ et_135, ∀ q ∈ ck, ev_lk et_cl et_df et_Ts yX9_size.cls yX9_size.name 1 q ∧ ev_lc et_MT et_cl et_Ts et_NW yX9_size.cls (some .int) q :=
  ev_f1 (ev_f1 (⟨trivial, trivial⟩)
  (ev_f1 (⟨⟨RX9, TX9, 2, rfl, eiX9, by decide, fl_X9_13⟩, trivial⟩)
  (ev_f1 (⟨trivial, ⟨fun h => (by cases h), fun _ => ⟨rfl, rfl⟩, fun h => (by cases h), fun h => (by cases h)⟩⟩)
  (ev_f0))))
  (ev_f0)
