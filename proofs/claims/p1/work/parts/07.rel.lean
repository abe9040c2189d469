/-! ===== what the interpreter's values say of the machine's ===== -/
section EVR
def ev_rel (b hz : Nat) (L : List Nat) (x : ev_V) (v : Value) : Prop := match x with
  | .inl r => ∃ i : Int32, v = .int i ∧ r.1 ≤ i.toInt ∧ i.toInt ≤ r.2
  | .inr (.inl k) => ∃ i : Int32, v = .int i ∧ i &&& 31 = Int32.ofNat k
  | .inr (.inr 0) => ∃ i : Int64, v = .long i
  | .inr (.inr 1) => v = .null
  | .inr (.inr 2) => v = .ref b
  | .inr (.inr 3) => v = .ref hz
  | .inr (.inr (n + 4)) => ∃ a, L[n]? = some a ∧ v = .ref a
theorem ev_rel_mono {b hz : Nat} {L t : List Nat} {x : ev_V} {v : Value} (h : ev_rel b hz L x v) : ev_rel b hz (L ++ t) x v := by
  rcases x with r | k | k
  · exact h
  · exact h
  · match k, h with
    | 0, h => exact h
    | 1, h => exact h
    | 2, h => exact h
    | 3, h => exact h
    | n + 4, ⟨a, h1, h2⟩ =>
      have hl : n < L.length := by
        by_cases q : n < L.length
        · exact q
        · rw [List.getElem?_eq_none (by omega)] at h1; cases h1
      exact ⟨a, by rw [List.getElem?_append_left hl]; exact h1, h2⟩
theorem ev_rel_cat {b hz : Nat} {L : List Nat} {x : ev_V} {v : Value} (h : ev_rel b hz L x v) : (v.category == 2) = ev_lng x := by
  rcases x with r | k | k
  · obtain ⟨i, rfl, -⟩ := h; rfl
  · obtain ⟨i, rfl, -⟩ := h; rfl
  · match k, h with
    | 0, ⟨i, h⟩ => subst h; rfl
    | 1, h => cases h; rfl
    | 2, h => cases h; rfl
    | 3, h => cases h; rfl
    | n + 4, ⟨a, h1, h2⟩ => subst h2; rfl
theorem ev_rel_c1 {b hz : Nat} {L : List Nat} {x : ev_V} {v : Value} (h : ev_rel b hz L x v) (hx : ev_ok1 x = true) : v.category = 1 := by
  rcases x with r | k | k
  · obtain ⟨i, rfl, -⟩ := h; rfl
  · obtain ⟨i, rfl, -⟩ := h; rfl
  · match k, h with
    | 0, ⟨i, h⟩ => cases hx
    | 1, h => cases h; rfl
    | 2, h => cases h; rfl
    | 3, h => cases h; rfl
    | n + 4, ⟨a, h1, h2⟩ => subst h2; rfl
theorem ev_rel_le2 {b hz : Nat} {L : List Nat} {x : ev_V} {v : Value} (h : ev_rel b hz L x v) : v.category ≤ 2 := by
  rcases x with r | k | k
  · obtain ⟨i, rfl, -⟩ := h; exact Nat.le_of_ble_eq_true rfl
  · obtain ⟨i, rfl, -⟩ := h; exact Nat.le_of_ble_eq_true rfl
  · match k, h with
    | 0, ⟨i, h⟩ => subst h; exact Nat.le_of_ble_eq_true rfl
    | 1, h => cases h; exact Nat.le_of_ble_eq_true rfl
    | 2, h => cases h; exact Nat.le_of_ble_eq_true rfl
    | 3, h => cases h; exact Nat.le_of_ble_eq_true rfl
    | n + 4, ⟨a, h1, h2⟩ => subst h2; exact Nat.le_of_ble_eq_true rfl
theorem ev_nt {x : Bool} (h : ¬ x = true) : x = false := by cases x with
  | false => rfl
  | true => exact absurd rfl h
def ev_all {α β : Type} (R : α → β → Prop) (l : List α) (m : List β) : Prop := match l, m with
  | [], [] => True
  | a :: l, b :: m => R a b ∧ ev_all R l m
  | _, _ => False
theorem ev_all_nil {α β : Type} {R : α → β → Prop} : ev_all R [] [] := trivial
theorem ev_all_mono {α β : Type} {R S : α → β → Prop} (f : ∀ a b, R a b → S a b) : ∀ {l : List α} {m : List β}, ev_all R l m → ev_all S l m
  | [], [], _ => trivial
  | a :: l, b :: m, h => ⟨f a b h.1, ev_all_mono f h.2⟩
  | [], _ :: _, h => h.elim
  | _ :: _, [], h => h.elim
theorem ev_all_len {α β : Type} {R : α → β → Prop} : ∀ {l : List α} {m : List β}, ev_all R l m → l.length = m.length
  | [], [], _ => rfl
  | a :: l, b :: m, h => by rw [List.length_cons, List.length_cons, ev_all_len h.2]
  | [], _ :: _, h => h.elim
  | _ :: _, [], h => h.elim
theorem ev_all_get {α β : Type} {R : α → β → Prop} : ∀ {l : List α} {m : List β}, ev_all R l m → ∀ {n : Nat} {a : α}, l[n]? = some a → ∃ b, m[n]? = some b ∧ R a b
  | [], [], _, n, a, h => by simp at h
  | x :: l, y :: m, h, 0, a, e => by
    rw [List.getElem?_cons_zero] at e; cases e
    exact ⟨y, by rw [List.getElem?_cons_zero], h.1⟩
  | x :: l, y :: m, h, n + 1, a, e => by
    rw [List.getElem?_cons_succ] at e
    obtain ⟨b, h1, h2⟩ := ev_all_get h.2 e
    exact ⟨b, by rw [List.getElem?_cons_succ]; exact h1, h2⟩
  | [], _ :: _, h, _, _, _ => h.elim
  | _ :: _, [], h, _, _, _ => h.elim
theorem ev_all_set {α β : Type} {R : α → β → Prop} {a : α} {b : β} (hab : R a b) : ∀ {l : List α} {m : List β}, ev_all R l m → ∀ (n : Nat), ev_all R (l.set n a) (m.set n b)
  | [], [], _, n => by simp [ev_all]
  | x :: l, y :: m, h, 0 => ⟨hab, h.2⟩
  | x :: l, y :: m, h, n + 1 => ⟨h.1, ev_all_set hab h.2 n⟩
  | [], _ :: _, h, _ => h.elim
  | _ :: _, [], h, _ => h.elim
theorem ev_all_app {α β : Type} {R : α → β → Prop} : ∀ {l : List α} {m : List β} {l' : List α} {m' : List β}, ev_all R l m → ev_all R l' m' → ev_all R (l ++ l') (m ++ m')
  | [], [], _, _, _, h' => h'
  | _ :: _, _ :: _, _, _, h, h' => ⟨h.1, ev_all_app h.2 h'⟩
  | [], _ :: _, _, _, h, _ => h.elim
  | _ :: _, [], _, _, h, _ => h.elim
theorem ev_all_take {α β : Type} {R : α → β → Prop} : ∀ {l : List α} {m : List β}, ev_all R l m → ∀ n, ev_all R (l.take n) (m.take n)
  | [], [], _, n => by simp [ev_all]
  | _ :: _, _ :: _, _, 0 => trivial
  | _ :: _, _ :: _, h, n + 1 => ⟨h.1, ev_all_take h.2 n⟩
  | [], _ :: _, h, _ => h.elim
  | _ :: _, [], h, _ => h.elim
theorem ev_all_drop {α β : Type} {R : α → β → Prop} : ∀ {l : List α} {m : List β}, ev_all R l m → ∀ n, ev_all R (l.drop n) (m.drop n)
  | [], [], _, n => by simp [ev_all]
  | _ :: _, _ :: _, h, 0 => h
  | _ :: _, _ :: _, h, n + 1 => ev_all_drop h.2 n
  | [], _ :: _, h, _ => h.elim
  | _ :: _, [], h, _ => h.elim
theorem ev_all_rev {α β : Type} {R : α → β → Prop} : ∀ {l : List α} {m : List β}, ev_all R l m → ev_all R l.reverse m.reverse
  | [], [], _ => trivial
  | x :: l, y :: m, h => by
    rw [List.reverse_cons, List.reverse_cons]
    exact ev_all_app (ev_all_rev h.2) ⟨h.1, trivial⟩
  | [], _ :: _, h => h.elim
  | _ :: _, [], h => h.elim
theorem ev_all_filter {α β : Type} {R : α → β → Prop} {f : α → Bool} {g : β → Bool} (hfg : ∀ a b, R a b → f a = g b) : ∀ {l : List α} {m : List β}, ev_all R l m → ev_all R (l.filter f) (m.filter g)
  | [], [], _ => trivial
  | x :: l, y :: m, h => by
    rw [List.filter_cons, List.filter_cons, hfg x y h.1]
    by_cases q : g y = true
    · rw [if_pos q, if_pos q]; exact ⟨h.1, ev_all_filter hfg h.2⟩
    · rw [if_neg q, if_neg q]; exact ev_all_filter hfg h.2
  | [], _ :: _, h => h.elim
  | _ :: _, [], h => h.elim
theorem ev_all_cons {α β : Type} {R : α → β → Prop} {a : α} {l : List α} {m : List β} (h : ev_all R (a :: l) m) : ∃ b m', m = b :: m' ∧ R a b ∧ ev_all R l m' := by
  cases m with
  | nil => exact h.elim
  | cons b m => exact ⟨b, m, rfl, h.1, h.2⟩
theorem ev_all_none {α β : Type} {R : α → β → Prop} {m : List β} (h : ev_all R [] m) : m = [] := by
  cases m with
  | nil => rfl
  | cons b m => exact h.elim
def ev_ty (t : Nat) : FieldType := match t with
  | 0 => .int
  | 1 => .byte
  | 2 => .boolean
  | _ => .long
def ev_in (r : Int × Int) (i : Int32) : Prop := r.1 ≤ i.toInt ∧ i.toInt ≤ r.2
def ev_crel (b hz : Nat) (tys : List (ClassId × FieldType)) (L : List Nat) (c : ev_C) (e : va_E) : Prop := match c with
  | .inl q => if q.1 = 3 then ∃ (cA : ClassId) (f : Nat → Int64), e = .inl (cA, q.2.1, .inr (.inl f)) ∧ (cA, FieldType.long) ∈ tys
    else ∃ (cA : ClassId) (f : Nat → Int32), e = .inl (cA, q.2.1, .inl f) ∧ (cA, ev_ty q.1) ∈ tys ∧ ∀ j, ev_in (ev_get q.2.2 j) (f j)
  | .inr o => ∃ vs, e = .inr (o.1, vs) ∧ ev_all (ev_rel b hz L) o.2 vs
theorem ev_crel_mono {b hz : Nat} {tys t2 : List (ClassId × FieldType)} {L t : List Nat} {c : ev_C} {e : va_E} (h : ev_crel b hz tys L c e) : ev_crel b hz (tys ++ t2) (L ++ t) c e := by
  rcases c with q | o
  · unfold ev_crel at h ⊢
    by_cases q3 : q.1 = 3
    · simp only [if_pos q3] at h ⊢
      obtain ⟨cA, f, h1, h2⟩ := h
      exact ⟨cA, f, h1, List.mem_append_left _ h2⟩
    · simp only [if_neg q3] at h ⊢
      obtain ⟨cA, f, h1, h2, h3⟩ := h
      exact ⟨cA, f, h1, List.mem_append_left _ h2, h3⟩
  · obtain ⟨vs, h1, h2⟩ := h
    exact ⟨vs, h1, ev_all_mono (fun _ _ => ev_rel_mono) h2⟩
def ev_wrel (b hz : Nat) (tys : List (ClassId × FieldType)) (L : List Nat) (h : ev_H) (ws : va_W) : Prop := ev_all (fun c (q : Nat × va_E) => ev_crel b hz tys L c q.2) h ws
def ev_lrel (b hz : Nat) (L : List Nat) (ls : ev_L) (lv : List (Nat × Value)) : Prop := ev_all (fun q r => q.1 = r.1 ∧ ev_rel b hz L q.2 r.2) ls lv
def ev_St (b hz : Nat) (D : va_G) (cl : List vw_C) (A : Nat → Prop) (L0 : List Nat) (s : State) (nL : Nat) (ls : ev_L) (st : List ev_V) (h : ev_H) (H : Heap) (locs : List Loc) (lsC : Array Slot) (stC : List Value) : Prop :=
  ∃ (tys : List (ClassId × FieldType)) (ws : va_W) (lv : List (Nat × Value)) (t : List Nat), va_K D cl tys s ∧ va_P D cl ws H ∧ va_D A ws ∧ va_S A s.heap H locs ∧ ws.map Prod.fst = L0 ++ t ∧
    ev_wrel b hz tys (ws.map Prod.fst) h ws ∧ ev_all (ev_rel b hz (ws.map Prod.fst)) st stC ∧ lv_has lsC nL lv ∧ ev_lrel b hz (ws.map Prod.fst) ls lv
theorem ev_loc_ok {b hz : Nat} {L : List Nat} : ∀ {ls : ev_L} {lv : List (Nat × Value)}, ev_lrel b hz L ls lv → ∀ {i : Nat} {x : ev_V}, ev_loc ls i = some x → ∃ (k : Nat) (v : Value), lv[k]? = some (i, v) ∧ ev_rel b hz L x v
  | [], _, _, i, x, e => by simp [ev_loc] at e
  | q :: t, [], h, _, _, _ => h.elim
  | q :: t, r :: lv, h, i, x, e => by
    unfold ev_loc at e
    by_cases hq : Nat.beq q.1 i = true
    · rw [hq] at e
      simp only [cond_true, Option.some.injEq] at e
      refine ⟨0, r.2, ?_, by rw [← e]; exact h.1.2⟩
      rw [List.getElem?_cons_zero, ← Nat.eq_of_beq_eq_true hq, h.1.1]
    · rw [ev_nt hq] at e
      obtain ⟨k, v, h1, h2⟩ := ev_loc_ok h.2 e
      exact ⟨k + 1, v, by rw [List.getElem?_cons_succ]; exact h1, h2⟩
theorem ev_sto_ok {b hz : Nat} {L : List Nat} {ls : ev_L} {lv : List (Nat × Value)} (h : ev_lrel b hz L ls lv) (i : Nat) {x : ev_V} {v : Value} (hx : ev_rel b hz L x v) :
    ev_lrel b hz L (ev_sto ls i x) ((i, v) :: lv.filter (fun q => !(q.1 == i) && !(q.1 + 1 == i && q.2.category == 2))) :=
  ⟨⟨rfl, hx⟩, ev_all_filter (fun q r hqr => by rw [hqr.1, ev_rel_cat hqr.2]) h⟩
theorem ev_stoL_ok {b hz : Nat} {L : List Nat} {ls : ev_L} {lv : List (Nat × Value)} (h : ev_lrel b hz L ls lv) (i : Nat) {x : ev_V} {v : Value} (hx : ev_rel b hz L x v) :
    ev_lrel b hz L (ev_stoL ls i x) ((i, v) :: lv.filter (fun q => !(q.1 == i) && (!(q.1 == i + 1) && !(q.1 + 1 == i && q.2.category == 2)))) :=
  ⟨⟨rfl, hx⟩, ev_all_filter (fun q r hqr => by rw [hqr.1, ev_rel_cat hqr.2]) h⟩
theorem ev_args_ok {b hz : Nat} {L : List Nat} : ∀ {as : List ev_V} {vs : List Value}, ev_all (ev_rel b hz L) as vs → ∀ i, ev_lrel b hz L (ev_args i as) (lv_args i vs)
  | [], [], _, _ => trivial
  | x :: as, v :: vs, h, i => by
    refine ⟨⟨rfl, h.1⟩, ?_⟩
    have hc := ev_rel_cat h.1
    have e : (bif ev_lng x then i + 2 else i + 1) = if v.category = 2 then i + 2 else i + 1 := by
      rw [← hc]
      by_cases q : v.category = 2
      · rw [if_pos q, q]; rfl
      · rw [if_neg q, show (v.category == 2) = false from by simpa using q]; rfl
    rw [e]
    exact ev_args_ok h.2 _
  | [], _ :: _, h, _ => h.elim
  | _ :: _, [], h, _ => h.elim
theorem ev_get_put {m : List (Nat × (Int × Int))} {j : Nat} {r : Int × Int} (k : Nat) : ev_get (ev_put m j r fun m => m) k = if k = j then r else ev_get m k := by
  unfold ev_put
  by_cases hs : ev_same (ev_get m j) r = true
  · rw [hs]
    simp only [cond_true]
    by_cases hk : k = j
    · subst hk
      rw [if_pos rfl]
      simp only [ev_same, Bool.and_eq_true, decide_eq_true_eq] at hs
      exact Prod.ext hs.1 hs.2
    · rw [if_neg hk]
  · rw [ev_nt hs]
    simp only [cond_false, ev_get]
    by_cases hk : k = j
    · subst hk
      rw [if_pos rfl, show Nat.beq k k = true from Nat.beq_refl k]; rfl
    · rw [if_neg hk, show Nat.beq j k = false from by
        cases hb : Nat.beq j k with
        | false => rfl
        | true => exact absurd (Nat.eq_of_beq_eq_true hb).symm hk]; rfl
theorem ev_put_out {α : Type} {m : List (Nat × (Int × Int))} {j : Nat} {r : Int × Int} (f : List (Nat × (Int × Int)) → α) : ev_put m j r f = f (ev_put m j r fun m => m) := by
  unfold ev_put
  cases ev_same (ev_get m j) r <;> rfl
theorem ev_cp_get {f g : List (Nat × (Int × Int))} {sp dp : Nat} : ∀ (n k : Nat), ev_get (ev_cp f g sp dp n) k = if dp ≤ k ∧ k < dp + n then ev_get f (sp + (k - dp)) else ev_get g k
  | 0, k => by rw [if_neg (by omega)]; rfl
  | n + 1, k => by
    show ev_get (ev_put (ev_cp f g sp dp n) (dp + n) (ev_get f (sp + n)) fun m => m) k = _
    rw [ev_get_put, ev_cp_get n k]
    by_cases h1 : k = dp + n
    · subst h1
      rw [if_pos rfl, if_pos (by omega)]
      congr 1; omega
    · rw [if_neg h1]
      by_cases h2 : dp ≤ k ∧ k < dp + n
      · rw [if_pos h2, if_pos (by omega)]
      · rw [if_neg h2, if_neg (by omega)]
theorem ev_ix_ok {x : Int × Int} {n j : Nat} (h : ev_ix x n = some j) {i : Int32} (hi : ev_in x i) : i = nI j ∧ vp_in i n ∧ i.toNatClampNeg = j ∧ j < n ∧ ¬ i < 0 := by
  unfold ev_ix at h
  split at h
  · rename_i a b ha hb
    have hc : (Nat.beq a b && Nat.ble (a + 1) n) = true := by
      cases q : (Nat.beq a b && Nat.ble (a + 1) n) with
      | true => rfl
      | false => rw [q] at h; cases h
    rw [hc] at h
    simp only [cond_true, Option.some.injEq] at h
    subst h
    simp only [Bool.and_eq_true] at hc
    have e1 := Nat.eq_of_beq_eq_true hc.1
    have e2 := Nat.le_of_ble_eq_true hc.2
    have hj : i.toInt = (a : Int) := by
      have h1 := hi.1
      have h2 := hi.2
      rw [ha] at h1
      rw [hb, ← e1] at h2
      have h1' : (a : Int) ≤ i.toInt := h1
      have h2' : i.toInt ≤ (a : Int) := h2
      omega
    have hlt : a < 2 ^ 31 := by
      have := Int32.toInt_lt i
      omega
    have e : i = nI a := by
      apply Int32.toInt_inj.mp
      rw [hj, nI_toInt hlt]
    subst e
    have hcl : (nI a).toNatClampNeg = a := nI_clamp hlt
    have hps : ¬ nI a < 0 := nI_pos hlt
    exact ⟨rfl, fun q => q.elim hps (fun q => by rw [hcl] at q; omega), hcl, by omega, hps⟩
  · cases h
theorem ev_bin_ok {f : Int32 → Int32 → Int32} {x y : Int × Int} {i j : Int32} (hi : ev_in x i) (hj : ev_in y j) {b hz : Nat} {L : List Nat} : ev_rel b hz L (ev_bin f x y) (.int (f i j)) := by
  unfold ev_bin
  by_cases hq : (decide (x.1 = x.2) && decide (y.1 = y.2)) = true
  · rw [hq]
    simp only [cond_true]
    rw [ev_fI_eq]
    simp only [Bool.and_eq_true, decide_eq_true_eq] at hq
    have e1 : Int32.ofInt x.1 = i := by
      have := hi.1; have := hi.2
      rw [show x.1 = i.toInt by omega, Int32.ofInt_toInt]
    have e2 : Int32.ofInt y.1 = j := by
      have := hj.1; have := hj.2
      rw [show y.1 = j.toInt by omega, Int32.ofInt_toInt]
    exact ⟨f i j, rfl, by rw [e1, e2]; exact Int.le_refl _, by rw [e1, e2]; exact Int.le_refl _⟩
  · rw [ev_nt hq]
    exact ⟨f i j, rfl, Int32.le_toInt _, by have := Int32.toInt_le (f i j); exact this⟩
theorem ev_top_ok {i : Int32} {b hz : Nat} {L : List Nat} : ev_rel b hz L ev_top (.int i) := ⟨i, rfl, Int32.le_toInt _, by have := Int32.toInt_le i; exact this⟩
theorem ev_lt_t {x y : Int × Int} {i j : Int32} (hi : ev_in x i) (hj : ev_in y j) (h : ev_lt x y = some true) : i < j := by
  unfold ev_lt at h
  split at h
  · rename_i q
    rw [Int32.lt_iff_toInt_lt]
    have := hi.2; have := hj.1; omega
  · split at h <;> cases h
theorem ev_lt_f {x y : Int × Int} {i j : Int32} (hi : ev_in x i) (hj : ev_in y j) (h : ev_lt x y = some false) : ¬ i < j := by
  unfold ev_lt at h
  split at h
  · cases h
  · split at h
    · rename_i q
      rw [Int32.lt_iff_toInt_lt]
      have := hi.1; have := hj.2; omega
    · cases h
theorem ev_eq_t {x y : Int × Int} {i j : Int32} (hi : ev_in x i) (hj : ev_in y j) (h : ev_eq x y = some true) : i = j := by
  unfold ev_eq at h
  split at h
  · rename_i q
    apply Int32.toInt_inj.mp
    have := hi.1; have := hi.2; have := hj.1; have := hj.2; omega
  · split at h <;> cases h
theorem ev_eq_f {x y : Int × Int} {i j : Int32} (hi : ev_in x i) (hj : ev_in y j) (h : ev_eq x y = some false) : ¬ i = j := by
  unfold ev_eq at h
  split at h
  · cases h
  · split at h
    · rename_i q
      intro e
      subst e
      have := hi.1; have := hi.2; have := hj.1; have := hj.2; omega
    · cases h
end EVR
