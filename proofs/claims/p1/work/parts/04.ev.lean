/-! ===== an interpreter of the claim's bytecode over what is known of ints (from .. to) and cells by number ===== -/
section EVA
abbrev ev_V : Type := (Int × Int) ⊕ (Nat ⊕ Nat)
abbrev ev_C : Type := (Nat × Nat × List (Nat × (Int × Int))) ⊕ (Nat × List ev_V)
abbrev ev_H : Type := List ev_C
abbrev ev_L : Type := List (Nat × ev_V)
abbrev ev_I : Type := Nat × (Instr × Nat) × (Nat × Nat × Nat × Int)
abbrev ev_M : Type := List (List ev_I)
abbrev ev_R : Type := Nat × Nat × ev_L × List ev_V × ev_H × Nat × Nat
def ev_top : ev_V := .inl (-2147483648, 2147483647)
/-! values are computed before they go on -/
def ev_fN {α : Type} (x : Nat) (f : Nat → α) : α := match x with
  | 0 => f 0
  | n + 1 => f (n + 1)
theorem ev_fN_eq {α : Type} (x : Nat) (f : Nat → α) : ev_fN x f = f x := by cases x <;> rfl
def ev_fI {α : Type} (x : Int) (f : Int → α) : α := match x with
  | .ofNat n => ev_fN n fun m => f (.ofNat m)
  | .negSucc n => ev_fN n fun m => f (.negSucc m)
theorem ev_fI_eq {α : Type} (x : Int) (f : Int → α) : ev_fI x f = f x := by cases x <;> simp [ev_fI, ev_fN_eq]
def ev_fV {α : Type} (x : ev_V) (f : ev_V → α) : α := match x with
  | .inl r => ev_fI r.1 fun a => ev_fI r.2 fun b => f (.inl (a, b))
  | .inr (.inl k) => ev_fN k fun k => f (.inr (.inl k))
  | .inr (.inr k) => ev_fN k fun k => f (.inr (.inr k))
theorem ev_fV_eq {α : Type} (x : ev_V) (f : ev_V → α) : ev_fV x f = f x := by
  rcases x with r | k | k <;> simp [ev_fV, ev_fI_eq, ev_fN_eq]
def ev_fL {β α : Type} (l : List β) (f : List β → α) : α := match l with
  | [] => f []
  | a :: t => ev_fL t fun u => f (a :: u)
theorem ev_fL_eq {β α : Type} (l : List β) (f : List β → α) : ev_fL l f = f l := by
  induction l generalizing f with
  | nil => rfl
  | cons a t ih => simp only [ev_fL]; rw [ih]
def ev_fS {α : Type} (l : List ev_V) (f : List ev_V → α) : α := match l with
  | [] => f []
  | a :: t => ev_fV a fun a => ev_fS t fun u => f (a :: u)
theorem ev_fS_eq {α : Type} (l : List ev_V) (f : List ev_V → α) : ev_fS l f = f l := by
  induction l generalizing f with
  | nil => rfl
  | cons a t ih => simp only [ev_fS]; rw [ev_fV_eq, ih]
/-! lists -/
def ev_at {α : Type} (l : List α) (n : Nat) : Option α := match l, n with
  | [], _ => none
  | a :: _, 0 => some a
  | _ :: t, n + 1 => ev_at t n
theorem ev_at_eq {α : Type} (l : List α) (n : Nat) : ev_at l n = l[n]? := by
  induction l generalizing n with
  | nil => simp [ev_at]
  | cons a t ih => cases n with
    | zero => simp [ev_at]
    | succ n => simp [ev_at, ih]
def ev_loc (ls : ev_L) (i : Nat) : Option ev_V := match ls with
  | [] => none
  | q :: t => bif Nat.beq q.1 i then some q.2 else ev_loc t i
def ev_lng (x : ev_V) : Bool := match x with
  | .inr (.inr 0) => true
  | _ => false
def ev_sto (ls : ev_L) (i : Nat) (x : ev_V) : ev_L := (i, x) :: ls.filter (fun q => !(q.1 == i) && !(q.1 + 1 == i && ev_lng q.2))
def ev_stoL (ls : ev_L) (i : Nat) (x : ev_V) : ev_L := (i, x) :: ls.filter (fun q => !(q.1 == i) && (!(q.1 == i + 1) && !(q.1 + 1 == i && ev_lng q.2)))
def ev_get (m : List (Nat × (Int × Int))) (j : Nat) : Int × Int := match m with
  | [] => (0, 0)
  | q :: t => bif Nat.beq q.1 j then q.2 else ev_get t j
def ev_same (x y : Int × Int) : Bool := decide (x.1 = y.1) && decide (x.2 = y.2)
def ev_put {α : Type} (m : List (Nat × (Int × Int))) (j : Nat) (r : Int × Int) (f : List (Nat × (Int × Int)) → α) : α :=
  bif ev_same (ev_get m j) r then f m else f ((j, r) :: m)
def ev_args (i : Nat) (l : List ev_V) : ev_L := match l with
  | [] => []
  | x :: t => (i, x) :: ev_args (bif ev_lng x then i + 2 else i + 1) t
def ev_fetch (T : ev_M) (pc : Nat) : Option ev_I := match ev_at T (pc / 16) with
  | none => none
  | some c => c.find? fun q => Nat.beq q.1 pc
def ev_bin (f : Int32 → Int32 → Int32) (x y : Int × Int) : ev_V :=
  bif decide (x.1 = x.2) && decide (y.1 = y.2) then ev_fI (f (Int32.ofInt x.1) (Int32.ofInt y.1)).toInt fun n => .inl (n, n) else ev_top
def ev_lt (x y : Int × Int) : Option Bool := if x.2 < y.1 then some true else if y.2 ≤ x.1 then some false else none
def ev_eq (x y : Int × Int) : Option Bool := if x.1 = x.2 ∧ y.1 = y.2 ∧ x.1 = y.1 then some true else if x.2 < y.1 ∨ y.2 < x.1 then some false else none
def ev_pair (a b : Option (Int × Int)) : Option ((Int × Int) × (Int × Int)) := match a, b with
  | some a, some b => some (a, b)
  | _, _ => none
/-- an index: known, and inside -/
def ev_ix (x : Int × Int) (n : Nat) : Option Nat := match x.1, x.2 with
  | .ofNat a, .ofNat b => bif Nat.beq a b && Nat.ble (a + 1) n then some a else none
  | _, _ => none
abbrev ev_O : Type := Option (Nat × ev_L × List ev_V × Option ev_H × Nat × Nat)
def ev_psh (pc : Nat) (ls : ev_L) (st : List ev_V) (x : Option ev_V) : ev_O := match x with
  | none => none
  | some x => some (pc, ls, x :: st, none, 0, 0)
def ev_ldI (ls : ev_L) (i : Nat) : Option ev_V := match ev_loc ls i with
  | some (.inl r) => some (.inl r)
  | _ => none
def ev_ldR (ls : ev_L) (i : Nat) : Option ev_V := match ev_loc ls i with
  | some (.inr (.inr (n + 2))) => some (.inr (.inr (n + 2)))
  | _ => none
def ev_ldJ (ls : ev_L) (i : Nat) : Option ev_V := match ev_loc ls i with
  | some (.inr (.inr 0)) => some (.inr (.inr 0))
  | _ => none
def ev_jmp (pc : Nat) (off : Int) (ls : ev_L) (st : List ev_V) : ev_O := match (pc : Int) + off with
  | .ofNat t => some (t, ls, st, none, 0, 0)
  | .negSucc _ => none
def ev_br (pc : Nat) (off : Int) (ls : ev_L) (st : List ev_V) (c : Option Bool) : ev_O := match c with
  | none => none
  | some true => ev_jmp pc off ls st
  | some false => some (pc + 3, ls, st, none, 0, 0)
def ev_not (c : Option Bool) : Option Bool := match c with
  | none => none
  | some b => some (!b)
def ev_ok1 (x : ev_V) : Bool := match x with
  | .inl _ => true
  | .inr (.inl _) => true
  | .inr (.inr 0) => false
  | .inr (.inr (_ + 1)) => true
/-- may the value stand in a field of this sort: 0 an int, 1 a boolean, else a reference -/
def ev_may (t : Nat) (x : ev_V) : Bool := match t, x with
  | 0, .inl _ => true
  | 1, .inl r => decide (0 ≤ r.1) && decide (r.2 ≤ 1)
  | 2, .inr (.inr (_ + 1)) => true
  | _, _ => false
def ev_getf (pc a b : Nat) (ls : ev_L) (st : List ev_V) (h : ev_H) : ev_O := match st with
  | .inr (.inr (n + 4)) :: st => match ev_at h n with
    | some (.inr o) => bif Nat.beq o.1 a then ev_psh (pc + 3) ls st (ev_at o.2 b) else none
    | _ => none
  | _ => none
def ev_putf (pc a b t : Nat) (ls : ev_L) (st : List ev_V) (h : ev_H) : ev_O := match st with
  | x :: .inr (.inr (n + 4)) :: st => match ev_at h n with
    | some (.inr o) => bif Nat.beq o.1 a && ev_may t x && Nat.ble (b + 1) o.2.length then ev_fL (o.2.set b x) fun fs => ev_fL (h.set n (.inr (o.1, fs))) fun h => some (pc + 3, ls, st, some h, 0, 0) else none
    | _ => none
  | _ => none
def ev_new (pc a : Nat) (df : List (List ev_V)) (ls : ev_L) (st : List ev_V) (h : ev_H) : ev_O := match ev_at df a with
  | some fs => ev_fN h.length fun n => ev_fN fs.length fun w => ev_fL (h ++ [.inr (a, fs)]) fun h => some (pc + 3, ls, .inr (.inr (n + 4)) :: st, some h, 1, w)
  | none => none
def ev_newa (pc a : Nat) (ls : ev_L) (st : List ev_V) (h : ev_H) : ev_O := match st with
  | .inl r :: st => match ev_ix r 1000001 with
    | some w => ev_fN h.length fun n => ev_fL (h ++ [.inl (a, w, [])]) fun h => some (pc + 2, ls, .inr (.inr (n + 4)) :: st, some h, 1, w)
    | none => none
  | _ => none
def ev_len (pc : Nat) (sc : List ev_V) (ls : ev_L) (st : List ev_V) (h : ev_H) : ev_O := match st with
  | .inr (.inr 2) :: st => ev_fN sc.length fun n => some (pc + 1, ls, .inl (n, n) :: st, none, 0, 0)
  | .inr (.inr (n + 4)) :: st => match ev_at h n with
    | some (.inl o) => bif Nat.ble o.2.1 1000000 then some (pc + 1, ls, .inl (o.2.1, o.2.1) :: st, none, 0, 0) else none
    | _ => none
  | _ => none
def ev_ald (pc : Nat) (sc : List ev_V) (hi : List Int) (ls : ev_L) (st : List ev_V) (h : ev_H) : ev_O := match st with
  | .inl r :: .inr (.inr 2) :: st => match ev_ix r sc.length with
    | some j => ev_psh (pc + 1) ls st (ev_at sc j)
    | none => none
  | .inl r :: .inr (.inr 3) :: st => match ev_ix r hi.length with
    | some j => match ev_at hi j with
      | some v => some (pc + 1, ls, .inl (v, v) :: st, none, 0, 0)
      | none => none
    | none => none
  | .inl r :: .inr (.inr (n + 4)) :: st => match ev_at h n with
    | some (.inl (0, w, m)) => match ev_ix r w with
      | some j => some (pc + 1, ls, .inl (ev_get m j) :: st, none, 0, 0)
      | none => none
    | _ => none
  | _ => none
def ev_ast (pc : Nat) (ls : ev_L) (st : List ev_V) (h : ev_H) : ev_O := match st with
  | .inl x :: .inl r :: .inr (.inr (n + 4)) :: st => match ev_at h n with
    | some (.inl (0, w, m)) => match ev_ix r w with
      | some j => ev_put m j x fun m => ev_fL (h.set n (.inl (0, w, m))) fun h => some (pc + 1, ls, st, some h, 0, 0)
      | none => none
    | _ => none
  | _ => none
def ev_bst (pc : Nat) (ls : ev_L) (st : List ev_V) (h : ev_H) : ev_O := match st with
  | .inl _ :: .inl r :: .inr (.inr (n + 4)) :: st => match ev_at h n with
    | some (.inl (1, w, m)) => match ev_ix r w with
      | some j => ev_put m j (-2147483648, 2147483647) fun m => ev_fL (h.set n (.inl (1, w, m))) fun h => some (pc + 1, ls, st, some h, 0, 0)
      | none => none
    | _ => none
  | _ => none
def ev_lst (pc : Nat) (ls : ev_L) (st : List ev_V) (h : ev_H) : ev_O := match st with
  | .inr (.inr 0) :: .inl r :: .inr (.inr (n + 4)) :: st => match ev_at h n with
    | some (.inl (3, w, _)) => match ev_ix r w with
      | some _ => some (pc + 1, ls, st, none, 0, 0)
      | none => none
    | _ => none
  | _ => none
def ev_ii (f : (Int × Int) → (Int × Int) → ev_V) (pc : Nat) (ls : ev_L) (st : List ev_V) : ev_O := match st with
  | .inl y :: .inl x :: st => some (pc, ls, f x y :: st, none, 0, 0)
  | _ => none
def ev_and (pc : Nat) (ls : ev_L) (st : List ev_V) : ev_O := match st with
  | .inl y :: .inl x :: st => some (pc, ls, ev_bin (fun a b => a &&& b) x y :: st, none, 0, 0)
  | .inl y :: .inr (.inl k) :: st => bif decide (y.1 = 31) && decide (y.2 = 31) && Nat.ble k 31 then some (pc, ls, .inl (k, k) :: st, none, 0, 0) else none
  | _ => none
def ev_cc (f : (Int × Int) → (Int × Int) → Option Bool) (pc : Nat) (off : Int) (ls : ev_L) (st : List ev_V) : ev_O := match st with
  | .inl y :: .inl x :: st => ev_br pc off ls st (f x y)
  | _ => none
def ev_c0 (f : (Int × Int) → (Int × Int) → Option Bool) (pc : Nat) (off : Int) (ls : ev_L) (st : List ev_V) : ev_O := match st with
  | .inl x :: st => ev_br pc off ls st (f x (0, 0))
  | _ => none
def ev_tsw (pc : Nat) (d lo hi : Int) (offs : Array Int) (ls : ev_L) (st : List ev_V) : ev_O := match st with
  | .inl x :: st => if x.2 < lo ∨ hi < x.1 then ev_jmp pc d ls st else if x.1 = x.2 ∧ lo ≤ x.1 ∧ x.1 ≤ hi then match ev_at offs.toList (x.1 - lo).toNat with
      | some o => ev_jmp pc o ls st
      | none => none
    else none
  | _ => none
def ev_lsw (pc : Nat) (d : Int) (ps : Array (Int × Int)) (ls : ev_L) (st : List ev_V) : ev_O := match st with
  | .inl x :: st => if x.1 = x.2 then ev_jmp pc (Op.lookupswitch.offset ps.toList d x.1) ls st else none
  | _ => none
def ev_sI (pc i : Nat) (ls : ev_L) (st : List ev_V) : ev_O := match st with
  | .inl x :: st => ev_fL (ev_sto ls i (.inl x)) fun ls => some (pc, ls, st, none, 0, 0)
  | _ => none
def ev_sR (pc i : Nat) (ls : ev_L) (st : List ev_V) : ev_O := match st with
  | .inr (.inr (n + 2)) :: st => ev_fL (ev_sto ls i (.inr (.inr (n + 2)))) fun ls => some (pc, ls, st, none, 0, 0)
  | _ => none
def ev_sJ (pc i : Nat) (ls : ev_L) (st : List ev_V) : ev_O := match st with
  | .inr (.inr 0) :: st => ev_fL (ev_stoL ls i (.inr (.inr 0))) fun ls => some (pc, ls, st, none, 0, 0)
  | _ => none
def ev_inc (pc i : Nat) (n : Int) (ls : ev_L) (st : List ev_V) : ev_O := match ev_loc ls i with
  | some (.inl x) => ev_fV (ev_bin (fun a b => a + b) x (n, n)) fun v => ev_fL (ev_sto ls i v) fun ls => some (pc + 3, ls, st, none, 0, 0)
  | _ => none
def ev_mm (mx : Bool) (x y : Int × Int) : ev_V := ev_bin (fun a b => if mx then (if a < b then b else a) else (if b < a then b else a)) x y
/-- a row of ints copied into another, place by place -/
def ev_cp (f g : List (Nat × (Int × Int))) (sp dp : Nat) (n : Nat) : List (Nat × (Int × Int)) := match n with
  | 0 => g
  | n + 1 => ev_put (ev_cp f g sp dp n) (dp + n) (ev_get f (sp + n)) fun m => m
def ev_copy (pc : Nat) (ls : ev_L) (st : List ev_V) (h : ev_H) : ev_O := match st with
  | .inl n :: .inl dp :: .inr (.inr (b + 4)) :: .inl sp :: .inr (.inr (a + 4)) :: st => match ev_at h a, ev_at h b with
    | some (.inl (0, w, f)), some (.inl (0, v, g)) => match ev_ix n 1000000, ev_ix dp 1000000, ev_ix sp 1000000 with
      | some n, some dp, some sp => bif Nat.ble (sp + n) w && Nat.ble (dp + n) v && !(Nat.beq a b) then ev_fL (ev_cp f g sp dp n) fun m => ev_fL (h.set b (.inl (0, v, m))) fun h => some (pc + 3, ls, st, some h, 0, 0) else none
      | _, _, _ => none
    | _, _ => none
  | _ => none
def ev_step (df : List (List ev_V)) (sc : List ev_V) (hi : List Int) (q : ev_I) (ls : ev_L) (st : List ev_V) (h : ev_H) : ev_O := match q.2.1 with
  | (.aload_n k, 1) => ev_psh (q.1 + 1) ls st (ev_ldR ls k.val)
  | (.aload k, 2) => ev_psh (q.1 + 2) ls st (ev_ldR ls k)
  | (.iload_n k, 1) => ev_psh (q.1 + 1) ls st (ev_ldI ls k.val)
  | (.iload k, 2) => ev_psh (q.1 + 2) ls st (ev_ldI ls k)
  | (.lload_n k, 1) => ev_psh (q.1 + 1) ls st (ev_ldJ ls k.val)
  | (.iconst _, 1) => some (q.1 + 1, ls, .inl (q.2.2.2.2.2, q.2.2.2.2.2) :: st, none, 0, 0)
  | (.bipush _, 2) => some (q.1 + 2, ls, .inl (q.2.2.2.2.2, q.2.2.2.2.2) :: st, none, 0, 0)
  | (.sipush _, 3) => some (q.1 + 3, ls, .inl (q.2.2.2.2.2, q.2.2.2.2.2) :: st, none, 0, 0)
  | (.ldc _, 2) => some (q.1 + 2, ls, .inl (q.2.2.2.2.2, q.2.2.2.2.2) :: st, none, 0, 0)
  | (.ldc_w _, 3) => some (q.1 + 3, ls, .inl (q.2.2.2.2.2, q.2.2.2.2.2) :: st, none, 0, 0)
  | (.istore_n k, 1) => ev_sI (q.1 + 1) k.val ls st
  | (.istore k, 2) => ev_sI (q.1 + 2) k ls st
  | (.astore_n k, 1) => ev_sR (q.1 + 1) k.val ls st
  | (.lstore k, 2) => ev_sJ (q.1 + 2) k ls st
  | (.iinc k n, 3) => ev_inc q.1 k n ls st
  | (.getfield _, 3) => ev_getf q.1 q.2.2.2.1 q.2.2.2.2.1 ls st h
  | (.putfield _, 3) => ev_putf q.1 q.2.2.2.1 q.2.2.2.2.1 q.2.2.2.2.2.toNat ls st h
  | (.new _, 3) => ev_new q.1 q.2.2.2.1 df ls st h
  | (.newarray _, 2) => ev_newa q.1 q.2.2.2.1 ls st h
  | (.arraylength, 1) => ev_len q.1 sc ls st h
  | (.iaload, 1) => ev_ald q.1 sc hi ls st h
  | (.iastore, 1) => ev_ast q.1 ls st h
  | (.bastore, 1) => ev_bst q.1 ls st h
  | (.lastore, 1) => ev_lst q.1 ls st h
  | (.getstatic _, 3) => some (q.1 + 3, ls, .inr (.inr 3) :: st, none, 0, 0)
  | (.iadd, 1) => ev_ii (ev_bin fun a b => a + b) (q.1 + 1) ls st
  | (.isub, 1) => ev_ii (ev_bin fun a b => a - b) (q.1 + 1) ls st
  | (.imul, 1) => ev_ii (ev_bin fun a b => a * b) (q.1 + 1) ls st
  | (.ishr, 1) => ev_ii (ev_bin fun a b => a >>> (b &&& 31)) (q.1 + 1) ls st
  | (.iushr, 1) => ev_ii (ev_bin fun a b => (a.toUInt32 >>> (b.toUInt32 &&& Int32.toUInt32 31)).toInt32) (q.1 + 1) ls st
  | (.iand, 1) => ev_and (q.1 + 1) ls st
  | (.i2b, 1) => match st with
    | .inl _ :: st => some (q.1 + 1, ls, ev_top :: st, none, 0, 0)
    | _ => none
  | (.i2l, 1) => match st with
    | .inl _ :: st => some (q.1 + 1, ls, .inr (.inr 0) :: st, none, 0, 0)
    | _ => none
  | (.dup, 1) => match st with
    | x :: st => bif ev_ok1 x then some (q.1 + 1, ls, x :: x :: st, none, 0, 0) else none
    | _ => none
  | (.dup_x1, 1) => match st with
    | x :: y :: st => bif ev_ok1 x && ev_ok1 y then some (q.1 + 1, ls, x :: y :: x :: st, none, 0, 0) else none
    | _ => none
  | (.pop, 1) => match st with
    | x :: st => bif ev_ok1 x then some (q.1 + 1, ls, st, none, 0, 0) else none
    | _ => none
  | (.goto off, 3) => ev_jmp q.1 off ls st
  | (.if_icmp .lt off, 3) => ev_cc ev_lt q.1 off ls st
  | (.if_icmp .ge off, 3) => ev_cc (fun x y => ev_not (ev_lt x y)) q.1 off ls st
  | (.if_icmp .gt off, 3) => ev_cc (fun x y => ev_lt y x) q.1 off ls st
  | (.if_icmp .le off, 3) => ev_cc (fun x y => ev_not (ev_lt y x)) q.1 off ls st
  | (.if_icmp .eq off, 3) => ev_cc ev_eq q.1 off ls st
  | (.if_icmp .ne off, 3) => ev_cc (fun x y => ev_not (ev_eq x y)) q.1 off ls st
  | (.ifCond .lt off, 3) => ev_c0 ev_lt q.1 off ls st
  | (.ifCond .ge off, 3) => ev_c0 (fun x y => ev_not (ev_lt x y)) q.1 off ls st
  | (.ifCond .gt off, 3) => ev_c0 (fun x y => ev_lt y x) q.1 off ls st
  | (.ifCond .le off, 3) => ev_c0 (fun x y => ev_not (ev_lt y x)) q.1 off ls st
  | (.ifCond .eq off, 3) => ev_c0 ev_eq q.1 off ls st
  | (.ifCond .ne off, 3) => ev_c0 (fun x y => ev_not (ev_eq x y)) q.1 off ls st
  | (.tableswitch d lo hi offs, _) => ev_tsw q.1 d lo hi offs ls st
  | (.lookupswitch d ps, _) => ev_lsw q.1 d ps ls st
  | _ => none
/-- calls of the library's own: kind 7 Object's constructor, 8 max, 9 min, 10 a copy -/
def ev_lib (k : Nat) (q : ev_I) (ls : ev_L) (st : List ev_V) (h : ev_H) : ev_O := match k with
  | 7 => match st with
    | .inr (.inr (_ + 4)) :: st => bif Nat.ble st.length 4 then some (q.1 + 3, ls, st, none, 0, 0) else none
    | _ => none
  | 8 => bif Nat.ble st.length 6 then ev_ii (ev_mm true) (q.1 + 3) ls st else none
  | 9 => bif Nat.ble st.length 6 then ev_ii (ev_mm false) (q.1 + 3) ls st else none
  | 10 => bif Nat.ble st.length 9 then ev_copy q.1 ls st h else none
  | _ => none
/-- a method's end: 0 nothing, 1 an int, 2 a boolean, 3 a long, 5 a throw -/
def ev_end (t : Nat) (st : List ev_V) : Bool := match t, st with
  | 0, [] => true
  | 1, [.inl _] => true
  | 2, [.inl r] => decide (0 ≤ r.1) && decide (r.2 ≤ 1)
  | 3, [.inr (.inr 0)] => true
  | 5, [] => true
  | _, _ => false
/-- how many words arguments take -/
def ev_wd (l : List ev_V) : Nat := match l with
  | [] => 0
  | x :: t => (bif ev_lng x then 2 else 1) + ev_wd t
/-- the receiver is an object of that kind -/
def ev_rcv (ci : Nat) (as : List ev_V) (h : ev_H) : Bool := match as with
  | .inr (.inr (n + 4)) :: _ => match ev_at h n with
    | some (.inr o) => Nat.beq o.1 ci
    | _ => false
  | _ => false
/-- what the law hands to those two: the object, one or two ints, a row -/
def ev_hty (as : List ev_V) : Bool := match as with
  | [.inr (.inr (_ + 4)), .inl _, .inl _, .inr (.inr (_ + 4))] => true
  | [.inr (.inr (_ + 4)), .inl _, .inr (.inr (_ + 4))] => true
  | _ => false
abbrev ev_F : Type := Nat → ev_M → Nat → Nat → ev_L → List ev_V → ev_H → Nat → Nat → Option ev_R
/-- a step's outcome goes on -/
def ev_go (ih : ev_F) (d : Nat) (T : ev_M) (stop : Nat) (h : ev_H) (k n : Nat) (o : ev_O) : Option ev_R := match o with
  | none => none
  | some r => ev_fN r.1 fun pc => ev_fS r.2.2.1 fun st => ev_fN (k + r.2.2.2.2.1) fun k => ev_fN (n + r.2.2.2.2.2) fun n => match r.2.2.2.1 with
    | none => ih d T stop pc r.2.1 st h k n
    | some h => ih d T stop pc r.2.1 st h k n
/-- a call: kinds 2 virtual, 3 constructor, 4 constructor of a nest mate, 5 static -/
def ev_call (PR : List ev_M) (ih : ev_F) (d : Nat) (T : ev_M) (stop : Nat) (q : ev_I) (ls : ev_L) (st : List ev_V) (h : ev_H) (k n : Nat) : Option ev_R := match d with
  | 0 => none
  | d + 1 => ev_fL (st.take q.2.2.2.2.1).reverse fun as => ev_fL (st.drop q.2.2.2.2.1) fun rest => bif Nat.beq as.length q.2.2.2.2.1 && Nat.ble rest.length 4 && (Nat.beq q.2.2.1 5 || ev_rcv (q.2.2.2.2.2.toNat % 100) as h) && Nat.ble (ev_wd as) (q.2.2.2.2.2.toNat / 100) then
      match ev_at PR q.2.2.2.1 with
      | none => none
      | some U => ev_fL (ev_args 0 as) fun la => match ih d U 100000 0 la [] h 0 0 with
        | none => none
        | some r => bif Nat.ble r.1 3 then ev_fN (k + r.2.2.2.2.2.1) fun k => ev_fN (n + r.2.2.2.2.2.2) fun n => ev_fN (q.1 + 3) fun pc => ev_fS (r.2.2.2.1 ++ rest) fun st => ih (d + 1) T stop pc ls st r.2.2.2.2.1 k n else none
    else none
/-- kind 6: a call that the law makes of what throws, with its catching; 40 cells, 400 places are more than an exception takes -/
def ev_help (PR : List ev_M) (ih : ev_F) (d : Nat) (T : ev_M) (stop : Nat) (q : ev_I) (ls : ev_L) (st : List ev_V) (h : ev_H) (k n : Nat) : Option ev_R := match d with
  | d + 12 => ev_fL (st.take q.2.2.2.2.1).reverse fun as => ev_fL (st.drop q.2.2.2.2.1) fun rest => bif Nat.beq as.length q.2.2.2.2.1 && Nat.ble rest.length 4 && ev_rcv 10 as h && ev_hty as && Nat.ble (ev_wd as) (q.2.2.2.2.2.toNat / 100) && Nat.ble (ev_wd as.dropLast) (q.2.2.2.2.2.toNat % 100) then
      match ev_at PR q.2.2.2.1 with
      | none => none
      | some U => ev_fL (ev_args 0 as.dropLast) fun la => match ih 1 U 100000 0 la [] h 0 0 with
        | none => none
        | some r => bif Nat.beq r.1 5 && Nat.beq r.2.2.2.2.2.1 0 && Nat.beq r.2.2.2.2.2.2 0 then ev_fN (k + 40) fun k => ev_fN (n + 400) fun n => ev_fN (q.1 + 3) fun pc => ih (d + 12) T stop pc ls (.inl (1, 1) :: rest) r.2.2.2.2.1 k n else none
    else none
  | _ => none
def ev_body (PR : List ev_M) (df : List (List ev_V)) (sc : List ev_V) (hi : List Int) (ih : ev_F) (d : Nat) (T : ev_M) (stop pc : Nat) (ls : ev_L) (st : List ev_V) (h : ev_H) (k n : Nat) : Option ev_R :=
  bif Nat.beq pc stop then some (4, pc, ls, st, h, k, n) else
  match ev_fetch T pc with
  | none => none
  | some q => match q.2.2.1 with
    | 0 => ev_go ih d T stop h k n (ev_step df sc hi q ls st h)
    | 1 => bif ev_end q.2.2.2.1 st then some (q.2.2.2.1, pc, ls, st, h, k, n) else none
    | 6 => ev_help PR ih d T stop q ls st h k n
    | 2 => ev_call PR ih d T stop q ls st h k n
    | 3 => ev_call PR ih d T stop q ls st h k n
    | 4 => ev_call PR ih d T stop q ls st h k n
    | 5 => ev_call PR ih d T stop q ls st h k n
    | w + 7 => match d with
      | 0 => none
      | d + 1 => ev_go ih (d + 1) T stop h k n (ev_lib (w + 7) q ls st h)
noncomputable def ev_run (PR : List ev_M) (df : List (List ev_V)) (sc : List ev_V) (hi : List Int) (fuel : Nat) : ev_F :=
  Nat.rec (fun _ _ _ _ _ _ _ _ _ => none) (fun _ ih => ev_body PR df sc hi ih) fuel
end EVA
