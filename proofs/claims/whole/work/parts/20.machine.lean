/-! The pure machine: what the bytecode of this claim does, over a memory of logical cells with Lean's Int in the places of int and long (wrapped at each step). Cells: 0 the script, 1 Reader.ALLOWED's array, 2 Reader.WORDS, from 3 on what the law makes, in order. -/
abbrev PV : Type := Int ⊕ (Int ⊕ (Option Nat ⊕ Unit))
abbrev vI (x : Int) : PV := .inl x
abbrev vL (x : Int) : PV := .inr (.inl x)
abbrev vR (k : Nat) : PV := .inr (.inr (.inl (some k)))
abbrev vN : PV := .inr (.inr (.inl none))
abbrev vJ : PV := .inr (.inr (.inr ()))
/-- a cell's shape: an object of a class, or an array: 0 int, 1 byte, 2 boolean, 3 long, 4 + class: of references; its length -/
abbrev Sh : Type := Nat ⊕ (Nat × Nat)
abbrev MI : Type := Nat → Int → Int
abbrev MR : Type := Nat → Int → Option Nat
/-- shapes, ints, longs, references, slots made -/
abbrev PM : Type := List Sh × MI × MI × MR × Nat
abbrev FR : Type := Nat × List PV × List PV
abbrev PRes : Type := (FR × PM) ⊕ ((Option PV × PM) ⊕ (Nat × List PV × FR × PM))
def px_up {α : Type} (f : Nat → Int → α) (k : Nat) (j : Int) (v : α) : Nat → Int → α := fun k' j' => if k' = k ∧ j' = j then v else f k' j'
/-- a whole cell anew -/
def px_un {α : Type} (f : Nat → Int → α) (k : Nat) (g : Int → α) : Nat → Int → α := fun k' j' => if k' = k then g j' else f k' j'
def px_w32 (x : Int) : Int := Int.bmod x 4294967296
def px_w64 (x : Int) : Int := Int.bmod x 18446744073709551616
def px_and (a b : Int) : Int := (Int32.ofInt a &&& Int32.ofInt b).toInt
def px_or (a b : Int) : Int := (Int32.ofInt a ||| Int32.ofInt b).toInt
def px_xor (a b : Int) : Int := (Int32.ofInt a ^^^ Int32.ofInt b).toInt
def px_shl (a b : Int) : Int := (Int32.ofInt a <<< (Int32.ofInt b &&& 31)).toInt
def px_shr (a b : Int) : Int := (Int32.ofInt a >>> (Int32.ofInt b &&& 31)).toInt
def px_ushr (a b : Int) : Int := ((Int32.ofInt a).toUInt32 >>> ((Int32.ofInt b).toUInt32 &&& Int32.toUInt32 31)).toInt32.toInt
def px_land (a b : Int) : Int := (Int64.ofInt a &&& Int64.ofInt b).toInt
def px_lor (a b : Int) : Int := (Int64.ofInt a ||| Int64.ofInt b).toInt
def px_lxor (a b : Int) : Int := (Int64.ofInt a ^^^ Int64.ofInt b).toInt
def px_lshl (a b : Int) : Int := (Int64.ofInt a <<< ((Int32.ofInt b).toInt64 &&& 63)).toInt
def px_lshr (a b : Int) : Int := (Int64.ofInt a >>> ((Int32.ofInt b).toInt64 &&& 63)).toInt
def px_lushr (a b : Int) : Int := ((Int64.ofInt a).toUInt64 >>> ((Int32.ofInt b).toInt64.toUInt64 &&& Int64.toUInt64 63)).toInt64.toInt
def px_i2b (x : Int) : Int := (Int32.ofInt x).toInt8.toInt32.toInt
def px_cmp (x y : Int) : Int := if x < y then -1 else if x = y then 0 else 1
/-- does the condition hold -/
def px_cb (c : ClassFile.Cond) (x y : Int) : Prop := match c with
  | .eq => x = y
  | .ne => x ≠ y
  | .lt => x < y
  | .ge => y ≤ x
  | .gt => y < x
  | .le => x ≤ y
def px_dec (c : ClassFile.Cond) (x y : Int) : Decidable (px_cb c x y) := match c with
  | .eq => inferInstanceAs (Decidable (x = y))
  | .ne => inferInstanceAs (Decidable (x ≠ y))
  | .lt => inferInstanceAs (Decidable (x < y))
  | .ge => inferInstanceAs (Decidable (y ≤ x))
  | .gt => inferInstanceAs (Decidable (y < x))
  | .le => inferInstanceAs (Decidable (x ≤ y))
def px_cat (v : PV) : Nat := match v with
  | .inr (.inl _) => 2
  | _ => 1
/-- a long's first half falls when its second is written over -/
def px_clob (ls : List PV) (n : Nat) : List PV := match n with
  | 0 => ls
  | k + 1 => match ls[k]? with
    | some (.inr (.inl _)) => ls.set k vJ
    | _ => ls
def px_st1 (ls : List PV) (n : Nat) (v : PV) : List PV := (px_clob ls n).set n v
def px_st2 (ls : List PV) (n : Nat) (v : PV) : List PV := ((px_clob ls n).set n v).set (n + 1) vJ
def px_xp : List PV → List PV
  | [] => []
  | v :: r => match v with
    | .inr (.inl x) => .inr (.inl x) :: vJ :: px_xp r
    | v => v :: px_xp r
def px_ent (m : Nat) (as : List PV) : FR := (0, px_xp as ++ List.replicate (px_ml m - (px_xp as).length) vJ, [])
abbrev px_nx (pc : Nat) (ls st : List PV) (s : PM) : Option PRes := some (.inl ((pc, ls, st), s))
def px_i2 (g : Int → Int → Int) (pc : Nat) (ls st : List PV) (s : PM) : Option PRes := match st with
  | .inl y :: .inl x :: r => px_nx (pc + 1) ls (vI (g x y) :: r) s
  | _ => none
def px_l2 (g : Int → Int → Int) (pc : Nat) (ls st : List PV) (s : PM) : Option PRes := match st with
  | .inr (.inl y) :: .inr (.inl x) :: r => px_nx (pc + 1) ls (vL (g x y) :: r) s
  | _ => none
def px_ls (g : Int → Int → Int) (pc : Nat) (ls st : List PV) (s : PM) : Option PRes := match st with
  | .inl y :: .inr (.inl x) :: r => px_nx (pc + 1) ls (vL (g x y) :: r) s
  | _ => none
def px_ld (i : Nat) (len : Nat) (pc : Nat) (ls st : List PV) (s : PM) : Option PRes := match ls[i]? with
  | some (.inl x) => px_nx (pc + len) ls (vI x :: st) s
  | _ => none
def px_lld (i : Nat) (len : Nat) (pc : Nat) (ls st : List PV) (s : PM) : Option PRes := match ls[i]? with
  | some (.inr (.inl x)) => px_nx (pc + len) ls (vL x :: st) s
  | _ => none
def px_ald (i : Nat) (len : Nat) (pc : Nat) (ls st : List PV) (s : PM) : Option PRes := match ls[i]? with
  | some (.inr (.inr (.inl r))) => px_nx (pc + len) ls (.inr (.inr (.inl r)) :: st) s
  | _ => none
def px_ist (i : Nat) (len : Nat) (pc : Nat) (ls st : List PV) (s : PM) : Option PRes := match st with
  | .inl x :: r => if i < ls.length then px_nx (pc + len) (px_st1 ls i (vI x)) r s else none
  | _ => none
def px_lst (i : Nat) (len : Nat) (pc : Nat) (ls st : List PV) (s : PM) : Option PRes := match st with
  | .inr (.inl x) :: r => if i + 1 < ls.length then px_nx (pc + len) (px_st2 ls i (vL x)) r s else none
  | _ => none
def px_ast (i : Nat) (len : Nat) (pc : Nat) (ls st : List PV) (s : PM) : Option PRes := match st with
  | .inr (.inr (.inl x)) :: r => if i < ls.length then px_nx (pc + len) (px_st1 ls i (.inr (.inr (.inl x)))) r s else none
  | _ => none
def px_get (ci ty : Nat) (j : Int) (pc : Nat) (ls st : List PV) (s : PM) : Option PRes := match st with
  | .inr (.inr (.inl (some k))) :: r =>
    if s.1[k]? = some (.inl ci) ∧ 3 ≤ k then
      (match ty with
       | 3 => px_nx (pc + 3) ls (vL (s.2.2.1 k j) :: r) s
       | 4 => px_nx (pc + 3) ls (.inr (.inr (.inl (s.2.2.2.1 k j))) :: r) s
       | _ => px_nx (pc + 3) ls (vI (s.2.1 k j) :: r) s)
    else none
  | _ => none
def px_put (ci ty : Nat) (j : Int) (pc : Nat) (ls st : List PV) (s : PM) : Option PRes := match st with
  | v :: .inr (.inr (.inl (some k))) :: r =>
    if s.1[k]? = some (.inl ci) ∧ 3 ≤ k then
      (match ty, v with
       | 0, .inl x => px_nx (pc + 3) ls r (s.1, px_up s.2.1 k j x, s.2.2.1, s.2.2.2.1, s.2.2.2.2)
       | 1, .inl x => if x = 0 ∨ x = 1 then px_nx (pc + 3) ls r (s.1, px_up s.2.1 k j x, s.2.2.1, s.2.2.2.1, s.2.2.2.2) else none
       | 3, .inr (.inl x) => px_nx (pc + 3) ls r (s.1, s.2.1, px_up s.2.2.1 k j x, s.2.2.2.1, s.2.2.2.2)
       | 4, .inr (.inr (.inl (some x))) => px_nx (pc + 3) ls r (s.1, s.2.1, s.2.2.1, px_up s.2.2.2.1 k j (some x), s.2.2.2.2)
       | _, _ => none)
    else none
  | _ => none
def px_aln (pc : Nat) (ls st : List PV) (s : PM) : Option PRes := match st with
  | .inr (.inr (.inl (some k))) :: r => (match s.1[k]? with
    | some (.inr (_, n)) => px_nx (pc + 1) ls (vI n :: r) s
    | _ => none)
  | _ => none
/-- an element of an array of ints (kind 0) or of bytes or booleans (kinds 1, 2) -/
def px_ild (kd : Nat → Bool) (pc : Nat) (ls st : List PV) (s : PM) : Option PRes := match st with
  | .inl x :: .inr (.inr (.inl (some k))) :: r => (match s.1[k]? with
    | some (.inr (t, n)) => if kd t = true ∧ 0 ≤ x ∧ x < n then px_nx (pc + 1) ls (vI (s.2.1 k x) :: r) s else none
    | _ => none)
  | _ => none
def px_jld (pc : Nat) (ls st : List PV) (s : PM) : Option PRes := match st with
  | .inl x :: .inr (.inr (.inl (some k))) :: r => (match s.1[k]? with
    | some (.inr (t, n)) => if t = 3 ∧ 0 ≤ x ∧ x < n then px_nx (pc + 1) ls (vL (s.2.2.1 k x) :: r) s else none
    | _ => none)
  | _ => none
def px_qld (pc : Nat) (ls st : List PV) (s : PM) : Option PRes := match st with
  | .inl x :: .inr (.inr (.inl (some k))) :: r => (match s.1[k]? with
    | some (.inr (t, n)) => if 4 ≤ t ∧ 0 ≤ x ∧ x < n then px_nx (pc + 1) ls (.inr (.inr (.inl (s.2.2.2.1 k x))) :: r) s else none
    | _ => none)
  | _ => none
def px_iss (pc : Nat) (ls st : List PV) (s : PM) : Option PRes := match st with
  | .inl v :: .inl x :: .inr (.inr (.inl (some k))) :: r => (match s.1[k]? with
    | some (.inr (t, n)) => if t = 0 ∧ 0 ≤ x ∧ x < n ∧ 3 ≤ k then px_nx (pc + 1) ls r (s.1, px_up s.2.1 k x v, s.2.2.1, s.2.2.2.1, s.2.2.2.2) else none
    | _ => none)
  | _ => none
def px_bss (pc : Nat) (ls st : List PV) (s : PM) : Option PRes := match st with
  | .inl v :: .inl x :: .inr (.inr (.inl (some k))) :: r => (match s.1[k]? with
    | some (.inr (t, n)) =>
      if t = 1 ∧ 0 ≤ x ∧ x < n ∧ 3 ≤ k then px_nx (pc + 1) ls r (s.1, px_up s.2.1 k x (px_i2b v), s.2.2.1, s.2.2.2.1, s.2.2.2.2)
      else if t = 2 ∧ 0 ≤ x ∧ x < n ∧ 3 ≤ k ∧ (v = 0 ∨ v = 1) then px_nx (pc + 1) ls r (s.1, px_up s.2.1 k x v, s.2.2.1, s.2.2.2.1, s.2.2.2.2) else none
    | _ => none)
  | _ => none
def px_jss (pc : Nat) (ls st : List PV) (s : PM) : Option PRes := match st with
  | .inr (.inl v) :: .inl x :: .inr (.inr (.inl (some k))) :: r => (match s.1[k]? with
    | some (.inr (t, n)) => if t = 3 ∧ 0 ≤ x ∧ x < n ∧ 3 ≤ k then px_nx (pc + 1) ls r (s.1, s.2.1, px_up s.2.2.1 k x v, s.2.2.2.1, s.2.2.2.2) else none
    | _ => none)
  | _ => none
def px_qss (pc : Nat) (ls st : List PV) (s : PM) : Option PRes := match st with
  | .inr (.inr (.inl (some v))) :: .inl x :: .inr (.inr (.inl (some k))) :: r => (match s.1[k]? with
    | some (.inr (t, n)) => if 4 ≤ t ∧ 0 ≤ x ∧ x < n ∧ 3 ≤ k ∧ s.1[v]? = some (.inl (t - 4)) ∧ 3 ≤ v then px_nx (pc + 1) ls r (s.1, s.2.1, s.2.2.1, px_up s.2.2.2.1 k x (some v), s.2.2.2.2) else none
    | _ => none)
  | _ => none
/-- a new cell, all 0 -/
def px_mk (s : PM) (h : Sh) (n : Nat) : PM := (s.1 ++ [h], px_un s.2.1 s.1.length (fun _ => 0), px_un s.2.2.1 s.1.length (fun _ => 0), px_un s.2.2.2.1 s.1.length (fun _ => none), s.2.2.2.2 + n)
def px_new (ci : Nat) (pc : Nat) (ls st : List PV) (s : PM) : Option PRes := px_nx (pc + 3) ls (vR s.1.length :: st) (px_mk s (.inl ci) (px_nf ci))
def px_nwa (kd len : Nat) (pc : Nat) (ls st : List PV) (s : PM) : Option PRes := match st with
  | .inl x :: r => if 0 ≤ x ∧ x ≤ 10000 then px_nx (pc + len) ls (vR s.1.length :: r) (px_mk s (.inr (kd, x.toNat)) x.toNat) else none
  | _ => none
/-- System.arraycopy -/
def px_acp (pc : Nat) (ls st : List PV) (s : PM) : Option PRes := match st with
  | .inl n :: .inl dp :: .inr (.inr (.inl (some k))) :: .inl sp :: .inr (.inr (.inl (some k0))) :: r => (match s.1[k]?, s.1[k0]? with
    | some (.inr (t, n1)), some (.inr (t0, n0)) =>
      if t = t0 ∧ 0 ≤ n ∧ 0 ≤ sp ∧ 0 ≤ dp ∧ sp + n ≤ n0 ∧ dp + n ≤ n1 ∧ 3 ≤ k ∧ 3 ≤ k0 ∧ (r.map px_cat).sum ≤ 8 then
        (match t with
         | 0 => px_nx (pc + 3) ls r (s.1, px_un s.2.1 k (fun j => if dp ≤ j ∧ j < dp + n then s.2.1 k0 (sp + (j - dp)) else s.2.1 k j), s.2.2.1, s.2.2.2.1, s.2.2.2.2)
         | 3 => px_nx (pc + 3) ls r (s.1, s.2.1, px_un s.2.2.1 k (fun j => if dp ≤ j ∧ j < dp + n then s.2.2.1 k0 (sp + (j - dp)) else s.2.2.1 k j), s.2.2.2.1, s.2.2.2.2)
         | _ => none)
      else none
    | _, _ => none)
  | _ => none
def px_words : List Nat := [116, 105, 100, 101, 32, 119, 105, 115, 104, 32, 98, 105, 108, 108, 32, 114, 97, 102, 116, 32, 98, 97, 114, 115, 32, 113, 117, 97, 114, 114, 101, 108, 32, 111, 114, 32, 97, 110, 100, 32, 110, 111, 116, 32, 109, 105, 110, 117, 116, 101, 32, 119, 105, 110, 100, 32, 109, 111, 111, 110, 32, 114, 97, 110, 107, 32, 115, 119, 105, 109, 32, 102, 101, 97, 114, 32, 98, 97, 103, 32, 104, 105, 103, 104, 32, 108, 101, 118, 101, 108, 32, 119, 105, 116, 104, 32, 111, 116, 104, 101, 114, 32, 119, 101, 116, 32, 109, 111, 118, 101, 115, 32, 99, 114, 97, 98, 115, 32, 100, 111, 111, 114, 115, 32]
def px_sln (pc : Nat) (ls st : List PV) (s : PM) : Option PRes := match st with
  | .inr (.inr (.inl (some 2))) :: r => if (r.map px_cat).sum ≤ 8 then px_nx (pc + 3) ls (vI (px_words.length : Nat) :: r) s else none
  | _ => none
def px_sch (pc : Nat) (ls st : List PV) (s : PM) : Option PRes := match st with
  | .inl x :: .inr (.inr (.inl (some 2))) :: r => if 0 ≤ x ∧ x < (px_words.length : Nat) ∧ (r.map px_cat).sum ≤ 8 then px_nx (pc + 3) ls (vI ((px_words.getD x.toNat 0 : Nat) : Int) :: r) s else none
  | _ => none
/-- Math's max, min, abs -/
def px_mi (g : Int → Int → Int) (pc : Nat) (ls st : List PV) (s : PM) : Option PRes := match st with
  | .inl y :: .inl x :: r => if (r.map px_cat).sum ≤ 8 then px_nx (pc + 3) ls (vI (g x y) :: r) s else none
  | _ => none
def px_mj (g : Int → Int → Int) (pc : Nat) (ls st : List PV) (s : PM) : Option PRes := match st with
  | .inr (.inl y) :: .inr (.inl x) :: r => if (r.map px_cat).sum ≤ 8 then px_nx (pc + 3) ls (vL (g x y) :: r) s else none
  | _ => none
def px_ma (pc : Nat) (ls st : List PV) (s : PM) : Option PRes := match st with
  | .inl x :: r => if (r.map px_cat).sum ≤ 8 then px_nx (pc + 3) ls (vI (if 0 ≤ x then x else px_w32 (0 - x)) :: r) s else none
  | _ => none
/-- a call: kind (0 static, else the receiver is of the method's class) -/
def px_call (m' kd : Nat) (pc : Nat) (ls st : List PV) (s : PM) : Option PRes :=
  if px_na m' ≤ st.length ∧ ((st.drop (px_na m')).map px_cat).sum ≤ 8 ∧ m' + 1 < px_nm ∧ (px_xp (st.take (px_na m')).reverse).length ≤ px_ml m' then
    (match kd, (st.take (px_na m')).reverse with
     | 0, as => some (.inr (.inr (m', as, (pc + 3, ls, st.drop (px_na m')), s)))
     | _ + 1, .inr (.inr (.inl (some k))) :: as => if s.1[k]? = some (.inl (px_mo m')) ∧ 3 ≤ k then some (.inr (.inr (m', .inr (.inr (.inl (some k))) :: as, (pc + 3, ls, st.drop (px_na m')), s))) else none
     | _, _ => none)
  else none
def px_br (c : ClassFile.Cond) (x y : Int) (tgt pc : Nat) (ls st : List PV) (s : PM) : Option PRes :=
  match px_dec c x y with
  | isTrue _ => px_nx tgt ls st s
  | isFalse _ => px_nx (pc + 3) ls st s
/-- one instruction -/
def px_ex (m : Nat) (e : PE) (pc : Nat) (ls st : List PV) (s : PM) : Option PRes := match e.1 with
  | .aload n => px_ald n 2 pc ls st s
  | .aload_n n => px_ald n.val 1 pc ls st s
  | .iload n => px_ld n 2 pc ls st s
  | .iload_n n => px_ld n.val 1 pc ls st s
  | .lload n => px_lld n 2 pc ls st s
  | .lload_n n => px_lld n.val 1 pc ls st s
  | .astore n => px_ast n 2 pc ls st s
  | .astore_n n => px_ast n.val 1 pc ls st s
  | .istore n => px_ist n 2 pc ls st s
  | .istore_n n => px_ist n.val 1 pc ls st s
  | .lstore n => px_lst n 2 pc ls st s
  | .lstore_n n => px_lst n.val 1 pc ls st s
  | .iconst v => if -1 ≤ v ∧ v ≤ 5 then px_nx (pc + 1) ls (vI v :: st) s else none
  | .lconst v => px_nx (pc + 1) ls (vL ((v.val : Nat) : Int) :: st) s
  | .bipush v => if -128 ≤ v ∧ v < 128 then px_nx (pc + 2) ls (vI v :: st) s else none
  | .sipush v => if -32768 ≤ v ∧ v < 32768 then px_nx (pc + 3) ls (vI v :: st) s else none
  | .aconst_null => px_nx (pc + 1) ls (vN :: st) s
  | .iinc n v => (match ls[n]? with
    | some (.inl x) => if -128 ≤ v ∧ v < 128 then px_nx (pc + 3) (px_st1 ls n (vI (px_w32 (x + v)))) st s else none
    | _ => none)
  | .iadd => px_i2 (fun x y => px_w32 (x + y)) pc ls st s
  | .isub => px_i2 (fun x y => px_w32 (x - y)) pc ls st s
  | .imul => px_i2 (fun x y => px_w32 (x * y)) pc ls st s
  | .iand => px_i2 px_and pc ls st s
  | .ior => px_i2 px_or pc ls st s
  | .ixor => px_i2 px_xor pc ls st s
  | .ishl => px_i2 px_shl pc ls st s
  | .ishr => px_i2 px_shr pc ls st s
  | .iushr => px_i2 px_ushr pc ls st s
  | .idiv => (match st with
    | .inl y :: .inl x :: r => if y = 0 then none else px_nx (pc + 1) ls (vI (px_w32 (x.tdiv y)) :: r) s
    | _ => none)
  | .irem => (match st with
    | .inl y :: .inl x :: r => if y = 0 then none else px_nx (pc + 1) ls (vI (x.tmod y) :: r) s
    | _ => none)
  | .ineg => (match st with
    | .inl x :: r => px_nx (pc + 1) ls (vI (px_w32 (-x)) :: r) s
    | _ => none)
  | .ladd => px_l2 (fun x y => px_w64 (x + y)) pc ls st s
  | .lsub => px_l2 (fun x y => px_w64 (x - y)) pc ls st s
  | .lmul => px_l2 (fun x y => px_w64 (x * y)) pc ls st s
  | .land => px_l2 px_land pc ls st s
  | .lor => px_l2 px_lor pc ls st s
  | .lxor => px_l2 px_lxor pc ls st s
  | .lshl => px_ls px_lshl pc ls st s
  | .lshr => px_ls px_lshr pc ls st s
  | .lushr => px_ls px_lushr pc ls st s
  | .ldiv => (match st with
    | .inr (.inl y) :: .inr (.inl x) :: r => if y = 0 then none else px_nx (pc + 1) ls (vL (px_w64 (x.tdiv y)) :: r) s
    | _ => none)
  | .lneg => (match st with
    | .inr (.inl x) :: r => px_nx (pc + 1) ls (vL (px_w64 (-x)) :: r) s
    | _ => none)
  | .lcmp => (match st with
    | .inr (.inl y) :: .inr (.inl x) :: r => px_nx (pc + 1) ls (vI (px_cmp x y) :: r) s
    | _ => none)
  | .i2l => (match st with
    | .inl x :: r => px_nx (pc + 1) ls (vL x :: r) s
    | _ => none)
  | .l2i => (match st with
    | .inr (.inl x) :: r => px_nx (pc + 1) ls (vI (px_w32 x) :: r) s
    | _ => none)
  | .i2b => (match st with
    | .inl x :: r => px_nx (pc + 1) ls (vI (px_i2b x) :: r) s
    | _ => none)
  | .dup => (match st with
    | v :: r => if px_cat v = 1 then px_nx (pc + 1) ls (v :: v :: r) s else none
    | _ => none)
  | .dup2 => (match st with
    | v :: u :: r => if px_cat v = 1 ∧ px_cat u = 1 then px_nx (pc + 1) ls (v :: u :: v :: u :: r) s else none
    | _ => none)
  | .goto _ => (match e.2.2.1 with
    | [t] => px_nx t ls st s
    | _ => none)
  | .ifCond c _ => (match e.2.2.1, st with
    | [t], .inl x :: r => px_br c x 0 t pc ls r s
    | _, _ => none)
  | .if_icmp c _ => (match e.2.2.1, st with
    | [t], .inl y :: .inl x :: r => px_br c x y t pc ls r s
    | _, _ => none)
  | .ifnull _ => (match e.2.2.1, st with
    | [t], .inr (.inr (.inl none)) :: r => px_nx t ls r s
    | [_], .inr (.inr (.inl (some _))) :: r => px_nx (pc + 3) ls r s
    | _, _ => none)
  | .ifnonnull _ => (match e.2.2.1, st with
    | [_], .inr (.inr (.inl none)) :: r => px_nx (pc + 3) ls r s
    | [t], .inr (.inr (.inl (some _))) :: r => px_nx t ls r s
    | _, _ => none)
  | .tableswitch _ lo hi _ => (match e.2.2.1, st with
    | dt :: ts, .inl x :: r => if x < lo ∨ hi < x then px_nx dt ls r s else (match ts[(x - lo).toNat]? with
      | some t => px_nx t ls r s
      | none => none)
    | _, _ => none)
  | .lookupswitch _ ps => (match e.2.2.1, st with
    | dt :: ts, .inl x :: r => (match (ps.toList.zip ts).find? (fun q => decide (q.1.1 = x)) with
      | some q => px_nx q.2 ls r s
      | none => px_nx dt ls r s)
    | _, _ => none)
  | .getfield _ => (match e.2.2.1 with
    | [_, ci, ty, _] => px_get ci ty e.2.2.2 pc ls st s
    | _ => none)
  | .putfield _ => (match e.2.2.1 with
    | [_, ci, ty, fin] => if fin = 0 ∨ px_kd m = 2 ∧ px_mo m = ci then px_put ci ty e.2.2.2 pc ls st s else none
    | _ => none)
  | .getstatic i => if m = 102 ∧ i = 118 then px_nx (pc + 3) ls (vR 1 :: st) s else none
  | .arraylength => px_aln pc ls st s
  | .iaload => px_ild (fun t => t == 0) pc ls st s
  | .baload => px_ild (fun t => t == 1 || t == 2) pc ls st s
  | .laload => px_jld pc ls st s
  | .aaload => px_qld pc ls st s
  | .iastore => px_iss pc ls st s
  | .bastore => px_bss pc ls st s
  | .lastore => px_jss pc ls st s
  | .aastore => px_qss pc ls st s
  | .new _ => (match e.2.2.1 with
    | [_, ci] => px_new ci pc ls st s
    | _ => none)
  | .newarray t => (match t with
    | .int => px_nwa 0 2 pc ls st s
    | .byte => px_nwa 1 2 pc ls st s
    | .boolean => px_nwa 2 2 pc ls st s
    | .long => px_nwa 3 2 pc ls st s
    | _ => none)
  | .anewarray _ => (match e.2.2.1 with
    | [_, ci] => if ci = 3 ∨ ci = 11 then px_nwa (4 + ci) 3 pc ls st s else none
    | _ => none)
  | .ldc i => (match e.2.2.1 with
    | [0, _] => px_nx (pc + 2) ls (vI e.2.2.2 :: st) s
    | [20] => if px_mo m = 8 ∧ i = 99 then px_nx (pc + 2) ls (vR 2 :: st) s else none
    | _ => none)
  | .ldc_w _ => (match e.2.2.1 with
    | [0, _] => px_nx (pc + 3) ls (vI e.2.2.2 :: st) s
    | _ => none)
  | .ldc2_w _ => (match e.2.2.1 with
    | [0, _] => px_nx (pc + 3) ls (vL e.2.2.2 :: st) s
    | _ => none)
  | .invokestatic _ => (match e.2.2.1 with
    | [0, _, m'] => px_call m' 0 pc ls st s
    | [2, _] => px_acp pc ls st s
    | [5, _] => px_mi (fun x y => if x < y then y else x) pc ls st s
    | [6, _] => px_mi (fun x y => if y < x then y else x) pc ls st s
    | [7, _] => px_ma pc ls st s
    | [8, _] => px_mj (fun x y => if y < x then x else y) pc ls st s
    | [9, _] => px_mj (fun x y => if x < y then x else y) pc ls st s
    | _ => none)
  | .invokevirtual _ => (match e.2.2.1 with
    | [0, _, m'] => px_call m' 1 pc ls st s
    | [3, _] => px_sln pc ls st s
    | [4, _] => px_sch pc ls st s
    | _ => none)
  | .invokespecial _ => (match e.2.2.1 with
    | [0, _, m'] => px_call m' 2 pc ls st s
    | [1, _] => (match st with
      | .inr (.inr (.inl (some _))) :: r => if (r.map px_cat).sum ≤ 8 then px_nx (pc + 3) ls r s else none
      | _ => none)
    | _ => none)
  | .ireturn => (match st with
    | [.inl x] => if (px_ret m = some .int ∨ px_ret m = some .boolean ∧ (x = 0 ∨ x = 1)) then some (.inr (.inl (some (vI x), s))) else none
    | _ => none)
  | .lreturn => (match st with
    | [.inr (.inl x)] => if px_ret m = some .long then some (.inr (.inl (some (vL x), s))) else none
    | _ => none)
  | .areturn => (match st with
    | [.inr (.inr (.inl x))] => (match px_ret m with
      | some (.object _) => some (.inr (.inl (some (.inr (.inr (.inl x))), s)))
      | _ => none)
    | _ => none)
  | .return_ => (match st with
    | [] => if px_ret m = none then some (.inr (.inl (none, s))) else none
    | _ => none)
  | _ => none
def px_stp (m : Nat) (f : FR) (s : PM) : Option PRes := match px_cod m f.1 with
  | some e => px_ex m e f.1 f.2.1 f.2.2 s
  | none => none
def px_psh (f : FR) (v : Option PV) : FR := match v with
  | some x => (f.1, f.2.1, x :: f.2.2)
  | none => f
/-- runs: d calls deep at most, n steps at most on each way -/
def px_run : Nat → Nat → Nat → FR → PM → Option (Option PV × PM)
  | 0, _, _, _, _ => none
  | n + 1, d, m, f, s => match px_stp m f s with
    | none => none
    | some (.inl (f', s')) => px_run n d m f' s'
    | some (.inr (.inl r)) => some r
    | some (.inr (.inr (m', as, f', s'))) => (match d with
      | 0 => none
      | d' + 1 => match px_run n d' m' (px_ent m' as) s' with
        | none => none
        | some (v, s2) => px_run n (d' + 1) m (px_psh f' v) s2)
