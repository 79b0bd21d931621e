/-! ===== the abstract machine: values, cells by names, instructions, runs ===== -/
abbrev am_R : Type := Nat × Nat
abbrev am_V : Type := Int ⊕ (Int ⊕ Option am_R)
abbrev am_M : Type := Nat → Nat → Int → Int
/-- cells made, exceptions made, the script's length, the references that each cell holds -/
abbrev am_E : Type := Nat × Nat × Nat × (am_R → Nat → Option am_R)
abbrev am_I (z : Int) : am_V := .inl z
abbrev am_J (z : Int) : am_V := .inr (.inl z)
abbrev am_A (r : am_R) : am_V := .inr (.inr (some r))
abbrev am_N : am_V := .inr (.inr none)
def am_w (z : Int) : Int := Int.bmod z 4294967296
def am_W (z : Int) : Int := Int.bmod z 18446744073709551616
/-- the cells of a block -/
def am_sb (M : am_M) (b : Nat) (Y : Nat → Int → Int) : am_M := fun b' => if b' = b then Y else M b'
def am_uy (Y : Nat → Int → Int) (c : Nat) (j v : Int) : Nat → Int → Int := fun c' => if c' = c then (fun j' => if j' = j then v else Y c j') else Y c'
def am_up (M : am_M) (r : am_R) (j v : Int) : am_M := am_sb M r.1 (am_uy (M r.1) r.2 j v)
def am_cat (v : am_V) : Nat := match v with
  | .inr (.inl _) => 2
  | _ => 1
def am_wt (st : List am_V) : Nat := (st.map am_cat).sum
/-- the cells by their numbers: name, kind (a class, or of array), fields or elements -/
def am_tab : List (am_R × Nat × Nat) :=
  [((34, 0), 4, 7), ((30, 0), 2, 6), ((30, 1), 7, 120), ((0, 0), 3, 17), ((0, 1), 6, 24), ((0, 2), 6, 24), ((0, 3), 6, 24), ((0, 4), 6, 24), ((0, 5), 6, 24), ((0, 6), 6, 4), ((0, 7), 6, 4), ((31, 0), 0, 3), ((31, 1), 10, 14), ((1, 0), 3, 17), ((1, 1), 6, 24), ((1, 2), 6, 24), ((1, 3), 6, 24), ((1, 4), 6, 24), ((1, 5), 6, 24), ((1, 6), 6, 4), ((1, 7), 6, 4), ((2, 0), 3, 17), ((2, 1), 6, 24), ((2, 2), 6, 24), ((2, 3), 6, 24), ((2, 4), 6, 24), ((2, 5), 6, 24), ((2, 6), 6, 4), ((2, 7), 6, 4), ((3, 0), 3, 17), ((3, 1), 6, 24), ((3, 2), 6, 24), ((3, 3), 6, 24), ((3, 4), 6, 24), ((3, 5), 6, 24), ((3, 6), 6, 4), ((3, 7), 6, 4), ((4, 0), 3, 17), ((4, 1), 6, 24), ((4, 2), 6, 24), ((4, 3), 6, 24), ((4, 4), 6, 24), ((4, 5), 6, 24), ((4, 6), 6, 4), ((4, 7), 6, 4), ((5, 0), 3, 17), ((5, 1), 6, 24), ((5, 2), 6, 24), ((5, 3), 6, 24), ((5, 4), 6, 24), ((5, 5), 6, 24), ((5, 6), 6, 4), ((5, 7), 6, 4), ((6, 0), 3, 17), ((6, 1), 6, 24), ((6, 2), 6, 24), ((6, 3), 6, 24), ((6, 4), 6, 24), ((6, 5), 6, 24), ((6, 6), 6, 4), ((6, 7), 6, 4), ((7, 0), 3, 17), ((7, 1), 6, 24), ((7, 2), 6, 24), ((7, 3), 6, 24), ((7, 4), 6, 24), ((7, 5), 6, 24), ((7, 6), 6, 4), ((7, 7), 6, 4), ((8, 0), 3, 17), ((8, 1), 6, 24), ((8, 2), 6, 24), ((8, 3), 6, 24), ((8, 4), 6, 24), ((8, 5), 6, 24), ((8, 6), 6, 4), ((8, 7), 6, 4), ((9, 0), 3, 17), ((9, 1), 6, 24), ((9, 2), 6, 24), ((9, 3), 6, 24), ((9, 4), 6, 24), ((9, 5), 6, 24), ((9, 6), 6, 4), ((9, 7), 6, 4), ((10, 0), 3, 17), ((10, 1), 6, 24), ((10, 2), 6, 24), ((10, 3), 6, 24), ((10, 4), 6, 24), ((10, 5), 6, 24), ((10, 6), 6, 4), ((10, 7), 6, 4), ((11, 0), 3, 17), ((11, 1), 6, 24), ((11, 2), 6, 24), ((11, 3), 6, 24), ((11, 4), 6, 24), ((11, 5), 6, 24), ((11, 6), 6, 4), ((11, 7), 6, 4), ((12, 0), 3, 17), ((12, 1), 6, 24), ((12, 2), 6, 24), ((12, 3), 6, 24), ((12, 4), 6, 24), ((12, 5), 6, 24), ((12, 6), 6, 4), ((12, 7), 6, 4), ((13, 0), 3, 17), ((13, 1), 6, 24), ((13, 2), 6, 24), ((13, 3), 6, 24), ((13, 4), 6, 24), ((13, 5), 6, 24), ((13, 6), 6, 4), ((13, 7), 6, 4), ((14, 0), 3, 17), ((14, 1), 6, 24), ((14, 2), 6, 24), ((14, 3), 6, 24), ((14, 4), 6, 24), ((14, 5), 6, 24), ((14, 6), 6, 4), ((14, 7), 6, 4), ((32, 0), 1, 2), ((15, 0), 3, 17), ((15, 1), 6, 24), ((15, 2), 6, 24), ((15, 3), 6, 24), ((15, 4), 6, 24), ((15, 5), 6, 24), ((15, 6), 6, 4), ((15, 7), 6, 4), ((33, 0), 1, 2), ((16, 0), 3, 17), ((16, 1), 6, 24), ((16, 2), 6, 24), ((16, 3), 6, 24), ((16, 4), 6, 24), ((16, 5), 6, 24), ((16, 6), 6, 4), ((16, 7), 6, 4), ((17, 0), 3, 17), ((17, 1), 6, 24), ((17, 2), 6, 24), ((17, 3), 6, 24), ((17, 4), 6, 24), ((17, 5), 6, 24), ((17, 6), 6, 4), ((17, 7), 6, 4), ((34, 1), 10, 4), ((18, 0), 3, 17), ((18, 1), 6, 24), ((18, 2), 6, 24), ((18, 3), 6, 24), ((18, 4), 6, 24), ((18, 5), 6, 24), ((18, 6), 6, 4), ((18, 7), 6, 4), ((19, 0), 3, 17), ((19, 1), 6, 24), ((19, 2), 6, 24), ((19, 3), 6, 24), ((19, 4), 6, 24), ((19, 5), 6, 24), ((19, 6), 6, 4), ((19, 7), 6, 4), ((20, 0), 3, 17), ((20, 1), 6, 24), ((20, 2), 6, 24), ((20, 3), 6, 24), ((20, 4), 6, 24), ((20, 5), 6, 24), ((20, 6), 6, 4), ((20, 7), 6, 4), ((21, 0), 3, 17), ((21, 1), 6, 24), ((21, 2), 6, 24), ((21, 3), 6, 24), ((21, 4), 6, 24), ((21, 5), 6, 24), ((21, 6), 6, 4), ((21, 7), 6, 4), ((84, 0), 4, 7), ((80, 0), 2, 6), ((80, 1), 7, 120), ((50, 0), 3, 17), ((50, 1), 6, 24), ((50, 2), 6, 24), ((50, 3), 6, 24), ((50, 4), 6, 24), ((50, 5), 6, 24), ((50, 6), 6, 4), ((50, 7), 6, 4), ((81, 0), 0, 3), ((81, 1), 10, 14), ((51, 0), 3, 17), ((51, 1), 6, 24), ((51, 2), 6, 24), ((51, 3), 6, 24), ((51, 4), 6, 24), ((51, 5), 6, 24), ((51, 6), 6, 4), ((51, 7), 6, 4), ((52, 0), 3, 17), ((52, 1), 6, 24), ((52, 2), 6, 24), ((52, 3), 6, 24), ((52, 4), 6, 24), ((52, 5), 6, 24), ((52, 6), 6, 4), ((52, 7), 6, 4), ((53, 0), 3, 17), ((53, 1), 6, 24), ((53, 2), 6, 24), ((53, 3), 6, 24), ((53, 4), 6, 24), ((53, 5), 6, 24), ((53, 6), 6, 4), ((53, 7), 6, 4), ((54, 0), 3, 17), ((54, 1), 6, 24), ((54, 2), 6, 24), ((54, 3), 6, 24), ((54, 4), 6, 24), ((54, 5), 6, 24), ((54, 6), 6, 4), ((54, 7), 6, 4), ((55, 0), 3, 17), ((55, 1), 6, 24), ((55, 2), 6, 24), ((55, 3), 6, 24), ((55, 4), 6, 24), ((55, 5), 6, 24), ((55, 6), 6, 4), ((55, 7), 6, 4), ((56, 0), 3, 17), ((56, 1), 6, 24), ((56, 2), 6, 24), ((56, 3), 6, 24), ((56, 4), 6, 24), ((56, 5), 6, 24), ((56, 6), 6, 4), ((56, 7), 6, 4), ((57, 0), 3, 17), ((57, 1), 6, 24), ((57, 2), 6, 24), ((57, 3), 6, 24), ((57, 4), 6, 24), ((57, 5), 6, 24), ((57, 6), 6, 4), ((57, 7), 6, 4), ((58, 0), 3, 17), ((58, 1), 6, 24), ((58, 2), 6, 24), ((58, 3), 6, 24), ((58, 4), 6, 24), ((58, 5), 6, 24), ((58, 6), 6, 4), ((58, 7), 6, 4), ((59, 0), 3, 17), ((59, 1), 6, 24), ((59, 2), 6, 24), ((59, 3), 6, 24), ((59, 4), 6, 24), ((59, 5), 6, 24), ((59, 6), 6, 4), ((59, 7), 6, 4), ((60, 0), 3, 17), ((60, 1), 6, 24), ((60, 2), 6, 24), ((60, 3), 6, 24), ((60, 4), 6, 24), ((60, 5), 6, 24), ((60, 6), 6, 4), ((60, 7), 6, 4), ((61, 0), 3, 17), ((61, 1), 6, 24), ((61, 2), 6, 24), ((61, 3), 6, 24), ((61, 4), 6, 24), ((61, 5), 6, 24), ((61, 6), 6, 4), ((61, 7), 6, 4), ((62, 0), 3, 17), ((62, 1), 6, 24), ((62, 2), 6, 24), ((62, 3), 6, 24), ((62, 4), 6, 24), ((62, 5), 6, 24), ((62, 6), 6, 4), ((62, 7), 6, 4), ((63, 0), 3, 17), ((63, 1), 6, 24), ((63, 2), 6, 24), ((63, 3), 6, 24), ((63, 4), 6, 24), ((63, 5), 6, 24), ((63, 6), 6, 4), ((63, 7), 6, 4), ((64, 0), 3, 17), ((64, 1), 6, 24), ((64, 2), 6, 24), ((64, 3), 6, 24), ((64, 4), 6, 24), ((64, 5), 6, 24), ((64, 6), 6, 4), ((64, 7), 6, 4), ((82, 0), 1, 2), ((65, 0), 3, 17), ((65, 1), 6, 24), ((65, 2), 6, 24), ((65, 3), 6, 24), ((65, 4), 6, 24), ((65, 5), 6, 24), ((65, 6), 6, 4), ((65, 7), 6, 4), ((83, 0), 1, 2), ((66, 0), 3, 17), ((66, 1), 6, 24), ((66, 2), 6, 24), ((66, 3), 6, 24), ((66, 4), 6, 24), ((66, 5), 6, 24), ((66, 6), 6, 4), ((66, 7), 6, 4), ((67, 0), 3, 17), ((67, 1), 6, 24), ((67, 2), 6, 24), ((67, 3), 6, 24), ((67, 4), 6, 24), ((67, 5), 6, 24), ((67, 6), 6, 4), ((67, 7), 6, 4), ((84, 1), 10, 4), ((68, 0), 3, 17), ((68, 1), 6, 24), ((68, 2), 6, 24), ((68, 3), 6, 24), ((68, 4), 6, 24), ((68, 5), 6, 24), ((68, 6), 6, 4), ((68, 7), 6, 4), ((69, 0), 3, 17), ((69, 1), 6, 24), ((69, 2), 6, 24), ((69, 3), 6, 24), ((69, 4), 6, 24), ((69, 5), 6, 24), ((69, 6), 6, 4), ((69, 7), 6, 4), ((70, 0), 3, 17), ((70, 1), 6, 24), ((70, 2), 6, 24), ((70, 3), 6, 24), ((70, 4), 6, 24), ((70, 5), 6, 24), ((70, 6), 6, 4), ((70, 7), 6, 4), ((71, 0), 3, 17), ((71, 1), 6, 24), ((71, 2), 6, 24), ((71, 3), 6, 24), ((71, 4), 6, 24), ((71, 5), 6, 24), ((71, 6), 6, 4), ((71, 7), 6, 4)]
def am_ix (r : am_R) : Nat := am_tab.findIdx (fun t => t.1 == r)
def am_kd (E : am_E) (r : am_R) : Option (Nat × Nat) := if r = (45, 0) then some (12, E.2.2.1) else if am_ix r < E.1 then (match am_tab[am_ix r]? with
  | some t => some t.2
  | none => none) else none
def am_rf (E : am_E) (r : am_R) (k : Nat) : Option am_R := E.2.2.2 r k
def am_srf (E : am_E) (r : am_R) (k : Nat) (v : am_R) : am_E := (E.1, E.2.1, E.2.2.1, fun r' k' => if r' = r ∧ k' = k then some v else E.2.2.2 r' k')
def am_xE (E : am_E) : am_E := (E.1, E.2.1 + 1, E.2.2)
/-- instructions on the stack alone -/
def am_b1 (f : Int → Int) (st : List am_V) : Option (List am_V) := match st with
  | .inl a :: r => some (.inl (f a) :: r)
  | _ => none
def am_b2 (f : Int → Int → Int) (st : List am_V) : Option (List am_V) := match st with
  | .inl b :: .inl a :: r => some (.inl (f a b) :: r)
  | _ => none
def am_d2 (f : Int → Int → Int) (st : List am_V) : Option (List am_V) := match st with
  | .inl b :: .inl a :: r => if b = 0 then none else some (.inl (f a b) :: r)
  | _ => none
def am_l2 (f : Int → Int → Int) (st : List am_V) : Option (List am_V) := match st with
  | .inr (.inl b) :: .inr (.inl a) :: r => some (.inr (.inl (f a b)) :: r)
  | _ => none
def am_dl2 (f : Int → Int → Int) (st : List am_V) : Option (List am_V) := match st with
  | .inr (.inl b) :: .inr (.inl a) :: r => if b = 0 then none else some (.inr (.inl (f a b)) :: r)
  | _ => none
def am_s2 (f : Int → Int → Int) (st : List am_V) : Option (List am_V) := match st with
  | .inl b :: .inr (.inl a) :: r => some (.inr (.inl (f a b)) :: r)
  | _ => none
def am_op (i : Instr) (st : List am_V) : Option (List am_V) := match i with
  | .iconst z => if -32768 ≤ z ∧ z < 32768 then some (.inl z :: st) else none
  | .bipush z => if -128 ≤ z ∧ z < 128 then some (.inl z :: st) else none
  | .sipush z => if -32768 ≤ z ∧ z < 32768 then some (.inl z :: st) else none
  | .lconst z => some (.inr (.inl (z.val : Int)) :: st)
  | .aconst_null => some (am_N :: st)
  | .iadd => am_b2 (fun a b => am_w (a + b)) st
  | .isub => am_b2 (fun a b => am_w (a - b)) st
  | .imul => am_b2 (fun a b => am_w (a * b)) st
  | .idiv => am_d2 (fun a b => am_w (a.tdiv b)) st
  | .irem => am_d2 (fun a b => a.tmod b) st
  | .iand => am_b2 (fun a b => (Int32.ofInt a &&& Int32.ofInt b).toInt) st
  | .ior => am_b2 (fun a b => (Int32.ofInt a ||| Int32.ofInt b).toInt) st
  | .ishl => am_b2 (fun a b => (Int32.ofInt a <<< (Int32.ofInt b &&& 31)).toInt) st
  | .ishr => am_b2 (fun a b => (Int32.ofInt a >>> (Int32.ofInt b &&& 31)).toInt) st
  | .ladd => am_l2 (fun a b => am_W (a + b)) st
  | .lsub => am_l2 (fun a b => am_W (a - b)) st
  | .lmul => am_l2 (fun a b => am_W (a * b)) st
  | .ldiv => am_dl2 (fun a b => am_W (a.tdiv b)) st
  | .lrem => am_dl2 (fun a b => a.tmod b) st
  | .land => am_l2 (fun a b => (Int64.ofInt a &&& Int64.ofInt b).toInt) st
  | .lor => am_l2 (fun a b => (Int64.ofInt a ||| Int64.ofInt b).toInt) st
  | .lshl => am_s2 (fun a b => (Int64.ofInt a <<< ((Int32.ofInt b).toInt64 &&& 63)).toInt) st
  | .lushr => am_s2 (fun a b => ((Int64.ofInt a).toUInt64 >>> ((Int32.ofInt b).toInt64.toUInt64 &&& Int64.toUInt64 63)).toInt64.toInt) st
  | .lcmp => (match st with
    | .inr (.inl b) :: .inr (.inl a) :: r => some (.inl (if a < b then -1 else if a = b then 0 else 1) :: r)
    | _ => none)
  | .i2l => (match st with
    | .inl a :: r => some (.inr (.inl a) :: r)
    | _ => none)
  | .l2i => (match st with
    | .inr (.inl a) :: r => some (.inl (am_w a) :: r)
    | _ => none)
  | .i2c => am_b1 (fun a => ((Int32.ofInt a).toUInt32 % 65536).toInt32.toInt) st
  | .dup => (match st with
    | a :: r => if am_cat a = 1 then some (a :: a :: r) else none
    | _ => none)
  | .dup2 => (match st with
    | a :: b :: r => if am_cat a = 1 ∧ am_cat b = 1 then some (a :: b :: a :: b :: r) else none
    | _ => none)
  | .pop => (match st with
    | a :: r => if am_cat a = 1 then some r else none
    | _ => none)
  | _ => none
/-- the bytes that an instruction takes -/
def am_ln (i : Instr) : Nat := match i with
  | .ldc _ | .bipush _ | .iload _ | .lload _ | .aload _ | .istore _ | .lstore _ | .astore _ | .newarray _ => 2
  | .sipush _ | .iinc _ _ | .goto _ | .ifCond _ _ | .if_icmp _ _ | .ifnull _ | .ifnonnull _ | .getfield _ | .putfield _ | .invokestatic _ | .invokevirtual _ | .invokespecial _ | .new _ | .anewarray _ | .ldc2_w _ => 3
  | _ => 1
def am_g (ls : List (Option am_V)) (n : Nat) : Option am_V := match ls[n]? with
  | some x => x
  | none => none
def am_gi (ls : List (Option am_V)) (n : Nat) : Option am_V := match am_g ls n with
  | some (.inl z) => some (.inl z)
  | _ => none
def am_gl (ls : List (Option am_V)) (n : Nat) : Option am_V := match am_g ls n with
  | some (.inr (.inl z)) => some (.inr (.inl z))
  | _ => none
def am_ga (ls : List (Option am_V)) (n : Nat) : Option am_V := match am_g ls n with
  | some (.inr (.inr r)) => some (.inr (.inr r))
  | _ => none
/-- loads of locals -/
def am_ld (i : Instr) (ls : List (Option am_V)) : Option am_V := match i with
  | .iload n => am_gi ls n
  | .iload_n n => am_gi ls n.val
  | .lload n => am_gl ls n
  | .lload_n n => am_gl ls n.val
  | .aload n => am_ga ls n
  | .aload_n n => am_ga ls n.val
  | _ => none
def am_lf (ls : List (Option am_V)) (n : Nat) : Bool := match n with
  | 0 => true
  | j + 1 => (match am_g ls j with
    | some (.inr (.inl _)) => false
    | _ => true)
def am_s1 (ls : List (Option am_V)) (n : Nat) (v : am_V) : Option (List (Option am_V)) := if n < ls.length ∧ am_lf ls n = true then some (ls.set n (some v)) else none
def am_s3 (ls : List (Option am_V)) (n : Nat) (v : am_V) : Option (List (Option am_V)) := if n + 1 < ls.length ∧ am_lf ls n = true then some ((ls.set n (some v)).set (n + 1) none) else none
def am_si (ls : List (Option am_V)) (n : Nat) (st : List am_V) : Option (List (Option am_V) × List am_V) := match st with
  | .inl z :: r => (match am_s1 ls n (.inl z) with
    | some l => some (l, r)
    | none => none)
  | _ => none
def am_sl (ls : List (Option am_V)) (n : Nat) (st : List am_V) : Option (List (Option am_V) × List am_V) := match st with
  | .inr (.inl z) :: r => (match am_s3 ls n (.inr (.inl z)) with
    | some l => some (l, r)
    | none => none)
  | _ => none
def am_sa (ls : List (Option am_V)) (n : Nat) (st : List am_V) : Option (List (Option am_V) × List am_V) := match st with
  | .inr (.inr x) :: r => (match am_s1 ls n (.inr (.inr x)) with
    | some l => some (l, r)
    | none => none)
  | _ => none
/-- stores of locals -/
def am_st (i : Instr) (ls : List (Option am_V)) (st : List am_V) : Option (List (Option am_V) × List am_V) := match i with
  | .istore n => am_si ls n st
  | .istore_n n => am_si ls n.val st
  | .lstore n => am_sl ls n st
  | .lstore_n n => am_sl ls n.val st
  | .astore n => am_sa ls n st
  | .astore_n n => am_sa ls n.val st
  | .iinc n c => if -32768 ≤ c ∧ c < 32768 then (match am_g ls n with
    | some (.inl z) => (match am_s1 ls n (.inl (am_w (z + c))) with
      | some l => some (l, st)
      | none => none)
    | _ => none) else none
  | _ => none
def am_cc (c : Jvm.ClassFile.Cond) (a b : Int) : Bool := match c with
  | .eq => decide (a = b)
  | .ne => decide (a ≠ b)
  | .lt => decide (a < b)
  | .ge => decide (b ≤ a)
  | .gt => decide (b < a)
  | .le => decide (a ≤ b)
def am_at (pc : Nat) (off : Int) : Option Nat := if 0 ≤ (pc : Int) + off then some ((pc : Int) + off).toNat else none
/-- jumps -/
def am_sw (i : Instr) : Bool := match i with
  | .tableswitch _ _ _ _ => true
  | .lookupswitch _ _ => true
  | _ => false
def am_jp (i : Instr) (pc len : Nat) (st : List am_V) : Option (Nat × List am_V) := if len = 3 ∨ am_sw i = true then (match i with
  | .goto off => (match am_at pc off with
    | some t => some (t, st)
    | none => none)
  | .ifCond c off => (match st, am_at pc off with
    | .inl a :: r, some t => some (bif am_cc c a 0 then t else pc + len, r)
    | _, _ => none)
  | .if_icmp c off => (match st, am_at pc off with
    | .inl b :: .inl a :: r, some t => some (bif am_cc c a b then t else pc + len, r)
    | _, _ => none)
  | .ifnull off => (match st, am_at pc off with
    | .inr (.inr (some _)) :: r, some _ => some (pc + len, r)
    | .inr (.inr none) :: r, some t => some (t, r)
    | _, _ => none)
  | .ifnonnull off => (match st, am_at pc off with
    | .inr (.inr (some _)) :: r, some t => some (t, r)
    | .inr (.inr none) :: r, some _ => some (pc + len, r)
    | _, _ => none)
  | .tableswitch d lo hi offs => (match st with
    | .inl a :: r => if a < lo ∨ hi < a then (match am_at pc d with
        | some t => some (t, r)
        | none => none)
      else (match offs[(a - lo).toNat]? with
        | some o => (match am_at pc o with
          | some t => some (t, r)
          | none => none)
        | none => none)
    | _ => none)
  | .lookupswitch d ps => (match st with
    | .inl a :: r => if (ps.toList.zip (ps.toList.drop 1)).all (fun (a, next) => a.1 < next.1) = true then (match am_at pc (Op.lookupswitch.offset ps.toList d a) with
        | some t => some (t, r)
        | none => none) else none
    | _ => none)
  | _ => none) else none
