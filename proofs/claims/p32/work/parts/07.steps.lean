/-! ===== methods: tables and steps ===== -/
def am_cn (c : Nat) : String := match c with
  | 0 => RX0
  | 1 => RX1
  | 2 => RX2
  | 3 => RX3
  | 4 => RX4
  | 5 => RX4
  | _ => RL
def am_xn (x : Nat) : String := match x with
  | 0 => "java/lang/IllegalArgumentException"
  | 1 => "java/lang/IllegalStateException"
  | _ => "java/lang/IndexOutOfBoundsException"
/-- is a field of a class a reference; a truth value -/
def am_isr (c k : Nat) : Bool := match c with
  | 0 => k == 0
  | 1 => k == 0
  | 2 => k == 0
  | 3 => k < 7
  | 4 => true
  | _ => true
def am_isz (c k : Nat) : Bool := c == 1 && k == 1
def am_fl (k idx : Nat) : Option (Nat × Nat) := match am_ft.lookup ((am_mt k).1, idx) with
  | some t => some (t.1, t.2.1)
  | none => none
def am_ml (k idx : Nat) : Option (Nat × Nat) := match am_mr.lookup ((am_mt k).1, idx) with
  | some t => some (t.1, t.2.1)
  | none => none
/-- a class that is named: of objects (.inl), of exceptions -/
def am_cl (k idx : Nat) : Option (Nat ⊕ Nat) := match am_cr.lookup ((am_mt k).1, idx) with
  | some t => some t.1
  | none => none
def am_kl (k idx : Nat) : Option Int := match am_kr.lookup ((am_mt k).1, idx) with
  | some t => some t.1
  | none => none
def am_ki (k idx : Nat) : Option Int := match am_ir.lookup ((am_mt k).1, idx) with
  | some t => some t.1
  | none => none
abbrev am_Cf : Type := Nat × List (Option am_V) × List am_V × am_E × am_M
abbrev am_Rs : Type := (Option am_V ⊕ Nat) × am_E × am_M
/-- what an instruction does: it goes on; it ends; it calls a method with these arguments over this stack -/
abbrev am_Ac : Type := am_Cf ⊕ (am_Rs ⊕ (Nat × List am_V × List am_V))
def am_ar (E : am_E) (r : am_R) (k : Nat) (i : Int) : Bool := match am_kd E r with
  | some (k', n) => k' == k && decide (0 ≤ i) && decide (i < (n : Int))
  | none => false
def am_ob (E : am_E) (r : am_R) (c : Nat) : Bool := match am_kd E r with
  | some (k', _) => k' == c
  | none => false
def am_rv (r : Option am_R) : am_V := .inr (.inr r)
/-- reads of the heap: what stands on the stack then -/
def am_rd (k : Nat) (i : Instr) (st : List am_V) (E : am_E) (M : am_M) : Option (List am_V) := match i with
  | .getfield idx => (match st, am_fl k idx with
    | .inr (.inr (some r)) :: rest, some (c, f) => if am_ob E r c = true then some ((bif am_isr c f then am_rv (am_rf E r f) else am_I (M r.1 r.2 f)) :: rest) else none
    | _, _ => none)
  | .iaload => (match st with
    | .inl i :: .inr (.inr (some r)) :: rest => if am_ar E r 6 i = true ∨ am_ar E r 12 i = true then some (am_I (M r.1 r.2 i) :: rest) else none
    | _ => none)
  | .caload => (match st with
    | .inl i :: .inr (.inr (some r)) :: rest => if am_ar E r 7 i = true then some (am_I (M r.1 r.2 i) :: rest) else none
    | _ => none)
  | .aaload => (match st with
    | .inl i :: .inr (.inr (some r)) :: rest => if am_ar E r 10 i = true then some (am_rv (am_rf E r i.toNat) :: rest) else none
    | _ => none)
  | .arraylength => (match st with
    | .inr (.inr (some r)) :: rest => (match am_kd E r with
      | some (c, n) => if 6 ≤ c then some (am_I n :: rest) else none
      | none => none)
    | _ => none)
  | .ldc2_w idx => (match am_kl k idx with
    | some z => some (am_J z :: st)
    | none => none)
  | .ldc idx => (match am_ki k idx with
    | some z => some (am_I z :: st)
    | none => none)
  | _ => none
/-- writes into the heap -/
def am_wr (k : Nat) (i : Instr) (st : List am_V) (E : am_E) (M : am_M) : Option (List am_V × am_E × am_M) := match i with
  | .putfield idx => (match st, am_fl k idx with
    | .inl z :: .inr (.inr (some r)) :: rest, some (c, f) => if am_ob E r c = true ∧ am_isr c f = false ∧ (am_isz c f = true → z = 0 ∨ z = 1) then some (rest, E, am_up M r f z) else none
    | .inr (.inr (some v)) :: .inr (.inr (some r)) :: rest, some (c, f) => if am_ob E r c = true ∧ am_isr c f = true ∧ (am_mt k).2.2.1.name = "<init>" ∧ (am_mt k).2.1 = c then some (rest, am_srf E r f v, M) else none
    | _, _ => none)
  | .iastore => (match st with
    | .inl z :: .inl i :: .inr (.inr (some r)) :: rest => if am_ar E r 6 i = true then some (rest, E, am_up M r i z) else none
    | _ => none)
  | .castore => (match st with
    | .inl z :: .inl i :: .inr (.inr (some r)) :: rest => if am_ar E r 7 i = true ∧ 0 ≤ z ∧ z < 65536 then some (rest, E, am_up M r i z) else none
    | _ => none)
  | .aastore => (match st with
    | .inr (.inr (some v)) :: .inl i :: .inr (.inr (some r)) :: rest => if am_ar E r 10 i = true ∧ am_ob E v 3 = true then some (rest, am_srf E r i.toNat v, M) else none
    | _ => none)
  | _ => none
/-- what comes next is made: its name, if it is of this kind and length -/
def am_nx (E : am_E) (c : Nat) (n : Int) : Option am_R := match am_tab[E.1]? with
  | some (r, c', n') => if c' = c ∧ (n' : Int) = n ∧ E.2.1 = 0 then some r else none
  | none => none
def am_nE (E : am_E) (r : am_R) : am_E := (E.1 + 1, E.2.1, E.2.2.1, fun r' k' => if r' = r then none else E.2.2.2 r' k')
def am_nM (M : am_M) (r : am_R) : am_M := am_sb M r.1 (fun c j => if c = r.2 then 0 else M r.1 c j)
def am_ty (a : ArrayType) : Nat := match a with
  | .int => 6
  | .char => 7
  | _ => 99
def am_fn (c : Nat) : Nat := match c with
  | 0 => 3
  | 1 => 2
  | 2 => 6
  | 3 => 17
  | 4 => 7
  | _ => 7
def am_mk (k : Nat) (i : Instr) (st : List am_V) (E : am_E) (M : am_M) : Option (List am_V × am_E × am_M) := match i with
  | .new idx => (match am_cl k idx with
    | some (.inl c) => (match am_nx E c (am_fn c) with
      | some r => some (am_A r :: st, am_nE E r, am_nM M r)
      | none => none)
    | _ => none)
  | .newarray a => (match st with
    | .inl n :: rest => if 0 ≤ n ∧ n < 100000 ∧ am_ty a < 99 then (match am_nx E (am_ty a) n with
      | some r => some (am_A r :: rest, am_nE E r, am_nM M r)
      | none => none) else none
    | _ => none)
  | .anewarray idx => (match st, am_cl k idx with
    | .inl n :: rest, some (.inl 3) => if 0 ≤ n ∧ n < 100000 then (match am_nx E 10 n with
      | some r => some (am_A r :: rest, am_nE E r, am_nM M r)
      | none => none) else none
    | _, _ => none)
  | _ => none
def am_rok (t : Option FieldType) (v : am_V) : Bool := match t, v with
  | some .int, .inl _ => true
  | some .boolean, .inl z => z == 0 || z == 1
  | some .char, .inl z => decide (0 ≤ z) && decide (z < 65536)
  | some .long, .inr (.inl _) => true
  | some (.object _), .inr (.inr _) => true
  | _, _ => false
/-- returns -/
def am_rt (k : Nat) (i : Instr) (st : List am_V) : Option (Option am_V) := match i with
  | .ireturn => (match st with
    | [.inl z] => if am_rok (am_mt k).2.2.2.2.2.1 (.inl z) = true then some (some (.inl z)) else none
    | _ => none)
  | .lreturn => (match st with
    | [.inr (.inl z)] => if am_rok (am_mt k).2.2.2.2.2.1 (.inr (.inl z)) = true then some (some (.inr (.inl z))) else none
    | _ => none)
  | .areturn => (match st with
    | [.inr (.inr r)] => if am_rok (am_mt k).2.2.2.2.2.1 (.inr (.inr r)) = true then some (some (.inr (.inr r))) else none
    | _ => none)
  | .return_ => (match st with
    | [] => if (am_mt k).2.2.2.2.2.1 = none then some none else none
    | _ => none)
  | _ => none
/-- the slots of a call's arguments -/
def am_xp : List am_V → List (Option am_V)
  | [] => []
  | v :: r => if am_cat v = 2 then some v :: none :: am_xp r else some v :: am_xp r
/-- does the call fit its kind -/
def am_rcv (as : List am_V) (c : Nat) (E : am_E) : Bool := match as with
  | .inr (.inr (some r)) :: _ => am_ob E r c
  | _ => false
def am_ivc (t c : Nat) (i : Instr) (as : List am_V) (E : am_E) : Bool := match i with
  | .invokestatic _ => c == 0 || c == 3 || c == 4
  | .invokevirtual _ => c == 1 && am_rcv as (am_mt t).2.1 E
  | .invokespecial _ => c == 2 && am_rcv as (am_mt t).2.1 E
  | _ => false
/-- calls; 0: static, 1: virtual, 2: a constructor, 3: static of a nest mate, 4: static with handlers, 5: Object(), 6: max, 7: min -/
def am_iv (k : Nat) (i : Instr) (st : List am_V) (E : am_E) : Option (List am_V ⊕ (Nat × List am_V × List am_V)) :=
  match (match i with
    | .invokestatic idx => am_ml k idx
    | .invokevirtual idx => am_ml k idx
    | .invokespecial idx => am_ml k idx
    | _ => none) with
  | none => none
  | some (t, 5) => (match i, st with
    | .invokespecial _, .inr (.inr (some _)) :: rest => if am_wt rest ≤ 8 then some (.inl rest) else none
    | _, _ => none)
  | some (t, 6) => (match i, st with
    | .invokestatic _, .inl b :: .inl a :: rest => if am_wt rest ≤ 8 then some (.inl (.inl (if a < b then b else a) :: rest)) else none
    | _, _ => none)
  | some (t, 7) => (match i, st with
    | .invokestatic _, .inl b :: .inl a :: rest => if am_wt rest ≤ 8 then some (.inl (.inl (if b < a then b else a) :: rest)) else none
    | _, _ => none)
  | some (t, c) => if am_rk t < am_rk k ∧ (am_mt t).2.2.2.2.2.2.2 ≤ st.length ∧ am_wt (st.drop (am_mt t).2.2.2.2.2.2.2) ≤ 8 ∧ am_ivc t c i (st.take (am_mt t).2.2.2.2.2.2.2).reverse E = true ∧ (am_xp (st.take (am_mt t).2.2.2.2.2.2.2).reverse).length ≤ (am_mt t).2.2.2.2.1 then some (.inr (t, (st.take (am_mt t).2.2.2.2.2.2.2).reverse, st.drop (am_mt t).2.2.2.2.2.2.2)) else none
/-- 'throw new E(text)', told at its first instruction -/
def am_ic (x : Nat) : Nat := match x with
  | 0 => 51
  | 1 => 62
  | _ => 209
def am_th (k pc : Nat) (i : Instr) (st : List am_V) : Option Nat := match i with
  | .new idx => (match am_cl k idx with
    | some (.inr x) => if st = [] ∧ (am_mt k).1 = 4 ∧ (am_mt k).2.2.2.2.2.2.1 = [] ∧ am_fetch k (pc + 3) = some (.dup, 1) then
      (match am_fetch k (pc + 4) with
      | some (.ldc is, 2) => if am_strs.any (fun q => q.1 == RX4 && q.2.1 == is) = true ∧ am_fetch k (pc + 6) = some (.invokespecial (am_ic x), 3) ∧ am_fetch k (pc + 9) = some (.athrow, 1) then some x else none
      | some (.ldc_w is, 3) => if am_strs.any (fun q => q.1 == RX4 && q.2.1 == is) = true ∧ am_fetch k (pc + 7) = some (.invokespecial (am_ic x), 3) ∧ am_fetch k (pc + 10) = some (.athrow, 1) then some x else none
      | _ => none) else none
    | _ => none)
  | _ => none
def am_hd (k pc x : Nat) : List (Nat × Nat × Nat × Nat) → Option Nat
  | [] => none
  | h :: hs => if h.1 ≤ pc ∧ pc < h.2.1 then (match am_cl k h.2.2.2 with
      | some (.inr x') => if x' = x then some h.2.2.1 else am_hd k pc x hs
      | _ => none) else am_hd k pc x hs
/-- where an exception is caught: behind the store of the handler, and which local holds it -/
def am_hc (k pc x : Nat) : Option (Nat × Nat) := match am_hd k pc x (am_mt k).2.2.2.2.2.2.1 with
  | none => none
  | some h => (match am_fetch k h with
    | some (.astore n, 2) => some (h + 2, n)
    | some (.astore_n n, 1) => some (h + 1, n.val)
    | _ => none)
def am_stp (k : Nat) (c : am_Cf) : Option am_Ac := match am_fetch k c.1 with
  | none => none
  | some (i, len) => (match am_jp i c.1 len c.2.2.1 with
    | some (t, st) => some (.inl (t, c.2.1, st, c.2.2.2.1, c.2.2.2.2))
    | none => if len ≠ am_ln i then none else (match am_op i c.2.2.1 with
      | some st => some (.inl (c.1 + len, c.2.1, st, c.2.2.2.1, c.2.2.2.2))
      | none => (match am_ld i c.2.1 with
        | some v => some (.inl (c.1 + len, c.2.1, v :: c.2.2.1, c.2.2.2.1, c.2.2.2.2))
        | none => (match am_st i c.2.1 c.2.2.1 with
          | some (ls, st) => some (.inl (c.1 + len, ls, st, c.2.2.2.1, c.2.2.2.2))
          | none => (match am_rd k i c.2.2.1 c.2.2.2.1 c.2.2.2.2 with
            | some st => some (.inl (c.1 + len, c.2.1, st, c.2.2.2.1, c.2.2.2.2))
            | none => (match am_wr k i c.2.2.1 c.2.2.2.1 c.2.2.2.2 with
              | some (st, E, M) => some (.inl (c.1 + len, c.2.1, st, E, M))
              | none => (match am_mk k i c.2.2.1 c.2.2.2.1 c.2.2.2.2 with
                | some (st, E, M) => some (.inl (c.1 + len, c.2.1, st, E, M))
                | none => (match am_rt k i c.2.2.1 with
                  | some v => some (.inr (.inl (.inl v, c.2.2.2.1, c.2.2.2.2)))
                  | none => (match am_iv k i c.2.2.1 c.2.2.2.1 with
                    | some (.inl st) => some (.inl (c.1 + len, c.2.1, st, c.2.2.2.1, c.2.2.2.2))
                    | some (.inr t) => some (.inr (.inr t))
                    | none => (match am_th k c.1 i c.2.2.1 with
                      | some x => some (.inr (.inl (.inr x, am_xE c.2.2.2.1, c.2.2.2.2)))
                      | none => none)))))))))) 
/-- the locals at a method's entry -/
def am_el (n : Nat) (as : List am_V) : List (Option am_V) := am_xp as ++ List.replicate (n - (am_xp as).length) none
def am_en (k : Nat) (as : List am_V) (E : am_E) (M : am_M) : am_Cf := (0, am_el (am_mt k).2.2.2.2.1 as, [], E, M)
def am_ol (v : Option am_V) : List am_V := match v with
  | some x => [x]
  | none => []
def am_run : Nat → Nat → am_Cf → Option am_Rs
  | 0, _, _ => none
  | n + 1, k, c => (match am_stp k c with
    | none => none
    | some (.inl c') => am_run n k c'
    | some (.inr (.inl r)) => some r
    | some (.inr (.inr (t, as, rest))) => (match am_run n t (am_en t as c.2.2.2.1 c.2.2.2.2) with
      | none => none
      | some (.inl v, E, M) => am_run n k (c.1 + 3, c.2.1, am_ol v ++ rest, E, M)
      | some (.inr x, E, M) => (match am_hc k c.1 x with
        | none => if (am_mt k).2.2.2.2.2.2.1 = [] then some (.inr x, E, M) else none
        | some (pc, l) => if l < c.2.1.length ∧ am_lf c.2.1 l = true then am_run n k (pc, c.2.1.set l none, [], E, M) else none)))
