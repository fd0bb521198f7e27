/-! A SMALL MACHINE over a flat store: what a method's bytecode does, as a predicate over its end. Places stand for addresses; nothing is made. -/
/-- the store: the ints of objects by place and field, the ints of rows by place and index, the longs of rows -/
abbrev mv_S : Type := (Nat → Nat → Int32) × (Nat → Nat → Int32) × (Nat → Nat → Int64)
/-- a cell's shape: an object (its class's number, its fields: 0 an int, 1 a boolean, i + 2 the cell at place i), or a row (0 ints, 1 booleans, 2 longs; its length) -/
abbrev mv_D : Type := (Nat × List Nat) ⊕ (Nat × Nat)
def mv_f (ad : Nat → Nat) (x : Int32) : Nat → Value
  | 0 => .int x
  | 1 => .int x
  | i + 2 => .ref (ad i)
def mv_fs (ad : Nat → Nat) (v : Nat → Int32) : Nat → List Nat → List Value
  | _, [] => []
  | k, f :: r => mv_f ad (v k) f :: mv_fs ad v (k + 1) r
def mv_c (cy : Nat → ClassId) (ad : Nat → Nat) (S : mv_S) (q : Nat) : mv_D → va_E
  | .inl (ci, fs) => .inr (ci, mv_fs ad (S.1 q) 0 fs)
  | .inr (0, n) => .inl (cy 0, n, .inl (S.2.1 q))
  | .inr (1, n) => .inl (cy 1, n, .inl (S.2.1 q))
  | .inr (_ + 2, n) => .inl (cy 2, n, .inr (.inl (S.2.2 q)))
def mv_w (cy : Nat → ClassId) (ad : Nat → Nat) (S : mv_S) : Nat → List mv_D → va_W
  | _, [] => []
  | q, d :: r => (ad q, mv_c cy ad S q d) :: mv_w cy ad S (q + 1) r
def mv_tys (cy : Nat → ClassId) : List (ClassId × FieldType) := [(cy 0, .int), (cy 1, .boolean), (cy 2, .long)]
def mv_pf (S : mv_S) (q k : Nat) (x : Int32) : mv_S := (va_up S.1 q (upd (S.1 q) k x), S.2.1, S.2.2)
def mv_pr (S : mv_S) (q k : Nat) (x : Int32) : mv_S := (S.1, va_up S.2.1 q (upd (S.2.1 q) k x), S.2.2)
def mv_pl (S : mv_S) (q k : Nat) (x : Int64) : mv_S := (S.1, S.2.1, va_up S.2.2 q (vp_updL (S.2.2 q) k x))
/-- a value with places, as the machine has it -/
def mv_k (ad : Nat → Nat) : Value → Value
  | .ref i => .ref (ad i)
  | v => v
def mv_ks (ad : Nat → Nat) (l : List (Nat × Value)) : List (Nat × Value) := l.map (fun q => (q.1, mv_k ad q.2))
/-- a table: what stands at a number -/
def mv_at {α : Type} (i : Nat) : List (Nat × α) → Option α
  | [] => none
  | (j, a) :: r => bif Nat.beq j i then some a else mv_at i r
def mv_sv (i : Nat) (x : Value) (lv : List (Nat × Value)) : List (Nat × Value) := (i, x) :: lv.filter (fun q => !(q.1 == i) && !(q.1 + 1 == i && q.2.category == 2))
/-- a class's links: fields (index: class's number, field), ints, longs, methods -/
abbrev mv_T : Type := List (Nat × Nat × Nat) × List (Nat × Int32) × List (Nat × Int64) × List (Nat × Nat)
/-- a method: name, bytes, locals, answer, number of parameters, the receiver's class (none: static), links, instructions -/
abbrev mv_M : Type := MethodName × ByteArray × Nat × Option FieldType × Nat × Option Nat × mv_T × List (Nat × Instr)
abbrev mv_Call : Type := Nat → List Value → mv_S → (Option Value → mv_S → Prop) → Prop
def mv_len (pc : Nat) : Instr → Nat
  | .bipush _ => 2
  | .iload _ => 2
  | .istore _ => 2
  | .aload _ => 2
  | .astore _ => 2
  | .ldc _ => 2
  | .sipush _ => 3
  | .ifCond _ _ => 3
  | .if_icmp _ _ => 3
  | .goto _ => 3
  | .getfield _ => 3
  | .putfield _ => 3
  | .invokevirtual _ => 3
  | .invokestatic _ => 3
  | .iinc _ _ => 3
  | .ldc_w _ => 3
  | .ldc2_w _ => 3
  | .tableswitch _ _ _ offs => 16 - pc % 4 + 4 * offs.size
  | .lookupswitch _ ps => 12 - pc % 4 + 8 * ps.size
  | _ => 1
def mv_to (pc : Nat) (off : Int) (k : Nat → Prop) : Prop := match (pc : Int) + off with
  | .ofNat t => k t
  | .negSucc _ => False
def mv_cd : Jvm.ClassFile.Cond → Int32 → Int32 → Prop
  | .eq, x, y => x = y
  | .ne, x, y => ¬ x = y
  | .lt, x, y => x < y
  | .ge, x, y => y ≤ x
  | .gt, x, y => y < x
  | .le, x, y => x ≤ y
def mv_nc : Jvm.ClassFile.Cond → Int32 → Int32 → Prop
  | .eq, x, y => ¬ x = y
  | .ne, x, y => x = y
  | .lt, x, y => ¬ x < y
  | .ge, x, y => ¬ y ≤ x
  | .gt, x, y => ¬ y < x
  | .le, x, y => ¬ x ≤ y
def mv_tb (lo : Int) : List Int → List (Int × Int)
  | [] => []
  | o :: r => (lo, o) :: mv_tb (lo + 1) r
def mv_sw (pc : Nat) (x : Int32) (d : Int) (k : Nat → Prop) : List (Int × Int) → Prop
  | [] => mv_to pc d k
  | (c, o) :: r => (x = Int32.ofInt c → mv_to pc o k) ∧ (¬ x = Int32.ofInt c → mv_sw pc x d k r)
def mv_rng (c : Int) : Bool := decide (-2147483648 ≤ c) && decide (c < 2147483648)
def mv_fd (lay : List mv_D) (T : mv_T) (i q : Nat) : Option (Nat × Nat × Nat) := match mv_at i T.1 with
  | none => none
  | some (ci, k) => match lay[q]? with
    | some (.inl (cj, fs)) => bif Nat.beq cj ci then (match fs[k]? with
      | some f => some (ci, k, f)
      | none => none) else none
    | _ => none
def mv_cat (l : List Value) : Nat := (l.map fun v => v.category).sum
def mv_iv (lay : List mv_D) (sys : List mv_M) (T : mv_T) (i : Nat) (st : List Value) : Option (Nat × List Value × List Value) := match mv_at i T.2.2.2 with
  | none => none
  | some j => match sys[j]? with
    | some (_, _, _, _, np, some ci, _, _) => match st.drop np with
      | .ref q :: rest => match lay[q]? with
        | some (.inl (cj, _)) => bif Nat.beq cj ci && Nat.beq (st.take np).length np && Nat.ble (mv_cat rest) 8 then some (j, .ref q :: (st.take np).reverse, rest) else none
        | _ => none
      | _ => none
    | _ => none
def mv_is (sys : List mv_M) (T : mv_T) (i : Nat) (st : List Value) : Option (Nat × List Value × List Value) := match mv_at i T.2.2.2 with
  | none => none
  | some j => match sys[j]? with
    | some (_, _, _, _, np, none, _, _) => bif Nat.beq (st.take np).length np && Nat.ble (mv_cat (st.drop np)) 8 then some (j, (st.take np).reverse, st.drop np) else none
    | _ => none
/-- what an instruction asks for -/
def mv_do (lay : List mv_D) (sys : List mv_M) (T : mv_T) (nL : Nat) (z : Option FieldType) (Call : mv_Call) (P : Option Value → mv_S → Prop) (K : Nat → List (Nat × Value) → List Value → mv_S → Prop) (pc : Nat) (lv : List (Nat × Value)) (st : List Value) (S : mv_S) (i : Instr) : Prop := match i with
  | .iconst n => K (pc + 1) lv (.int (Int32.ofInt n) :: st) S
  | .bipush n => K (pc + 2) lv (.int (Int8.ofInt n).toInt32 :: st) S
  | .sipush n => K (pc + 3) lv (.int (Int16.ofInt n).toInt32 :: st) S
  | .lconst n => K (pc + 1) lv (.long (Int64.ofNat n.val) :: st) S
  | .iload_n k => match mv_at k.val lv with
    | some (.int x) => K (pc + 1) lv (.int x :: st) S
    | _ => False
  | .iload k => match mv_at k lv with
    | some (.int x) => K (pc + 2) lv (.int x :: st) S
    | _ => False
  | .aload_n k => match mv_at k.val lv with
    | some (.ref x) => K (pc + 1) lv (.ref x :: st) S
    | _ => False
  | .aload k => match mv_at k lv with
    | some (.ref x) => K (pc + 2) lv (.ref x :: st) S
    | _ => False
  | .lload_n k => match mv_at k.val lv with
    | some (.long x) => K (pc + 1) lv (.long x :: st) S
    | _ => False
  | .istore_n k => match st with
    | .int x :: r => bif Nat.blt k.val nL then K (pc + 1) (mv_sv k.val (.int x) lv) r S else False
    | _ => False
  | .istore k => match st with
    | .int x :: r => bif Nat.blt k nL then K (pc + 2) (mv_sv k (.int x) lv) r S else False
    | _ => False
  | .astore_n k => match st with
    | .ref x :: r => bif Nat.blt k.val nL then K (pc + 1) (mv_sv k.val (.ref x) lv) r S else False
    | _ => False
  | .astore k => match st with
    | .ref x :: r => bif Nat.blt k nL then K (pc + 2) (mv_sv k (.ref x) lv) r S else False
    | _ => False
  | .iinc k n => match mv_at k lv with
    | some (.int x) => bif Nat.blt k nL then K (pc + 3) (mv_sv k (.int (x + Int32.ofInt n)) lv) st S else False
    | _ => False
  | .iadd => match st with
    | .int y :: .int x :: r => K (pc + 1) lv (.int (x + y) :: r) S
    | _ => False
  | .isub => match st with
    | .int y :: .int x :: r => K (pc + 1) lv (.int (x - y) :: r) S
    | _ => False
  | .imul => match st with
    | .int y :: .int x :: r => K (pc + 1) lv (.int (x * y) :: r) S
    | _ => False
  | .iand => match st with
    | .int y :: .int x :: r => K (pc + 1) lv (.int (x &&& y) :: r) S
    | _ => False
  | .ixor => match st with
    | .int y :: .int x :: r => K (pc + 1) lv (.int (x ^^^ y) :: r) S
    | _ => False
  | .idiv => match st with
    | .int y :: .int x :: r => (¬ y = 0) ∧ K (pc + 1) lv (.int (x / y) :: r) S
    | _ => False
  | .irem => match st with
    | .int y :: .int x :: r => (¬ y = 0) ∧ K (pc + 1) lv (.int (x - x / y * y) :: r) S
    | _ => False
  | .ineg => match st with
    | .int x :: r => K (pc + 1) lv (.int (-x) :: r) S
    | _ => False
  | .iushr => match st with
    | .int y :: .int x :: r => K (pc + 1) lv (.int (x.toUInt32 >>> (y.toUInt32 &&& Int32.toUInt32 31)).toInt32 :: r) S
    | _ => False
  | .i2l => match st with
    | .int x :: r => K (pc + 1) lv (.long x.toInt64 :: r) S
    | _ => False
  | .ladd => match st with
    | .long y :: .long x :: r => K (pc + 1) lv (.long (x + y) :: r) S
    | _ => False
  | .lcmp => match st with
    | .long y :: .long x :: r => K (pc + 1) lv (.int (lg_cmp x y) :: r) S
    | _ => False
  | .dup => match st with
    | .int x :: r => K (pc + 1) lv (.int x :: .int x :: r) S
    | .ref x :: r => K (pc + 1) lv (.ref x :: .ref x :: r) S
    | _ => False
  | .pop => match st with
    | .int _ :: r => K (pc + 1) lv r S
    | .ref _ :: r => K (pc + 1) lv r S
    | _ => False
  | .ldc k => match mv_at k T.2.1 with
    | some x => K (pc + 2) lv (.int x :: st) S
    | none => False
  | .ldc_w k => match mv_at k T.2.1 with
    | some x => K (pc + 3) lv (.int x :: st) S
    | none => False
  | .ldc2_w k => match mv_at k T.2.2.1 with
    | some x => K (pc + 3) lv (.long x :: st) S
    | none => False
  | .goto off => mv_to pc off (fun t => K t lv st S)
  | .ifCond c off => match st with
    | .int x :: r => mv_to pc off (fun t => (mv_cd c x 0 → K t lv r S) ∧ (mv_nc c x 0 → K (pc + 3) lv r S))
    | _ => False
  | .if_icmp c off => match st with
    | .int y :: .int x :: r => mv_to pc off (fun t => (mv_cd c x y → K t lv r S) ∧ (mv_nc c x y → K (pc + 3) lv r S))
    | _ => False
  | .tableswitch d lo hi offs => match st with
    | .int x :: r => bif decide (hi + 1 = lo + offs.size) && mv_rng lo && mv_rng hi then mv_sw pc x d (fun t => K t lv r S) (mv_tb lo offs.toList) else False
    | _ => False
  | .lookupswitch d ps => match st with
    | .int x :: r => bif (ps.toList.zip (ps.toList.drop 1)).all (fun (a, next) => a.1 < next.1) && ps.toList.all (fun q => mv_rng q.1) then mv_sw pc x d (fun t => K t lv r S) ps.toList else False
    | _ => False
  | .getfield k => match st with
    | .ref q :: r => match mv_fd lay T k q with
      | some (_, k, 0) => K (pc + 3) lv (.int (S.1 q k) :: r) S
      | some (_, k, 1) => K (pc + 3) lv (.int (S.1 q k) :: r) S
      | some (_, _, j + 2) => K (pc + 3) lv (.ref j :: r) S
      | none => False
    | _ => False
  | .putfield k => match st with
    | .int x :: .ref q :: r => match mv_fd lay T k q with
      | some (_, k, 0) => K (pc + 3) lv r (mv_pf S q k x)
      | some (_, k, 1) => (x = 0 ∨ x = 1) ∧ K (pc + 3) lv r (mv_pf S q k x)
      | _ => False
    | _ => False
  | .iaload => match st with
    | .int j :: .ref q :: r => match lay[q]? with
      | some (.inr (0, n)) => vp_in j n ∧ K (pc + 1) lv (.int (S.2.1 q j.toNatClampNeg) :: r) S
      | _ => False
    | _ => False
  | .baload => match st with
    | .int j :: .ref q :: r => match lay[q]? with
      | some (.inr (1, n)) => vp_in j n ∧ K (pc + 1) lv (.int (S.2.1 q j.toNatClampNeg) :: r) S
      | _ => False
    | _ => False
  | .laload => match st with
    | .int j :: .ref q :: r => match lay[q]? with
      | some (.inr (_ + 2, n)) => vp_in j n ∧ K (pc + 1) lv (.long (S.2.2 q j.toNatClampNeg) :: r) S
      | _ => False
    | _ => False
  | .iastore => match st with
    | .int x :: .int j :: .ref q :: r => match lay[q]? with
      | some (.inr (0, n)) => vp_in j n ∧ K (pc + 1) lv r (mv_pr S q j.toNatClampNeg x)
      | _ => False
    | _ => False
  | .bastore => match st with
    | .int x :: .int j :: .ref q :: r => match lay[q]? with
      | some (.inr (1, n)) => (x = 0 ∨ x = 1) ∧ vp_in j n ∧ K (pc + 1) lv r (mv_pr S q j.toNatClampNeg x)
      | _ => False
    | _ => False
  | .lastore => match st with
    | .long x :: .int j :: .ref q :: r => match lay[q]? with
      | some (.inr (_ + 2, n)) => vp_in j n ∧ K (pc + 1) lv r (mv_pl S q j.toNatClampNeg x)
      | _ => False
    | _ => False
  | .arraylength => match st with
    | .ref q :: r => match lay[q]? with
      | some (.inr (0, n)) => K (pc + 1) lv (.int (Int32.ofNat n) :: r) S
      | some (.inr (1, n)) => K (pc + 1) lv (.int (Int32.ofNat n) :: r) S
      | some (.inr (_ + 2, n)) => K (pc + 1) lv (.int (Int32.ofNat n) :: r) S
      | _ => False
    | _ => False
  | .invokevirtual k => match mv_iv lay sys T k st with
    | some (j, a, rest) => Call j a S (fun r S' => K (pc + 3) lv (r.toList ++ rest) S')
    | none => False
  | .invokestatic k => match mv_is sys T k st with
    | some (j, a, rest) => Call j a S (fun r S' => K (pc + 3) lv (r.toList ++ rest) S')
    | none => False
  | .ireturn => match st with
    | [.int x] => match z with
      | some .int => P (some (.int x)) S
      | some .boolean => (x = 0 ∨ x = 1) ∧ P (some (.int x)) S
      | _ => False
    | _ => False
  | .lreturn => match st with
    | [.long x] => match z with
      | some .long => P (some (.long x)) S
      | _ => False
    | _ => False
  | .return_ => match st with
    | [] => match z with
      | none => P none S
      | _ => False
    | _ => False
  | _ => False
def mv_wp (lay : List mv_D) (sys : List mv_M) (T : mv_T) (nL : Nat) (z : Option FieldType) (il : List (Nat × Instr)) (Call : mv_Call) (P : Option Value → mv_S → Prop) : Nat → Nat → List (Nat × Value) → List Value → mv_S → Prop
  | 0, _, _, _, _ => False
  | n + 1, pc, lv, st, S => match mv_at pc il with
    | none => False
    | some i => mv_do lay sys T nL z Call P (mv_wp lay sys T nL z il Call P n) pc lv st S i
/-- a method's whole, with calls at most d deep -/
def mv_big (lay : List mv_D) (sys : List mv_M) : Nat → mv_Call
  | 0, _, _, _, _ => False
  | d + 1, j, a, S, P => match sys[j]? with
    | none => False
    | some M => bif Nat.ble (lg_sl a).length M.2.2.1 then (∃ n, mv_wp lay sys M.2.2.2.2.2.2.1 M.2.2.1 M.2.2.2.1 M.2.2.2.2.2.2.2 (mv_big lay sys d) P n 0 (lv_args 0 a) [] S) else False
