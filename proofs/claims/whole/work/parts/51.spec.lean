/-! THE COMPILER AS A FUNCTION: what both sides make of the tokens. n tokens tk (beyond them -1), parameters par (-1: no such function), mk: with marks, mn: in the main part. An answer is a fault and its place, or the place behind, the words, and what is noted of places (false: behind, true: turn) -/
abbrev cRes : Type := Except (Int32 × Nat) (Nat × List Int32 × List (Bool × Nat × Nat))
abbrev cEr (w : Int32) (p : Nat) : cRes := Except.error (w, p)
abbrev cHasF (par : Nat → Int32) (f : Int32) : Prop := 0 ≤ f ∧ f < 8 ∧ ¬ par f.toNatClampNeg = -1
abbrev cKind (m : Bool) (t : Int32) : Prop := if m then 40 ≤ t ∧ t ≤ 44 else 20 ≤ t ∧ t ≤ 36
abbrev cIsS (t : Int32) : Prop := 1 ≤ t ∧ t ≤ 9 ∧ ¬ t = 4
def cThen (a : cRes) (f : Nat → Nat → cRes) : cRes :=
  match a with
  | .error e => .error e
  | .ok (p1, l1, s1) =>
    match f p1 l1.length with
    | .error e => .error e
    | .ok (p2, l2, s2) => .ok (p2, l1 ++ l2, s1 ++ s2)
def cMany (rec : Nat → Nat → cRes) : Nat → Nat → Nat → cRes
  | 0, p, _ => .ok (p, [], [])
  | k + 1, p, b => cThen (rec p b) (fun p1 w => cMany rec k p1 (b + w))
def cLoop (tk : Nat → Int32) (st : Nat → Nat → cRes) : Nat → Nat → Nat → cRes
  | 0, p, _ => .ok (p, [], [])
  | k + 1, p, b => if cIsS (tk p) then cThen (st p b) (fun p1 w => cLoop tk st k p1 (b + w)) else .ok (p, [], [])
def cBare (n : Nat) (tk : Nat → Int32) (lim : Int32) (p : Nat) : Except (Int32 × Nat) Nat :=
  if p < n then (if 0 ≤ tk p ∧ tk p < lim then .ok (p + 1) else .error (-12, p)) else .error (-11, p)
def cKnown (n : Nat) (tk : Nat → Int32) (par : Nat → Int32) (p : Nat) : Except (Int32 × Nat) Nat :=
  if cHasF par (tk p) then .ok (p + 1) else if p < n then (if 0 ≤ tk p ∧ tk p < 8 then .error (-14, p) else .error (-12, p)) else .error (-11, p)
def cArg (n : Nat) (tk : Nat → Int32) (par : Nat → Int32) (t : Int32) (p : Nat) : Except (Int32 × Nat) Nat :=
  if t = 1 ∨ t = 21 then cBare n tk 14 p else if t = 2 ∨ t = 40 then cBare n tk 6 p else if t = 8 ∨ t = 36 then cKnown n tk par p else if t = 20 then (if p < n then .ok (p + 1) else .error (-11, p)) else .ok p
def cPar (par : Nat → Int32) (f : Int32) : Int32 := if cHasF par f then par f.toNatClampNeg else 0
def cNums (tk : Nat → Int32) (par : Nat → Int32) (p : Nat) : Int32 := if tk p = 8 ∨ tk p = 36 then cPar par (tk (p + 1)) else tkNums (tk p)
def cParts (rec : Bool → Nat → Nat → cRes) (m k p b : Nat) : cRes := cThen (cMany (rec true) m p b) (fun p2 w => cMany (rec false) k p2 (b + w))
def cPlain (n : Nat) (tk : Nat → Int32) (par : Nat → Int32) (rec : Bool → Nat → Nat → cRes) (p b : Nat) : cRes :=
  match cArg n tk par (tk p) (p + 1) with
  | .error e => .error e
  | .ok p1 =>
    match cParts rec (tkMaps (tk p)).toNatClampNeg (cNums tk par p).toNatClampNeg p1 b with
    | .error e => .error e
    | .ok (p3, l, s) => .ok (p3, l ++ tkWord (tk p) :: (if 0 < tkArg (tk p) then [tk (p + 1)] else []), s)
def cEither (rec : Bool → Nat → Nat → cRes) (t : Int32) (p b : Nat) : cRes :=
  match rec false (p + 1) b with
  | .error e => .error e
  | .ok (p1, l1, s1) =>
    match rec false p1 (b + l1.length + 2) with
    | .error e => .error e
    | .ok (p2, l2, s2) => .ok (p2, l1 ++ (if t = 30 then 13 else 14) :: nI (b + l1.length + 2 + l2.length + 4) :: (l2 ++ [11, 11, 12, nI (b + l1.length + 2 + l2.length + 6), 1, if t = 30 then 0 else 1]), s1 ++ s2)
def cMark (mk : Bool) (note : Nat → List (Bool × Nat × Nat)) (a : cRes) : cRes :=
  match a with
  | .error e => .error e
  | .ok (p1, l, s) => .ok (p1, if mk then 30 :: l else l, s ++ note p1)
/-- an E (m false) or M (m true) at p, its words from b; r levels are left -/
def cEM (n : Nat) (tk : Nat → Int32) (par : Nat → Int32) (mk : Bool) : Nat → Bool → Nat → Nat → cRes
  | 0, m, p, _ => if cKind m (tk p) then cEr (-15) p else cEr (-11) p
  | r + 1, m, p, b => if cKind m (tk p) then cMark mk (fun p1 => if m then [] else [(false, p, p1)]) (if tk p = 30 ∨ tk p = 31 then cEither (cEM n tk par mk r) (tk p) p (b + mk.toNat) else cPlain n tk par (cEM n tk par mk r) p (b + mk.toNat)) else cEr (-11) p
def cIf (tk : Nat → Int32) (rec : Bool → Nat → Nat → cRes) (blk : Nat → Nat → cRes) (p b : Nat) : cRes :=
  match rec false (p + 1) b with
  | .error e => .error e
  | .ok (p1, l1, s1) =>
    match blk p1 (b + l1.length + 2) with
    | .error e => .error e
    | .ok (p2, l2, s2) =>
      if tk p2 = 4 then
        match blk (p2 + 1) (b + l1.length + 2 + l2.length + 2) with
        | .error e => .error e
        | .ok (p3, l3, s3) => if tk p3 = 0 then .ok (p3 + 1, l1 ++ 13 :: nI (b + l1.length + 2 + l2.length + 2) :: (l2 ++ 12 :: nI (b + l1.length + 2 + l2.length + 2 + l3.length) :: l3), s1 ++ (s2 ++ (true, p, p2) :: s3)) else cEr (-11) p3
      else if tk p2 = 0 then .ok (p2 + 1, l1 ++ 13 :: nI (b + l1.length + 2 + l2.length) :: l2, s1 ++ (s2 ++ [(true, p, p2)])) else cEr (-11) p2
def cWhile (tk : Nat → Int32) (rec : Bool → Nat → Nat → cRes) (blk : Nat → Nat → cRes) (p b : Nat) : cRes :=
  match rec false (p + 1) b with
  | .error e => .error e
  | .ok (p1, l1, s1) =>
    match blk p1 (b + l1.length + 2) with
    | .error e => .error e
    | .ok (p2, l2, s2) => if tk p2 = 0 then .ok (p2 + 1, l1 ++ 13 :: nI (b + l1.length + 2 + l2.length + 2) :: (l2 ++ [12, nI b]), s1 ++ s2) else cEr (-11) p2
def cEach (n : Nat) (tk : Nat → Int32) (blk : Nat → Nat → cRes) (p b : Nat) : cRes :=
  match cBare n tk 6 (p + 1) with
  | .error e => .error e
  | .ok _ =>
    match cBare n tk 14 (p + 2) with
    | .error e => .error e
    | .ok _ =>
      match cBare n tk 14 (p + 3) with
      | .error e => .error e
      | .ok _ =>
        match blk (p + 4) (b + 6) with
        | .error e => .error e
        | .ok (p2, l2, s2) => if tk p2 = 0 then .ok (p2 + 1, 19 :: tk (p + 1) :: 29 :: tk (p + 2) :: tk (p + 3) :: nI (b + 6 + l2.length + 2) :: (l2 ++ [12, nI (b + 2)]), s2) else cEr (-11) p2
def cAnswer (mn : Bool) (rec : Bool → Nat → Nat → cRes) (p b : Nat) : cRes :=
  match rec false (p + 1) b with
  | .error e => .error e
  | .ok (p1, l1, s1) => .ok (p1, l1 ++ (if mn then [18, 0] else [17]), s1)
def cCallS (a : cRes) : cRes :=
  match a with
  | .error e => .error e
  | .ok (p1, l1, s1) => .ok (p1, l1 ++ [18], s1)
/-- an S at p -/
def cStm (n : Nat) (tk : Nat → Int32) (par : Nat → Int32) (mk mn : Bool) : Nat → Nat → Nat → cRes
  | 0, p, _ => cEr (-15) p
  | r + 1, p, b => cMark mk (fun p1 => [(false, p, p1)])
      (if tk p = 3 then cIf tk (cEM n tk par mk r) (cLoop tk (cStm n tk par mk mn r) 700) p (b + mk.toNat)
       else if tk p = 5 then cWhile tk (cEM n tk par mk r) (cLoop tk (cStm n tk par mk mn r) 700) p (b + mk.toNat)
       else if tk p = 6 then cEach n tk (cLoop tk (cStm n tk par mk mn r) 700) p (b + mk.toNat)
       else if tk p = 9 then cAnswer mn (cEM n tk par mk r) p (b + mk.toNat)
       else if tk p = 8 then cCallS (cPlain n tk par (cEM n tk par mk r) p (b + mk.toNat))
       else cPlain n tk par (cEM n tk par mk r) p (b + mk.toNat))
def cBlk (n : Nat) (tk : Nat → Int32) (par : Nat → Int32) (mk mn : Bool) (r p b : Nat) : cRes := cLoop tk (cStm n tk par mk mn r) 700 p b
/-- the functions: place behind, words, notes, parameters, and of each function its number, first word and place -/
def cFuns (n : Nat) (tk : Nat → Int32) (mk : Bool) : Nat → (Nat → Int32) → Nat → Nat → Except (Int32 × Nat) (Nat × List Int32 × List (Bool × Nat × Nat) × (Nat → Int32) × List (Nat × Nat × Nat))
  | 0, par, p, _ => .ok (p, [], [], par, [])
  | k + 1, par, p, b =>
    if tk p = 10 then
      if cHasF par (tk (p + 1)) then .error (-13, p + 1) else
      match cBare n tk 8 (p + 1) with
      | .error e => .error e
      | .ok _ =>
        match cBare n tk 4 (p + 2) with
        | .error e => .error e
        | .ok _ =>
          match cBlk n tk (upd par (tk (p + 1)).toNatClampNeg (tk (p + 2))) mk false 16 (p + 3) b with
          | .error e => .error e
          | .ok (p1, l1, s1) =>
            if tk p1 = 0 then
              match cFuns n tk mk k (upd par (tk (p + 1)).toNatClampNeg (tk (p + 2))) (p1 + 1) (b + l1.length + 3) with
              | .error e => .error e
              | .ok (p2, l2, s2, par2, fs) => .ok (p2, l1 ++ 1 :: 0 :: 17 :: l2, s1 ++ s2, par2, ((tk (p + 1)).toNatClampNeg, b, p) :: fs)
            else .error (-11, p1)
    else .ok (p, [], [], par, [])
/-- the whole: words, notes, parameters, functions, the main part's first word and place -/
def cAll (n : Nat) (tk : Nat → Int32) (mk : Bool) : Except (Int32 × Nat) (List Int32 × List (Bool × Nat × Nat) × (Nat → Int32) × List (Nat × Nat × Nat) × Nat × Nat) :=
  match cFuns n tk mk 9 (fun _ => -1) 0 0 with
  | .error e => .error e
  | .ok (p, l, s, par, fs) =>
    if tk p = 11 then
      match cBlk n tk par mk true 16 (p + 1) l.length with
      | .error e => .error e
      | .ok (p1, l1, s1) =>
        if tk p1 = 0 then (if p1 + 1 < n then .error (-11, p1 + 1) else .ok (l ++ (l1 ++ [0]), s ++ s1, par, fs, l.length, p)) else .error (-11, p1)
    else .error (-11, p)
