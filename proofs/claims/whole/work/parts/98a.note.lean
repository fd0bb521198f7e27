/-! THE COMPILER AS A FUNCTION: with marks and without, it notes alike -/
def cSn (a : cRes) : Except (Int32 × Nat) (Nat × List (Bool × Nat × Nat)) :=
  match a with
  | .error e => .error e
  | .ok (p, _, s) => .ok (p, s)
theorem cSn_cases (a : cRes) : (∃ e, a = .error e ∧ cSn a = .error e) ∨ (∃ p l s, a = .ok (p, l, s) ∧ cSn a = .ok (p, s)) := by
  match a with
  | .error e => exact Or.inl ⟨e, rfl, rfl⟩
  | .ok (p, l, s) => exact Or.inr ⟨p, l, s, rfl, rfl⟩
theorem cSn_2 {a a' : cRes} (h : cSn a = cSn a') : (∃ e, a = .error e ∧ a' = .error e) ∨ (∃ p l s l', a = .ok (p, l, s) ∧ a' = .ok (p, l', s)) := by
  rcases cSn_cases a with ⟨e, h1, h2⟩ | ⟨p, l, s, h1, h2⟩ <;> rcases cSn_cases a' with ⟨e', g1, g2⟩ | ⟨p', l', s', g1, g2⟩
  · rw [h2, g2] at h
    cases h
    exact Or.inl ⟨e, h1, g1⟩
  · rw [h2, g2] at h; cases h
  · rw [h2, g2] at h; cases h
  · rw [h2, g2] at h
    cases h
    exact Or.inr ⟨p, l, s, l', h1, g1⟩
theorem cSn_then {a a' : cRes} {f f' : Nat → Nat → cRes} (h : cSn a = cSn a') (hf : ∀ p w w', cSn (f p w) = cSn (f' p w')) : cSn (cThen a f) = cSn (cThen a' f') := by
  rcases cSn_2 h with ⟨e, rfl, rfl⟩ | ⟨p, l, s, l', rfl, rfl⟩
  · rfl
  · rcases cSn_2 (hf p l.length l'.length) with ⟨e, h1, h2⟩ | ⟨p2, l2, s2, l2', h1, h2⟩
    · simp only [cThen]; rw [h1, h2]
    · simp only [cThen]; rw [h1, h2]; rfl
theorem cSn_many {f f' : Nat → Nat → cRes} (hf : ∀ p b b', cSn (f p b) = cSn (f' p b')) : ∀ k p b b', cSn (cMany f k p b) = cSn (cMany f' k p b')
  | 0, _, _, _ => rfl
  | k + 1, p, b, b' => cSn_then (hf p b b') (fun p1 w w' => cSn_many hf k p1 (b + w) (b' + w'))
theorem cSn_loop {tk : Nat → Int32} {f f' : Nat → Nat → cRes} (hf : ∀ p b b', cSn (f p b) = cSn (f' p b')) : ∀ k p b b', cSn (cLoop tk f k p b) = cSn (cLoop tk f' k p b')
  | 0, _, _, _ => rfl
  | k + 1, p, b, b' => by
    unfold cLoop
    split
    · exact cSn_then (hf p b b') (fun p1 w w' => cSn_loop hf k p1 (b + w) (b' + w'))
    · rfl
theorem cSn_parts {f f' : Bool → Nat → Nat → cRes} (hf : ∀ m p b b', cSn (f m p b) = cSn (f' m p b')) (m k p b b' : Nat) : cSn (cParts f m k p b) = cSn (cParts f' m k p b') :=
  cSn_then (cSn_many (hf true) m p b b') (fun p1 w w' => cSn_many (hf false) k p1 (b + w) (b' + w'))
theorem cSn_plain {n : Nat} {tk par : Nat → Int32} {f f' : Bool → Nat → Nat → cRes} (hf : ∀ m p b b', cSn (f m p b) = cSn (f' m p b')) (p b b' : Nat) : cSn (cPlain n tk par f p b) = cSn (cPlain n tk par f' p b') := by
  unfold cPlain
  match cArg n tk par (tk p) (p + 1) with
  | .error e => rfl
  | .ok p1 =>
    simp only
    rcases cSn_2 (cSn_parts hf (tkMaps (tk p)).toNatClampNeg (cNums tk par p).toNatClampNeg p1 b b') with ⟨e, h1, h2⟩ | ⟨p2, l2, s2, l2', h1, h2⟩
    · rw [h1, h2]
    · rw [h1, h2]; rfl
theorem cSn_either {f f' : Bool → Nat → Nat → cRes} (hf : ∀ m p b b', cSn (f m p b) = cSn (f' m p b')) (t : Int32) (p b b' : Nat) : cSn (cEither f t p b) = cSn (cEither f' t p b') := by
  unfold cEither
  rcases cSn_2 (hf false (p + 1) b b') with ⟨e, h1, h2⟩ | ⟨p2, l2, s2, l2', h1, h2⟩
  · rw [h1, h2]
  · rw [h1, h2]
    simp only
    rcases cSn_2 (hf false p2 (b + l2.length + 2) (b' + l2'.length + 2)) with ⟨e, h1, h2⟩ | ⟨p3, l3, s3, l3', h1, h2⟩
    · rw [h1, h2]
    · rw [h1, h2]; rfl
theorem cSn_mark {mk mk' : Bool} {note : Nat → List (Bool × Nat × Nat)} {a a' : cRes} (h : cSn a = cSn a') : cSn (cMark mk note a) = cSn (cMark mk' note a') := by
  rcases cSn_2 h with ⟨e, rfl, rfl⟩ | ⟨p, l, s, l', rfl, rfl⟩ <;> rfl
theorem cSn_EM {n : Nat} {tk par : Nat → Int32} {mk mk' : Bool} : ∀ r m p b b', cSn (cEM n tk par mk r m p b) = cSn (cEM n tk par mk' r m p b') := by
  intro r
  induction r with
  | zero =>
    intro m p b b'
    unfold cEM
    rfl
  | succ r ih =>
    intro m p b b'
    rw [cEM, cEM]
    split
    · refine cSn_mark ?_
      split
      · exact cSn_either ih _ _ _ _
      · exact cSn_plain ih _ _ _
    · rfl
theorem cSn_stm {n : Nat} {tk par : Nat → Int32} {mk mk' mn : Bool} : ∀ r p b b', cSn (cStm n tk par mk mn r p b) = cSn (cStm n tk par mk' mn r p b') := by
  intro r
  induction r with
  | zero =>
    intro p b b'
    unfold cStm
    rfl
  | succ r ih =>
    intro p b b'
    have hE := cSn_EM (n := n) (tk := tk) (par := par) (mk := mk) (mk' := mk') r
    have hB := cSn_loop (tk := tk) ih 700
    rw [cStm, cStm]
    refine cSn_mark ?_
    split
    · unfold cIf
      rcases cSn_2 (hE false (p + 1) (b + mk.toNat) (b' + mk'.toNat)) with ⟨e, h1, h2⟩ | ⟨p2, l2, s2, l2', h1, h2⟩
      · rw [h1, h2]
      · rw [h1, h2]
        simp only
        rcases cSn_2 (hB p2 (b + mk.toNat + l2.length + 2) (b' + mk'.toNat + l2'.length + 2)) with ⟨e, h1, h2⟩ | ⟨p3, l3, s3, l3', h1, h2⟩
        · rw [h1, h2]
        · rw [h1, h2]
          simp only
          split
          · rcases cSn_2 (hB (p3 + 1) (b + mk.toNat + l2.length + 2 + l3.length + 2) (b' + mk'.toNat + l2'.length + 2 + l3'.length + 2)) with ⟨e, h1, h2⟩ | ⟨p4, l4, s4, l4', h1, h2⟩
            · rw [h1, h2]
            · rw [h1, h2]
              simp only
              split <;> rfl
          · split <;> rfl
    · split
      · unfold cWhile
        rcases cSn_2 (hE false (p + 1) (b + mk.toNat) (b' + mk'.toNat)) with ⟨e, h1, h2⟩ | ⟨p2, l2, s2, l2', h1, h2⟩
        · rw [h1, h2]
        · rw [h1, h2]
          simp only
          rcases cSn_2 (hB p2 (b + mk.toNat + l2.length + 2) (b' + mk'.toNat + l2'.length + 2)) with ⟨e, h1, h2⟩ | ⟨p3, l3, s3, l3', h1, h2⟩
          · rw [h1, h2]
          · rw [h1, h2]
            simp only
            split <;> rfl
      · split
        · unfold cEach
          match cBare n tk 6 (p + 1) with
          | .error e => rfl
          | .ok _ =>
            simp only
            match cBare n tk 14 (p + 2) with
            | .error e => rfl
            | .ok _ =>
              simp only
              match cBare n tk 14 (p + 3) with
              | .error e => rfl
              | .ok _ =>
                simp only
                rcases cSn_2 (hB (p + 4) (b + mk.toNat + 6) (b' + mk'.toNat + 6)) with ⟨e, h1, h2⟩ | ⟨p3, l3, s3, l3', h1, h2⟩
                · rw [h1, h2]
                · rw [h1, h2]
                  simp only
                  split <;> rfl
        · split
          · unfold cAnswer
            rcases cSn_2 (hE false (p + 1) (b + mk.toNat) (b' + mk'.toNat)) with ⟨e, h1, h2⟩ | ⟨p2, l2, s2, l2', h1, h2⟩
            · rw [h1, h2]
            · rw [h1, h2]; rfl
          · split
            · rcases cSn_2 (cSn_plain (n := n) (tk := tk) (par := par) hE p (b + mk.toNat) (b' + mk'.toNat)) with ⟨e, h1, h2⟩ | ⟨p2, l2, s2, l2', h1, h2⟩
              · rw [h1, h2]
              · rw [h1, h2]; rfl
            · exact cSn_plain hE _ _ _
theorem cSn_blk {n : Nat} {tk par : Nat → Int32} {mk mk' mn : Bool} (r k p b b' : Nat) : cSn (cLoop tk (cStm n tk par mk mn r) k p b) = cSn (cLoop tk (cStm n tk par mk' mn r) k p b') := cSn_loop (cSn_stm r) k p b b'
/-- the functions: place behind, notes, parameters, their numbers and places -/
def cFn (a : Except (Int32 × Nat) (Nat × List Int32 × List (Bool × Nat × Nat) × (Nat → Int32) × List (Nat × Nat × Nat))) : Except (Int32 × Nat) (Nat × List (Bool × Nat × Nat) × (Nat → Int32) × List (Nat × Nat)) :=
  match a with
  | .error e => .error e
  | .ok (p, _, s, par, fs) => .ok (p, s, par, fs.map (fun q => (q.1, q.2.2)))
theorem cFn_2 {a a'} (h : cFn a = cFn a') : (∃ e, a = .error e ∧ a' = .error e) ∨ (∃ p l s par fs l' fs', a = .ok (p, l, s, par, fs) ∧ a' = .ok (p, l', s, par, fs') ∧ fs.map (fun q => (q.1, q.2.2)) = fs'.map (fun q => (q.1, q.2.2))) := by
  match a, a', h with
  | .error e, .error e', h =>
    have h : (Except.error e : Except (Int32 × Nat) (Nat × List (Bool × Nat × Nat) × (Nat → Int32) × List (Nat × Nat))) = .error e' := h
    cases h
    exact Or.inl ⟨e, rfl, rfl⟩
  | .error e, .ok _, h => cases h
  | .ok _, .error e, h => cases h
  | .ok (p, l, s, par, fs), .ok (p', l', s', par', fs'), h =>
    simp only [cFn, Except.ok.injEq, Prod.mk.injEq] at h
    obtain ⟨rfl, rfl, rfl, h⟩ := h
    exact Or.inr ⟨p, l, s, par, fs, l', fs', rfl, rfl, h⟩
theorem cFn_funs {n : Nat} {tk : Nat → Int32} {mk mk' : Bool} : ∀ k par p b b', cFn (cFuns n tk mk k par p b) = cFn (cFuns n tk mk' k par p b') := by
  intro k
  induction k with
  | zero => intro par p b b'; rfl
  | succ k ih =>
    intro par p b b'
    rw [cFuns, cFuns]
    split
    · split
      · rfl
      · match cBare n tk 8 (p + 1) with
        | .error e => rfl
        | .ok _ =>
          simp only
          match cBare n tk 4 (p + 2) with
          | .error e => rfl
          | .ok _ =>
            simp only
            unfold cBlk
            rcases cSn_2 (cSn_blk (n := n) (tk := tk) (par := upd par (tk (p + 1)).toNatClampNeg (tk (p + 2))) (mk := mk) (mk' := mk') (mn := false) 16 700 (p + 3) b b') with ⟨e, h1, h2⟩ | ⟨p2, l2, s2, l2', h1, h2⟩
            · rw [h1, h2]
            · rw [h1, h2]
              simp only
              split
              · rcases cFn_2 (ih (upd par (tk (p + 1)).toNatClampNeg (tk (p + 2))) (p2 + 1) (b + l2.length + 3) (b' + l2'.length + 3)) with ⟨e, g1, g2⟩ | ⟨p3, l3, s3, par3, fs3, l3', fs3', g1, g2, g3⟩
                · rw [g1, g2]
                · rw [g1, g2]
                  simp only [cFn, List.map_cons]
                  rw [g3]
              · rfl
    · rfl
theorem cAll_2 {n : Nat} {tk : Nat → Int32} {l s par fs mw mt l' s' par' fs' mw' mt'} (h : cAll n tk false = .ok (l, s, par, fs, mw, mt)) (h' : cAll n tk true = .ok (l', s', par', fs', mw', mt')) : s' = s ∧ par' = par ∧ mt' = mt ∧ fs.map (fun q => (q.1, q.2.2)) = fs'.map (fun q => (q.1, q.2.2)) := by
  obtain ⟨p, l0, s0, p1, l1, s1, h1, t, h2, _, _, rfl, rfl, rfl, rfl⟩ := cAll_ok h
  obtain ⟨q, m0, r0, q1, m1, r1, g1, u, g2, _, _, rfl, rfl, rfl, rfl⟩ := cAll_ok h'
  have e1 := cFn_funs (n := n) (tk := tk) (mk := false) (mk' := true) 9 (fun _ => -1) 0 0 0
  rw [h1, g1] at e1
  simp only [cFn, Except.ok.injEq, Prod.mk.injEq] at e1
  obtain ⟨rfl, rfl, rfl, e4⟩ := e1
  have e2 := cSn_blk (n := n) (tk := tk) (par := par) (mk := false) (mk' := true) (mn := true) 16 700 (mt + 1) l0.length m0.length
  rw [h2, g2] at e2
  simp only [cSn, Except.ok.injEq, Prod.mk.injEq] at e2
  obtain ⟨rfl, rfl⟩ := e2
  exact ⟨rfl, rfl, rfl, e4⟩
