/-! THE COMPILER AS A FUNCTION: with marks and without, it goes alike -/
def cSh (a : cRes) : Except (Int32 × Nat) Nat :=
  match a with
  | .error e => .error e
  | .ok (p, _, _) => .ok p
theorem cSh_cases (a : cRes) : (∃ e, a = .error e ∧ cSh a = .error e) ∨ (∃ p l s, a = .ok (p, l, s) ∧ cSh a = .ok p) := by
  match a with
  | .error e => exact Or.inl ⟨e, rfl, rfl⟩
  | .ok (p, l, s) => exact Or.inr ⟨p, l, s, rfl, rfl⟩
theorem cSh_2 {a a' : cRes} (h : cSh a = cSh a') : (∃ e, a = .error e ∧ a' = .error e) ∨ (∃ p l s l' s', a = .ok (p, l, s) ∧ a' = .ok (p, l', s')) := by
  rcases cSh_cases a with ⟨e, h1, h2⟩ | ⟨p, l, s, h1, h2⟩ <;> rcases cSh_cases a' with ⟨e', g1, g2⟩ | ⟨p', l', s', g1, g2⟩
  · rw [h2, g2] at h
    cases h
    exact Or.inl ⟨e, h1, g1⟩
  · rw [h2, g2] at h; cases h
  · rw [h2, g2] at h; cases h
  · rw [h2, g2] at h
    cases h
    exact Or.inr ⟨p, l, s, l', s', h1, g1⟩
theorem cSh_then {a a' : cRes} {f f' : Nat → Nat → cRes} (h : cSh a = cSh a') (hf : ∀ p w w', cSh (f p w) = cSh (f' p w')) : cSh (cThen a f) = cSh (cThen a' f') := by
  rcases cSh_2 h with ⟨e, rfl, rfl⟩ | ⟨p, l, s, l', s', rfl, rfl⟩
  · rfl
  · rcases cSh_2 (hf p l.length l'.length) with ⟨e, h1, h2⟩ | ⟨p2, l2, s2, l2', s2', h1, h2⟩
    · simp only [cThen]; rw [h1, h2]
    · simp only [cThen]; rw [h1, h2]; rfl
theorem cSh_many {f f' : Nat → Nat → cRes} (hf : ∀ p b b', cSh (f p b) = cSh (f' p b')) : ∀ k p b b', cSh (cMany f k p b) = cSh (cMany f' k p b')
  | 0, _, _, _ => rfl
  | k + 1, p, b, b' => cSh_then (hf p b b') (fun p1 w w' => cSh_many hf k p1 (b + w) (b' + w'))
theorem cSh_loop {tk : Nat → Int32} {f f' : Nat → Nat → cRes} (hf : ∀ p b b', cSh (f p b) = cSh (f' p b')) : ∀ k p b b', cSh (cLoop tk f k p b) = cSh (cLoop tk f' k p b')
  | 0, _, _, _ => rfl
  | k + 1, p, b, b' => by
    unfold cLoop
    split
    · exact cSh_then (hf p b b') (fun p1 w w' => cSh_loop hf k p1 (b + w) (b' + w'))
    · rfl
theorem cSh_parts {f f' : Bool → Nat → Nat → cRes} (hf : ∀ m p b b', cSh (f m p b) = cSh (f' m p b')) (m k p b b' : Nat) : cSh (cParts f m k p b) = cSh (cParts f' m k p b') :=
  cSh_then (cSh_many (hf true) m p b b') (fun p1 w w' => cSh_many (hf false) k p1 (b + w) (b' + w'))
theorem cSh_plain {n : Nat} {tk par : Nat → Int32} {f f' : Bool → Nat → Nat → cRes} (hf : ∀ m p b b', cSh (f m p b) = cSh (f' m p b')) (p b b' : Nat) : cSh (cPlain n tk par f p b) = cSh (cPlain n tk par f' p b') := by
  unfold cPlain
  match cArg n tk par (tk p) (p + 1) with
  | .error e => rfl
  | .ok p1 =>
    simp only
    rcases cSh_2 (cSh_parts hf (tkMaps (tk p)).toNatClampNeg (cNums tk par p).toNatClampNeg p1 b b') with ⟨e, h1, h2⟩ | ⟨p2, l2, s2, l2', s2', h1, h2⟩
    · rw [h1, h2]
    · rw [h1, h2]; rfl
theorem cSh_either {f f' : Bool → Nat → Nat → cRes} (hf : ∀ m p b b', cSh (f m p b) = cSh (f' m p b')) (t : Int32) (p b b' : Nat) : cSh (cEither f t p b) = cSh (cEither f' t p b') := by
  unfold cEither
  rcases cSh_2 (hf false (p + 1) b b') with ⟨e, h1, h2⟩ | ⟨p2, l2, s2, l2', s2', h1, h2⟩
  · rw [h1, h2]
  · rw [h1, h2]
    simp only
    rcases cSh_2 (hf false p2 (b + l2.length + 2) (b' + l2'.length + 2)) with ⟨e, h1, h2⟩ | ⟨p3, l3, s3, l3', s3', h1, h2⟩
    · rw [h1, h2]
    · rw [h1, h2]; rfl
theorem cSh_mark {mk mk' : Bool} {note note' : Nat → List (Bool × Nat × Nat)} {a a' : cRes} (h : cSh a = cSh a') : cSh (cMark mk note a) = cSh (cMark mk' note' a') := by
  rcases cSh_2 h with ⟨e, rfl, rfl⟩ | ⟨p, l, s, l', s', rfl, rfl⟩ <;> rfl
theorem cSh_EM {n : Nat} {tk par : Nat → Int32} {mk mk' : Bool} : ∀ r m p b b', cSh (cEM n tk par mk r m p b) = cSh (cEM n tk par mk' r m p b') := by
  intro r
  induction r with
  | zero =>
    intro m p b b'
    unfold cEM
    rfl
  | succ r ih =>
    intro m p b b'
    rw [cEM, cEM]
    split
    · refine cSh_mark ?_
      split
      · exact cSh_either ih _ _ _ _
      · exact cSh_plain ih _ _ _
    · rfl
theorem cSh_stm {n : Nat} {tk par : Nat → Int32} {mk mk' mn : Bool} : ∀ r p b b', cSh (cStm n tk par mk mn r p b) = cSh (cStm n tk par mk' mn r p b') := by
  intro r
  induction r with
  | zero =>
    intro p b b'
    unfold cStm
    rfl
  | succ r ih =>
    intro p b b'
    have hE := cSh_EM (n := n) (tk := tk) (par := par) (mk := mk) (mk' := mk') r
    have hB := cSh_loop (tk := tk) ih 700
    rw [cStm, cStm]
    refine cSh_mark ?_
    split
    · unfold cIf
      rcases cSh_2 (hE false (p + 1) (b + mk.toNat) (b' + mk'.toNat)) with ⟨e, h1, h2⟩ | ⟨p2, l2, s2, l2', s2', h1, h2⟩
      · rw [h1, h2]
      · rw [h1, h2]
        simp only
        rcases cSh_2 (hB p2 (b + mk.toNat + l2.length + 2) (b' + mk'.toNat + l2'.length + 2)) with ⟨e, h1, h2⟩ | ⟨p3, l3, s3, l3', s3', h1, h2⟩
        · rw [h1, h2]
        · rw [h1, h2]
          simp only
          split
          · rcases cSh_2 (hB (p3 + 1) (b + mk.toNat + l2.length + 2 + l3.length + 2) (b' + mk'.toNat + l2'.length + 2 + l3'.length + 2)) with ⟨e, h1, h2⟩ | ⟨p4, l4, s4, l4', s4', h1, h2⟩
            · rw [h1, h2]
            · rw [h1, h2]
              simp only
              split <;> rfl
          · split <;> rfl
    · split
      · unfold cWhile
        rcases cSh_2 (hE false (p + 1) (b + mk.toNat) (b' + mk'.toNat)) with ⟨e, h1, h2⟩ | ⟨p2, l2, s2, l2', s2', h1, h2⟩
        · rw [h1, h2]
        · rw [h1, h2]
          simp only
          rcases cSh_2 (hB p2 (b + mk.toNat + l2.length + 2) (b' + mk'.toNat + l2'.length + 2)) with ⟨e, h1, h2⟩ | ⟨p3, l3, s3, l3', s3', h1, h2⟩
          · rw [h1, h2]
          · rw [h1, h2]
            simp only
            split <;> rfl
      · split
        · unfold cEach
          match cBare n tk 6 (p + 1) with
          | .error e => rfl
          | .ok _ =>
            simp only
            match cBare n tk 14 (p + 2) with
            | .error e => rfl
            | .ok _ =>
              simp only
              match cBare n tk 14 (p + 3) with
              | .error e => rfl
              | .ok _ =>
                simp only
                rcases cSh_2 (hB (p + 4) (b + mk.toNat + 6) (b' + mk'.toNat + 6)) with ⟨e, h1, h2⟩ | ⟨p3, l3, s3, l3', s3', h1, h2⟩
                · rw [h1, h2]
                · rw [h1, h2]
                  simp only
                  split <;> rfl
        · split
          · unfold cAnswer
            rcases cSh_2 (hE false (p + 1) (b + mk.toNat) (b' + mk'.toNat)) with ⟨e, h1, h2⟩ | ⟨p2, l2, s2, l2', s2', h1, h2⟩
            · rw [h1, h2]
            · rw [h1, h2]; rfl
          · split
            · rcases cSh_2 (cSh_plain (n := n) (tk := tk) (par := par) hE p (b + mk.toNat) (b' + mk'.toNat)) with ⟨e, h1, h2⟩ | ⟨p2, l2, s2, l2', s2', h1, h2⟩
              · rw [h1, h2]
              · rw [h1, h2]; rfl
            · exact cSh_plain hE _ _ _
theorem cSh_blk {n : Nat} {tk par : Nat → Int32} {mk mk' mn : Bool} (r k p b b' : Nat) : cSh (cLoop tk (cStm n tk par mk mn r) k p b) = cSh (cLoop tk (cStm n tk par mk' mn r) k p b') := cSh_loop (cSh_stm r) k p b b'
