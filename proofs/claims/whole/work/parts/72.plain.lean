/-! THE COMPILER AS A FUNCTION: plain tokens one by one -/
theorem cMany_1 {f : Nat → Nat → cRes} {p b : Nat} : cMany f 1 p b = f p b := by
  show cThen (f p b) (fun p1 w => cMany f 0 p1 (b + w)) = f p b
  match f p b with
  | .error e => rfl
  | .ok (p1, l, s) => simp [cThen, cMany]
theorem cParts_0 {rec : Bool → Nat → Nat → cRes} {k p b : Nat} : cParts rec 0 k p b = cMany (rec false) k p b := by
  show cThen (.ok (p, [], [])) _ = _
  unfold cThen
  simp only [List.length_nil, Nat.add_zero]
  match cMany (rec false) k p b with
  | .error e => rfl
  | .ok (p1, l, s) => simp
theorem cParts_m0 {rec : Bool → Nat → Nat → cRes} {k p b : Nat} : cParts rec k 0 p b = cMany (rec true) k p b := by
  show cThen (cMany (rec true) k p b) _ = _
  match cMany (rec true) k p b with
  | .error e => rfl
  | .ok (p1, l, s) => simp [cThen, cMany]
section CP
variable {n : Nat} {tk par : Nat → Int32} {rec : Bool → Nat → Nat → cRes} {p b : Nat}
theorem cNums_t (h : ¬ (tk p = 8 ∨ tk p = 36)) : cNums tk par p = tkNums (tk p) := if_neg h
theorem cPlain_20 (t : tk p = 20) : cPlain n tk par rec p b = if p + 1 < n then .ok (p + 2, [1, tk (p + 1)], []) else .error (-11, p + 1) := by
  unfold cPlain
  rw [cNums_t (by rw [t]; decide), t]
  have e : cArg n tk par 20 (p + 1) = (if p + 1 < n then .ok (p + 1 + 1) else .error (-11, p + 1)) := by
    unfold cArg
    rw [if_neg (by decide), if_neg (by decide), if_neg (by decide), if_pos rfl]
  rw [e]
  by_cases h : p + 1 < n
  · rw [if_pos h, if_pos h]; rfl
  · rw [if_neg h, if_neg h]
theorem cPlain_21 (t : tk p = 21) : cPlain n tk par rec p b = match cBare n tk 14 (p + 1) with
    | .error e => .error e
    | .ok q => .ok (q, [2, tk (p + 1)], []) := by
  unfold cPlain
  rw [cNums_t (by rw [t]; decide), t]
  have e : cArg n tk par 21 (p + 1) = cBare n tk 14 (p + 1) := if_pos (Or.inr rfl)
  rw [e]
  match cBare n tk 14 (p + 1) with
  | .error e => rfl
  | .ok q => rfl
theorem cPlain_40 (t : tk p = 40) : cPlain n tk par rec p b = match cBare n tk 6 (p + 1) with
    | .error e => .error e
    | .ok q => .ok (q, [19, tk (p + 1)], []) := by
  unfold cPlain
  rw [cNums_t (by rw [t]; decide), t]
  have e : cArg n tk par 40 (p + 1) = cBare n tk 6 (p + 1) := by
    unfold cArg
    rw [if_neg (by decide), if_pos (Or.inr rfl)]
  rw [e]
  match cBare n tk 6 (p + 1) with
  | .error e => rfl
  | .ok q => rfl
theorem cArg_no {t : Int32} {q : Nat} (h : tkArg t = 0) : cArg n tk par t q = .ok q := by
  unfold cArg
  unfold tkArg at h
  split at h
  · exact absurd h (by decide)
  · rename_i c
    simp only [not_or] at c
    simp only [c, or_self, if_false]
theorem cPlain_no {t : Int32} (e : tk p = t) (h : tkArg t = 0) (h2 : ¬ (t = 8 ∨ t = 36)) : cPlain n tk par rec p b = match cParts rec (tkMaps t).toNatClampNeg (tkNums t).toNatClampNeg (p + 1) b with
    | .error e => .error e
    | .ok (p3, l, s) => .ok (p3, l ++ [tkWord t], s) := by
  unfold cPlain
  rw [cNums_t (by rw [e]; exact h2), e, cArg_no h, h]
  rfl
theorem cPlain_P (h : 22 ≤ tk p ∧ tk p ≤ 29 ∨ 32 ≤ tk p ∧ tk p ≤ 35 ∨ 42 ≤ tk p ∧ tk p ≤ 44) : cPlain n tk par rec p b = match cParts rec (tkMaps (tk p)).toNatClampNeg (tkNums (tk p)).toNatClampNeg (p + 1) b with
    | .error e => .error e
    | .ok (p3, l, s) => .ok (p3, l ++ [tkWord (tk p)], s) := by
  have ne : ∀ c : Int32, c = 1 ∨ c = 2 ∨ c = 8 ∨ c = 20 ∨ c = 21 ∨ c = 36 ∨ c = 40 ∨ c = 6 → ¬ tk p = c := by
    intro c hc e
    rw [e] at h
    rcases hc with rfl | rfl | rfl | rfl | rfl | rfl | rfl | rfl <;> exact absurd h (by decide)
  refine cPlain_no rfl ?_ (fun z => z.elim (ne 8 (by decide)) (ne 36 (by decide)))
  unfold tkArg
  rw [if_neg, if_neg (ne 6 (by decide))]
  rintro (z | z | z | z | z | z | z)
  · exact ne 1 (by decide) z
  · exact ne 2 (by decide) z
  · exact ne 8 (by decide) z
  · exact ne 20 (by decide) z
  · exact ne 21 (by decide) z
  · exact ne 36 (by decide) z
  · exact ne 40 (by decide) z
theorem cPlain_41 (t : tk p = 41) : cPlain n tk par rec p b = .ok (p + 1, [21], []) := by
  rw [cPlain_no t (by decide) (by decide)]
  rfl
theorem cPlain_7 (t : tk p = 7) : cPlain n tk par rec p b = match rec false (p + 1) b with
    | .error e => .error e
    | .ok (p3, l, s) => .ok (p3, l ++ [15], s) := by
  rw [cPlain_no t (by decide) (by decide)]
  show (match cParts rec 0 1 (p + 1) b with | .error e => _ | .ok (p3, l, s) => _) = _
  rw [cParts_0, cMany_1]
  rfl
theorem cPlain_1 (t : tk p = 1) : cPlain n tk par rec p b = match cBare n tk 14 (p + 1) with
    | .error e => .error e
    | .ok q => match rec false q b with
      | .error e => .error e
      | .ok (p3, l, s) => .ok (p3, l ++ [3, tk (p + 1)], s) := by
  unfold cPlain
  rw [cNums_t (by rw [t]; decide), t]
  have e : cArg n tk par 1 (p + 1) = cBare n tk 14 (p + 1) := if_pos (Or.inl rfl)
  rw [e]
  match cBare n tk 14 (p + 1) with
  | .error e => rfl
  | .ok q =>
    simp only
    show (match cParts rec 0 1 q b with | .error e => _ | .ok (p3, l, s) => _) = _
    rw [cParts_0, cMany_1]
    rfl
theorem cPlain_2 (t : tk p = 2) : cPlain n tk par rec p b = match cBare n tk 6 (p + 1) with
    | .error e => .error e
    | .ok q => match rec true q b with
      | .error e => .error e
      | .ok (p3, l, s) => .ok (p3, l ++ [20, tk (p + 1)], s) := by
  unfold cPlain
  rw [cNums_t (by rw [t]; decide), t]
  have e : cArg n tk par 2 (p + 1) = cBare n tk 6 (p + 1) := by
    unfold cArg
    rw [if_neg (by decide), if_pos (Or.inl rfl)]
  rw [e]
  match cBare n tk 6 (p + 1) with
  | .error e => rfl
  | .ok q =>
    simp only
    show (match cParts rec 1 0 q b with | .error e => _ | .ok (p3, l, s) => _) = _
    rw [cParts_m0, cMany_1]
    rfl
theorem cPlain_call (t : tk p = 8 ∨ tk p = 36) : cPlain n tk par rec p b = match cKnown n tk par (p + 1) with
    | .error e => .error e
    | .ok q => match cMany (rec false) (cPar par (tk (p + 1))).toNatClampNeg q b with
      | .error e => .error e
      | .ok (p3, l, s) => .ok (p3, l ++ [16, tk (p + 1)], s) := by
  unfold cPlain
  have hn : cNums tk par p = cPar par (tk (p + 1)) := if_pos t
  have e : cArg n tk par (tk p) (p + 1) = cKnown n tk par (p + 1) := by
    unfold cArg
    rw [if_neg (by rcases t with t | t <;> rw [t] <;> decide), if_neg (by rcases t with t | t <;> rw [t] <;> decide), if_pos t]
  have hm : (tkMaps (tk p)).toNatClampNeg = 0 := by rcases t with t | t <;> rw [t] <;> rfl
  have hw : tkWord (tk p) = 16 := by rcases t with t | t <;> rw [t] <;> rfl
  have ha : (if 0 < tkArg (tk p) then [tk (p + 1)] else []) = [tk (p + 1)] := by rcases t with t | t <;> rw [t] <;> rfl
  rw [hn, e, hm, hw, ha]
  match cKnown n tk par (p + 1) with
  | .error e => rfl
  | .ok q =>
    simp only
    rw [cParts_0]
    all_goals rfl
theorem cBare_er {lim : Int32} {v : Int32} {q : Nat} (h : cBare n tk lim p = .error (v, q)) : v ≠ 0 := by
  unfold cBare at h
  split at h
  · split at h
    · cases h
    · simp only [Except.error.injEq, Prod.mk.injEq] at h; rw [← h.1]; decide
  · simp only [Except.error.injEq, Prod.mk.injEq] at h; rw [← h.1]; decide
theorem cKnown_er {v : Int32} {q : Nat} (h : cKnown n tk par p = .error (v, q)) : v ≠ 0 := by
  unfold cKnown at h
  split at h
  · cases h
  · split at h
    · split at h
      · simp only [Except.error.injEq, Prod.mk.injEq] at h; rw [← h.1]; decide
      · simp only [Except.error.injEq, Prod.mk.injEq] at h; rw [← h.1]; decide
    · simp only [Except.error.injEq, Prod.mk.injEq] at h; rw [← h.1]; decide
end CP
