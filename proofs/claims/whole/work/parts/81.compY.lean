/-! THE REFERENCE READS WHAT THE FUNCTION SAYS: compile -/
def cRest (k : Nat) (n : Nat) (tk : Nat → Int32) (mk : Bool) (par : Nat → Int32) (p b f : Nat) (a : cRes) : cRf :=
  match a with
  | .error e => .error e
  | .ok (p1, l1, s1) => cPreF l1 s1 [(f, b, p)] (cFuns n tk mk k par p1 (b + l1.length))
theorem cFuns_s {n : Nat} {tk : Nat → Int32} {mk : Bool} {k : Nat} {par : Nat → Int32} {p b : Nat} (t : tk p = 10) : cFuns n tk mk (k + 1) par p b = cRest k n tk mk (upd par (tk (p + 1)).toNatClampNeg (tk (p + 2))) p b (tk (p + 1)).toNatClampNeg (cFun1 n tk mk par p b) := by
  rw [cFuns, if_pos t]
  unfold cFun1
  by_cases hf : cHasF par (tk (p + 1))
  · rw [if_pos hf, if_pos hf]; rfl
  rw [if_neg hf, if_neg hf]
  match cBare n tk 8 (p + 1) with
  | .error e => rfl
  | .ok _ =>
    simp only
    match cBare n tk 4 (p + 2) with
    | .error e => rfl
    | .ok _ =>
      simp only
      match cBlk n tk (upd par (tk (p + 1)).toNatClampNeg (tk (p + 2))) mk false 16 (p + 3) b with
      | .error e => rfl
      | .ok (p1, l1, s1) =>
        simp only [cEnd]
        by_cases h0 : tk p1 = 0
        · rw [if_pos h0, if_pos h0]
          simp only [cApp, cRest]
          have e : b + (l1 ++ [1, 0, 17]).length = b + l1.length + 3 := by simp; omega
          rw [e]
          match cFuns n tk mk k (upd par (tk (p + 1)).toNatClampNeg (tk (p + 2))) (p1 + 1) (b + l1.length + 3) with
          | .error e => rfl
          | .ok (p2, l2, s2, par2, fs) => simp [cPreF]
        · rw [if_neg h0, if_neg h0]; rfl
theorem cPreF_pre (l1 l2 : List Int32) (s1 s2 : List (Bool × Nat × Nat)) (f1 f2 : cFs) (a : cRf) : cPreF l1 s1 f1 (cPreF l2 s2 f2 a) = cPreF (l1 ++ l2) (s1 ++ s2) (f1 ++ f2) a := by
  match a with
  | .error e => rfl
  | .ok (p, l, s, par, f) => simp [cPreF, List.append_assoc]
def cnt8 (par : Nat → Int32) : Nat := (if par 0 = -1 then 0 else 1) + (if par 1 = -1 then 0 else 1) + (if par 2 = -1 then 0 else 1) + (if par 3 = -1 then 0 else 1) + (if par 4 = -1 then 0 else 1) + (if par 5 = -1 then 0 else 1) + (if par 6 = -1 then 0 else 1) + (if par 7 = -1 then 0 else 1)
theorem cnt8_le (par : Nat → Int32) : cnt8 par ≤ 8 := by
  unfold cnt8
  have t : ∀ k, (if par k = -1 then 0 else 1) ≤ 1 := fun k => by split <;> omega
  have := t 0
  have := t 1
  have := t 2
  have := t 3
  have := t 4
  have := t 5
  have := t 6
  have := t 7
  omega
theorem cnt8_upd {par : Nat → Int32} {f : Nat} {x : Int32} (hf : f < 8) (h : par f = -1) (hx : x ≠ -1) : cnt8 (upd par f x) = cnt8 par + 1 := by
  have us : ∀ k, upd par f x k = if k = f then x else par k := fun k => by
    by_cases e : k = f
    · subst e; rw [pk_us, if_pos rfl]
    · rw [pk_un e, if_neg e]
  have hf2 : f = 0 ∨ f = 1 ∨ f = 2 ∨ f = 3 ∨ f = 4 ∨ f = 5 ∨ f = 6 ∨ f = 7 := by omega
  unfold cnt8
  rw [us, us, us, us, us, us, us, us]
  rcases hf2 with rfl | rfl | rfl | rfl | rfl | rfl | rfl | rfl <;> simp [h, hx] <;> omega
def yKc (S S' : mv_S) : Prop := (∀ o f, (o = 0 → f ≠ 2 ∧ f ≠ 3 ∧ f ≠ 4 ∧ f ≠ 5 ∧ f ≠ 7 ∧ f ≠ 9 ∧ f ≠ 10 ∧ f ≠ 11 ∧ f ≠ 12 ∧ f ≠ 20 ∧ f ≠ 23 ∧ f ≠ 53 ∧ f ≠ 54) → S'.1 o f = S.1 o f) ∧ (∀ o i, ¬ (2 ≤ o ∧ o ≤ 12) → S'.2.1 o i = S.2.1 o i) ∧ S'.2.2 = S.2.2 ∧ S'.1 0 53 = 6 ∧ S'.1 0 54 = 0 ∧ (S'.1 0 12 = 0 ∨ S'.1 0 12 = 1)
/-- the reference's store holds the code: words l, marked words m, parameters par, functions fs and (marked) fm, the main part's first words -/
def yCode (S : mv_S) (l m : List Int32) (par : Nat → Int32) (fs fm : cFs) (mw mm : Nat) : Prop :=
  S.1 0 5 = 1 ∧ S.1 0 4 = -1 ∧ S.1 0 7 = nI l.length ∧ l.length ≤ 1500 ∧ m.length ≤ 6300 ∧ (∀ i x, l[i]? = some x → S.2.1 2 i = x) ∧ (∀ i x, m[i]? = some x → S.2.1 3 i = x) ∧ (∀ f, f < 8 → par f ≠ -1 → S.2.1 5 f = par f ∧ 0 ≤ par f ∧ par f ≤ 3) ∧ (∀ f w t, (f, w, t) ∈ fs → f < 8 ∧ par f ≠ -1 ∧ S.2.1 6 f = nI w) ∧ (∀ f w t, (f, w, t) ∈ fm → f < 8 ∧ par f ≠ -1 ∧ S.2.1 7 f = nI w) ∧ S.1 0 10 = nI mw ∧ S.1 0 11 = nI mm
def yGf (S1 S' : mv_S) (n : Nat) (tk par : Nat → Int32) (p1 : Nat) (l l' : List Int32) (f1 f1' : cFs) (h1 : List (Option (Nat × Nat))) : Prop :=
  yKf S1 S' ∧ yAt S' S' 0 (-1) p1 l l' [] h1 ∧ (∃ mn, yTk S' n tk par mn) ∧ yBd n p1 l l' h1 ∧ (∀ f w t, (f, w, t) ∈ f1 → f < 8 ∧ par f ≠ -1 ∧ S'.2.1 6 f = nI w) ∧ (∀ f w t, (f, w, t) ∈ f1' → f < 8 ∧ par f ≠ -1 ∧ S'.2.1 7 f = nI w)
theorem cFun1_ok {n : Nat} {tk par : Nat → Int32} {mk : Bool} (ht : ∀ p, n ≤ p → tk p = -1) {p b p1 : Nat} {l s} (e : cFun1 n tk mk par p b = .ok (p1, l, s)) : p + 3 ≤ p1 ∧ p1 ≤ n ∧ l.length + (8 + mk.toNat) * p + 3 * mk.toNat ≤ (8 + mk.toNat) * p1 ∧ ¬ cHasF par (tk (p + 1)) ∧ 0 ≤ tk (p + 1) ∧ tk (p + 1) < 8 ∧ tk (p + 2) ≠ -1 := by
  unfold cFun1 at e
  by_cases hf : cHasF par (tk (p + 1))
  · rw [if_pos hf] at e; cases e
  rw [if_neg hf] at e
  match h1 : cBare n tk 8 (p + 1), e with
  | .error e1, e => cases e
  | .ok _, e =>
    simp only at e
    match h2 : cBare n tk 4 (p + 2), e with
    | .error e1, e => cases e
    | .ok _, e =>
      simp only at e
      obtain ⟨l0, e0, rfl⟩ := cApp_ok e
      obtain ⟨p2, e1, e2, rfl⟩ := cEnd_ok e0
      have b1 := cBare_ok h1
      have b2 := cBare_ok h2
      have hl := cBlk_ln ht b2.2.1 700 _ _ _ e1
      have hp2 : p2 < n := tk_in ht (by rw [e2]; decide)
      have m1 : (8 + mk.toNat) * (p + 3) = (8 + mk.toNat) * p + (8 + mk.toNat) * 3 := Nat.mul_add _ p 3
      have m2 : (8 + mk.toNat) * (p2 + 1) = (8 + mk.toNat) * p2 + (8 + mk.toNat) := Nat.mul_succ _ p2
      refine ⟨by omega, by omega, ?_, hf, b1.2.2.1, b1.2.2.2, fun z => ?_⟩
      · rw [List.length_append]
        have : [(1 : Int32), 0, 17].length = 3 := rfl
        have hl2 : l0.length + (8 + mk.toNat) * (p + 3) ≤ (8 + mk.toNat) * p2 := hl.2.2
        omega
      · have := b2.2.2.1
        rw [z] at this
        exact absurd this (by decide)
theorem cSh_fun1 {n : Nat} {tk par : Nat → Int32} {p b b' : Nat} : cSh (cFun1 n tk false par p b) = cSh (cFun1 n tk true par p b') := by
  unfold cFun1
  split
  · rfl
  · match cBare n tk 8 (p + 1) with
    | .error e => rfl
    | .ok _ =>
      simp only
      match cBare n tk 4 (p + 2) with
      | .error e => rfl
      | .ok _ =>
        simp only
        rcases cSh_2 (cSh_end (tk := tk) (cSh_blk (n := n) (tk := tk) (par := upd par (tk (p + 1)).toNatClampNeg (tk (p + 2))) (mn := false) (mk := false) (mk' := true) 16 700 (p + 3) b b')) with ⟨e, h1, h2⟩ | ⟨p2, l2, s2, l2', s2', h1, h2⟩
        · rw [cBlk, cBlk, h1, h2]
        · rw [cBlk, cBlk, h1, h2]; rfl
