/-! THE COMPILER AS A FUNCTION: it goes on, and lays at most W words for a token -/
/-- what stands before p is passed, no token beyond n, at most W words for each -/
def cLn (n W p : Nat) (a : cRes) : Prop := ∀ p1 l s, a = .ok (p1, l, s) → p ≤ p1 ∧ p1 ≤ n ∧ l.length + W * p ≤ W * p1
def cLs (n W p : Nat) (a : cRes) : Prop := ∀ p1 l s, a = .ok (p1, l, s) → p < p1 ∧ p1 ≤ n ∧ l.length + W * p ≤ W * p1
theorem cThen_ok {a : cRes} {f : Nat → Nat → cRes} {p l s} (h : cThen a f = .ok (p, l, s)) : ∃ p1 l1 s1 l2 s2, a = .ok (p1, l1, s1) ∧ f p1 l1.length = .ok (p, l2, s2) ∧ l = l1 ++ l2 ∧ s = s1 ++ s2 := by
  unfold cThen at h
  match a, h with
  | .ok (p1, l1, s1), h =>
    simp only at h
    match hf : f p1 l1.length, h with
    | .ok (p2, l2, s2), h =>
      simp only [Except.ok.injEq, Prod.mk.injEq] at h
      obtain ⟨rfl, rfl, rfl⟩ := h
      exact ⟨p1, l1, s1, l2, s2, rfl, hf, rfl, rfl⟩
    | .error e, h => cases h
theorem cLn_then {n W p : Nat} {a : cRes} {f : Nat → Nat → cRes} (ha : cLn n W p a) (hf : ∀ p1 w, p ≤ p1 → p1 ≤ n → cLn n W p1 (f p1 w)) : cLn n W p (cThen a f) := by
  intro p2 l s h
  obtain ⟨p1, l1, s1, l2, s2, h1, h2, rfl, rfl⟩ := cThen_ok h
  have a1 := ha _ _ _ h1
  have a2 := hf p1 l1.length a1.1 a1.2.1 _ _ _ h2
  rw [List.length_append]
  omega
theorem cLs_ln {n W p : Nat} {a : cRes} (h : cLs n W p a) : cLn n W p a := fun p1 l s e => ⟨Nat.le_of_lt (h p1 l s e).1, (h p1 l s e).2⟩
theorem cLn_many {n W : Nat} {rec : Nat → Nat → cRes} (hr : ∀ p b, p ≤ n → cLn n W p (rec p b)) : ∀ k p b, p ≤ n → cLn n W p (cMany rec k p b) := by
  intro k
  induction k with
  | zero =>
    intro p b hp p1 l s h
    simp only [cMany, Except.ok.injEq, Prod.mk.injEq] at h
    obtain ⟨rfl, rfl, rfl⟩ := h
    simp [hp]
  | succ k ih =>
    intro p b hp
    exact cLn_then (hr p b hp) (fun p1 w _ h2 => ih p1 (b + w) h2)
theorem cLn_loop {n W : Nat} {tk : Nat → Int32} {st : Nat → Nat → cRes} (hr : ∀ p b, p ≤ n → cLn n W p (st p b)) : ∀ k p b, p ≤ n → cLn n W p (cLoop tk st k p b) := by
  intro k
  induction k with
  | zero =>
    intro p b hp p1 l s h
    simp only [cLoop, Except.ok.injEq, Prod.mk.injEq] at h
    obtain ⟨rfl, rfl, rfl⟩ := h
    simp [hp]
  | succ k ih =>
    intro p b hp p1 l s h
    unfold cLoop at h
    split at h
    · exact cLn_then (hr p b hp) (fun p1 w _ h2 => ih p1 (b + w) h2) _ _ _ h
    · simp only [Except.ok.injEq, Prod.mk.injEq] at h
      obtain ⟨rfl, rfl, rfl⟩ := h
      simp [hp]
theorem cBare_ok {n : Nat} {tk : Nat → Int32} {lim : Int32} {p q : Nat} (h : cBare n tk lim p = .ok q) : q = p + 1 ∧ p < n ∧ 0 ≤ tk p ∧ tk p < lim := by
  unfold cBare at h
  split at h
  · split at h
    · cases h; exact ⟨rfl, ‹_›, ‹_›⟩
    · cases h
  · cases h
theorem cKnown_ok {n : Nat} {tk par : Nat → Int32} (ht : ∀ p, n ≤ p → tk p = -1) {p q : Nat} (h : cKnown n tk par p = .ok q) : q = p + 1 ∧ p < n ∧ cHasF par (tk p) := by
  unfold cKnown at h
  split at h
  · rename_i hf
    cases h
    refine ⟨rfl, ?_, hf⟩
    by_cases hp : p < n
    · exact hp
    · have := hf.1
      rw [ht p (by omega)] at this
      exact absurd this (by decide)
  · split at h
    · split at h <;> cases h
    · cases h
theorem cArg_ok {n : Nat} {tk par : Nat → Int32} (ht : ∀ p, n ≤ p → tk p = -1) {t : Int32} {p q : Nat} (h : cArg n tk par t p = .ok q) : (tkArg t = 0 ∨ t = 6) ∧ q = p ∨ tkArg t = 1 ∧ q = p + 1 ∧ p < n ∧ (t = 1 ∨ t = 21 → 0 ≤ tk p ∧ tk p < 14) ∧ (t = 2 ∨ t = 40 → 0 ≤ tk p ∧ tk p < 6) ∧ (t = 8 ∨ t = 36 → cHasF par (tk p)) := by
  unfold cArg at h
  split at h
  · rename_i c
    have := cBare_ok h
    refine Or.inr ⟨by rcases c with rfl | rfl <;> rfl, this.1, this.2.1, fun _ => this.2.2, fun e => ?_, fun e => ?_⟩ <;> rcases c with rfl | rfl <;> rcases e with e | e <;> exact absurd e (by decide)
  · split at h
    · rename_i c
      have := cBare_ok h
      refine Or.inr ⟨by rcases c with rfl | rfl <;> rfl, this.1, this.2.1, fun e => ?_, fun _ => this.2.2, fun e => ?_⟩ <;> rcases c with rfl | rfl <;> rcases e with e | e <;> exact absurd e (by decide)
    · split at h
      · rename_i c
        have := cKnown_ok ht h
        refine Or.inr ⟨by rcases c with rfl | rfl <;> rfl, this.1, this.2.1, fun e => ?_, fun e => ?_, fun _ => this.2.2⟩ <;> rcases c with rfl | rfl <;> rcases e with e | e <;> exact absurd e (by decide)
      · split at h
        · rename_i c
          subst c
          split at h
          · cases h
            refine Or.inr ⟨rfl, rfl, ‹_›, fun e => ?_, fun e => ?_, fun e => ?_⟩ <;> rcases e with e | e <;> exact absurd e (by decide)
          · cases h
        · rename_i c1 c2 c3 c4
          cases h
          refine Or.inl ⟨?_, rfl⟩
          unfold tkArg
          simp only [not_or] at c1 c2 c3
          simp only [c1, c2, c3, c4, or_self, if_false]
          by_cases h6 : t = 6 <;> simp [h6]
theorem cParts_ln {n W : Nat} {rec : Bool → Nat → Nat → cRes} (hr : ∀ m p b, p ≤ n → cLn n W p (rec m p b)) {m k p b : Nat} (hp : p ≤ n) : cLn n W p (cParts rec m k p b) :=
  cLn_then (cLn_many (hr true) m p b hp) (fun p1 w _ h2 => cLn_many (hr false) k p1 (b + w) h2)
theorem cPlain_ok {n : Nat} {tk par : Nat → Int32} {rec : Bool → Nat → Nat → cRes} {p b p1 : Nat} {l s} (h : cPlain n tk par rec p b = .ok (p1, l, s)) : ∃ p0 l0, cArg n tk par (tk p) (p + 1) = .ok p0 ∧ cParts rec (tkMaps (tk p)).toNatClampNeg (cNums tk par p).toNatClampNeg p0 b = .ok (p1, l0, s) ∧ l = l0 ++ tkWord (tk p) :: (if 0 < tkArg (tk p) then [tk (p + 1)] else []) := by
  unfold cPlain at h
  match ha : cArg n tk par (tk p) (p + 1), h with
  | .ok p0, h =>
    simp only at h
    match hc : cParts rec (tkMaps (tk p)).toNatClampNeg (cNums tk par p).toNatClampNeg p0 b, h with
    | .ok (p3, l0, s0), h =>
      simp only [Except.ok.injEq, Prod.mk.injEq] at h
      obtain ⟨rfl, rfl, rfl⟩ := h
      exact ⟨p0, l0, rfl, hc, rfl⟩
    | .error e, h => cases h
  | .error e, h => cases h
theorem cEither_ok {rec : Bool → Nat → Nat → cRes} {t : Int32} {p b p2 : Nat} {l s} (h : cEither rec t p b = .ok (p2, l, s)) : ∃ p1 l1 s1 l2 s2, rec false (p + 1) b = .ok (p1, l1, s1) ∧ rec false p1 (b + l1.length + 2) = .ok (p2, l2, s2) ∧ l = l1 ++ (if t = 30 then 13 else 14) :: nI (b + l1.length + 2 + l2.length + 4) :: (l2 ++ [11, 11, 12, nI (b + l1.length + 2 + l2.length + 6), 1, if t = 30 then 0 else 1]) ∧ s = s1 ++ s2 := by
  unfold cEither at h
  match ha : rec false (p + 1) b, h with
  | .ok (p1, l1, s1), h =>
    simp only at h
    match hc : rec false p1 (b + l1.length + 2), h with
    | .ok (p3, l2, s2), h =>
      simp only [Except.ok.injEq, Prod.mk.injEq] at h
      obtain ⟨rfl, rfl, rfl⟩ := h
      exact ⟨p1, l1, s1, l2, s2, rfl, hc, rfl, rfl⟩
    | .error e, h => cases h
  | .error e, h => cases h
theorem cMark_ok {mk : Bool} {note : Nat → List (Bool × Nat × Nat)} {a : cRes} {p1 l s} (h : cMark mk note a = .ok (p1, l, s)) : ∃ l0 s0, a = .ok (p1, l0, s0) ∧ l = (if mk then 30 :: l0 else l0) ∧ s = s0 ++ note p1 := by
  unfold cMark at h
  match a, h with
  | .ok (p, l0, s0), h =>
    simp only [Except.ok.injEq, Prod.mk.injEq] at h
    obtain ⟨rfl, rfl, rfl⟩ := h
    exact ⟨l0, s0, rfl, rfl, rfl⟩
theorem cPlain_ls {n W : Nat} {tk par : Nat → Int32} {rec : Bool → Nat → Nat → cRes} (ht : ∀ p, n ≤ p → tk p = -1) (hW : 4 ≤ W) (hr : ∀ m p b, p ≤ n → cLn n W p (rec m p b)) {p b : Nat} (hp : p < n) {p1 l s} (h : cPlain n tk par rec p b = .ok (p1, l, s)) : p < p1 ∧ p1 ≤ n ∧ l.length + W * p + (W - 2) ≤ W * p1 := by
  obtain ⟨p0, l0, h1, h2, rfl⟩ := cPlain_ok h
  have h3 := cArg_ok ht h1
  have hl : (l0 ++ tkWord (tk p) :: (if 0 < tkArg (tk p) then [tk (p + 1)] else [])).length ≤ l0.length + 2 := by
    rw [List.length_append, List.length_cons]
    split <;> simp
  have hm : W * (p + 1) = W * p + W := Nat.mul_succ W p
  have hm2 : W * (p + 2) = W * p + W + W := by rw [Nat.mul_succ W (p + 1), hm]
  rcases h3 with ⟨_, rfl⟩ | ⟨_, rfl, h4, _⟩
  · have := cParts_ln hr (by omega) _ _ _ h2
    omega
  · have := cParts_ln hr (by omega) _ _ _ h2
    have hm3 : W * (p + 1 + 1) = W * p + W + W := hm2
    omega
theorem cEither_ls {n W : Nat} {rec : Bool → Nat → Nat → cRes} (hW : 8 ≤ W) (hr : ∀ m p b, p ≤ n → cLn n W p (rec m p b)) {t : Int32} {p b : Nat} (hp : p < n) {p1 l s} (h : cEither rec t p b = .ok (p1, l, s)) : p < p1 ∧ p1 ≤ n ∧ l.length + W * p + (W - 8) ≤ W * p1 := by
  obtain ⟨p2, l1, s1, l2, s2, h1, h2, rfl, rfl⟩ := cEither_ok h
  have a1 := hr false (p + 1) b hp _ _ _ h1
  have a2 := hr false p2 _ a1.2.1 _ _ _ h2
  have hm : W * (p + 1) = W * p + W := Nat.mul_succ W p
  simp only [List.length_append, List.length_cons, List.length_nil]
  omega
theorem tk_in {n : Nat} {tk : Nat → Int32} (ht : ∀ p, n ≤ p → tk p = -1) {p : Nat} (h : ¬ tk p = -1) : p < n := by
  by_cases hp : p < n
  · exact hp
  · exact absurd (ht p (by omega)) h
theorem cKind_in {n : Nat} {tk : Nat → Int32} (ht : ∀ p, n ≤ p → tk p = -1) {m : Bool} {p : Nat} (h : cKind m (tk p)) : p < n := by
  refine tk_in ht (fun e => ?_)
  rw [e] at h
  cases m <;> revert h <;> decide
theorem cEM_ls {n : Nat} {tk par : Nat → Int32} {mk : Bool} (ht : ∀ p, n ≤ p → tk p = -1) : ∀ r m p b, cLs n (8 + mk.toNat) p (cEM n tk par mk r m p b) := by
  intro r
  induction r with
  | zero =>
    intro m p b p1 l s h
    unfold cEM at h
    split at h <;> cases h
  | succ r ih =>
    intro m p b p1 l s h
    unfold cEM at h
    have hr : ∀ m p b, p ≤ n → cLn n (8 + mk.toNat) p (cEM n tk par mk r m p b) := fun m p b _ => cLs_ln (ih m p b)
    split at h
    · rename_i hk
      have hp := cKind_in ht hk
      obtain ⟨l0, s0, h1, rfl, rfl⟩ := cMark_ok h
      have hl : (if mk then 30 :: l0 else l0).length = l0.length + mk.toNat := by cases mk <;> rfl
      rw [hl]
      split at h1
      · have := cEither_ls (by omega) hr hp h1
        omega
      · have := cPlain_ls ht (by omega) hr hp h1
        have hb : mk.toNat ≤ 1 := by cases mk <;> decide
        omega
    · cases h
