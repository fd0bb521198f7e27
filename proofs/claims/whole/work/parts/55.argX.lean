/-! THE CLASS'S COMPILER DOES WHAT THE FUNCTION SAYS: tokens, arguments, counts -/
/-- method j does what the function R says, at places with Q -/
def xDoes (D j : Nat) (args : List Value) (n : Nat) (tk par : Nat → Int32) (mn : Bool) (Q : Nat → Prop) (R : Nat → Nat → cRes) : Prop :=
  ∀ (S : mv_S) (P : Option Value → mv_S → Prop) (p b : Nat), Q p → xAt S n tk par mn p b →
    (∀ w q S', R p b = .error (w, q) → xKp S S' → S'.1 2 1 = nI q → S'.1 2 2 = w → P (some (.int 0)) S') →
    (∀ p' l s S', R p b = .ok (p', l, s) → xGo S S' p b p' l s → P (some (.int 1)) S') → mv_big layX sysX D j args S P
def cPre (l1 : List Int32) (s1 : List (Bool × Nat × Nat)) (a : cRes) : cRes :=
  match a with
  | .error e => .error e
  | .ok (p2, l2, s2) => .ok (p2, l1 ++ l2, s1 ++ s2)
theorem cPre_nil (a : cRes) : cPre [] [] a = a := by
  match a with
  | .error e => rfl
  | .ok (p, l, s) => rfl
theorem cThen_err {a : cRes} {f : Nat → Nat → cRes} {e} (h : a = .error e) : cThen a f = .error e := by subst h; rfl
theorem cThen_pre {a : cRes} {f : Nat → Nat → cRes} {p l s} (h : a = .ok (p, l, s)) : cThen a f = cPre l s (f p l.length) := by
  subst h
  unfold cThen cPre
  rfl
theorem cPre_pre (l1 l2 : List Int32) (s1 s2 : List (Bool × Nat × Nat)) (a : cRes) : cPre l1 s1 (cPre l2 s2 a) = cPre (l1 ++ l2) (s1 ++ s2) a := by
  match a with
  | .error e => rfl
  | .ok (p, l, s) => simp [cPre, List.append_assoc]
theorem cPre_err {l1 : List Int32} {s1 : List (Bool × Nat × Nat)} {a : cRes} {e} (h : a = .error e) : cPre l1 s1 a = .error e := by subst h; rfl
theorem cThen_cPre (l1 : List Int32) (s1 : List (Bool × Nat × Nat)) (a : cRes) (f : Nat → Nat → cRes) : cThen (cPre l1 s1 a) f = cPre l1 s1 (cThen a (fun p w => f p (l1.length + w))) := by
  match a with
  | .error e => rfl
  | .ok (p, l, s) =>
    unfold cPre cThen
    simp only [List.length_append]
    match f p (l1.length + l.length) with
    | .error e => rfl
    | .ok (p2, l2, s2) => simp [List.append_assoc]
theorem clampI {x : Int32} {i : Nat} (hi : i < 2 ^ 31) : x ≤ nI i ↔ x.toNatClampNeg ≤ i := by
  rw [Int32.le_iff_toInt_le, nI_toInt hi]
  show _ ↔ x.toInt.toNat ≤ i
  omega
section LX
variable {d : Nat} {S : mv_S} {P : Option Value → mv_S → Prop} {n : Nat} {tk par : Nat → Int32} {mn : Bool} {p b : Nat}
theorem x_tokA (hA : xAt S n tk par mn p b) {i : Int32} {q : Nat} (hi : i = nI q) (hq : q < 2 ^ 31) (h : P (some (.int (tk q))) S) : mv_big layX sysX (d + 1) 57 [.ref 1, .int i] S P := by
  subst hi
  exact x_token (by rw [xAt_tok hA hq]; exact h)
theorem xAt_p (hA : xAt S n tk par mn p b) : S.1 2 1 = nI p := hA.2.2.2.2.2.2.1
theorem xAt_b (hA : xAt S n tk par mn p b) : S.1 1 10 = nI b := hA.2.2.2.2.2.2.2.2.1
theorem xAt_pn (hA : xAt S n tk par mn p b) : p ≤ n ∧ n ≤ 700 ∧ b ≤ 8 * p := ⟨hA.2.2.2.2.2.2.2.1, hA.2.1, hA.2.2.2.2.2.2.2.2.2⟩
theorem xAt_tk (hA : xAt S n tk par mn p b) : ∀ i, n ≤ i → tk i = -1 := hA.2.2.2.1
theorem x_tokN (hA : xAt S n tk par mn p b) (h : P (some (.int (tk p))) S) : mv_big layX sysX (d + 1) 57 [.ref 1, .int (S.1 2 1)] S P := x_tokA hA (xAt_p hA) (by have := xAt_pn hA; omega) h
theorem x_bareA {lim : Int32} (hA : xAt S n tk par mn p b) (he : ∀ w q S', cBare n tk lim p = .error (w, q) → xKp S S' → S'.1 2 1 = nI q → S'.1 2 2 = w → P (some (.int 0)) S') (ho : cBare n tk lim p = .ok (p + 1) → P (some (.int 1)) (xNx S)) : mv_big layX sysX (d + 2) 31 [.ref 2, .int lim] S P := by
  have ht : xTok S (S.1 2 1) = tk p := by rw [xAt_p hA]; exact xAt_tok hA (by have := xAt_pn hA; omega)
  have hh := xAt_has hA
  have e1 : ∀ w, (xFl S w).1 2 1 = nI p := fun w => by
    show (mv_pf S 2 2 w).1 2 1 = _
    rw [pf_get, if_neg (by decide)]; exact xAt_p hA
  have e2 : ∀ w, (xFl S w).1 2 2 = w := fun w => by
    show (mv_pf S 2 2 w).1 2 2 = _
    rw [pf_get, if_pos ⟨rfl, rfl⟩]
  refine x_bare (fun c => ?_) (fun c c2 => ?_) (fun c c2 => ?_)
  · refine he (-11) p _ ?_ (xKp_fault S _) (e1 _) (e2 _)
    unfold cBare
    rw [if_neg (fun z => c (hh.mpr z))]
  · rw [ht] at c2
    refine he (-12) p _ ?_ (xKp_fault S _) (e1 _) (e2 _)
    unfold cBare
    rw [if_pos (hh.mp c), if_neg c2]
  · rw [ht] at c2
    refine ho ?_
    unfold cBare
    rw [if_pos (hh.mp c), if_pos c2]
theorem x_knownA (hA : xAt S n tk par mn p b) (he : ∀ w q S', cKnown n tk par p = .error (w, q) → xKp S S' → S'.1 2 1 = nI q → S'.1 2 2 = w → P (some (.int 0)) S') (ho : cKnown n tk par p = .ok (p + 1) → P (some (.int 1)) (xNx S)) : mv_big layX sysX (d + 3) 34 [.ref 2] S P := by
  have ht : xTok S (S.1 2 1) = tk p := by rw [xAt_p hA]; exact xAt_tok hA (by have := xAt_pn hA; omega)
  have hh := xAt_has hA
  have e1 : ∀ w, (xFl S w).1 2 1 = nI p := fun w => by
    show (mv_pf S 2 2 w).1 2 1 = _
    rw [pf_get, if_neg (by decide)]; exact xAt_p hA
  have e2 : ∀ w, (xFl S w).1 2 2 = w := fun w => by
    show (mv_pf S 2 2 w).1 2 2 = _
    rw [pf_get, if_pos ⟨rfl, rfl⟩]
  refine x_knownFunction (fun c => ?_) (fun c c1 => ?_) (fun c c1 c2 => ?_) (fun c c1 c2 => ?_)
  · rw [ht] at c
    refine ho ?_
    unfold cKnown
    rw [if_pos ((xAt_hasF hA).mp c)]
  all_goals rw [ht] at c
  · refine he (-11) p _ ?_ (xKp_fault S _) (e1 _) (e2 _)
    unfold cKnown
    rw [if_neg (fun z => c ((xAt_hasF hA).mpr z)), if_neg (fun z => c1 (hh.mpr z))]
  · rw [ht] at c2
    refine he (-12) p _ ?_ (xKp_fault S _) (e1 _) (e2 _)
    unfold cKnown
    rw [if_neg (fun z => c ((xAt_hasF hA).mpr z)), if_pos (hh.mp c1), if_neg c2]
  · rw [ht] at c2
    refine he (-14) p _ ?_ (xKp_fault S _) (e1 _) (e2 _)
    unfold cKnown
    rw [if_neg (fun z => c ((xAt_hasF hA).mpr z)), if_pos (hh.mp c1), if_pos c2]
theorem x_anyA (hA : xAt S n tk par mn p b) (he : ∀ w q S', ¬ p < n → w = -11 → q = p → xKp S S' → S'.1 2 1 = nI q → S'.1 2 2 = w → P (some (.int 0)) S') (ho : p < n → P (some (.int 1)) (xNx S)) : mv_big layX sysX (d + 2) 32 [.ref 2] S P := by
  have hh := xAt_has hA
  refine x_anyNumber (fun c => ?_) (fun c => ho (hh.mp c))
  refine he (-11) p _ (fun z => c (hh.mpr z)) rfl rfl (xKp_fault S _) ?_ ?_
  · show (mv_pf S 2 2 _).1 2 1 = _
    rw [pf_get, if_neg (by decide)]; exact xAt_p hA
  · show (mv_pf S 2 2 _).1 2 2 = _
    rw [pf_get, if_pos ⟨rfl, rfl⟩]
theorem cArg_a {p : Nat} : cArg n tk par 1 p = cBare n tk 14 p ∧ cArg n tk par 21 p = cBare n tk 14 p ∧ cArg n tk par 2 p = cBare n tk 6 p ∧ cArg n tk par 40 p = cBare n tk 6 p ∧ cArg n tk par 8 p = cKnown n tk par p ∧ cArg n tk par 36 p = cKnown n tk par p ∧ cArg n tk par 20 p = (if p < n then .ok (p + 1) else .error (-11, p)) := by
  refine ⟨if_pos (Or.inl rfl), if_pos (Or.inr rfl), ?_, ?_, ?_, ?_, ?_⟩ <;> unfold cArg
  · rw [if_neg (by decide), if_pos (Or.inl rfl)]
  · rw [if_neg (by decide), if_pos (Or.inr rfl)]
  · rw [if_neg (by decide), if_neg (by decide), if_pos (Or.inl rfl)]
  · rw [if_neg (by decide), if_neg (by decide), if_pos (Or.inr rfl)]
  · rw [if_neg (by decide), if_neg (by decide), if_neg (by decide), if_pos rfl]
theorem x_argument {t : Int32} (hA : xAt S n tk par mn p b) (he : ∀ w q S', cArg n tk par t p = .error (w, q) → xKp S S' → S'.1 2 1 = nI q → S'.1 2 2 = w → P (some (.int 0)) S') (ho : ∀ q S', cArg n tk par t p = .ok q → xGo S S' p b q [] [] → P (some (.int 1)) S') : mv_big layX sysX (d + 4) 46 [.ref 2, .int t] S P := by
  obtain ⟨a1, a2, a3, a4, a5, a6, a7⟩ := @cArg_a n tk par p
  have hx := xGo_next (xAt_p hA) (xAt_b hA)
  refine ⟨40, ?_⟩
  refine ⟨fun e => ?_, fun e1 => ⟨fun e => ?_, fun e2 => ⟨fun e => ?_, fun e3 => ⟨fun e => ?_, fun e4 => ⟨fun e => ?_, fun e5 => ⟨fun e => ?_, fun e6 => ⟨fun e => ?_, fun e7 => ?_⟩⟩⟩⟩⟩⟩⟩
  · have e : t = 1 := e
    subst e
    exact x_bareA hA (fun w q S' z k1 k2 k3 => ⟨Or.inl rfl, he w q S' (a1.trans z) k1 k2 k3⟩) (fun z => ⟨Or.inr rfl, ho _ _ (a1.trans z) hx⟩)
  · have e : t = 2 := e
    subst e
    exact x_bareA hA (fun w q S' z k1 k2 k3 => ⟨Or.inl rfl, he w q S' (a3.trans z) k1 k2 k3⟩) (fun z => ⟨Or.inr rfl, ho _ _ (a3.trans z) hx⟩)
  · have e : t = 8 := e
    subst e
    exact x_knownA hA (fun w q S' z k1 k2 k3 => ⟨Or.inl rfl, he w q S' (a5.trans z) k1 k2 k3⟩) (fun z => ⟨Or.inr rfl, ho _ _ (a5.trans z) hx⟩)
  · have e : t = 20 := e
    subst e
    refine x_anyA hA (fun w q S' z z1 z2 k1 k2 k3 => ⟨Or.inl rfl, he w q S' ?_ k1 k2 k3⟩) (fun z => ⟨Or.inr rfl, ho _ _ ?_ hx⟩)
    · rw [a7, if_neg z, z1, z2]
    · rw [a7, if_pos z]
  · have e : t = 21 := e
    subst e
    exact x_bareA hA (fun w q S' z k1 k2 k3 => ⟨Or.inl rfl, he w q S' (a2.trans z) k1 k2 k3⟩) (fun z => ⟨Or.inr rfl, ho _ _ (a2.trans z) hx⟩)
  · have e : t = 36 := e
    subst e
    exact x_knownA hA (fun w q S' z k1 k2 k3 => ⟨Or.inl rfl, he w q S' (a6.trans z) k1 k2 k3⟩) (fun z => ⟨Or.inr rfl, ho _ _ (a6.trans z) hx⟩)
  · have e : t = 40 := e
    subst e
    exact x_bareA hA (fun w q S' z k1 k2 k3 => ⟨Or.inl rfl, he w q S' (a4.trans z) k1 k2 k3⟩) (fun z => ⟨Or.inr rfl, ho _ _ (a4.trans z) hx⟩)
  · have b1 : ¬ t = 1 := e1
    have b2 : ¬ t = 2 := e2
    have b3 : ¬ t = 8 := e3
    have b4 : ¬ t = 20 := e4
    have b5 : ¬ t = 21 := e5
    have b6 : ¬ t = 36 := e6
    have b7 : ¬ t = 40 := e7
    refine ⟨Or.inr rfl, ho p S ?_ (xGo_refl (xAt_p hA) (xAt_b hA))⟩
    unfold cArg
    simp only [b1, b2, b3, b4, b5, b6, b7, or_self, if_false]
theorem x_numbersP (hA : xAt S n tk par mn p b) {i : Int32} {q : Nat} (hi : i = nI q) (hq : q < 2 ^ 30) (h : P (some (.int (cNums tk par q))) S) : mv_big layX sysX (d + 3) 70 [.ref 1, .int i] S P := by
  subst hi
  have fin : (tk q = 8 ∨ tk q = 36) → (¬ xHasF S (tk (q + 1)) → P (some (.int 0)) S) ∧ (xHasF S (tk (q + 1)) → P (some (.int (S.2.1 12 (tk (q + 1)).toNatClampNeg))) S) := by
    intro c
    unfold cNums at h
    rw [if_pos c] at h
    unfold cPar at h
    refine ⟨fun z => ?_, fun z => ?_⟩
    · rw [if_neg (fun y => z ((xAt_hasF hA).mpr y))] at h
      exact h
    · have z2 := (xAt_hasF hA).mp z
      rw [if_pos z2] at h
      obtain ⟨j, hj, e⟩ := nI_of (Int32.not_lt.mpr z2.1)
      have z3 := z2.2.1
      rw [e] at z3
      have : j < 8 := (nI_ltI (b := 8) hj (by decide)).mp z3
      rw [e, nI_clamp hj] at h ⊢
      rw [hA.2.2.2.2.1 j this]
      exact h
  refine ⟨60, ?_⟩
  refine x_tokA hA rfl (by omega) ?_
  refine ⟨fun c => ?_, fun c => ⟨fun c2 => ?_, fun c2 => ?_⟩⟩
  · have c : tk q = 8 := c
    refine ⟨fun z => absurd (show (1 : Int32) = 0 from z) (by decide), fun _ => ?_⟩
    refine x_tokA hA (q := q + 1) (nI_1 q) (by omega) ?_
    exact x_parameters (fin (Or.inl c)).1 (fin (Or.inl c)).2
  · have c : ¬ tk q = 8 := c
    have c2 : ¬ tk q = 36 := c2
    refine ⟨fun _ => ?_, fun z => absurd rfl z⟩
    unfold cNums at h
    rw [if_neg (fun z => z.elim c c2)] at h
    exact x_numbersT h
  · have c2 : tk q = 36 := c2
    refine ⟨fun z => absurd (show (1 : Int32) = 0 from z) (by decide), fun _ => ?_⟩
    refine x_tokA hA (q := q + 1) (nI_1 q) (by omega) ?_
    exact x_parameters (fin (Or.inr c2)).1 (fin (Or.inr c2)).2
theorem x_wordT {t : Int32} (h : P (some (.int (tkWord t))) S) : mv_big layX sysX (d + 1) 130 [.int t] S P := by
  have a4 : ¬ (22 ≤ t ∧ t ≤ 29) → ¬ (32 ≤ t ∧ t ≤ 35) → ¬ (42 ≤ t ∧ t ≤ 44) → (t = 1 → P (some (.int 3)) S) ∧ (¬ t = 1 → (t = 2 → P (some (.int 20)) S) ∧ (¬ t = 2 → (t = 7 → P (some (.int 15)) S) ∧ (¬ t = 7 → (t = 8 → P (some (.int 16)) S) ∧ (¬ t = 8 → (t = 20 → P (some (.int 1)) S) ∧ (¬ t = 20 → (t = 21 → P (some (.int 2)) S) ∧ (¬ t = 21 → (t = 36 → P (some (.int 16)) S) ∧ (¬ t = 36 → (t = 40 → P (some (.int 19)) S) ∧ (¬ t = 40 → (t = 41 → P (some (.int 21)) S) ∧ (¬ t = 41 → P (some (.int (-1))) S))))))))) := by
    intro n1 n2 n3
    unfold tkWord at h
    rw [if_neg n1, if_neg n2, if_neg n3] at h
    refine ⟨fun e => ?_, fun e1 => ⟨fun e => ?_, fun e2 => ⟨fun e => ?_, fun e3 => ⟨fun e => ?_, fun e4 => ⟨fun e => ?_, fun e5 => ⟨fun e => ?_, fun e6 => ⟨fun e => ?_, fun e7 => ⟨fun e => ?_, fun e8 => ⟨fun e => ?_, fun e9 => ?_⟩⟩⟩⟩⟩⟩⟩⟩⟩
    · rw [if_pos e] at h; exact h
    · rw [if_neg e1, if_pos e] at h; exact h
    · rw [if_neg e1, if_neg e2, if_pos e] at h; exact h
    · rw [if_neg e1, if_neg e2, if_neg e3, if_pos e] at h; exact h
    · rw [if_neg e1, if_neg e2, if_neg e3, if_neg e4, if_pos e] at h; exact h
    · rw [if_neg e1, if_neg e2, if_neg e3, if_neg e4, if_neg e5, if_pos e] at h; exact h
    · rw [if_neg e1, if_neg e2, if_neg e3, if_neg e4, if_neg e5, if_neg e6, if_pos e] at h; exact h
    · rw [if_neg e1, if_neg e2, if_neg e3, if_neg e4, if_neg e5, if_neg e6, if_neg e7, if_pos e] at h; exact h
    · rw [if_neg e1, if_neg e2, if_neg e3, if_neg e4, if_neg e5, if_neg e6, if_neg e7, if_neg e8, if_pos e] at h; exact h
    · rw [if_neg e1, if_neg e2, if_neg e3, if_neg e4, if_neg e5, if_neg e6, if_neg e7, if_neg e8, if_neg e9] at h; exact h
  have a3 : ¬ (22 ≤ t ∧ t ≤ 29) → ¬ (32 ≤ t ∧ t ≤ 35) → 42 ≤ t ∧ t ≤ 44 → P (some (.int (22 + t - 42))) S := by
    intro n1 n2 n3
    unfold tkWord at h
    rw [if_neg n1, if_neg n2, if_pos n3] at h; exact h
  have a2 : ¬ (22 ≤ t ∧ t ≤ 29) → 32 ≤ t ∧ t ≤ 35 → P (some (.int (25 + t - 32))) S := by
    intro n1 n2
    unfold tkWord at h
    rw [if_neg n1, if_pos n2] at h; exact h
  have a1 : 22 ≤ t ∧ t ≤ 29 → P (some (.int (4 + t - 22))) S := by
    intro n1
    unfold tkWord at h
    rw [if_pos n1] at h; exact h
  have no : ∀ {a b : Int32}, t < a → ¬ (a ≤ t ∧ t ≤ b) := fun c z => absurd z.1 (Int32.not_le.mpr c)
  have no2 : ∀ {a b : Int32}, b < t → ¬ (a ≤ t ∧ t ≤ b) := fun c z => absurd z.2 (Int32.not_le.mpr c)
  have f3 : ∀ (n1 : ¬ (22 ≤ t ∧ t ≤ 29)) (n2 : ¬ (32 ≤ t ∧ t ≤ 35)), mv_wp layX sysX tT6 1 (some .int) mX6_word.2.2.2.2.2.2.2 (mv_big layX sysX d) P 30 39 [(0, .int t)] [] S := by
    intro n1 n2
    exact ⟨fun c => a4 n1 n2 (no c), fun c => ⟨fun c2 => a4 n1 n2 (no2 c2), fun c2 => a3 n1 n2 ⟨Int32.not_lt.mp c, Int32.not_lt.mp c2⟩⟩⟩
  have f2 : ∀ (n1 : ¬ (22 ≤ t ∧ t ≤ 29)), mv_wp layX sysX tT6 1 (some .int) mX6_word.2.2.2.2.2.2.2 (mv_big layX sysX d) P 40 19 [(0, .int t)] [] S := by
    intro n1
    exact ⟨fun c => mv_fuel (n := 30) (by decide) (f3 n1 (no c)), fun c => ⟨fun c2 => mv_fuel (n := 30) (by decide) (f3 n1 (no2 c2)), fun c2 => a2 n1 ⟨Int32.not_lt.mp c, Int32.not_lt.mp c2⟩⟩⟩
  refine ⟨60, ?_⟩
  exact ⟨fun c => mv_fuel (n := 40) (by decide) (f2 (no c)), fun c => ⟨fun c2 => mv_fuel (n := 40) (by decide) (f2 (no2 c2)), fun c2 => a1 ⟨Int32.not_lt.mp c, Int32.not_lt.mp c2⟩⟩⟩
end LX
