/-! THE REFERENCE READS WHAT THE FUNCTION SAYS: E and M, one level -/
def yDn (P : Option Value → mv_S → Prop) (S0 : mv_S) (fp : Int32) (R R' : cRes) (p : Nat) (ws ms : List Int32) (hs : List (Option (Nat × Nat))) (td0 : List (Int32 × Int32 × Int32)) (B : Prop) : Prop :=
  (∀ v q, R = .error (v, q) → yErr P S0 v q → B) ∧
  (∀ p1 l s l' s', R = .ok (p1, l, s) → R' = .ok (p1, l', s') → ∃ h', h'.length + 2 * p ≤ 2 * p1 ∧ (yRun P S0 0 fp p1 (ws ++ l) (ms ++ l') td0 (hs ++ h') → B))
def cApp (tail : List Int32) (a : cRes) : cRes :=
  match a with
  | .error e => .error e
  | .ok (p3, l, s) => .ok (p3, l ++ tail, s)
theorem cApp_ok {tail : List Int32} {a : cRes} {p l s} (h : cApp tail a = .ok (p, l, s)) : ∃ l0, a = .ok (p, l0, s) ∧ l = l0 ++ tail := by
  unfold cApp at h
  match a, h with
  | .ok (p1, l1, s1), h =>
    simp only [Except.ok.injEq, Prod.mk.injEq] at h
    obtain ⟨rfl, rfl, rfl⟩ := h
    exact ⟨l1, rfl, rfl⟩
theorem cApp_er {tail : List Int32} {a : cRes} {e} (h : cApp tail a = .error e) : a = .error e := by
  unfold cApp at h
  match a, h with
  | .error e1, h => exact h
section YA
variable {P : Option Value → mv_S → Prop} {S0 : mv_S} {fp : Int32} {n : Nat} {tk par : Nat → Int32} {mn : Bool} {R R' : cRes} {p : Nat} {ws ms : List Int32} {hs : List (Option (Nat × Nat))} {td0 td1 : List (Int32 × Int32 × Int32)} {B B1 : Prop}
theorem yDn_imp (h : yDn P S0 fp R R' p ws ms hs td0 B1) (hB : B1 → B) : yDn P S0 fp R R' p ws ms hs td0 B :=
  ⟨fun v q e he => hB (h.1 v q e he), fun p1 l s l' s' e e' => by
    obtain ⟨h', hh, go⟩ := h.2 p1 l s l' s' e e'
    exact ⟨h', hh, fun z => hB (go z)⟩⟩
theorem yDn_err {v : Int32} {q : Nat} (e : R = .error (v, q)) (h : yErr P S0 v q → B) : yDn P S0 fp R R' p ws ms hs td0 B :=
  ⟨fun v1 q1 e1 he => by
    rw [e] at e1
    cases e1
    exact h he, fun p1 l s l' s' e1 => by rw [e] at e1; cases e1⟩
theorem yDn_ok {p1 : Nat} {l s l' s'} (e : R = .ok (p1, l, s)) (e' : R' = .ok (p1, l', s')) (h' : List (Option (Nat × Nat))) (hh : h'.length + 2 * p ≤ 2 * p1) (go : yRun P S0 0 fp p1 (ws ++ l) (ms ++ l') td0 (hs ++ h') → B) : yDn P S0 fp R R' p ws ms hs td0 B :=
  ⟨fun v1 q1 e1 he => (by rw [e] at e1; cases e1), fun p2 l2 s2 l2' s2' e1 e1' => by
    rw [e] at e1
    rw [e'] at e1'
    cases e1
    cases e1'
    exact ⟨h', hh, go⟩⟩
theorem yDn_mark {f g : Nat → List (Bool × Nat × Nat)} (h : yDn P S0 fp R R' p ws (ms ++ [30]) hs td0 B) : yDn P S0 fp (cMark false f R) (cMark true g R') p ws ms hs td0 B := by
  refine ⟨fun v q e he => ?_, fun p1 l s l' s' e e' => ?_⟩
  · match hR : R, e with
    | .error e1, e =>
      refine h.1 v q ?_ he
      exact e
    | .ok (a, b, c), e => cases e
  · obtain ⟨l0, s0, e1, hl, _⟩ := cMark_ok e
    obtain ⟨l0', s0', e1', hl', _⟩ := cMark_ok e'
    have hl : l = l0 := hl
    have hl' : l' = 30 :: l0' := hl'
    obtain ⟨h', hh, go⟩ := h.2 p1 l0 s0 l0' s0' e1 e1'
    refine ⟨h', hh, fun z => go ?_⟩
    rw [hl, hl'] at z
    simpa using z
theorem yDn_seq {f f' : Nat → Nat → cRes} (hsh : cSh R = cSh R') (h : yDn P S0 fp R R' p ws ms hs td1 B) (hm : ∀ p1 l s, R = .ok (p1, l, s) → p ≤ p1)
    (hf : ∀ p1 l s l' s' h', R = .ok (p1, l, s) → R' = .ok (p1, l', s') → h'.length + 2 * p ≤ 2 * p1 → yDn P S0 fp (f p1 l.length) (f' p1 l'.length) p1 (ws ++ l) (ms ++ l') (hs ++ h') td0 (yRun P S0 0 fp p1 (ws ++ l) (ms ++ l') td1 (hs ++ h'))) : yDn P S0 fp (cThen R f) (cThen R' f') p ws ms hs td0 B := by
  refine ⟨fun v q e he => ?_, fun p2 l s l' s' e e' => ?_⟩
  · rcases cSh_2 hsh with ⟨e1, a1, a1'⟩ | ⟨p1, l1, s1, l1', s1', a1, a1'⟩
    · rw [cThen_err a1] at e
      cases e
      exact h.1 v q a1 he
    · rw [cThen_pre a1] at e
      obtain ⟨h', hh, go⟩ := h.2 _ _ _ _ _ a1 a1'
      refine go ((hf p1 l1 s1 l1' s1' h' a1 a1' hh).1 v q ?_ he)
      match hc : f p1 l1.length, e with
      | .error e1, e => exact e
      | .ok (a, b, c), e => cases e
  · obtain ⟨p1, l1, s1, l2, s2, a1, a2, rfl, rfl⟩ := cThen_ok e
    obtain ⟨p1', l1', s1', l2', s2', b1, b2, rfl, rfl⟩ := cThen_ok e'
    have hpp : p1' = p1 := by
      rw [a1, b1] at hsh
      simp only [cSh, Except.ok.injEq] at hsh
      exact hsh.symm
    subst hpp
    obtain ⟨h', hh, go⟩ := h.2 _ _ _ _ _ a1 b1
    obtain ⟨h'', hh2, go2⟩ := (hf p1' l1 s1 l1' s1' h' a1 b1 hh).2 p2 l2 s2 l2' s2' a2 b2
    have := hm p1' l1 s1 a1
    refine ⟨h' ++ h'', by rw [List.length_append]; omega, fun z => go (go2 ?_)⟩
    simpa using z
/-- words behind what is done -/
theorem yDn_word {w : Int32} (h : yDn P S0 fp R R' p ws ms hs ((4, w, 0) :: td0) B) (hb : td0.length < 4000) (hl : ∀ p1 l s, R = .ok (p1, l, s) → ws.length + l.length < 6000) (hl' : ∀ p1 l s, R' = .ok (p1, l, s) → ms.length + l.length < 8000) : yDn P S0 fp (cApp [w] R) (cApp [w] R') p ws ms hs td0 B := by
  refine ⟨fun v q e he => h.1 v q (cApp_er e) he, fun p1 l s l' s' e e' => ?_⟩
  obtain ⟨l0, a1, rfl⟩ := cApp_ok e
  obtain ⟨l0', a1', rfl⟩ := cApp_ok e'
  obtain ⟨h', hh, go⟩ := h.2 p1 l0 s l0' s' a1 a1'
  refine ⟨h', hh, fun z => go (yRun_word hb ?_ ?_ ?_)⟩
  · rw [List.length_append]; exact hl _ _ _ a1
  · rw [List.length_append]; exact hl' _ _ _ a1'
  · simpa using z
theorem cApp_app (a b : List Int32) (R : cRes) : cApp b (cApp a R) = cApp (a ++ b) R := by
  match R with
  | .error e => rfl
  | .ok (p, l, s) => simp [cApp]
theorem yParts {r : Nat} (ht : ∀ p, n ≤ p → tk p = -1) (hE : yEM P S0 fp n tk par r) {M K : Nat} (hb : yBd n p ws ms hs) (h2 : td0.length + M + K + 13 * r ≤ 3000) : yDn P S0 fp (cParts (cEM n tk par false r) M K p ws.length) (cParts (cEM n tk par true r) M K p ms.length) p ws ms hs td0 (yRun P S0 0 fp p ws ms (List.replicate M (3, 0, nI (16 - r)) ++ (List.replicate K (2, 0, nI (16 - r)) ++ td0)) hs) := by
  have hr : ∀ m p b, p ≤ n → cLn n 8 p (cEM n tk par false r m p b) := fun m p b _ => cLs_ln (cEM_ls (mk := false) ht r m p b)
  have hr' : ∀ m p b, p ≤ n → cLn n 9 p (cEM n tk par true r m p b) := fun m p b _ => cLs_ln (cEM_ls (mk := true) ht r m p b)
  have a := yMany (x := 0) ht hE true M p ws ms (List.replicate K (2, 0, nI (16 - r)) ++ td0) hs hb (by simp; omega)
  refine yDn_seq (cSh_many (cSh_EM r true) M p _ _) a (fun p1 l s e => (cLn_many (hr true) M p _ hb.1 _ _ _ e).1) (fun p1 l s l' s' h' e e' hh => ?_)
  have q1 := cLn_many (hr true) M p _ hb.1 _ _ _ e
  have q2 := cLn_many (hr' true) M p _ hb.1 _ _ _ e'
  have hb1 : yBd n p1 (ws ++ l) (ms ++ l') (hs ++ h') := ⟨q1.2.1, by rw [List.length_append]; have := hb.2.1; omega, by rw [List.length_append]; have := hb.2.2.1; omega, by rw [List.length_append]; have := hb.2.2.2; omega⟩
  have b := yMany (x := 0) ht hE false K p1 (ws ++ l) (ms ++ l') td0 (hs ++ h') hb1 (by omega)
  rw [List.length_append, List.length_append] at b
  exact b
end YA
