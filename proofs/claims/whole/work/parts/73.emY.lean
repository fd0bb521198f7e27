/-! THE REFERENCE READS WHAT THE FUNCTION SAYS: E and M -/
abbrev yKd (m : Bool) : Int32 := if m then 3 else 2
/-- what is to do at place p with these words is done: R without marks, R' with them -/
def yDone (P : Option Value → mv_S → Prop) (S0 : mv_S) (fp : Int32) (R R' : cRes) (p : Nat) (ws ms : List Int32) (td td0 : List (Int32 × Int32 × Int32)) (hs : List (Option (Nat × Nat))) : Prop :=
  (∀ v q, R = .error (v, q) → yErr P S0 v q → yRun P S0 0 fp p ws ms td hs) ∧
  (∀ p1 l s l' s', R = .ok (p1, l, s) → R' = .ok (p1, l', s') → ∃ h', h'.length + 2 * p ≤ 2 * p1 ∧ (yRun P S0 0 fp p1 (ws ++ l) (ms ++ l') td0 (hs ++ h') → yRun P S0 0 fp p ws ms td hs))
def yBd (n p : Nat) (ws ms : List Int32) (hs : List (Option (Nat × Nat))) : Prop := p ≤ n ∧ ws.length ≤ 8 * p ∧ ms.length ≤ 9 * p ∧ hs.length ≤ 2 * p
section YA
variable {P : Option Value → mv_S → Prop} {S0 : mv_S} {fp : Int32} {n : Nat} {tk par : Nat → Int32} {mn : Bool}
def yEM (P : Option Value → mv_S → Prop) (S0 : mv_S) (fp : Int32) (n : Nat) (tk par : Nat → Int32) (r : Nat) : Prop :=
  ∀ (m : Bool) p ws ms td hs (x : Int32), yBd n p ws ms hs → td.length + 13 * r ≤ 3000 → yDone P S0 fp (cEM n tk par false r m p ws.length) (cEM n tk par true r m p ms.length) p ws ms ((yKd m, x, nI (16 - r)) :: td) td hs
theorem yMany {r : Nat} (ht : ∀ p, n ≤ p → tk p = -1) (hE : yEM P S0 fp n tk par r) (m : Bool) (x : Int32) : ∀ k p ws ms td hs, yBd n p ws ms hs → td.length + k + 13 * r ≤ 3000 → yDone P S0 fp (cMany (cEM n tk par false r m) k p ws.length) (cMany (cEM n tk par true r m) k p ms.length) p ws ms (List.replicate k (yKd m, x, nI (16 - r)) ++ td) td hs := by
  intro k
  induction k with
  | zero =>
    intro p ws ms td hs hb ht2
    refine ⟨fun v q h => (by cases h), fun p1 l s l' s' h h2 => ?_⟩
    simp only [cMany, Except.ok.injEq, Prod.mk.injEq] at h h2
    obtain ⟨rfl, rfl, rfl⟩ := h
    obtain ⟨_, rfl, rfl⟩ := h2
    refine ⟨[], by simp, fun h => ?_⟩
    simpa using h
  | succ k ih =>
    intro p ws ms td hs hb ht2
    have e0 := hE m p ws ms (List.replicate k (yKd m, x, nI (16 - r)) ++ td) hs x hb (by simp; omega)
    rw [List.replicate_succ, List.cons_append]
    refine ⟨fun v q h he => ?_, fun p1 l s l' s' h h2 => ?_⟩
    · rw [cMany] at h
      rcases cSh_2 (cSh_EM (n := n) (tk := tk) (par := par) (mk := false) (mk' := true) r m p ws.length ms.length) with ⟨e, h1, h1'⟩ | ⟨p1, l1, s1, l1', s1', h1, h1'⟩
      · rw [cThen_err h1] at h
        cases h
        exact e0.1 v q h1 he
      · rw [cThen_pre h1] at h
        have hl := cEM_ls (mk := false) ht r m p _ _ _ _ h1
        have hl' := cEM_ls (mk := true) ht r m p _ _ _ _ h1'
        have hl2 : l1.length + 8 * p ≤ 8 * p1 := hl.2.2
        have hl3 : l1'.length + 9 * p ≤ 9 * p1 := hl'.2.2
        obtain ⟨h', hh, go⟩ := e0.2 p1 l1 s1 l1' s1' h1 h1'
        have hb1 : yBd n p1 (ws ++ l1) (ms ++ l1') (hs ++ h') := ⟨hl.2.1, by rw [List.length_append]; have := hb.2.1; omega, by rw [List.length_append]; have := hb.2.2.1; omega, by rw [List.length_append]; have := hb.2.2.2; omega⟩
        refine go ((ih p1 (ws ++ l1) (ms ++ l1') td (hs ++ h') hb1 (by omega)).1 v q ?_ he)
        rw [List.length_append]
        match hc : cMany (cEM n tk par false r m) k p1 (ws.length + l1.length), h with
        | .error e, h => exact h
        | .ok (p2, l2, s2), h => cases h
    · rw [cMany] at h h2
      obtain ⟨p2, l1, s1, l2, s2, a1, a2, rfl, rfl⟩ := cThen_ok h
      obtain ⟨p2', l1', s1', l2', s2', b1, b2, rfl, rfl⟩ := cThen_ok h2
      have hpp : p2' = p2 := by
        have := cSh_EM (n := n) (tk := tk) (par := par) (mk := false) (mk' := true) r m p ws.length ms.length
        rw [a1, b1] at this
        simp only [cSh, Except.ok.injEq] at this
        exact this.symm
      subst hpp
      have hl := cEM_ls (mk := false) ht r m p _ _ _ _ a1
      have hl' := cEM_ls (mk := true) ht r m p _ _ _ _ b1
      have hl2 : l1.length + 8 * p ≤ 8 * p2' := hl.2.2
      have hl3 : l1'.length + 9 * p ≤ 9 * p2' := hl'.2.2
      obtain ⟨h', hh, go⟩ := e0.2 p2' l1 s1 l1' s1' a1 b1
      have hb1 : yBd n p2' (ws ++ l1) (ms ++ l1') (hs ++ h') := ⟨hl.2.1, by rw [List.length_append]; have := hb.2.1; omega, by rw [List.length_append]; have := hb.2.2.1; omega, by rw [List.length_append]; have := hb.2.2.2; omega⟩
      have i0 := ih p2' (ws ++ l1) (ms ++ l1') td (hs ++ h') hb1 (by omega)
      rw [List.length_append, List.length_append] at i0
      obtain ⟨h'', hh2, go2⟩ := i0.2 p1 l2 s2 l2' s2' a2 b2
      refine ⟨h' ++ h'', by rw [List.length_append]; omega, fun z => go (go2 ?_)⟩
      simpa using z
end YA
