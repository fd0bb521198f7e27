/-! THE COMPILER AS A FUNCTION: statements go on -/
theorem cIf_ok {tk : Nat → Int32} {rec : Bool → Nat → Nat → cRes} {blk : Nat → Nat → cRes} {p b p' : Nat} {l s} (h : cIf tk rec blk p b = .ok (p', l, s)) : ∃ p1 l1 s1 p2 l2 s2, rec false (p + 1) b = .ok (p1, l1, s1) ∧ blk p1 (b + l1.length + 2) = .ok (p2, l2, s2) ∧ ((tk p2 = 4 ∧ ∃ p3 l3 s3, blk (p2 + 1) (b + l1.length + 2 + l2.length + 2) = .ok (p3, l3, s3) ∧ tk p3 = 0 ∧ p' = p3 + 1 ∧ l = l1 ++ 13 :: nI (b + l1.length + 2 + l2.length + 2) :: (l2 ++ 12 :: nI (b + l1.length + 2 + l2.length + 2 + l3.length) :: l3) ∧ s = s1 ++ (s2 ++ (true, p, p2) :: s3)) ∨ (tk p2 = 0 ∧ p' = p2 + 1 ∧ l = l1 ++ 13 :: nI (b + l1.length + 2 + l2.length) :: l2 ∧ s = s1 ++ (s2 ++ [(true, p, p2)]))) := by
  unfold cIf at h
  match ha : rec false (p + 1) b, h with
  | .ok (p1, l1, s1), h =>
    simp only at h
    match hc : blk p1 (b + l1.length + 2), h with
    | .ok (p2, l2, s2), h =>
      simp only at h
      refine ⟨p1, l1, s1, p2, l2, s2, rfl, hc, ?_⟩
      split at h
      · rename_i h4
        match hd : blk (p2 + 1) (b + l1.length + 2 + l2.length + 2), h with
        | .ok (p3, l3, s3), h =>
          simp only at h
          split at h
          · rename_i h0
            simp only [Except.ok.injEq, Prod.mk.injEq] at h
            obtain ⟨rfl, rfl, rfl⟩ := h
            exact Or.inl ⟨h4, p3, l3, s3, rfl, h0, rfl, rfl, rfl⟩
          · cases h
        | .error e, h => cases h
      · split at h
        · rename_i h0
          simp only [Except.ok.injEq, Prod.mk.injEq] at h
          obtain ⟨rfl, rfl, rfl⟩ := h
          exact Or.inr ⟨h0, rfl, rfl, rfl⟩
        · cases h
    | .error e, h => cases h
  | .error e, h => cases h
theorem cWhile_ok {tk : Nat → Int32} {rec : Bool → Nat → Nat → cRes} {blk : Nat → Nat → cRes} {p b p' : Nat} {l s} (h : cWhile tk rec blk p b = .ok (p', l, s)) : ∃ p1 l1 s1 p2 l2 s2, rec false (p + 1) b = .ok (p1, l1, s1) ∧ blk p1 (b + l1.length + 2) = .ok (p2, l2, s2) ∧ tk p2 = 0 ∧ p' = p2 + 1 ∧ l = l1 ++ 13 :: nI (b + l1.length + 2 + l2.length + 2) :: (l2 ++ [12, nI b]) ∧ s = s1 ++ s2 := by
  unfold cWhile at h
  match ha : rec false (p + 1) b, h with
  | .ok (p1, l1, s1), h =>
    simp only at h
    match hc : blk p1 (b + l1.length + 2), h with
    | .ok (p2, l2, s2), h =>
      simp only at h
      split at h
      · rename_i h0
        simp only [Except.ok.injEq, Prod.mk.injEq] at h
        obtain ⟨rfl, rfl, rfl⟩ := h
        exact ⟨p1, l1, s1, p2, l2, s2, rfl, hc, h0, rfl, rfl, rfl⟩
      · cases h
    | .error e, h => cases h
  | .error e, h => cases h
theorem cEach_ok {n : Nat} {tk : Nat → Int32} {blk : Nat → Nat → cRes} {p b p' : Nat} {l s} (h : cEach n tk blk p b = .ok (p', l, s)) : ∃ p2 l2, cBare n tk 6 (p + 1) = .ok (p + 2) ∧ cBare n tk 14 (p + 2) = .ok (p + 3) ∧ cBare n tk 14 (p + 3) = .ok (p + 4) ∧ blk (p + 4) (b + 6) = .ok (p2, l2, s) ∧ tk p2 = 0 ∧ p' = p2 + 1 ∧ l = 19 :: tk (p + 1) :: 29 :: tk (p + 2) :: tk (p + 3) :: nI (b + 6 + l2.length + 2) :: (l2 ++ [12, nI (b + 2)]) := by
  unfold cEach at h
  match h1 : cBare n tk 6 (p + 1), h with
  | .ok q1, h =>
    simp only at h
    match h2 : cBare n tk 14 (p + 2), h with
    | .ok q2, h =>
      simp only at h
      match h3 : cBare n tk 14 (p + 3), h with
      | .ok q3, h =>
        simp only at h
        match hc : blk (p + 4) (b + 6), h with
        | .ok (p2, l2, s2), h =>
          simp only at h
          split at h
          · rename_i h0
            simp only [Except.ok.injEq, Prod.mk.injEq] at h
            obtain ⟨rfl, rfl, rfl⟩ := h
            obtain rfl := (cBare_ok h1).1
            obtain rfl := (cBare_ok h2).1
            obtain rfl := (cBare_ok h3).1
            exact ⟨p2, l2, rfl, rfl, rfl, rfl, h0, rfl, rfl⟩
          · cases h
        | .error e, h => cases h
      | .error e, h => cases h
    | .error e, h => cases h
  | .error e, h => cases h
theorem cAnswer_ok {mn : Bool} {rec : Bool → Nat → Nat → cRes} {p b p' : Nat} {l s} (h : cAnswer mn rec p b = .ok (p', l, s)) : ∃ l1, rec false (p + 1) b = .ok (p', l1, s) ∧ l = l1 ++ (if mn then [18, 0] else [17]) := by
  unfold cAnswer at h
  match ha : rec false (p + 1) b, h with
  | .ok (p1, l1, s1), h =>
    simp only [Except.ok.injEq, Prod.mk.injEq] at h
    obtain ⟨rfl, rfl, rfl⟩ := h
    exact ⟨l1, rfl, rfl⟩
  | .error e, h => cases h
theorem cCallS_ok {a : cRes} {p' : Nat} {l s} (h : cCallS a = .ok (p', l, s)) : ∃ l1, a = .ok (p', l1, s) ∧ l = l1 ++ [18] := by
  unfold cCallS at h
  match a, h with
  | .ok (p1, l1, s1), h =>
    simp only [Except.ok.injEq, Prod.mk.injEq] at h
    obtain ⟨rfl, rfl, rfl⟩ := h
    exact ⟨l1, rfl, rfl⟩
theorem cIf_ls {n W : Nat} {tk : Nat → Int32} (ht : ∀ p, n ≤ p → tk p = -1) {rec : Bool → Nat → Nat → cRes} {blk : Nat → Nat → cRes} (hW : 8 ≤ W) (hr : ∀ m p b, p ≤ n → cLn n W p (rec m p b)) (hb : ∀ p b, p ≤ n → cLn n W p (blk p b)) {p b : Nat} (hp : p < n) {p1 l s} (h : cIf tk rec blk p b = .ok (p1, l, s)) : p < p1 ∧ p1 ≤ n ∧ l.length + W * p + (W - 2) ≤ W * p1 := by
  obtain ⟨p2, l1, s1, p3, l2, s2, h1, h2, h3⟩ := cIf_ok h
  have a1 := hr false (p + 1) b hp _ _ _ h1
  have a2 := hb p2 _ a1.2.1 _ _ _ h2
  have hm : W * (p + 1) = W * p + W := Nat.mul_succ W p
  have hm2 : W * (p3 + 1) = W * p3 + W := Nat.mul_succ W p3
  rcases h3 with ⟨h4, p4, l3, s3, h5, h0, rfl, rfl, _⟩ | ⟨h0, rfl, rfl, _⟩
  · have hn4 : p3 < n := tk_in ht (by rw [h4]; decide)
    have a3 := hb (p3 + 1) _ hn4 _ _ _ h5
    have hn : p4 < n := tk_in ht (by rw [h0]; decide)
    have hm3 : W * (p4 + 1) = W * p4 + W := Nat.mul_succ W p4
    simp only [List.length_append, List.length_cons]
    omega
  · have hn : p3 < n := tk_in ht (by rw [h0]; decide)
    simp only [List.length_append, List.length_cons]
    omega
theorem cWhile_ls {n W : Nat} {tk : Nat → Int32} (ht : ∀ p, n ≤ p → tk p = -1) {rec : Bool → Nat → Nat → cRes} {blk : Nat → Nat → cRes} (hW : 8 ≤ W) (hr : ∀ m p b, p ≤ n → cLn n W p (rec m p b)) (hb : ∀ p b, p ≤ n → cLn n W p (blk p b)) {p b : Nat} (hp : p < n) {p1 l s} (h : cWhile tk rec blk p b = .ok (p1, l, s)) : p < p1 ∧ p1 ≤ n ∧ l.length + W * p + (W - 2) ≤ W * p1 := by
  obtain ⟨p2, l1, s1, p3, l2, s2, h1, h2, h0, rfl, rfl, _⟩ := cWhile_ok h
  have a1 := hr false (p + 1) b hp _ _ _ h1
  have a2 := hb p2 _ a1.2.1 _ _ _ h2
  have hm : W * (p + 1) = W * p + W := Nat.mul_succ W p
  have hm2 : W * (p3 + 1) = W * p3 + W := Nat.mul_succ W p3
  have hn : p3 < n := tk_in ht (by rw [h0]; decide)
  simp only [List.length_append, List.length_cons, List.length_nil]
  omega
theorem cEach_ls {n W : Nat} {tk : Nat → Int32} (ht : ∀ p, n ≤ p → tk p = -1) {blk : Nat → Nat → cRes} (hW : 8 ≤ W) (hb : ∀ p b, p ≤ n → cLn n W p (blk p b)) {p b : Nat} {p1 l s} (h : cEach n tk blk p b = .ok (p1, l, s)) : p < p1 ∧ p1 ≤ n ∧ l.length + W * p + (W - 2) ≤ W * p1 := by
  obtain ⟨p2, l2, h1, h2, h3, h4, h0, rfl, rfl⟩ := cEach_ok h
  have a2 := hb (p + 4) _ (cBare_ok h3).2.1 _ _ _ h4
  have hm : W * (p + 4) = W * p + W * 4 := Nat.mul_add W p 4
  have hm2 : W * (p2 + 1) = W * p2 + W := Nat.mul_succ W p2
  have hn : p2 < n := tk_in ht (by rw [h0]; decide)
  simp only [List.length_append, List.length_cons, List.length_nil]
  omega
theorem cIsS_in {n : Nat} {tk : Nat → Int32} (ht : ∀ p, n ≤ p → tk p = -1) {p : Nat} (h : cIsS (tk p)) : p < n := by
  refine tk_in ht (fun e => ?_)
  rw [e] at h
  revert h; decide
theorem cStm_ls {n : Nat} {tk par : Nat → Int32} {mk mn : Bool} (ht : ∀ p, n ≤ p → tk p = -1) : ∀ r p b, p < n → cLs n (8 + mk.toNat) p (cStm n tk par mk mn r p b) := by
  intro r
  induction r with
  | zero =>
    intro p b _ p1 l s h
    unfold cStm at h
    cases h
  | succ r ih =>
    intro p b hp p1 l s h
    unfold cStm at h
    have hr : ∀ m p b, p ≤ n → cLn n (8 + mk.toNat) p (cEM n tk par mk r m p b) := fun m p b _ => cLs_ln (cEM_ls ht r m p b)
    have hb : ∀ p b, p ≤ n → cLn n (8 + mk.toNat) p (cLoop tk (cStm n tk par mk mn r) 700 p b) := fun p b h => by
      have key : ∀ k p b, p ≤ n → cLn n (8 + mk.toNat) p (cLoop tk (cStm n tk par mk mn r) k p b) := by
        intro k
        induction k with
        | zero =>
          intro p b hp p1 l s h
          simp only [cLoop, Except.ok.injEq, Prod.mk.injEq] at h
          obtain ⟨rfl, rfl, rfl⟩ := h
          simp [hp]
        | succ k ih2 =>
          intro p b hp p1 l s h
          unfold cLoop at h
          split at h
          · exact cLn_then (cLs_ln (ih p b (cIsS_in ht ‹_›))) (fun p1 w _ h2 => ih2 p1 (b + w) h2) _ _ _ h
          · simp only [Except.ok.injEq, Prod.mk.injEq] at h
            obtain ⟨rfl, rfl, rfl⟩ := h
            simp [hp]
      exact key 700 p b h
    obtain ⟨l0, s0, h1, rfl, rfl⟩ := cMark_ok h
    have hl : (if mk then 30 :: l0 else l0).length = l0.length + mk.toNat := by cases mk <;> rfl
    have hk : mk.toNat ≤ 1 := by cases mk <;> decide
    rw [hl]
    have hm : (8 + mk.toNat) * (p + 1) = (8 + mk.toNat) * p + (8 + mk.toNat) := Nat.mul_succ _ p
    split at h1
    · have := cIf_ls ht (by omega) hr hb hp h1
      omega
    · split at h1
      · have := cWhile_ls ht (by omega) hr hb hp h1
        omega
      · split at h1
        · have := cEach_ls ht (by omega) hb h1
          omega
        · split at h1
          · obtain ⟨l1, h2, rfl⟩ := cAnswer_ok h1
            have := hr false (p + 1) _ hp _ _ _ h2
            have hq : (if mn then [18, (0 : Int32)] else [17]).length ≤ 2 := by cases mn <;> decide
            rw [List.length_append]
            omega
          · split at h1
            · obtain ⟨l1, h2, rfl⟩ := cCallS_ok h1
              have := cPlain_ls ht (by omega) hr hp h2
              rw [List.length_append, List.length_singleton]
              omega
            · have := cPlain_ls ht (by omega) hr hp h1
              omega
theorem cBlk_ln {n : Nat} {tk par : Nat → Int32} {mk mn : Bool} (ht : ∀ p, n ≤ p → tk p = -1) {r p b : Nat} (hp : p ≤ n) (k : Nat) : cLn n (8 + mk.toNat) p (cLoop tk (cStm n tk par mk mn r) k p b) := by
  have key : ∀ k p b, p ≤ n → cLn n (8 + mk.toNat) p (cLoop tk (cStm n tk par mk mn r) k p b) := by
    intro k
    induction k with
    | zero =>
      intro p b hp p1 l s h
      simp only [cLoop, Except.ok.injEq, Prod.mk.injEq] at h
      obtain ⟨rfl, rfl, rfl⟩ := h
      simp [hp]
    | succ k ih2 =>
      intro p b hp p1 l s h
      unfold cLoop at h
      split at h
      · exact cLn_then (cLs_ln (cStm_ls ht r p b (cIsS_in ht ‹_›))) (fun p1 w _ h2 => ih2 p1 (b + w) h2) _ _ _ h
      · simp only [Except.ok.injEq, Prod.mk.injEq] at h
        obtain ⟨rfl, rfl, rfl⟩ := h
        simp [hp]
  exact key k p b hp
